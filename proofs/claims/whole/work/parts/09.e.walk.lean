set_option maxRecDepth 20000 in
set_option maxHeartbeats 2000000 in
theorem w_X5_read_58 {G : Gx} (hX : ok G cX5_read 3 RX5 none 7 184) (hR : okV G) (hE : va_D (AW G.1) (wd G.1 (fun _ _ => 0))) (N : Nat) (k58 : Hp → Int32 → Option (Int32 × Hp)) (hk58 : ∀ (s : Hp) (x2 : Int32), T G (k58 s x2) s 58 [(0, rf G.1 26), (1, rf G.1 24), (2, .int x2)] []) (s : Hp) (x2 : Int32) : T G (f_X5_read_58 N k58 s x2) s 58 [(0, rf G.1 26), (1, rf G.1 24), (2, .int x2)] [] := by
  unfold f_X5_read_58
  refine tr_iload_n hX 2 dX5_read_58 rfl rfl ?_
  refine tr_iconst (v := 4) hX dX5_read_59 rfl ?_
  refine tr_icmp_gt hX 88 dX5_read_60 (by decide) ?_ ?_
  · exact tr_vret hX hR dX5_read_88
  · refine tr_aload_n hX 0 dX5_read_63 rfl rfl ?_
    refine tr_getI hX 26 2 (by decide) rfl rfl rfl (by decide) gX5 wm_226 dX5_read_64 ?_
    refine tr_if_ne hX 88 dX5_read_67 (by decide) ?_ ?_
    · exact tr_vret hX hR dX5_read_88
    · refine tr_aload_n hX 1 dX5_read_70 rfl rfl ?_
      refine tr_getNI hX 24 4 (by decide) rfl rfl rfl (by decide) gX8 wm_204 dX5_read_71 ?_
      refine tr_if_eq hX 88 dX5_read_74 (by decide) ?_ ?_
      · exact tr_vret hX hR dX5_read_88
      · refine tr_aload_n hX 0 dX5_read_77 rfl rfl ?_
        refine tr_aload_n hX 1 dX5_read_78 rfl rfl ?_
        refine tr_callVv hX 26 [rf G.1 24] kv_X5_readClause wm_513 (by decide) rfl rfl rfl (by decide) rfl rfl (Nat.le_of_ble_eq_true rfl) dX5_read_79 (fun vq sq hq => c_X5_readClause G.1 hE N s (vq, sq) hq) fun v10 s9 => ?_
        refine tr_iincB (b := 1) (lv2 := fun y11 => [(2, .int y11), (0, rf G.1 26), (1, rf G.1 24)]) hX 2 dX5_read_82 rfl rfl (by decide) (fun _ => rfl) fun y11 => ?_
        refine tr_goto hX 58 dX5_read_85 (by decide) ?_
        refine tr_lv (lv2 := [(0, rf G.1 26), (1, rf G.1 24), (2, .int y11)]) [1, 2, 0] rfl ?_
        exact hk58 s9 y11
theorem wl_X5_read_58 {G : Gx} (hX : ok G cX5_read 3 RX5 none 7 184) (hR : okV G) (hE : va_D (AW G.1) (wd G.1 (fun _ _ => 0))) (N : Nat) : ∀ (n : Nat) (s : Hp) (x2 : Int32), T G (lp (fun _ _ => none) (f_X5_read_58 N) n s x2) s 58 [(0, rf G.1 26), (1, rf G.1 24), (2, .int x2)] [] := by
  intro n
  induction n with
  | zero => exact fun s x2 h => nomatch (show (none : Option (Int32 × Hp)) = some _ from h)
  | succ n ih => exact fun s x2 => w_X5_read_58 hX hR hE N _ ih s x2
set_option maxRecDepth 20000 in
set_option maxHeartbeats 2000000 in
theorem w_X5_read_17 {G : Gx} (hX : ok G cX5_read 3 RX5 none 7 184) (hR : okV G) (hE : va_D (AW G.1) (wd G.1 (fun _ _ => 0))) (N : Nat) (k17 : Hp → Int32 → Option (Int32 × Hp)) (hk17 : ∀ (s : Hp) (x2 : Int32), T G (k17 s x2) s 17 [(0, rf G.1 26), (1, rf G.1 24), (2, .int x2)] []) (s : Hp) (x2 : Int32) : T G (f_X5_read_17 N k17 s x2) s 17 [(0, rf G.1 26), (1, rf G.1 24), (2, .int x2)] [] := by
  unfold f_X5_read_17
  refine tr_iload_n hX 2 dX5_read_17 rfl rfl ?_
  refine tr_iconst (v := 5) hX dX5_read_18 rfl ?_
  refine tr_icmp_ge hX 52 dX5_read_19 (by decide) ?_ ?_
  · refine tr_aload_n hX 1 dX5_read_52 rfl rfl ?_
    refine tr_callVv hX 24 [] kv_X8_rewind wm_502 (by decide) rfl rfl rfl (by decide) rfl rfl (Nat.le_of_ble_eq_true rfl) dX5_read_53 (fun vq sq hq => c_X8_rewind G.1 hE N s (vq, sq) hq) fun v5 s4 => ?_
    refine tr_iconst (v := 0) hX dX5_read_56 rfl ?_
    refine tr_istore_n (lv2 := [(2, .int 0), (0, rf G.1 26), (1, rf G.1 24)]) hX dX5_read_57 rfl (by decide) rfl ?_
    refine tr_lv (lv2 := [(0, rf G.1 26), (1, rf G.1 24), (2, .int 0)]) [1, 2, 0] rfl ?_
    exact wl_X5_read_58 hX hR hE N N s4 0
  · refine tr_aload_n hX 0 dX5_read_22 rfl rfl ?_
    refine tr_getR hX 26 0 (by decide) rfl rfl rfl (by decide) gX5 wm_223 dX5_read_23 ?_
    refine tr_iconst (v := 2) hX dX5_read_26 rfl ?_
    refine tr_iload_n hX 2 dX5_read_27 rfl rfl ?_
    refine tr_imul hX dX5_read_28 ?_
    refine tr_iconst (v := 0) hX dX5_read_29 rfl ?_
    refine tr_iast hX 27 (by decide) rfl dX5_read_30 fun s6 => ?_
    refine tr_aload_n hX 0 dX5_read_31 rfl rfl ?_
    refine tr_getR hX 26 0 (by decide) rfl rfl rfl (by decide) gX5 wm_223 dX5_read_32 ?_
    refine tr_iconst (v := 2) hX dX5_read_35 rfl ?_
    refine tr_iload_n hX 2 dX5_read_36 rfl rfl ?_
    refine tr_imul hX dX5_read_37 ?_
    refine tr_iconst (v := 1) hX dX5_read_38 rfl ?_
    refine tr_iadd hX dX5_read_39 ?_
    refine tr_getsN hX wm_500 dX5_read_40 ?_
    refine tr_iload_n hX 2 dX5_read_43 rfl rfl ?_
    refine tr_gald hX dX5_read_44 ?_
    refine tr_iast hX 27 (by decide) rfl dX5_read_45 fun s7 => ?_
    refine tr_iincB (b := 1) (lv2 := fun y8 => [(2, .int y8), (0, rf G.1 26), (1, rf G.1 24)]) hX 2 dX5_read_46 rfl rfl (by decide) (fun _ => rfl) fun y8 => ?_
    refine tr_goto hX 17 dX5_read_49 (by decide) ?_
    refine tr_lv (lv2 := [(0, rf G.1 26), (1, rf G.1 24), (2, .int y8)]) [1, 2, 0] rfl ?_
    exact hk17 s7 y8
theorem wl_X5_read_17 {G : Gx} (hX : ok G cX5_read 3 RX5 none 7 184) (hR : okV G) (hE : va_D (AW G.1) (wd G.1 (fun _ _ => 0))) (N : Nat) : ∀ (n : Nat) (s : Hp) (x2 : Int32), T G (lp (fun _ _ => none) (f_X5_read_17 N) n s x2) s 17 [(0, rf G.1 26), (1, rf G.1 24), (2, .int x2)] [] := by
  intro n
  induction n with
  | zero => exact fun s x2 h => nomatch (show (none : Option (Int32 × Hp)) = some _ from h)
  | succ n ih => exact fun s x2 => w_X5_read_17 hX hR hE N _ ih s x2
set_option maxRecDepth 20000 in
set_option maxHeartbeats 2000000 in
theorem w_X5_read {G : Gx} (hX : ok G cX5_read 3 RX5 none 7 184) (hR : okV G) (hE : va_D (AW G.1) (wd G.1 (fun _ _ => 0))) (N : Nat) (s : Hp) : T G (f_X5_read N s) s 0 [(0, rf G.1 26), (1, rf G.1 24)] [] := by
  unfold f_X5_read
  refine tr_aload_n hX 0 dX5_read_0 rfl rfl ?_
  refine tr_iconst (v := 0) hX dX5_read_1 rfl ?_
  refine tr_putI hX 26 2 tyX5 tyX5_ok nmX5 (by decide) rfl rfl rfl (by decide) gX5 wm_226 rfl (by decide +kernel) dX5_read_2 fun s1 => ?_
  refine tr_aload_n hX 0 dX5_read_5 rfl rfl ?_
  refine tr_iconst (v := (-1)) hX dX5_read_6 rfl ?_
  refine tr_putI hX 26 3 tyX5 tyX5_ok nmX5 (by decide) rfl rfl rfl (by decide) gX5 wm_228 rfl (by decide +kernel) dX5_read_7 fun s2 => ?_
  refine tr_aload_n hX 0 dX5_read_10 rfl rfl ?_
  refine tr_iconst (v := 0) hX dX5_read_11 rfl ?_
  refine tr_putI hX 26 1 tyX5 tyX5_ok nmX5 (by decide) rfl rfl rfl (by decide) gX5 wm_225 rfl (by decide +kernel) dX5_read_12 fun s3 => ?_
  refine tr_iconst (v := 0) hX dX5_read_15 rfl ?_
  refine tr_istore_n (lv2 := [(2, .int 0), (0, rf G.1 26), (1, rf G.1 24)]) hX dX5_read_16 rfl (by decide) rfl ?_
  refine tr_lv (lv2 := [(0, rf G.1 26), (1, rf G.1 24), (2, .int 0)]) [1, 2, 0] rfl ?_
  exact wl_X5_read_17 hX hR hE N N s3 0
theorem c_X5_read (E : Ex) (hE : va_D (AW E) (wd E (fun _ _ => 0))) (N : Nat) (s : Hp) (r : Int32 × Hp) (h : f_X5_read N s = some r) : CtrV E yX5_read cX5_read 3 none 7 184 [rf E 26, rf E 24] s r :=
  ctrV_of (by decide +kernel) hE (Nat.le_of_ble_eq_true rfl) h (fun G hX hR hG => by subst hG; exact w_X5_read hX hR hE N s)
set_option maxRecDepth 20000 in
set_option maxHeartbeats 2000000 in
theorem w_X1_add_20 {G : Gx} (hX : ok G cX1_add 3 RX1 (some .int) 0 0) (hR : okR G) (hE : va_D (AW G.1) (wd G.1 (fun _ _ => 0))) (N : Nat) (k20 : Hp → Int32 → Option (Int32 × Hp)) (hk20 : ∀ (s : Hp) (x2 : Int32), T G (k20 s x2) s 20 [(0, rf G.1 28), (1, rf G.1 27), (2, .int x2)] []) (s : Hp) (x2 : Int32) : T G (f_X1_add_20 N k20 s x2) s 20 [(0, rf G.1 28), (1, rf G.1 27), (2, .int x2)] [] := by
  unfold f_X1_add_20
  refine tr_iload_n hX 2 dX1_add_20 rfl rfl ?_
  refine tr_bipush (v := 10) hX dX1_add_21 rfl ?_
  refine tr_icmp_ge hX 46 dX1_add_23 (by decide) ?_ ?_
  · refine tr_aload_n hX 0 dX1_add_46 rfl rfl ?_
    refine tr_dup hX dX1_add_47 rfl ?_
    refine tr_getI hX 28 1 (by decide) rfl rfl rfl (by decide) gX1 wm_247 dX1_add_48 ?_
    refine tr_iconst (v := 1) hX dX1_add_51 rfl ?_
    refine tr_iadd hX dX1_add_52 ?_
    refine tr_putI hX 28 1 tyX1 tyX1_ok nmX1 (by decide) rfl rfl rfl (by decide) gX1 wm_247 rfl (by decide +kernel) dX1_add_53 fun s1 => ?_
    refine tr_aload_n hX 0 dX1_add_56 rfl rfl ?_
    refine tr_getI hX 28 1 (by decide) rfl rfl rfl (by decide) gX1 wm_247 dX1_add_57 ?_
    refine tr_iconst (v := 1) hX dX1_add_60 rfl ?_
    refine tr_isub hX dX1_add_61 ?_
    exact tr_iret hX hR dX1_add_62
  · refine tr_aload_n hX 0 dX1_add_26 rfl rfl ?_
    refine tr_getR hX 28 0 (by decide) rfl rfl rfl (by decide) gX1 wm_246 dX1_add_27 ?_
    refine tr_aload_n hX 0 dX1_add_30 rfl rfl ?_
    refine tr_getI hX 28 1 (by decide) rfl rfl rfl (by decide) gX1 wm_247 dX1_add_31 ?_
    refine tr_aald hX 29 (by decide) rfl dX1_add_34 (fun hr2 => ?_)
    refine tr_iload_n hX 2 dX1_add_35 rfl rfl ?_
    refine tr_aload_n hX 1 dX1_add_36 rfl rfl ?_
    refine tr_iload_n hX 2 dX1_add_37 rfl rfl ?_
    refine tr_iald hX 27 (by decide) rfl dX1_add_38 ?_
    refine tr_iast hX (118 + ix (s 28 1)) (rw_c118 hr2) (rw_s118 hr2) dX1_add_39 fun s3 => ?_
    refine tr_iincB (b := 1) (lv2 := fun y4 => [(2, .int y4), (0, rf G.1 28), (1, rf G.1 27)]) hX 2 dX1_add_40 rfl rfl (by decide) (fun _ => rfl) fun y4 => ?_
    refine tr_goto hX 20 dX1_add_43 (by decide) ?_
    refine tr_lv (lv2 := [(0, rf G.1 28), (1, rf G.1 27), (2, .int y4)]) [1, 2, 0] rfl ?_
    exact hk20 s3 y4
theorem wl_X1_add_20 {G : Gx} (hX : ok G cX1_add 3 RX1 (some .int) 0 0) (hR : okR G) (hE : va_D (AW G.1) (wd G.1 (fun _ _ => 0))) (N : Nat) : ∀ (n : Nat) (s : Hp) (x2 : Int32), T G (lp (fun _ _ => none) (f_X1_add_20 N) n s x2) s 20 [(0, rf G.1 28), (1, rf G.1 27), (2, .int x2)] [] := by
  intro n
  induction n with
  | zero => exact fun s x2 h => nomatch (show (none : Option (Int32 × Hp)) = some _ from h)
  | succ n ih => exact fun s x2 => w_X1_add_20 hX hR hE N _ ih s x2
set_option maxRecDepth 20000 in
set_option maxHeartbeats 2000000 in
theorem w_X1_add {G : Gx} (hX : ok G cX1_add 3 RX1 (some .int) 0 0) (hR : okR G) (hE : va_D (AW G.1) (wd G.1 (fun _ _ => 0))) (N : Nat) (s : Hp) : T G (f_X1_add N s) s 0 [(0, rf G.1 28), (1, rf G.1 27)] [] := by
  unfold f_X1_add
  refine tr_aload_n hX 0 dX1_add_0 rfl rfl ?_
  refine tr_getI hX 28 1 (by decide) rfl rfl rfl (by decide) gX1 wm_247 dX1_add_1 ?_
  refine tr_bipush (v := 10) hX dX1_add_4 rfl ?_
  refine tr_icmp_ge hX 16 dX1_add_6 (by decide) ?_ ?_
  · refine tr_iconst (v := (-1)) hX dX1_add_16 rfl ?_
    exact tr_iret hX hR dX1_add_17
  · refine tr_aload_n hX 1 dX1_add_9 rfl rfl ?_
    refine tr_alen (v := 10) hX 27 (by decide) rfl rfl dX1_add_10 ?_
    refine tr_bipush (v := 10) hX dX1_add_11 rfl ?_
    refine tr_icmp_ge hX 18 dX1_add_13 (by decide) ?_ ?_
    · refine tr_iconst (v := 0) hX dX1_add_18 rfl ?_
      refine tr_istore_n (lv2 := [(2, .int 0), (0, rf G.1 28), (1, rf G.1 27)]) hX dX1_add_19 rfl (by decide) rfl ?_
      refine tr_lv (lv2 := [(0, rf G.1 28), (1, rf G.1 27), (2, .int 0)]) [1, 2, 0] rfl ?_
      exact wl_X1_add_20 hX hR hE N N s 0
    · refine tr_iconst (v := (-1)) hX dX1_add_16 rfl ?_
      exact tr_iret hX hR dX1_add_17
theorem c_X1_add (E : Ex) (hE : va_D (AW E) (wd E (fun _ _ => 0))) (N : Nat) (s : Hp) (r : Int32 × Hp) (h : f_X1_add N s = some r) : CtrI E yX1_add cX1_add 3 (some .int) 0 0 [rf E 28, rf E 27] s r :=
  ctrI_of (by decide +kernel) hE (Nat.le_of_ble_eq_true rfl) h (fun G hX hR hG => by subst hG; exact w_X1_add hX hR hE N s)
set_option maxRecDepth 20000 in
set_option maxHeartbeats 2000000 in
theorem w_X9_licence {G : Gx} (hX : ok G cX9_licence 1 RX9 (some .int) 8 206) (hR : okR G) (hE : va_D (AW G.1) (wd G.1 (fun _ _ => 0))) (N : Nat) (s : Hp) : T G (f_X9_licence N s) s 0 [(0, rf G.1 0)] [] := by
  unfold f_X9_licence
  refine tr_aload_n hX 0 dX9_licence_0 rfl rfl ?_
  refine tr_getR hX 0 7 (by decide) rfl rfl rfl (by decide) gX9 wm_295 dX9_licence_1 ?_
  refine tr_getNI hX 28 1 (by decide) rfl rfl rfl (by decide) gX1 wm_248 dX9_licence_4 ?_
  refine tr_bipush (v := 10) hX dX9_licence_7 rfl ?_
  refine tr_icmp_lt hX 14 dX9_licence_9 (by decide) ?_ ?_
  · refine tr_aload_n hX 0 dX9_licence_14 rfl rfl ?_
    refine tr_getR hX 0 6 (by decide) rfl rfl rfl (by decide) gX9 wm_294 dX9_licence_15 ?_
    refine tr_aload_n hX 0 dX9_licence_18 rfl rfl ?_
    refine tr_getR hX 0 5 (by decide) rfl rfl rfl (by decide) gX9 wm_293 dX9_licence_19 ?_
    refine tr_callVv hX 26 [rf G.1 24] kv_X5_read wm_496 (by decide) rfl rfl rfl (by decide) rfl rfl (Nat.le_of_ble_eq_true rfl) dX9_licence_22 (fun vq sq hq => c_X5_read G.1 hE N s (vq, sq) hq) fun v2 s1 => ?_
    refine tr_aload_n hX 0 dX9_licence_25 rfl rfl ?_
    refine tr_getR hX 0 5 (by decide) rfl rfl rfl (by decide) gX9 wm_293 dX9_licence_26 ?_
    refine tr_iconst (v := 0) hX dX9_licence_29 rfl ?_
    refine tr_putNI hX 24 1 tyX8 tyX8_ok nmX8 (by decide) rfl rfl rfl (by decide) gX8 wm_200 rfl (by decide +kernel) dX9_licence_30 fun s3 => ?_
    refine tr_aload_n hX 0 dX9_licence_33 rfl rfl ?_
    refine tr_getR hX 0 6 (by decide) rfl rfl rfl (by decide) gX9 wm_294 dX9_licence_34 ?_
    refine tr_getNI hX 26 2 (by decide) rfl rfl rfl (by decide) gX5 wm_227 dX9_licence_37 ?_
    refine tr_if_ne hX 60 dX9_licence_40 (by decide) ?_ ?_
    · refine tr_iconst (v := (-1)) hX dX9_licence_60 rfl ?_
      exact tr_iret hX hR dX9_licence_61
    · refine tr_aload_n hX 0 dX9_licence_43 rfl rfl ?_
      refine tr_getR hX 0 7 (by decide) rfl rfl rfl (by decide) gX9 wm_295 dX9_licence_44 ?_
      refine tr_aload_n hX 0 dX9_licence_47 rfl rfl ?_
      refine tr_getR hX 0 6 (by decide) rfl rfl rfl (by decide) gX9 wm_294 dX9_licence_48 ?_
      refine tr_getNR hX 26 0 (by decide) rfl rfl rfl (by decide) gX5 wm_224 dX9_licence_51 ?_
      refine tr_callV hX 28 [rf G.1 27] kv_X1_add wm_598 (by decide) rfl rfl rfl (by decide) rfl rfl (Nat.le_of_ble_eq_true rfl) dX9_licence_54 (fun vq sq hq => c_X1_add G.1 hE N s3 (vq, sq) hq) fun v5 s4 => ?_
      refine tr_goto hX 61 dX9_licence_57 (by decide) ?_
      exact tr_iret hX hR dX9_licence_61
  · refine tr_iconst (v := (-1)) hX dX9_licence_12 rfl ?_
    exact tr_iret hX hR dX9_licence_13
theorem c_X9_licence (E : Ex) (hE : va_D (AW E) (wd E (fun _ _ => 0))) (N : Nat) (s : Hp) (r : Int32 × Hp) (h : f_X9_licence N s = some r) : CtrI E yX9_licence cX9_licence 1 (some .int) 8 206 [rf E 0] s r :=
  ctrI_of (by decide +kernel) hE (Nat.le_of_ble_eq_true rfl) h (fun G hX hR hG => by subst hG; exact w_X9_licence hX hR hE N s)
set_option maxRecDepth 20000 in
set_option maxHeartbeats 2000000 in
theorem w_X9_fault {G : Gx} (hX : ok G cX9_fault 2 RX9 (some .int) 0 0) (hR : okR G) (hE : va_D (AW G.1) (wd G.1 (fun _ _ => 0))) (N : Nat) (s : Hp) (x1 : Int32) : T G (f_X9_fault N s x1) s 0 [(0, rf G.1 0), (1, .int x1)] [] := by
  unfold f_X9_fault
  refine tr_iload_n hX 1 dX9_fault_0 rfl rfl ?_
  refine tr_split (fun hs1_0 => ?_) (fun hs1_0 => ?_)
  · refine tr_lsw hX 28 (off := 27) dX9_fault_1 rfl (by rw [hs1_0]; decide) (by decide) ?_
    refine tr_aload_n hX 0 dX9_fault_28 rfl rfl ?_
    refine tr_getR hX 0 6 (by decide) rfl rfl rfl (by decide) gX9 wm_294 dX9_fault_29 ?_
    refine tr_getNI hX 26 2 (by decide) rfl rfl rfl (by decide) gX5 wm_227 dX9_fault_32 ?_
    exact tr_iret hX hR dX9_fault_35
  · refine tr_split (fun hs1_1 => ?_) (fun hs1_1 => ?_)
    · refine tr_lsw hX 36 (off := 35) dX9_fault_1 rfl (by rw [hs1_1]; decide) (by decide) ?_
      refine tr_aload_n hX 0 dX9_fault_36 rfl rfl ?_
      refine tr_getR hX 0 6 (by decide) rfl rfl rfl (by decide) gX9 wm_294 dX9_fault_37 ?_
      refine tr_getNI hX 26 3 (by decide) rfl rfl rfl (by decide) gX5 wm_229 dX9_fault_40 ?_
      exact tr_iret hX hR dX9_fault_43
    · refine tr_lsw hX 44 (off := 43) dX9_fault_1 rfl (by have q0 := lv_neT (a := 0) hs1_0 rfl; have q1 := lv_neT (a := 1) hs1_1 rfl; simp [Op.lookupswitch.offset, q0, Ne.symm q0, q1, Ne.symm q1]) (by decide) ?_
      refine tr_iconst (v := (-1)) hX dX9_fault_44 rfl ?_
      exact tr_iret hX hR dX9_fault_45
theorem c_X9_fault (E : Ex) (hE : va_D (AW E) (wd E (fun _ _ => 0))) (N : Nat) (s : Hp) (x1 : Int32) (r : Int32 × Hp) (h : f_X9_fault N s x1 = some r) : CtrI E yX9_fault cX9_fault 2 (some .int) 0 0 [rf E 0, .int x1] s r :=
  ctrI_of (by decide +kernel) hE (Nat.le_of_ble_eq_true rfl) h (fun G hX hR hG => by subst hG; exact w_X9_fault hX hR hE N s x1)
set_option maxRecDepth 20000 in
set_option maxHeartbeats 2000000 in
theorem w_X1_allows {G : Gx} (hX : ok G cX1_allows 5 RX1 (some .boolean) 0 0) (hR : okR G) (hE : va_D (AW G.1) (wd G.1 (fun _ _ => 0))) (N : Nat) (s : Hp) (x1 x2 x3 x4 : Int32) : T G (f_X1_allows N s x1 x2 x3 x4) s 0 [(0, rf G.1 28), (1, .int x1), (2, .int x2), (3, .int x3), (4, .int x4)] [] := by
  unfold f_X1_allows
  refine tr_iload_n hX 3 dX1_allows_0 rfl rfl ?_
  refine tr_aload_n hX 0 dX1_allows_1 rfl rfl ?_
  refine tr_getR hX 28 0 (by decide) rfl rfl rfl (by decide) gX1 wm_246 dX1_allows_2 ?_
  refine tr_iload_n hX 1 dX1_allows_5 rfl rfl ?_
  refine tr_aald hX 29 (by decide) rfl dX1_allows_6 (fun hr1 => ?_)
  refine tr_iconst (v := 2) hX dX1_allows_7 rfl ?_
  refine tr_iload_n hX 2 dX1_allows_8 rfl rfl ?_
  refine tr_imul hX dX1_allows_9 ?_
  refine tr_iald hX (118 + ix x1) (rw_c118 hr1) (rw_s118 hr1) dX1_allows_10 ?_
  refine tr_icmp_lt hX 35 dX1_allows_11 (by decide) ?_ ?_
  · refine tr_iconst (v := 0) hX dX1_allows_35 rfl ?_
    exact tr_zret hX hR rfl dX1_allows_36
  · refine tr_iload hX 4 dX1_allows_14 rfl ?_
    refine tr_aload_n hX 0 dX1_allows_16 rfl rfl ?_
    refine tr_getR hX 28 0 (by decide) rfl rfl rfl (by decide) gX1 wm_246 dX1_allows_17 ?_
    refine tr_iload_n hX 1 dX1_allows_20 rfl rfl ?_
    refine tr_aald hX 29 (by decide) rfl dX1_allows_21 (fun hr2 => ?_)
    refine tr_iconst (v := 2) hX dX1_allows_22 rfl ?_
    refine tr_iload_n hX 2 dX1_allows_23 rfl rfl ?_
    refine tr_imul hX dX1_allows_24 ?_
    refine tr_iconst (v := 1) hX dX1_allows_25 rfl ?_
    refine tr_iadd hX dX1_allows_26 ?_
    refine tr_iald hX (118 + ix x1) (rw_c118 hr2) (rw_s118 hr2) dX1_allows_27 ?_
    refine tr_icmp_gt hX 35 dX1_allows_28 (by decide) ?_ ?_
    · refine tr_iconst (v := 0) hX dX1_allows_35 rfl ?_
      exact tr_zret hX hR rfl dX1_allows_36
    · refine tr_iconst (v := 1) hX dX1_allows_31 rfl ?_
      refine tr_goto hX 36 dX1_allows_32 (by decide) ?_
      exact tr_zret hX hR rfl dX1_allows_36
theorem c_X1_allows (E : Ex) (hE : va_D (AW E) (wd E (fun _ _ => 0))) (N : Nat) (s : Hp) (x1 x2 x3 x4 : Int32) (r : Int32 × Hp) (h : f_X1_allows N s x1 x2 x3 x4 = some r) : CtrI E yX1_allows cX1_allows 5 (some .boolean) 0 0 [rf E 28, .int x1, .int x2, .int x3, .int x4] s r :=
  ctrI_of (by decide +kernel) hE (Nat.le_of_ble_eq_true rfl) h (fun G hX hR hG => by subst hG; exact w_X1_allows hX hR hE N s x1 x2 x3 x4)
set_option maxRecDepth 20000 in
set_option maxHeartbeats 2000000 in
theorem w_X1_judgeFields_112 {G : Gx} (hX : ok G cX1_judgeFields 10 RX1 (some .int) 1 24) (hR : okR G) (hE : va_D (AW G.1) (wd G.1 (fun _ _ => 0))) (N : Nat) (k43 : Hp → Int32 → Int32 → Int32 → Int32 → Int32 → Option (Int32 × Hp)) (hk43 : ∀ (s : Hp) (x1 x5 x6 x7 x8 : Int32), T G (k43 s x1 x5 x6 x7 x8) s 43 [(0, rf G.1 28), (1, .int x1), (2, rf G.1 23), (5, .int x5), (6, .int x6), (7, .int x7), (8, .int x8)] []) (s : Hp) (x1 x5 x6 x8 t0 : Int32) : T G (f_X1_judgeFields_112 N k43 s x1 x5 x6 x8 t0) s 112 [(0, rf G.1 28), (1, .int x1), (2, rf G.1 23), (5, .int x5), (6, .int x6), (8, .int x8)] [.int t0] := by
  unfold f_X1_judgeFields_112
  refine tr_istore (lv2 := [(7, .int t0), (0, rf G.1 28), (1, .int x1), (2, rf G.1 23), (5, .int x5), (6, .int x6), (8, .int x8)]) hX dX1_judgeFields_112 (by decide) rfl ?_
  refine tr_iincB (b := 1) (lv2 := fun y8 => [(8, .int y8), (7, .int t0), (0, rf G.1 28), (1, .int x1), (2, rf G.1 23), (5, .int x5), (6, .int x6)]) hX 6 dX1_judgeFields_114 rfl rfl (by decide) (fun _ => rfl) fun y8 => ?_
  refine tr_goto hX 43 dX1_judgeFields_117 (by decide) ?_
  refine tr_lv (lv2 := [(0, rf G.1 28), (1, .int x1), (2, rf G.1 23), (5, .int x5), (6, .int x6), (7, .int t0), (8, .int y8)]) [2, 3, 4, 5, 6, 1, 0] rfl ?_
  exact hk43 s x1 x5 x6 t0 y8
set_option maxRecDepth 20000 in
set_option maxHeartbeats 2000000 in
theorem w_X1_judgeFields_111 {G : Gx} (hX : ok G cX1_judgeFields 10 RX1 (some .int) 1 24) (hR : okR G) (hE : va_D (AW G.1) (wd G.1 (fun _ _ => 0))) (N : Nat) (k43 : Hp → Int32 → Int32 → Int32 → Int32 → Int32 → Option (Int32 × Hp)) (hk43 : ∀ (s : Hp) (x1 x5 x6 x7 x8 : Int32), T G (k43 s x1 x5 x6 x7 x8) s 43 [(0, rf G.1 28), (1, .int x1), (2, rf G.1 23), (5, .int x5), (6, .int x6), (7, .int x7), (8, .int x8)] []) (s : Hp) (x1 x5 x6 x8 : Int32) : T G (f_X1_judgeFields_111 N k43 s x1 x5 x6 x8) s 111 [(0, rf G.1 28), (1, .int x1), (2, rf G.1 23), (5, .int x5), (6, .int x6), (8, .int x8)] [] := by
  unfold f_X1_judgeFields_111
  refine tr_iconst (v := 0) hX dX1_judgeFields_111 rfl ?_
  exact w_X1_judgeFields_112 hX hR hE N k43 hk43 s x1 x5 x6 x8 0
set_option maxRecDepth 20000 in
set_option maxHeartbeats 2000000 in
theorem w_X1_judgeFields_91 {G : Gx} (hX : ok G cX1_judgeFields 10 RX1 (some .int) 1 24) (hR : okR G) (hE : va_D (AW G.1) (wd G.1 (fun _ _ => 0))) (N : Nat) (k43 : Hp → Int32 → Int32 → Int32 → Int32 → Int32 → Option (Int32 × Hp)) (hk43 : ∀ (s : Hp) (x1 x5 x6 x7 x8 : Int32), T G (k43 s x1 x5 x6 x7 x8) s 43 [(0, rf G.1 28), (1, .int x1), (2, rf G.1 23), (5, .int x5), (6, .int x6), (7, .int x7), (8, .int x8)] []) (s : Hp) (x1 x5 x7 x8 x9 t0 : Int32) : T G (f_X1_judgeFields_91 N k43 s x1 x5 x7 x8 x9 t0) s 91 [(0, rf G.1 28), (1, .int x1), (2, rf G.1 23), (5, .int x5), (7, .int x7), (8, .int x8), (9, .int x9)] [.int t0] := by
  unfold f_X1_judgeFields_91
  refine tr_istore (lv2 := [(6, .int t0), (0, rf G.1 28), (1, .int x1), (2, rf G.1 23), (5, .int x5), (7, .int x7), (8, .int x8), (9, .int x9)]) hX dX1_judgeFields_91 (by decide) rfl ?_
  refine tr_iload hX 5 dX1_judgeFields_93 rfl ?_
  refine tr_if_eq hX 111 dX1_judgeFields_95 (by decide) ?_ ?_
  · refine tr_lv (lv2 := [(0, rf G.1 28), (1, .int x1), (2, rf G.1 23), (5, .int x5), (6, .int t0), (8, .int x8)]) [1, 2, 3, 4, 0, 6] rfl ?_
    exact w_X1_judgeFields_111 hX hR hE N k43 hk43 s x1 x5 t0 x8
  · refine tr_iload hX 7 dX1_judgeFields_98 rfl ?_
    refine tr_aload_n hX 3 dX1_judgeFields_100 rfl rfl ?_
    refine tr_iload hX 6 dX1_judgeFields_101 rfl ?_
    refine tr_iald hX 23 (by decide) rfl dX1_judgeFields_103 ?_
    refine tr_icmp_ne hX 111 dX1_judgeFields_104 (by decide) ?_ ?_
    · refine tr_lv (lv2 := [(0, rf G.1 28), (1, .int x1), (2, rf G.1 23), (5, .int x5), (6, .int t0), (8, .int x8)]) [1, 2, 3, 4, 0, 6] rfl ?_
      exact w_X1_judgeFields_111 hX hR hE N k43 hk43 s x1 x5 t0 x8
    · refine tr_iconst (v := 1) hX dX1_judgeFields_107 rfl ?_
      refine tr_goto hX 112 dX1_judgeFields_108 (by decide) ?_
      refine tr_lv (lv2 := [(0, rf G.1 28), (1, .int x1), (2, rf G.1 23), (5, .int x5), (6, .int t0), (8, .int x8)]) [1, 2, 3, 4, 0, 6] rfl ?_
      exact w_X1_judgeFields_112 hX hR hE N k43 hk43 s x1 x5 t0 x8 1
set_option maxRecDepth 20000 in
set_option maxHeartbeats 2000000 in
theorem w_X1_judgeFields_86 {G : Gx} (hX : ok G cX1_judgeFields 10 RX1 (some .int) 1 24) (hR : okR G) (hE : va_D (AW G.1) (wd G.1 (fun _ _ => 0))) (N : Nat) (k43 : Hp → Int32 → Int32 → Int32 → Int32 → Int32 → Option (Int32 × Hp)) (hk43 : ∀ (s : Hp) (x1 x5 x6 x7 x8 : Int32), T G (k43 s x1 x5 x6 x7 x8) s 43 [(0, rf G.1 28), (1, .int x1), (2, rf G.1 23), (5, .int x5), (6, .int x6), (7, .int x7), (8, .int x8)] []) (s : Hp) (x1 x5 x7 x8 x9 : Int32) : T G (f_X1_judgeFields_86 N k43 s x1 x5 x7 x8 x9) s 86 [(0, rf G.1 28), (1, .int x1), (2, rf G.1 23), (5, .int x5), (7, .int x7), (8, .int x8), (9, .int x9)] [] := by
  unfold f_X1_judgeFields_86
  refine tr_iconst (v := 1) hX dX1_judgeFields_86 rfl ?_
  refine tr_goto hX 91 dX1_judgeFields_87 (by decide) ?_
  exact w_X1_judgeFields_91 hX hR hE N k43 hk43 s x1 x5 x7 x8 x9 1
set_option maxRecDepth 20000 in
set_option maxHeartbeats 2000000 in
theorem w_X1_judgeFields_74 {G : Gx} (hX : ok G cX1_judgeFields 10 RX1 (some .int) 1 24) (hR : okR G) (hE : va_D (AW G.1) (wd G.1 (fun _ _ => 0))) (N : Nat) (k43 : Hp → Int32 → Int32 → Int32 → Int32 → Int32 → Option (Int32 × Hp)) (hk43 : ∀ (s : Hp) (x1 x5 x6 x7 x8 : Int32), T G (k43 s x1 x5 x6 x7 x8) s 43 [(0, rf G.1 28), (1, .int x1), (2, rf G.1 23), (5, .int x5), (6, .int x6), (7, .int x7), (8, .int x8)] []) (s : Hp) (x1 x5 x6 x7 x8 t0 : Int32) : T G (f_X1_judgeFields_74 N k43 s x1 x5 x6 x7 x8 t0) s 74 [(0, rf G.1 28), (1, .int x1), (2, rf G.1 23), (5, .int x5), (6, .int x6), (7, .int x7), (8, .int x8)] [.int t0] := by
  unfold f_X1_judgeFields_74
  refine tr_istore (lv2 := [(9, .int t0), (0, rf G.1 28), (1, .int x1), (2, rf G.1 23), (5, .int x5), (6, .int x6), (7, .int x7), (8, .int x8)]) hX dX1_judgeFields_74 (by decide) rfl ?_
  refine tr_iload hX 5 dX1_judgeFields_76 rfl ?_
  refine tr_if_ne hX 86 dX1_judgeFields_78 (by decide) ?_ ?_
  · refine tr_lv (lv2 := [(0, rf G.1 28), (1, .int x1), (2, rf G.1 23), (5, .int x5), (7, .int x7), (8, .int x8), (9, .int t0)]) [1, 2, 3, 4, 6, 7, 0] rfl ?_
    exact w_X1_judgeFields_86 hX hR hE N k43 hk43 s x1 x5 x7 x8 t0
  · refine tr_iload hX 0 dX1_judgeFields_81 rfl ?_
    refine tr_if_eq hX 90 dX1_judgeFields_83 (by decide) ?_ ?_
    · refine tr_iconst (v := 0) hX dX1_judgeFields_90 rfl ?_
      refine tr_lv (lv2 := [(0, rf G.1 28), (1, .int x1), (2, rf G.1 23), (5, .int x5), (7, .int x7), (8, .int x8), (9, .int t0)]) [1, 2, 3, 4, 6, 7, 0] rfl ?_
      exact w_X1_judgeFields_91 hX hR hE N k43 hk43 s x1 x5 x7 x8 t0 0
    · refine tr_lv (lv2 := [(0, rf G.1 28), (1, .int x1), (2, rf G.1 23), (5, .int x5), (7, .int x7), (8, .int x8), (9, .int t0)]) [1, 2, 3, 4, 6, 7, 0] rfl ?_
      exact w_X1_judgeFields_86 hX hR hE N k43 hk43 s x1 x5 x7 x8 t0
set_option maxRecDepth 20000 in
set_option maxHeartbeats 2000000 in
theorem w_X1_judgeFields_43 {G : Gx} (hX : ok G cX1_judgeFields 10 RX1 (some .int) 1 24) (hR : okR G) (hE : va_D (AW G.1) (wd G.1 (fun _ _ => 0))) (N : Nat) (k43 : Hp → Int32 → Int32 → Int32 → Int32 → Int32 → Option (Int32 × Hp)) (hk43 : ∀ (s : Hp) (x1 x5 x6 x7 x8 : Int32), T G (k43 s x1 x5 x6 x7 x8) s 43 [(0, rf G.1 28), (1, .int x1), (2, rf G.1 23), (5, .int x5), (6, .int x6), (7, .int x7), (8, .int x8)] []) (s : Hp) (x1 x5 x6 x7 x8 : Int32) : T G (f_X1_judgeFields_43 N k43 s x1 x5 x6 x7 x8) s 43 [(0, rf G.1 28), (1, .int x1), (2, rf G.1 23), (5, .int x5), (6, .int x6), (7, .int x7), (8, .int x8)] [] := by
  unfold f_X1_judgeFields_43
  refine tr_iload hX 6 dX1_judgeFields_43 rfl ?_
  refine tr_bipush (v := 32) hX dX1_judgeFields_45 rfl ?_
  refine tr_icmp_ge hX 120 dX1_judgeFields_47 (by decide) ?_ ?_
  · refine tr_iload hX 4 dX1_judgeFields_120 rfl ?_
    refine tr_if_ne hX 127 dX1_judgeFields_122 (by decide) ?_ ?_
    · refine tr_iload hX 5 dX1_judgeFields_127 rfl ?_
      refine tr_if_eq hX 136 dX1_judgeFields_129 (by decide) ?_ ?_
      · refine tr_iconst (v := 5) hX dX1_judgeFields_136 rfl ?_
        exact tr_iret hX hR dX1_judgeFields_137
      · refine tr_iconst (v := 0) hX dX1_judgeFields_132 rfl ?_
        refine tr_goto hX 137 dX1_judgeFields_133 (by decide) ?_
        exact tr_iret hX hR dX1_judgeFields_137
    · refine tr_iconst (v := 4) hX dX1_judgeFields_125 rfl ?_
      exact tr_iret hX hR dX1_judgeFields_126
  · refine tr_aload_n hX 0 dX1_judgeFields_50 rfl rfl ?_
    refine tr_iload_n hX 1 dX1_judgeFields_51 rfl rfl ?_
    refine tr_iconst (v := 4) hX dX1_judgeFields_52 rfl ?_
    refine tr_iload hX 6 dX1_judgeFields_53 rfl ?_
    refine tr_iload hX 6 dX1_judgeFields_55 rfl ?_
    refine tr_callV hX 28 [.int x1, .int 4, .int x8, .int x8] kv_X1_allows wm_615 (by decide) rfl rfl rfl (by decide) rfl rfl (Nat.le_of_ble_eq_true rfl) dX1_judgeFields_57 (fun vq sq hq => c_X1_allows G.1 hE N s x1 4 x8 x8 (vq, sq) hq) fun v7 s6 => ?_
    refine tr_if_eq hX 73 dX1_judgeFields_60 (by decide) ?_ ?_
    · refine tr_iconst (v := 0) hX dX1_judgeFields_73 rfl ?_
      exact w_X1_judgeFields_74 hX hR hE N k43 hk43 s6 x1 x5 x6 x7 x8 0
    · refine tr_aload_n hX 2 dX1_judgeFields_63 rfl rfl ?_
      refine tr_iload hX 6 dX1_judgeFields_64 rfl ?_
      refine tr_iald hX 23 (by decide) rfl dX1_judgeFields_66 ?_
      refine tr_iload hX 3 dX1_judgeFields_67 rfl ?_
      refine tr_iand hX dX1_judgeFields_69 ?_
      refine tr_goto hX 74 dX1_judgeFields_70 (by decide) ?_
      exact w_X1_judgeFields_74 hX hR hE N k43 hk43 s6 x1 x5 x6 x7 x8 ((s6 23 (ix x8)) &&& x5)
theorem wl_X1_judgeFields_43 {G : Gx} (hX : ok G cX1_judgeFields 10 RX1 (some .int) 1 24) (hR : okR G) (hE : va_D (AW G.1) (wd G.1 (fun _ _ => 0))) (N : Nat) : ∀ (n : Nat) (s : Hp) (x1 x5 x6 x7 x8 : Int32), T G (lp (fun _ _ _ _ _ _ => none) (f_X1_judgeFields_43 N) n s x1 x5 x6 x7 x8) s 43 [(0, rf G.1 28), (1, .int x1), (2, rf G.1 23), (5, .int x5), (6, .int x6), (7, .int x7), (8, .int x8)] [] := by
  intro n
  induction n with
  | zero => exact fun s x1 x5 x6 x7 x8 h => nomatch (show (none : Option (Int32 × Hp)) = some _ from h)
  | succ n ih => exact fun s x1 x5 x6 x7 x8 => w_X1_judgeFields_43 hX hR hE N _ ih s x1 x5 x6 x7 x8
set_option maxRecDepth 20000 in
set_option maxHeartbeats 2000000 in
theorem w_X1_judgeFields {G : Gx} (hX : ok G cX1_judgeFields 10 RX1 (some .int) 1 24) (hR : okR G) (hE : va_D (AW G.1) (wd G.1 (fun _ _ => 0))) (N : Nat) (s : Hp) (x1 : Int32) : T G (f_X1_judgeFields N s x1) s 0 [(0, rf G.1 28), (1, .int x1), (2, rf G.1 23)] [] := by
  unfold f_X1_judgeFields
  refine tr_aload_n hX 0 dX1_judgeFields_0 rfl rfl ?_
  refine tr_getR hX 28 0 (by decide) rfl rfl rfl (by decide) gX1 wm_246 dX1_judgeFields_1 ?_
  refine tr_iload_n hX 1 dX1_judgeFields_4 rfl rfl ?_
  refine tr_aald hX 29 (by decide) rfl dX1_judgeFields_5 (fun hr1 => ?_)
  refine tr_bipush (v := 6) hX dX1_judgeFields_6 rfl ?_
  refine tr_iald hX (118 + ix x1) (rw_c118 hr1) (rw_s118 hr1) dX1_judgeFields_8 ?_
  refine tr_istore_nB (lv2 := fun y2 => [(3, .int y2), (0, rf G.1 28), (1, .int x1), (2, rf G.1 23)]) hX dX1_judgeFields_9 rfl (by decide) (fun _ => rfl) fun y2 => ?_
  refine tr_aload_n hX 1 dX1_judgeFields_10 rfl rfl ?_
  refine tr_getR hX 28 0 (by decide) rfl rfl rfl (by decide) gX1 wm_246 dX1_judgeFields_11 ?_
  refine tr_iload_n hX 2 dX1_judgeFields_14 rfl rfl ?_
  refine tr_aald hX 29 (by decide) rfl dX1_judgeFields_15 (fun hr3 => ?_)
  refine tr_bipush (v := 7) hX dX1_judgeFields_16 rfl ?_
  refine tr_iald hX (118 + ix x1) (rw_c118 hr3) (rw_s118 hr3) dX1_judgeFields_18 ?_
  refine tr_istoreB (lv2 := fun y4 => [(4, .int y4), (3, .int y2), (0, rf G.1 28), (1, .int x1), (2, rf G.1 23)]) hX dX1_judgeFields_19 (by decide) (fun _ => rfl) fun y4 => ?_
  refine tr_iconst (v := (-1)) hX dX1_judgeFields_21 rfl ?_
  refine tr_bipush (v := 31) hX dX1_judgeFields_22 rfl ?_
  refine tr_iload hX 0 dX1_judgeFields_24 rfl ?_
  refine tr_iload_n hX 1 dX1_judgeFields_26 rfl rfl ?_
  refine tr_isub hX dX1_judgeFields_27 ?_
  refine tr_isub hX dX1_judgeFields_28 ?_
  refine tr_iushr hX dX1_judgeFields_29 ?_
  refine tr_iload_n hX 1 dX1_judgeFields_30 rfl rfl ?_
  refine tr_ishl hX dX1_judgeFields_31 ?_
  refine tr_istoreB (lv2 := fun y5 => [(5, .int y5), (4, .int y4), (3, .int y2), (0, rf G.1 28), (1, .int x1), (2, rf G.1 23)]) hX dX1_judgeFields_32 (by decide) (fun _ => rfl) fun y5 => ?_
  refine tr_iconst (v := 0) hX dX1_judgeFields_34 rfl ?_
  refine tr_istore (lv2 := [(6, .int 0), (5, .int y5), (4, .int y4), (3, .int y2), (0, rf G.1 28), (1, .int x1), (2, rf G.1 23)]) hX dX1_judgeFields_35 (by decide) rfl ?_
  refine tr_iconst (v := 1) hX dX1_judgeFields_37 rfl ?_
  refine tr_istore (lv2 := [(7, .int 1), (6, .int 0), (5, .int y5), (4, .int y4), (3, .int y2), (0, rf G.1 28), (1, .int x1), (2, rf G.1 23)]) hX dX1_judgeFields_38 (by decide) rfl ?_
  refine tr_iconst (v := 0) hX dX1_judgeFields_40 rfl ?_
  refine tr_istore (lv2 := [(8, .int 0), (7, .int 1), (6, .int 0), (5, .int y5), (4, .int y4), (3, .int y2), (0, rf G.1 28), (1, .int x1), (2, rf G.1 23)]) hX dX1_judgeFields_41 (by decide) rfl ?_
  refine tr_lv (lv2 := [(0, rf G.1 28), (1, .int x1), (2, rf G.1 23), (5, .int y5), (6, .int 0), (7, .int 1), (8, .int 0)]) [6, 7, 8, 3, 2, 1, 0] rfl ?_
  exact wl_X1_judgeFields_43 hX hR hE N N s x1 y5 0 1 0
theorem c_X1_judgeFields (E : Ex) (hE : va_D (AW E) (wd E (fun _ _ => 0))) (N : Nat) (s : Hp) (x1 : Int32) (r : Int32 × Hp) (h : f_X1_judgeFields N s x1 = some r) : CtrI E yX1_judgeFields cX1_judgeFields 10 (some .int) 1 24 [rf E 28, .int x1, rf E 23] s r :=
  ctrI_of (by decide +kernel) hE (Nat.le_of_ble_eq_true rfl) h (fun G hX hR hG => by subst hG; exact w_X1_judgeFields hX hR hE N s x1)
set_option maxRecDepth 20000 in
set_option maxHeartbeats 2000000 in
theorem w_J9_floorMod_7cf53 {G : Gx} (hX : ok G cJ9_floorMod_7cf53 3 RJ9 (some .int) 0 0) (hR : okR G) (hE : va_D (AW G.1) (wd G.1 (fun _ _ => 0))) (N : Nat) (s : Hp) (x0 x1 : Int32) : T G (f_J9_floorMod_7cf53 N s x0 x1) s 0 [(0, .int x0), (1, .int x1)] [] := by
  unfold f_J9_floorMod_7cf53
  refine tr_iload_n hX 0 dJ9_floorMod_7cf53_0 rfl rfl ?_
  refine tr_iload_n hX 1 dJ9_floorMod_7cf53_1 rfl rfl ?_
  refine tr_irem hX dJ9_floorMod_7cf53_2 ?_
  refine tr_istore_nB (lv2 := fun y1 => [(2, .int y1), (0, .int x0), (1, .int x1)]) hX dJ9_floorMod_7cf53_3 rfl (by decide) (fun _ => rfl) fun y1 => ?_
  refine tr_iload_n hX 1 dJ9_floorMod_7cf53_4 rfl rfl ?_
  refine tr_iload_n hX 2 dJ9_floorMod_7cf53_5 rfl rfl ?_
  refine tr_ixor hX dJ9_floorMod_7cf53_6 ?_
  refine tr_if_ge hX 18 dJ9_floorMod_7cf53_7 (by decide) ?_ ?_
  · refine tr_iload_n hX 0 dJ9_floorMod_7cf53_18 rfl rfl ?_
    exact tr_iret hX hR dJ9_floorMod_7cf53_19
  · refine tr_iload_n hX 0 dJ9_floorMod_7cf53_10 rfl rfl ?_
    refine tr_if_eq hX 18 dJ9_floorMod_7cf53_11 (by decide) ?_ ?_
    · refine tr_iload_n hX 0 dJ9_floorMod_7cf53_18 rfl rfl ?_
      exact tr_iret hX hR dJ9_floorMod_7cf53_19
    · refine tr_iload_n hX 0 dJ9_floorMod_7cf53_14 rfl rfl ?_
      refine tr_iload_n hX 2 dJ9_floorMod_7cf53_15 rfl rfl ?_
      refine tr_iadd hX dJ9_floorMod_7cf53_16 ?_
      exact tr_iret hX hR dJ9_floorMod_7cf53_17
theorem c_J9_floorMod_7cf53 (E : Ex) (hE : va_D (AW E) (wd E (fun _ _ => 0))) (N : Nat) (s : Hp) (x0 x1 : Int32) (r : Int32 × Hp) (h : f_J9_floorMod_7cf53 N s x0 x1 = some r) : CtrI E yJ9_floorMod_7cf53 cJ9_floorMod_7cf53 3 (some .int) 0 0 [.int x0, .int x1] s r :=
  ctrI_of (by decide +kernel) hE (Nat.le_of_ble_eq_true rfl) h (fun G hX hR hG => by subst hG; exact w_J9_floorMod_7cf53 hX hR hE N s x0 x1)
set_option maxRecDepth 20000 in
set_option maxHeartbeats 2000000 in
theorem w_X1_allowsTime_56 {G : Gx} (hX : ok G cX1_allowsTime 6 RX1 (some .boolean) 1 22) (hR : okR G) (hE : va_D (AW G.1) (wd G.1 (fun _ _ => 0))) (N : Nat) (s : Hp) : T G (f_X1_allowsTime_56 N s) s 56 [] [] := by
  unfold f_X1_allowsTime_56
  refine tr_iconst (v := 1) hX dX1_allowsTime_56 rfl ?_
  refine tr_goto hX 61 dX1_allowsTime_57 (by decide) ?_
  exact tr_zret hX hR rfl dX1_allowsTime_61
set_option maxRecDepth 20000 in
set_option maxHeartbeats 2000000 in
theorem w_X1_allowsTime {G : Gx} (hX : ok G cX1_allowsTime 6 RX1 (some .boolean) 1 22) (hR : okR G) (hE : va_D (AW G.1) (wd G.1 (fun _ _ => 0))) (N : Nat) (s : Hp) (x1 x2 x3 : Int32) : T G (f_X1_allowsTime N s x1 x2 x3) s 0 [(0, rf G.1 28), (1, .int x1), (2, .int x2), (3, .int x3)] [] := by
  unfold f_X1_allowsTime
  refine tr_aload_n hX 0 dX1_allowsTime_0 rfl rfl ?_
  refine tr_getR hX 28 0 (by decide) rfl rfl rfl (by decide) gX1 wm_246 dX1_allowsTime_1 ?_
  refine tr_iload_n hX 1 dX1_allowsTime_4 rfl rfl ?_
  refine tr_aald hX 29 (by decide) rfl dX1_allowsTime_5 (fun hr1 => ?_)
  refine tr_iconst (v := 2) hX dX1_allowsTime_6 rfl ?_
  refine tr_iald hX (118 + ix x1) (rw_c118 hr1) (rw_s118 hr1) dX1_allowsTime_7 ?_
  refine tr_istoreB (lv2 := fun y2 => [(4, .int y2), (0, rf G.1 28), (1, .int x1), (2, .int x2), (3, .int x3)]) hX dX1_allowsTime_8 (by decide) (fun _ => rfl) fun y2 => ?_
  refine tr_aload_n hX 1 dX1_allowsTime_10 rfl rfl ?_
  refine tr_getR hX 28 0 (by decide) rfl rfl rfl (by decide) gX1 wm_246 dX1_allowsTime_11 ?_
  refine tr_iload_n hX 2 dX1_allowsTime_14 rfl rfl ?_
  refine tr_aald hX 29 (by decide) rfl dX1_allowsTime_15 (fun hr3 => ?_)
  refine tr_iconst (v := 3) hX dX1_allowsTime_16 rfl ?_
  refine tr_iald hX (118 + ix x1) (rw_c118 hr3) (rw_s118 hr3) dX1_allowsTime_17 ?_
  refine tr_iload hX 0 dX1_allowsTime_18 rfl ?_
  refine tr_isub hX dX1_allowsTime_20 ?_
  refine tr_sipush (v := 1440) hX dX1_allowsTime_21 rfl ?_
  refine tr_callS hX [.int ((s (118 + ix x1) (ix 3)) - y2), .int 1440] ks_J9_floorMod_7cf53 wm_623 (by decide) rfl rfl (Nat.le_of_ble_eq_true rfl) dX1_allowsTime_24 (fun vq sq hq => c_J9_floorMod_7cf53 G.1 hE N s ((s (118 + ix x1) (ix 3)) - y2) 1440 (vq, sq) hq) fun v5 s4 => ?_
  refine tr_istore (lv2 := [(5, .int v5), (4, .int y2), (0, rf G.1 28), (1, .int x1), (2, .int x2), (3, .int x3)]) hX dX1_allowsTime_27 (by decide) rfl ?_
  refine tr_iload hX 0 dX1_allowsTime_29 rfl ?_
  refine tr_sipush (v := 1439) hX dX1_allowsTime_31 rfl ?_
  refine tr_icmp_eq hX 56 dX1_allowsTime_34 (by decide) ?_ ?_
  · refine tr_lv (lv2 := []) [] rfl ?_
    exact w_X1_allowsTime_56 hX hR hE N s4
  · refine tr_iload_n hX 4 dX1_allowsTime_37 rfl rfl ?_
    refine tr_iload hX 1 dX1_allowsTime_38 rfl ?_
    refine tr_isub hX dX1_allowsTime_40 ?_
    refine tr_sipush (v := 1440) hX dX1_allowsTime_41 rfl ?_
    refine tr_callS hX [.int (x2 - y2), .int 1440] ks_J9_floorMod_7cf53 wm_623 (by decide) rfl rfl (Nat.le_of_ble_eq_true rfl) dX1_allowsTime_44 (fun vq sq hq => c_J9_floorMod_7cf53 G.1 hE N s4 (x2 - y2) 1440 (vq, sq) hq) fun v7 s6 => ?_
    refine tr_iload_n hX 5 dX1_allowsTime_47 rfl rfl ?_
    refine tr_iadd hX dX1_allowsTime_48 ?_
    refine tr_iload_n hX 4 dX1_allowsTime_49 rfl rfl ?_
    refine tr_isub hX dX1_allowsTime_50 ?_
    refine tr_iload hX 0 dX1_allowsTime_51 rfl ?_
    refine tr_icmp_gt hX 60 dX1_allowsTime_53 (by decide) ?_ ?_
    · refine tr_iconst (v := 0) hX dX1_allowsTime_60 rfl ?_
      exact tr_zret hX hR rfl dX1_allowsTime_61
    · refine tr_lv (lv2 := []) [] rfl ?_
      exact w_X1_allowsTime_56 hX hR hE N s6
theorem c_X1_allowsTime (E : Ex) (hE : va_D (AW E) (wd E (fun _ _ => 0))) (N : Nat) (s : Hp) (x1 x2 x3 : Int32) (r : Int32 × Hp) (h : f_X1_allowsTime N s x1 x2 x3 = some r) : CtrI E yX1_allowsTime cX1_allowsTime 6 (some .boolean) 1 22 [rf E 28, .int x1, .int x2, .int x3] s r :=
  ctrI_of (by decide +kernel) hE (Nat.le_of_ble_eq_true rfl) h (fun G hX hR hG => by subst hG; exact w_X1_allowsTime hX hR hE N s x1 x2 x3)
set_option maxRecDepth 20000 in
set_option maxHeartbeats 2000000 in
theorem w_X1_judge_41 {G : Gx} (hX : ok G cX1_judge 6 RX1 (some .int) 2 53) (hR : okR G) (hE : va_D (AW G.1) (wd G.1 (fun _ _ => 0))) (N : Nat) (k41 : Hp → Int32 → Int32 → Option (Int32 × Hp)) (hk41 : ∀ (s : Hp) (x1 x4 : Int32), T G (k41 s x1 x4) s 41 [(0, rf G.1 28), (1, .int x1), (2, rf G.1 21), (3, rf G.1 10), (4, .int x4)] []) (s : Hp) (x1 x4 : Int32) : T G (f_X1_judge_41 N k41 s x1 x4) s 41 [(0, rf G.1 28), (1, .int x1), (2, rf G.1 21), (3, rf G.1 10), (4, .int x4)] [] := by
  unfold f_X1_judge_41
  refine tr_iload hX 4 dX1_judge_41 rfl ?_
  refine tr_aload_n hX 2 dX1_judge_43 rfl rfl ?_
  refine tr_getNI hX 21 2 (by decide) rfl rfl rfl (by decide) gX6 wm_156 dX1_judge_44 ?_
  refine tr_icmp_ge hX 89 dX1_judge_47 (by decide) ?_ ?_
  · refine tr_aload_n hX 0 dX1_judge_89 rfl rfl ?_
    refine tr_iload_n hX 1 dX1_judge_90 rfl rfl ?_
    refine tr_aload_n hX 2 dX1_judge_91 rfl rfl ?_
    refine tr_getNR hX 21 1 (by decide) rfl rfl rfl (by decide) gX6 wm_154 dX1_judge_92 ?_
    refine tr_callV hX 28 [.int x1, rf G.1 23] kv_X1_judgeFields wm_626 (by decide) rfl rfl rfl (by decide) rfl rfl (Nat.le_of_ble_eq_true rfl) dX1_judge_95 (fun vq sq hq => c_X1_judgeFields G.1 hE N s x1 (vq, sq) hq) fun v6 s5 => ?_
    exact tr_iret hX hR dX1_judge_98
  · refine tr_aload_n hX 2 dX1_judge_50 rfl rfl ?_
    refine tr_getNR hX 21 0 (by decide) rfl rfl rfl (by decide) gX6 wm_151 dX1_judge_51 ?_
    refine tr_iload hX 4 dX1_judge_54 rfl ?_
    refine tr_iald hX 22 (by decide) rfl dX1_judge_56 ?_
    refine tr_istoreB (lv2 := fun y7 => [(5, .int y7), (0, rf G.1 28), (1, .int x1), (2, rf G.1 21), (3, rf G.1 10), (4, .int x4)]) hX dX1_judge_57 (by decide) (fun _ => rfl) fun y7 => ?_
    refine tr_aload_n hX 1 dX1_judge_59 rfl rfl ?_
    refine tr_iload_n hX 2 dX1_judge_60 rfl rfl ?_
    refine tr_aload_n hX 4 dX1_judge_61 rfl rfl ?_
    refine tr_getNR hX 10 2 (by decide) rfl rfl rfl (by decide) gX7 wm_63 dX1_judge_62 ?_
    refine tr_iload hX 0 dX1_judge_65 rfl ?_
    refine tr_iald hX 13 (by decide) rfl dX1_judge_67 ?_
    refine tr_aload_n hX 4 dX1_judge_68 rfl rfl ?_
    refine tr_getNR hX 10 3 (by decide) rfl rfl rfl (by decide) gX7 wm_66 dX1_judge_69 ?_
    refine tr_iload hX 0 dX1_judge_72 rfl ?_
    refine tr_iald hX 14 (by decide) rfl dX1_judge_74 ?_
    refine tr_callV hX 28 [.int x1, .int (s 13 (ix y7)), .int (s 14 (ix y7))] kv_X1_allowsTime wm_619 (by decide) rfl rfl rfl (by decide) rfl rfl (Nat.le_of_ble_eq_true rfl) dX1_judge_75 (fun vq sq hq => c_X1_allowsTime G.1 hE N s x1 (s 13 (ix y7)) (s 14 (ix y7)) (vq, sq) hq) fun v9 s8 => ?_
    refine tr_if_ne hX 83 dX1_judge_78 (by decide) ?_ ?_
    · refine tr_iincB (b := 1) (lv2 := fun y10 => [(4, .int y10), (5, .int y7), (0, rf G.1 28), (1, .int x1), (2, rf G.1 21), (3, rf G.1 10)]) hX 5 dX1_judge_83 rfl rfl (by decide) (fun _ => rfl) fun y10 => ?_
      refine tr_goto hX 41 dX1_judge_86 (by decide) ?_
      refine tr_lv (lv2 := [(0, rf G.1 28), (1, .int x1), (2, rf G.1 21), (3, rf G.1 10), (4, .int y10)]) [2, 3, 4, 5, 0] rfl ?_
      exact hk41 s8 x1 y10
    · refine tr_iconst (v := 3) hX dX1_judge_81 rfl ?_
      exact tr_iret hX hR dX1_judge_82
theorem wl_X1_judge_41 {G : Gx} (hX : ok G cX1_judge 6 RX1 (some .int) 2 53) (hR : okR G) (hE : va_D (AW G.1) (wd G.1 (fun _ _ => 0))) (N : Nat) : ∀ (n : Nat) (s : Hp) (x1 x4 : Int32), T G (lp (fun _ _ _ => none) (f_X1_judge_41 N) n s x1 x4) s 41 [(0, rf G.1 28), (1, .int x1), (2, rf G.1 21), (3, rf G.1 10), (4, .int x4)] [] := by
  intro n
  induction n with
  | zero => exact fun s x1 x4 h => nomatch (show (none : Option (Int32 × Hp)) = some _ from h)
  | succ n ih => exact fun s x1 x4 => w_X1_judge_41 hX hR hE N _ ih s x1 x4
set_option maxRecDepth 20000 in
set_option maxHeartbeats 2000000 in
theorem w_X1_judge {G : Gx} (hX : ok G cX1_judge 6 RX1 (some .int) 2 53) (hR : okR G) (hE : va_D (AW G.1) (wd G.1 (fun _ _ => 0))) (N : Nat) (s : Hp) (x1 : Int32) : T G (f_X1_judge N s x1) s 0 [(0, rf G.1 28), (1, .int x1), (2, rf G.1 21), (3, rf G.1 10)] [] := by
  unfold f_X1_judge
  refine tr_aload_n hX 0 dX1_judge_0 rfl rfl ?_
  refine tr_iload_n hX 1 dX1_judge_1 rfl rfl ?_
  refine tr_iconst (v := 0) hX dX1_judge_2 rfl ?_
  refine tr_aload_n hX 2 dX1_judge_3 rfl rfl ?_
  refine tr_getNI hX 21 3 (by decide) rfl rfl rfl (by decide) gX6 wm_159 dX1_judge_4 ?_
  refine tr_aload_n hX 2 dX1_judge_7 rfl rfl ?_
  refine tr_getNI hX 21 3 (by decide) rfl rfl rfl (by decide) gX6 wm_159 dX1_judge_8 ?_
  refine tr_callV hX 28 [.int x1, .int 0, .int (s 21 3), .int (s 21 3)] kv_X1_allows wm_615 (by decide) rfl rfl rfl (by decide) rfl rfl (Nat.le_of_ble_eq_true rfl) dX1_judge_11 (fun vq sq hq => c_X1_allows G.1 hE N s x1 0 (s 21 3) (s 21 3) (vq, sq) hq) fun v2 s1 => ?_
  refine tr_if_ne hX 19 dX1_judge_14 (by decide) ?_ ?_
  · refine tr_aload_n hX 0 dX1_judge_19 rfl rfl ?_
    refine tr_iload_n hX 1 dX1_judge_20 rfl rfl ?_
    refine tr_iconst (v := 2) hX dX1_judge_21 rfl ?_
    refine tr_aload_n hX 2 dX1_judge_22 rfl rfl ?_
    refine tr_getNI hX 21 6 (by decide) rfl rfl rfl (by decide) gX6 wm_166 dX1_judge_23 ?_
    refine tr_aload_n hX 2 dX1_judge_26 rfl rfl ?_
    refine tr_getNI hX 21 7 (by decide) rfl rfl rfl (by decide) gX6 wm_169 dX1_judge_27 ?_
    refine tr_callV hX 28 [.int x1, .int 2, .int (s1 21 6), .int (s1 21 7)] kv_X1_allows wm_615 (by decide) rfl rfl rfl (by decide) rfl rfl (Nat.le_of_ble_eq_true rfl) dX1_judge_30 (fun vq sq hq => c_X1_allows G.1 hE N s1 x1 2 (s1 21 6) (s1 21 7) (vq, sq) hq) fun v4 s3 => ?_
    refine tr_if_ne hX 38 dX1_judge_33 (by decide) ?_ ?_
    · refine tr_iconst (v := 0) hX dX1_judge_38 rfl ?_
      refine tr_istore (lv2 := [(4, .int 0), (0, rf G.1 28), (1, .int x1), (2, rf G.1 21), (3, rf G.1 10)]) hX dX1_judge_39 (by decide) rfl ?_
      refine tr_lv (lv2 := [(0, rf G.1 28), (1, .int x1), (2, rf G.1 21), (3, rf G.1 10), (4, .int 0)]) [1, 2, 3, 4, 0] rfl ?_
      exact wl_X1_judge_41 hX hR hE N N s3 x1 0
    · refine tr_iconst (v := 2) hX dX1_judge_36 rfl ?_
      exact tr_iret hX hR dX1_judge_37
  · refine tr_iconst (v := 1) hX dX1_judge_17 rfl ?_
    exact tr_iret hX hR dX1_judge_18
theorem c_X1_judge (E : Ex) (hE : va_D (AW E) (wd E (fun _ _ => 0))) (N : Nat) (s : Hp) (x1 : Int32) (r : Int32 × Hp) (h : f_X1_judge N s x1 = some r) : CtrI E yX1_judge cX1_judge 6 (some .int) 2 53 [rf E 28, .int x1, rf E 21, rf E 10] s r :=
  ctrI_of (by decide +kernel) hE (Nat.le_of_ble_eq_true rfl) h (fun G hX hR hG => by subst hG; exact w_X1_judge hX hR hE N s x1)
set_option maxRecDepth 20000 in
set_option maxHeartbeats 2000000 in
theorem w_X9_fits {G : Gx} (hX : ok G cX9_fits 3 RX9 (some .int) 3 78) (hR : okR G) (hE : va_D (AW G.1) (wd G.1 (fun _ _ => 0))) (N : Nat) (s : Hp) (x1 x2 : Int32) : T G (f_X9_fits N s x1 x2) s 0 [(0, rf G.1 0), (1, .int x1), (2, .int x2)] [] := by
  unfold f_X9_fits
  refine tr_iload_n hX 1 dX9_fits_0 rfl rfl ?_
  refine tr_aload_n hX 0 dX9_fits_1 rfl rfl ?_
  refine tr_getR hX 0 3 (by decide) rfl rfl rfl (by decide) gX9 wm_291 dX9_fits_2 ?_
  refine tr_getNI hX 18 4 (by decide) rfl rfl rfl (by decide) gX0 wm_132 dX9_fits_5 ?_
  refine tr_callS hX [.int x1, .int (s 18 4)] ks_X9_isBelow wm_320 (by decide) rfl rfl (Nat.le_of_ble_eq_true rfl) dX9_fits_8 (fun vq sq hq => c_X9_isBelow G.1 hE N s x1 (s 18 4) (vq, sq) hq) fun v2 s1 => ?_
  refine tr_if_eq hX 28 dX9_fits_11 (by decide) ?_ ?_
  · refine tr_iconst (v := (-1)) hX dX9_fits_28 rfl ?_
    exact tr_iret hX hR dX9_fits_29
  · refine tr_iload_n hX 2 dX9_fits_14 rfl rfl ?_
    refine tr_aload_n hX 0 dX9_fits_15 rfl rfl ?_
    refine tr_getR hX 0 7 (by decide) rfl rfl rfl (by decide) gX9 wm_295 dX9_fits_16 ?_
    refine tr_getNI hX 28 1 (by decide) rfl rfl rfl (by decide) gX1 wm_248 dX9_fits_19 ?_
    refine tr_callS hX [.int x2, .int (s1 28 1)] ks_X9_isBelow wm_320 (by decide) rfl rfl (Nat.le_of_ble_eq_true rfl) dX9_fits_22 (fun vq sq hq => c_X9_isBelow G.1 hE N s1 x2 (s1 28 1) (vq, sq) hq) fun v4 s3 => ?_
    refine tr_if_ne hX 30 dX9_fits_25 (by decide) ?_ ?_
    · refine tr_aload_n hX 0 dX9_fits_30 rfl rfl ?_
      refine tr_getR hX 0 4 (by decide) rfl rfl rfl (by decide) gX9 wm_292 dX9_fits_31 ?_
      refine tr_aload_n hX 0 dX9_fits_34 rfl rfl ?_
      refine tr_getR hX 0 2 (by decide) rfl rfl rfl (by decide) gX9 wm_290 dX9_fits_35 ?_
      refine tr_aload_n hX 0 dX9_fits_38 rfl rfl ?_
      refine tr_getR hX 0 3 (by decide) rfl rfl rfl (by decide) gX9 wm_291 dX9_fits_39 ?_
      refine tr_getNR hX 18 1 (by decide) rfl rfl rfl (by decide) gX0 wm_126 dX9_fits_42 ?_
      refine tr_iload_n hX 1 dX9_fits_45 rfl rfl ?_
      refine tr_callVv hX 21 [rf G.1 9, rf G.1 20, .int x1] kv_X6_draw wm_413 (by decide) rfl rfl rfl (by decide) rfl rfl (Nat.le_of_ble_eq_true rfl) dX9_fits_46 (fun vq sq hq => c_X6_draw G.1 hE N s3 x1 (vq, sq) hq) fun v6 s5 => ?_
      refine tr_aload_n hX 0 dX9_fits_49 rfl rfl ?_
      refine tr_getR hX 0 7 (by decide) rfl rfl rfl (by decide) gX9 wm_295 dX9_fits_50 ?_
      refine tr_iload_n hX 2 dX9_fits_53 rfl rfl ?_
      refine tr_aload_n hX 0 dX9_fits_54 rfl rfl ?_
      refine tr_getR hX 0 4 (by decide) rfl rfl rfl (by decide) gX9 wm_292 dX9_fits_55 ?_
      refine tr_aload_n hX 0 dX9_fits_58 rfl rfl ?_
      refine tr_getR hX 0 2 (by decide) rfl rfl rfl (by decide) gX9 wm_290 dX9_fits_59 ?_
      refine tr_getNR hX 9 0 (by decide) rfl rfl rfl (by decide) gX2 wm_97 dX9_fits_62 ?_
      refine tr_callV hX 28 [.int x2, rf G.1 21, rf G.1 10] kv_X1_judge wm_611 (by decide) rfl rfl rfl (by decide) rfl rfl (Nat.le_of_ble_eq_true rfl) dX9_fits_65 (fun vq sq hq => c_X1_judge G.1 hE N s5 x2 (vq, sq) hq) fun v8 s7 => ?_
      exact tr_iret hX hR dX9_fits_68
    · refine tr_iconst (v := (-1)) hX dX9_fits_28 rfl ?_
      exact tr_iret hX hR dX9_fits_29
theorem c_X9_fits (E : Ex) (hE : va_D (AW E) (wd E (fun _ _ => 0))) (N : Nat) (s : Hp) (x1 x2 : Int32) (r : Int32 × Hp) (h : f_X9_fits N s x1 x2 = some r) : CtrI E yX9_fits cX9_fits 3 (some .int) 3 78 [rf E 0, .int x1, .int x2] s r :=
  ctrI_of (by decide +kernel) hE (Nat.le_of_ble_eq_true rfl) h (fun G hX hR hG => by subst hG; exact w_X9_fits hX hR hE N s x1 x2)
set_option maxRecDepth 20000 in
set_option maxHeartbeats 2000000 in
theorem w_X1_choose_48 {G : Gx} (hX : ok G cX1_choose 7 RX1 (some .int) 3 78) (hR : okR G) (hE : va_D (AW G.1) (wd G.1 (fun _ _ => 0))) (N : Nat) (k9 : Hp → Int32 → Int32 → Int32 → Option (Int32 × Hp)) (hk9 : ∀ (s : Hp) (x3 x4 x5 : Int32), T G (k9 s x3 x4 x5) s 9 [(0, rf G.1 28), (1, rf G.1 21), (2, rf G.1 10), (3, .int x3), (4, .int x4), (5, .int x5)] []) (s : Hp) (x3 x4 x5 : Int32) : T G (f_X1_choose_48 N k9 s x3 x4 x5) s 48 [(0, rf G.1 28), (1, rf G.1 21), (2, rf G.1 10), (3, .int x3), (4, .int x4), (5, .int x5)] [] := by
  unfold f_X1_choose_48
  refine tr_iincB (b := 1) (lv2 := fun y4 => [(5, .int y4), (0, rf G.1 28), (1, rf G.1 21), (2, rf G.1 10), (3, .int x3), (4, .int x4)]) hX 5 dX1_choose_48 rfl rfl (by decide) (fun _ => rfl) fun y4 => ?_
  refine tr_goto hX 9 dX1_choose_51 (by decide) ?_
  refine tr_lv (lv2 := [(0, rf G.1 28), (1, rf G.1 21), (2, rf G.1 10), (3, .int x3), (4, .int x4), (5, .int y4)]) [1, 2, 3, 4, 5, 0] rfl ?_
  exact hk9 s x3 x4 y4
set_option maxRecDepth 20000 in
set_option maxHeartbeats 2000000 in
theorem w_X1_choose_9 {G : Gx} (hX : ok G cX1_choose 7 RX1 (some .int) 3 78) (hR : okR G) (hE : va_D (AW G.1) (wd G.1 (fun _ _ => 0))) (N : Nat) (k9 : Hp → Int32 → Int32 → Int32 → Option (Int32 × Hp)) (hk9 : ∀ (s : Hp) (x3 x4 x5 : Int32), T G (k9 s x3 x4 x5) s 9 [(0, rf G.1 28), (1, rf G.1 21), (2, rf G.1 10), (3, .int x3), (4, .int x4), (5, .int x5)] []) (s : Hp) (x3 x4 x5 : Int32) : T G (f_X1_choose_9 N k9 s x3 x4 x5) s 9 [(0, rf G.1 28), (1, rf G.1 21), (2, rf G.1 10), (3, .int x3), (4, .int x4), (5, .int x5)] [] := by
  unfold f_X1_choose_9
  refine tr_iload hX 5 dX1_choose_9 rfl ?_
  refine tr_aload_n hX 0 dX1_choose_11 rfl rfl ?_
  refine tr_getI hX 28 1 (by decide) rfl rfl rfl (by decide) gX1 wm_247 dX1_choose_12 ?_
  refine tr_icmp_ge hX 54 dX1_choose_15 (by decide) ?_ ?_
  · refine tr_iload_n hX 3 dX1_choose_54 rfl rfl ?_
    exact tr_iret hX hR dX1_choose_55
  · refine tr_bipush (v := 6) hX dX1_choose_18 rfl ?_
    refine tr_aload_n hX 0 dX1_choose_20 rfl rfl ?_
    refine tr_iload hX 5 dX1_choose_21 rfl ?_
    refine tr_aload_n hX 1 dX1_choose_23 rfl rfl ?_
    refine tr_aload_n hX 2 dX1_choose_24 rfl rfl ?_
    refine tr_callV hX 28 [.int x5, rf G.1 21, rf G.1 10] kv_X1_judge wm_638 (by decide) rfl rfl rfl (by decide) rfl rfl (Nat.le_of_ble_eq_true rfl) dX1_choose_25 (fun vq sq hq => c_X1_judge G.1 hE N s x5 (vq, sq) hq) fun v2 s1 => ?_
    refine tr_isub hX dX1_choose_28 ?_
    refine tr_bipush (v := 6) hX dX1_choose_29 rfl ?_
    refine tr_iremC hX dX1_choose_31 (by decide) ?_
    refine tr_istoreB (lv2 := fun y3 => [(6, .int y3), (0, rf G.1 28), (1, rf G.1 21), (2, rf G.1 10), (3, .int x3), (4, .int x4), (5, .int x5)]) hX dX1_choose_32 (by decide) (fun _ => rfl) fun y3 => ?_
    refine tr_iload hX 0 dX1_choose_34 rfl ?_
    refine tr_iload hX 5 dX1_choose_36 rfl ?_
    refine tr_icmp_ge hX 48 dX1_choose_38 (by decide) ?_ ?_
    · refine tr_lv (lv2 := [(0, rf G.1 28), (1, rf G.1 21), (2, rf G.1 10), (3, .int x3), (4, .int x4), (5, .int x5)]) [1, 2, 3, 4, 5, 6] rfl ?_
      exact w_X1_choose_48 hX hR hE N k9 hk9 s1 x3 x4 x5
    · refine tr_iload hX 0 dX1_choose_41 rfl ?_
      refine tr_istore (lv2 := [(4, .int y3), (6, .int y3), (0, rf G.1 28), (1, rf G.1 21), (2, rf G.1 10), (3, .int x3), (5, .int x5)]) hX dX1_choose_43 (by decide) rfl ?_
      refine tr_iload hX 6 dX1_choose_45 rfl ?_
      refine tr_istore_n (lv2 := [(3, .int x5), (4, .int y3), (6, .int y3), (0, rf G.1 28), (1, rf G.1 21), (2, rf G.1 10), (5, .int x5)]) hX dX1_choose_47 rfl (by decide) rfl ?_
      refine tr_lv (lv2 := [(0, rf G.1 28), (1, rf G.1 21), (2, rf G.1 10), (3, .int x5), (4, .int y3), (5, .int x5)]) [3, 4, 5, 0, 1, 6] rfl ?_
      exact w_X1_choose_48 hX hR hE N k9 hk9 s1 x5 y3 x5
theorem wl_X1_choose_9 {G : Gx} (hX : ok G cX1_choose 7 RX1 (some .int) 3 78) (hR : okR G) (hE : va_D (AW G.1) (wd G.1 (fun _ _ => 0))) (N : Nat) : ∀ (n : Nat) (s : Hp) (x3 x4 x5 : Int32), T G (lp (fun _ _ _ _ => none) (f_X1_choose_9 N) n s x3 x4 x5) s 9 [(0, rf G.1 28), (1, rf G.1 21), (2, rf G.1 10), (3, .int x3), (4, .int x4), (5, .int x5)] [] := by
  intro n
  induction n with
  | zero => exact fun s x3 x4 x5 h => nomatch (show (none : Option (Int32 × Hp)) = some _ from h)
  | succ n ih => exact fun s x3 x4 x5 => w_X1_choose_9 hX hR hE N _ ih s x3 x4 x5
set_option maxRecDepth 20000 in
set_option maxHeartbeats 2000000 in
theorem w_X1_choose {G : Gx} (hX : ok G cX1_choose 7 RX1 (some .int) 3 78) (hR : okR G) (hE : va_D (AW G.1) (wd G.1 (fun _ _ => 0))) (N : Nat) (s : Hp) : T G (f_X1_choose N s) s 0 [(0, rf G.1 28), (1, rf G.1 21), (2, rf G.1 10)] [] := by
  unfold f_X1_choose
  refine tr_iconst (v := (-1)) hX dX1_choose_0 rfl ?_
  refine tr_istore_n (lv2 := [(3, .int (-1)), (0, rf G.1 28), (1, rf G.1 21), (2, rf G.1 10)]) hX dX1_choose_1 rfl (by decide) rfl ?_
  refine tr_bipush (v := 6) hX dX1_choose_2 rfl ?_
  refine tr_istore (lv2 := [(4, .int 6), (3, .int (-1)), (0, rf G.1 28), (1, rf G.1 21), (2, rf G.1 10)]) hX dX1_choose_4 (by decide) rfl ?_
  refine tr_iconst (v := 0) hX dX1_choose_6 rfl ?_
  refine tr_istore (lv2 := [(5, .int 0), (4, .int 6), (3, .int (-1)), (0, rf G.1 28), (1, rf G.1 21), (2, rf G.1 10)]) hX dX1_choose_7 (by decide) rfl ?_
  refine tr_lv (lv2 := [(0, rf G.1 28), (1, rf G.1 21), (2, rf G.1 10), (3, .int (-1)), (4, .int 6), (5, .int 0)]) [3, 4, 5, 2, 1, 0] rfl ?_
  exact wl_X1_choose_9 hX hR hE N N s (-1) 6 0
theorem c_X1_choose (E : Ex) (hE : va_D (AW E) (wd E (fun _ _ => 0))) (N : Nat) (s : Hp) (r : Int32 × Hp) (h : f_X1_choose N s = some r) : CtrI E yX1_choose cX1_choose 7 (some .int) 3 78 [rf E 28, rf E 21, rf E 10] s r :=
  ctrI_of (by decide +kernel) hE (Nat.le_of_ble_eq_true rfl) h (fun G hX hR hG => by subst hG; exact w_X1_choose hX hR hE N s)
set_option maxRecDepth 20000 in
set_option maxHeartbeats 2000000 in
theorem w_X9_best {G : Gx} (hX : ok G cX9_best 4 RX9 (some .int) 4 104) (hR : okR G) (hE : va_D (AW G.1) (wd G.1 (fun _ _ => 0))) (N : Nat) (s : Hp) (x1 x2 : Int32) : T G (f_X9_best N s x1 x2) s 0 [(0, rf G.1 0), (1, .int x1), (2, .int x2)] [] := by
  unfold f_X9_best
  refine tr_iload_n hX 1 dX9_best_0 rfl rfl ?_
  refine tr_aload_n hX 0 dX9_best_1 rfl rfl ?_
  refine tr_getR hX 0 3 (by decide) rfl rfl rfl (by decide) gX9 wm_291 dX9_best_2 ?_
  refine tr_getNI hX 18 4 (by decide) rfl rfl rfl (by decide) gX0 wm_132 dX9_best_5 ?_
  refine tr_callS hX [.int x1, .int (s 18 4)] ks_X9_isBelow wm_320 (by decide) rfl rfl (Nat.le_of_ble_eq_true rfl) dX9_best_8 (fun vq sq hq => c_X9_isBelow G.1 hE N s x1 (s 18 4) (vq, sq) hq) fun v2 s1 => ?_
  refine tr_if_eq hX 32 dX9_best_11 (by decide) ?_ ?_
  · refine tr_iconst (v := (-1)) hX dX9_best_32 rfl ?_
    exact tr_iret hX hR dX9_best_33
  · refine tr_iload_n hX 2 dX9_best_14 rfl rfl ?_
    refine tr_iconst (v := 2) hX dX9_best_15 rfl ?_
    refine tr_callS hX [.int x2, .int 2] ks_X9_isBelow wm_320 (by decide) rfl rfl (Nat.le_of_ble_eq_true rfl) dX9_best_16 (fun vq sq hq => c_X9_isBelow G.1 hE N s1 x2 2 (vq, sq) hq) fun v4 s3 => ?_
    refine tr_if_eq hX 32 dX9_best_19 (by decide) ?_ ?_
    · refine tr_iconst (v := (-1)) hX dX9_best_32 rfl ?_
      exact tr_iret hX hR dX9_best_33
    · refine tr_aload_n hX 0 dX9_best_22 rfl rfl ?_
      refine tr_getR hX 0 7 (by decide) rfl rfl rfl (by decide) gX9 wm_295 dX9_best_23 ?_
      refine tr_getNI hX 28 1 (by decide) rfl rfl rfl (by decide) gX1 wm_248 dX9_best_26 ?_
      refine tr_if_ne hX 34 dX9_best_29 (by decide) ?_ ?_
      · refine tr_aload_n hX 0 dX9_best_34 rfl rfl ?_
        refine tr_getR hX 0 4 (by decide) rfl rfl rfl (by decide) gX9 wm_292 dX9_best_35 ?_
        refine tr_aload_n hX 0 dX9_best_38 rfl rfl ?_
        refine tr_getR hX 0 2 (by decide) rfl rfl rfl (by decide) gX9 wm_290 dX9_best_39 ?_
        refine tr_aload_n hX 0 dX9_best_42 rfl rfl ?_
        refine tr_getR hX 0 3 (by decide) rfl rfl rfl (by decide) gX9 wm_291 dX9_best_43 ?_
        refine tr_getNR hX 18 1 (by decide) rfl rfl rfl (by decide) gX0 wm_126 dX9_best_46 ?_
        refine tr_iload_n hX 1 dX9_best_49 rfl rfl ?_
        refine tr_callVv hX 21 [rf G.1 9, rf G.1 20, .int x1] kv_X6_draw wm_413 (by decide) rfl rfl rfl (by decide) rfl rfl (Nat.le_of_ble_eq_true rfl) dX9_best_50 (fun vq sq hq => c_X6_draw G.1 hE N s3 x1 (vq, sq) hq) fun v6 s5 => ?_
        refine tr_aload_n hX 0 dX9_best_53 rfl rfl ?_
        refine tr_getR hX 0 7 (by decide) rfl rfl rfl (by decide) gX9 wm_295 dX9_best_54 ?_
        refine tr_aload_n hX 0 dX9_best_57 rfl rfl ?_
        refine tr_getR hX 0 4 (by decide) rfl rfl rfl (by decide) gX9 wm_292 dX9_best_58 ?_
        refine tr_aload_n hX 0 dX9_best_61 rfl rfl ?_
        refine tr_getR hX 0 2 (by decide) rfl rfl rfl (by decide) gX9 wm_290 dX9_best_62 ?_
        refine tr_getNR hX 9 0 (by decide) rfl rfl rfl (by decide) gX2 wm_97 dX9_best_65 ?_
        refine tr_callV hX 28 [rf G.1 21, rf G.1 10] kv_X1_choose wm_634 (by decide) rfl rfl rfl (by decide) rfl rfl (Nat.le_of_ble_eq_true rfl) dX9_best_68 (fun vq sq hq => c_X1_choose G.1 hE N s5 (vq, sq) hq) fun v8 s7 => ?_
        refine tr_istore_n (lv2 := [(3, .int v8), (0, rf G.1 0), (1, .int x1), (2, .int x2)]) hX dX9_best_71 rfl (by decide) rfl ?_
        refine tr_iload_n hX 3 dX9_best_72 rfl rfl ?_
        refine tr_if_ne hX 80 dX9_best_73 (by decide) ?_ ?_
        · refine tr_aload_n hX 1 dX9_best_80 rfl rfl ?_
          refine tr_getR hX 0 7 (by decide) rfl rfl rfl (by decide) gX9 wm_295 dX9_best_81 ?_
          refine tr_iload_n hX 0 dX9_best_84 rfl rfl ?_
          refine tr_aload_n hX 1 dX9_best_85 rfl rfl ?_
          refine tr_getR hX 0 4 (by decide) rfl rfl rfl (by decide) gX9 wm_292 dX9_best_86 ?_
          refine tr_aload_n hX 1 dX9_best_89 rfl rfl ?_
          refine tr_getR hX 0 2 (by decide) rfl rfl rfl (by decide) gX9 wm_290 dX9_best_90 ?_
          refine tr_getNR hX 9 0 (by decide) rfl rfl rfl (by decide) gX2 wm_97 dX9_best_93 ?_
          refine tr_callV hX 28 [.int v8, rf G.1 21, rf G.1 10] kv_X1_judge wm_611 (by decide) rfl rfl rfl (by decide) rfl rfl (Nat.le_of_ble_eq_true rfl) dX9_best_96 (fun vq sq hq => c_X1_judge G.1 hE N s7 v8 (vq, sq) hq) fun v10 s9 => ?_
          exact tr_iret hX hR dX9_best_99
        · refine tr_iload_n hX 0 dX9_best_76 rfl rfl ?_
          refine tr_goto hX 99 dX9_best_77 (by decide) ?_
          exact tr_iret hX hR dX9_best_99
      · refine tr_iconst (v := (-1)) hX dX9_best_32 rfl ?_
        exact tr_iret hX hR dX9_best_33
theorem c_X9_best (E : Ex) (hE : va_D (AW E) (wd E (fun _ _ => 0))) (N : Nat) (s : Hp) (x1 x2 : Int32) (r : Int32 × Hp) (h : f_X9_best N s x1 x2 = some r) : CtrI E yX9_best cX9_best 4 (some .int) 4 104 [rf E 0, .int x1, .int x2] s r :=
  ctrI_of (by decide +kernel) hE (Nat.le_of_ble_eq_true rfl) h (fun G hX hR hG => by subst hG; exact w_X9_best hX hR hE N s x1 x2)
set_option maxRecDepth 20000 in
set_option maxHeartbeats 2000000 in
theorem w_X9_wanderers_83 {G : Gx} (hX : ok G cX9_wanderers 4 RX9 (some .int) 4 104) (hR : okR G) (hE : va_D (AW G.1) (wd G.1 (fun _ _ => 0))) (N : Nat) (k4 : Hp → Int32 → Int32 → Option (Int32 × Hp)) (hk4 : ∀ (s : Hp) (x1 x2 : Int32), T G (k4 s x1 x2) s 4 [(0, rf G.1 0), (1, .int x1), (2, .int x2)] []) (s : Hp) (x1 x2 : Int32) : T G (f_X9_wanderers_83 N k4 s x1 x2) s 83 [(0, rf G.1 0), (1, .int x1), (2, .int x2)] [] := by
  unfold f_X9_wanderers_83
  refine tr_iincB (b := 1) (lv2 := fun y8 => [(2, .int y8), (0, rf G.1 0), (1, .int x1)]) hX 2 dX9_wanderers_83 rfl rfl (by decide) (fun _ => rfl) fun y8 => ?_
  refine tr_goto hX 4 dX9_wanderers_86 (by decide) ?_
  refine tr_lv (lv2 := [(0, rf G.1 0), (1, .int x1), (2, .int y8)]) [1, 2, 0] rfl ?_
  exact hk4 s x1 y8
set_option maxRecDepth 20000 in
set_option maxHeartbeats 2000000 in
theorem w_X9_wanderers_80 {G : Gx} (hX : ok G cX9_wanderers 4 RX9 (some .int) 4 104) (hR : okR G) (hE : va_D (AW G.1) (wd G.1 (fun _ _ => 0))) (N : Nat) (k4 : Hp → Int32 → Int32 → Option (Int32 × Hp)) (hk4 : ∀ (s : Hp) (x1 x2 : Int32), T G (k4 s x1 x2) s 4 [(0, rf G.1 0), (1, .int x1), (2, .int x2)] []) (s : Hp) (x1 x2 : Int32) : T G (f_X9_wanderers_80 N k4 s x1 x2) s 80 [(0, rf G.1 0), (1, .int x1), (2, .int x2)] [] := by
  unfold f_X9_wanderers_80
  refine tr_iincB (b := 1) (lv2 := fun y7 => [(1, .int y7), (0, rf G.1 0), (2, .int x2)]) hX 1 dX9_wanderers_80 rfl rfl (by decide) (fun _ => rfl) fun y7 => ?_
  refine tr_lv (lv2 := [(0, rf G.1 0), (1, .int y7), (2, .int x2)]) [1, 0, 2] rfl ?_
  exact w_X9_wanderers_83 hX hR hE N k4 hk4 s y7 x2
set_option maxRecDepth 20000 in
set_option maxHeartbeats 2000000 in
theorem w_X9_wanderers_4 {G : Gx} (hX : ok G cX9_wanderers 4 RX9 (some .int) 4 104) (hR : okR G) (hE : va_D (AW G.1) (wd G.1 (fun _ _ => 0))) (N : Nat) (k4 : Hp → Int32 → Int32 → Option (Int32 × Hp)) (hk4 : ∀ (s : Hp) (x1 x2 : Int32), T G (k4 s x1 x2) s 4 [(0, rf G.1 0), (1, .int x1), (2, .int x2)] []) (s : Hp) (x1 x2 : Int32) : T G (f_X9_wanderers_4 N k4 s x1 x2) s 4 [(0, rf G.1 0), (1, .int x1), (2, .int x2)] [] := by
  unfold f_X9_wanderers_4
  refine tr_iload_n hX 2 dX9_wanderers_4 rfl rfl ?_
  refine tr_aload_n hX 0 dX9_wanderers_5 rfl rfl ?_
  refine tr_getR hX 0 3 (by decide) rfl rfl rfl (by decide) gX9 wm_291 dX9_wanderers_6 ?_
  refine tr_getNI hX 18 4 (by decide) rfl rfl rfl (by decide) gX0 wm_132 dX9_wanderers_9 ?_
  refine tr_icmp_ge hX 89 dX9_wanderers_12 (by decide) ?_ ?_
  · refine tr_iload_n hX 1 dX9_wanderers_89 rfl rfl ?_
    exact tr_iret hX hR dX9_wanderers_90
  · refine tr_aload_n hX 0 dX9_wanderers_15 rfl rfl ?_
    refine tr_getR hX 0 4 (by decide) rfl rfl rfl (by decide) gX9 wm_292 dX9_wanderers_16 ?_
    refine tr_aload_n hX 0 dX9_wanderers_19 rfl rfl ?_
    refine tr_getR hX 0 2 (by decide) rfl rfl rfl (by decide) gX9 wm_290 dX9_wanderers_20 ?_
    refine tr_aload_n hX 0 dX9_wanderers_23 rfl rfl ?_
    refine tr_getR hX 0 3 (by decide) rfl rfl rfl (by decide) gX9 wm_291 dX9_wanderers_24 ?_
    refine tr_getNR hX 18 1 (by decide) rfl rfl rfl (by decide) gX0 wm_126 dX9_wanderers_27 ?_
    refine tr_iload_n hX 2 dX9_wanderers_30 rfl rfl ?_
    refine tr_callVv hX 21 [rf G.1 9, rf G.1 20, .int x2] kv_X6_draw wm_413 (by decide) rfl rfl rfl (by decide) rfl rfl (Nat.le_of_ble_eq_true rfl) dX9_wanderers_31 (fun vq sq hq => c_X6_draw G.1 hE N s x2 (vq, sq) hq) fun v2 s1 => ?_
    refine tr_aload_n hX 0 dX9_wanderers_34 rfl rfl ?_
    refine tr_getR hX 0 7 (by decide) rfl rfl rfl (by decide) gX9 wm_295 dX9_wanderers_35 ?_
    refine tr_aload_n hX 0 dX9_wanderers_38 rfl rfl ?_
    refine tr_getR hX 0 4 (by decide) rfl rfl rfl (by decide) gX9 wm_292 dX9_wanderers_39 ?_
    refine tr_aload_n hX 0 dX9_wanderers_42 rfl rfl ?_
    refine tr_getR hX 0 2 (by decide) rfl rfl rfl (by decide) gX9 wm_290 dX9_wanderers_43 ?_
    refine tr_getNR hX 9 0 (by decide) rfl rfl rfl (by decide) gX2 wm_97 dX9_wanderers_46 ?_
    refine tr_callV hX 28 [rf G.1 21, rf G.1 10] kv_X1_choose wm_634 (by decide) rfl rfl rfl (by decide) rfl rfl (Nat.le_of_ble_eq_true rfl) dX9_wanderers_49 (fun vq sq hq => c_X1_choose G.1 hE N s1 (vq, sq) hq) fun v4 s3 => ?_
    refine tr_istore_n (lv2 := [(3, .int v4), (0, rf G.1 0), (1, .int x1), (2, .int x2)]) hX dX9_wanderers_52 rfl (by decide) rfl ?_
    refine tr_iload_n hX 0 dX9_wanderers_53 rfl rfl ?_
    refine tr_iconst (v := (-1)) hX dX9_wanderers_54 rfl ?_
    refine tr_icmp_eq hX 80 dX9_wanderers_55 (by decide) ?_ ?_
    · refine tr_lv (lv2 := [(0, rf G.1 0), (1, .int x1), (2, .int x2)]) [1, 2, 3] rfl ?_
      exact w_X9_wanderers_80 hX hR hE N k4 hk4 s3 x1 x2
    · refine tr_aload_n hX 1 dX9_wanderers_58 rfl rfl ?_
      refine tr_getR hX 0 7 (by decide) rfl rfl rfl (by decide) gX9 wm_295 dX9_wanderers_59 ?_
      refine tr_iload_n hX 0 dX9_wanderers_62 rfl rfl ?_
      refine tr_aload_n hX 1 dX9_wanderers_63 rfl rfl ?_
      refine tr_getR hX 0 4 (by decide) rfl rfl rfl (by decide) gX9 wm_292 dX9_wanderers_64 ?_
      refine tr_aload_n hX 1 dX9_wanderers_67 rfl rfl ?_
      refine tr_getR hX 0 2 (by decide) rfl rfl rfl (by decide) gX9 wm_290 dX9_wanderers_68 ?_
      refine tr_getNR hX 9 0 (by decide) rfl rfl rfl (by decide) gX2 wm_97 dX9_wanderers_71 ?_
      refine tr_callV hX 28 [.int v4, rf G.1 21, rf G.1 10] kv_X1_judge wm_611 (by decide) rfl rfl rfl (by decide) rfl rfl (Nat.le_of_ble_eq_true rfl) dX9_wanderers_74 (fun vq sq hq => c_X1_judge G.1 hE N s3 v4 (vq, sq) hq) fun v6 s5 => ?_
      refine tr_if_eq hX 83 dX9_wanderers_77 (by decide) ?_ ?_
      · refine tr_lv (lv2 := [(0, rf G.1 0), (1, .int x1), (2, .int x2)]) [1, 2, 3] rfl ?_
        exact w_X9_wanderers_83 hX hR hE N k4 hk4 s5 x1 x2
      · refine tr_lv (lv2 := [(0, rf G.1 0), (1, .int x1), (2, .int x2)]) [1, 2, 3] rfl ?_
        exact w_X9_wanderers_80 hX hR hE N k4 hk4 s5 x1 x2
theorem wl_X9_wanderers_4 {G : Gx} (hX : ok G cX9_wanderers 4 RX9 (some .int) 4 104) (hR : okR G) (hE : va_D (AW G.1) (wd G.1 (fun _ _ => 0))) (N : Nat) : ∀ (n : Nat) (s : Hp) (x1 x2 : Int32), T G (lp (fun _ _ _ => none) (f_X9_wanderers_4 N) n s x1 x2) s 4 [(0, rf G.1 0), (1, .int x1), (2, .int x2)] [] := by
  intro n
  induction n with
  | zero => exact fun s x1 x2 h => nomatch (show (none : Option (Int32 × Hp)) = some _ from h)
  | succ n ih => exact fun s x1 x2 => w_X9_wanderers_4 hX hR hE N _ ih s x1 x2
set_option maxRecDepth 20000 in
set_option maxHeartbeats 2000000 in
theorem w_X9_wanderers {G : Gx} (hX : ok G cX9_wanderers 4 RX9 (some .int) 4 104) (hR : okR G) (hE : va_D (AW G.1) (wd G.1 (fun _ _ => 0))) (N : Nat) (s : Hp) : T G (f_X9_wanderers N s) s 0 [(0, rf G.1 0)] [] := by
  unfold f_X9_wanderers
  refine tr_iconst (v := 0) hX dX9_wanderers_0 rfl ?_
  refine tr_istore_n (lv2 := [(1, .int 0), (0, rf G.1 0)]) hX dX9_wanderers_1 rfl (by decide) rfl ?_
  refine tr_iconst (v := 0) hX dX9_wanderers_2 rfl ?_
  refine tr_istore_n (lv2 := [(2, .int 0), (1, .int 0), (0, rf G.1 0)]) hX dX9_wanderers_3 rfl (by decide) rfl ?_
  refine tr_lv (lv2 := [(0, rf G.1 0), (1, .int 0), (2, .int 0)]) [2, 1, 0] rfl ?_
  exact wl_X9_wanderers_4 hX hR hE N N s 0 0
theorem c_X9_wanderers (E : Ex) (hE : va_D (AW E) (wd E (fun _ _ => 0))) (N : Nat) (s : Hp) (r : Int32 × Hp) (h : f_X9_wanderers N s = some r) : CtrI E yX9_wanderers cX9_wanderers 4 (some .int) 4 104 [rf E 0] s r :=
  ctrI_of (by decide +kernel) hE (Nat.le_of_ble_eq_true rfl) h (fun G hX hR hG => by subst hG; exact w_X9_wanderers hX hR hE N s)
