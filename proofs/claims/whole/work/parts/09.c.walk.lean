set_option maxRecDepth 20000 in
set_option maxHeartbeats 2000000 in
theorem w_X9_place {G : Gx} (hX : ok G cX9_place 3 RX9 (some .int) 3 68) (hR : okR G) (hE : va_D (AW G.1) (wd G.1 (fun _ _ => 0))) (N : Nat) (s : Hp) (x1 x2 : Int32) : T G (f_X9_place N s x1 x2) s 0 [(0, rf G.1 0), (1, .int x1), (2, .int x2)] [] := by
  unfold f_X9_place
  refine tr_iload_n hX 1 dX9_place_0 rfl rfl ?_
  refine tr_aload_n hX 0 dX9_place_1 rfl rfl ?_
  refine tr_getR hX 0 3 (by decide) rfl rfl rfl (by decide) gX9 wm_291 dX9_place_2 ?_
  refine tr_getNI hX 18 4 (by decide) rfl rfl rfl (by decide) gX0 wm_132 dX9_place_5 ?_
  refine tr_callS hX [.int x1, .int (s 18 4)] ks_X9_isBelow wm_320 (by decide) rfl rfl (Nat.le_of_ble_eq_true rfl) dX9_place_8 (fun vq sq hq => c_X9_isBelow G.1 hE N s x1 (s 18 4) (vq, sq) hq) fun v2 s1 => ?_
  refine tr_if_eq hX 24 dX9_place_11 (by decide) ?_ ?_
  · refine tr_iconst (v := (-1)) hX dX9_place_24 rfl ?_
    exact tr_iret hX hR dX9_place_25
  · refine tr_iload_n hX 2 dX9_place_14 rfl rfl ?_
    refine tr_sipush (v := 1024) hX dX9_place_15 rfl ?_
    refine tr_callS hX [.int x2, .int 1024] ks_X9_isBelow wm_320 (by decide) rfl rfl (Nat.le_of_ble_eq_true rfl) dX9_place_18 (fun vq sq hq => c_X9_isBelow G.1 hE N s1 x2 1024 (vq, sq) hq) fun v4 s3 => ?_
    refine tr_if_ne hX 26 dX9_place_21 (by decide) ?_ ?_
    · refine tr_aload_n hX 0 dX9_place_26 rfl rfl ?_
      refine tr_getR hX 0 4 (by decide) rfl rfl rfl (by decide) gX9 wm_292 dX9_place_27 ?_
      refine tr_aload_n hX 0 dX9_place_30 rfl rfl ?_
      refine tr_getR hX 0 2 (by decide) rfl rfl rfl (by decide) gX9 wm_290 dX9_place_31 ?_
      refine tr_aload_n hX 0 dX9_place_34 rfl rfl ?_
      refine tr_getR hX 0 3 (by decide) rfl rfl rfl (by decide) gX9 wm_291 dX9_place_35 ?_
      refine tr_getNR hX 18 1 (by decide) rfl rfl rfl (by decide) gX0 wm_126 dX9_place_38 ?_
      refine tr_iload_n hX 1 dX9_place_41 rfl rfl ?_
      refine tr_callVv hX 21 [rf G.1 9, rf G.1 20, .int x1] kv_X6_draw wm_413 (by decide) rfl rfl rfl (by decide) rfl rfl (Nat.le_of_ble_eq_true rfl) dX9_place_42 (fun vq sq hq => c_X6_draw G.1 hE N s3 x1 (vq, sq) hq) fun v6 s5 => ?_
      refine tr_aload_n hX 0 dX9_place_45 rfl rfl ?_
      refine tr_getR hX 0 4 (by decide) rfl rfl rfl (by decide) gX9 wm_292 dX9_place_46 ?_
      refine tr_iload_n hX 2 dX9_place_49 rfl rfl ?_
      refine tr_callV hX 21 [.int x2] kv_X6_fieldAt wm_438 (by decide) rfl rfl rfl (by decide) rfl rfl (Nat.le_of_ble_eq_true rfl) dX9_place_50 (fun vq sq hq => c_X6_fieldAt G.1 hE N s5 x2 (vq, sq) hq) fun v8 s7 => ?_
      exact tr_iret hX hR dX9_place_53
    · refine tr_iconst (v := (-1)) hX dX9_place_24 rfl ?_
      exact tr_iret hX hR dX9_place_25
theorem c_X9_place (E : Ex) (hE : va_D (AW E) (wd E (fun _ _ => 0))) (N : Nat) (s : Hp) (x1 x2 : Int32) (r : Int32 × Hp) (h : f_X9_place N s x1 x2 = some r) : CtrI E yX9_place cX9_place 3 (some .int) 3 68 [rf E 0, .int x1, .int x2] s r :=
  ctrI_of (by decide +kernel) hE (Nat.le_of_ble_eq_true rfl) h (fun G hX hR hG => by subst hG; exact w_X9_place hX hR hE N s x1 x2)
set_option maxRecDepth 20000 in
set_option maxHeartbeats 2000000 in
theorem w_X6_edge_85 {G : Gx} (hX : ok G cX6_edge 7 RX6 (some .int) 1 21) (hR : okR G) (hE : va_D (AW G.1) (wd G.1 (fun _ _ => 0))) (N : Nat) (k5 : Hp → Int32 → Int32 → Int32 → Int32 → Option (Int32 × Hp)) (hk5 : ∀ (s : Hp) (x1 x2 x3 x4 : Int32), T G (k5 s x1 x2 x3 x4) s 5 [(0, rf G.1 21), (1, .int x1), (2, .int x2), (3, .int x3), (4, .int x4)] []) (s : Hp) (x1 x2 x3 x4 : Int32) : T G (f_X6_edge_85 N k5 s x1 x2 x3 x4) s 85 [(0, rf G.1 21), (1, .int x1), (2, .int x2), (3, .int x3), (4, .int x4)] [] := by
  unfold f_X6_edge_85
  refine tr_iincB (b := 1) (lv2 := fun y3 => [(4, .int y3), (0, rf G.1 21), (1, .int x1), (2, .int x2), (3, .int x3)]) hX 4 dX6_edge_85 rfl rfl (by decide) (fun _ => rfl) fun y3 => ?_
  refine tr_goto hX 5 dX6_edge_88 (by decide) ?_
  refine tr_lv (lv2 := [(0, rf G.1 21), (1, .int x1), (2, .int x2), (3, .int x3), (4, .int y3)]) [1, 2, 3, 4, 0] rfl ?_
  exact hk5 s x1 x2 x3 y3
set_option maxRecDepth 20000 in
set_option maxHeartbeats 2000000 in
theorem w_X6_edge_82 {G : Gx} (hX : ok G cX6_edge 7 RX6 (some .int) 1 21) (hR : okR G) (hE : va_D (AW G.1) (wd G.1 (fun _ _ => 0))) (N : Nat) (k5 : Hp → Int32 → Int32 → Int32 → Int32 → Option (Int32 × Hp)) (hk5 : ∀ (s : Hp) (x1 x2 x3 x4 : Int32), T G (k5 s x1 x2 x3 x4) s 5 [(0, rf G.1 21), (1, .int x1), (2, .int x2), (3, .int x3), (4, .int x4)] []) (s : Hp) (x1 x2 x4 x5 : Int32) : T G (f_X6_edge_82 N k5 s x1 x2 x4 x5) s 82 [(0, rf G.1 21), (1, .int x1), (2, .int x2), (4, .int x4), (5, .int x5)] [] := by
  unfold f_X6_edge_82
  refine tr_iload hX 4 dX6_edge_82 rfl ?_
  refine tr_istore_n (lv2 := [(3, .int x5), (0, rf G.1 21), (1, .int x1), (2, .int x2), (4, .int x4), (5, .int x5)]) hX dX6_edge_84 rfl (by decide) rfl ?_
  refine tr_lv (lv2 := [(0, rf G.1 21), (1, .int x1), (2, .int x2), (3, .int x5), (4, .int x4)]) [1, 2, 3, 0, 4] rfl ?_
  exact w_X6_edge_85 hX hR hE N k5 hk5 s x1 x2 x5 x4
set_option maxRecDepth 20000 in
set_option maxHeartbeats 2000000 in
theorem w_X6_edge_61 {G : Gx} (hX : ok G cX6_edge 7 RX6 (some .int) 1 21) (hR : okR G) (hE : va_D (AW G.1) (wd G.1 (fun _ _ => 0))) (N : Nat) (k5 : Hp → Int32 → Int32 → Int32 → Int32 → Option (Int32 × Hp)) (hk5 : ∀ (s : Hp) (x1 x2 x3 x4 : Int32), T G (k5 s x1 x2 x3 x4) s 5 [(0, rf G.1 21), (1, .int x1), (2, .int x2), (3, .int x3), (4, .int x4)] []) (s : Hp) (x1 x2 x3 x4 x5 t0 : Int32) : T G (f_X6_edge_61 N k5 s x1 x2 x3 x4 x5 t0) s 61 [(0, rf G.1 21), (1, .int x1), (2, .int x2), (3, .int x3), (4, .int x4), (5, .int x5)] [.int t0] := by
  unfold f_X6_edge_61
  refine tr_istore (lv2 := [(6, .int t0), (0, rf G.1 21), (1, .int x1), (2, .int x2), (3, .int x3), (4, .int x4), (5, .int x5)]) hX dX6_edge_61 (by decide) rfl ?_
  refine tr_aload_n hX 1 dX6_edge_63 rfl rfl ?_
  refine tr_iload hX 5 dX6_edge_64 rfl ?_
  refine tr_callV hX 21 [.int x4] kv_X6_has wm_442 (by decide) rfl rfl rfl (by decide) rfl rfl (Nat.le_of_ble_eq_true rfl) dX6_edge_66 (fun vq sq hq => c_X6_has G.1 hE N s x4 (vq, sq) hq) fun v2 s1 => ?_
  refine tr_if_eq hX 85 dX6_edge_69 (by decide) ?_ ?_
  · refine tr_lv (lv2 := [(0, rf G.1 21), (1, .int x1), (2, .int x2), (3, .int x3), (4, .int x4)]) [1, 2, 3, 4, 5] rfl ?_
    exact w_X6_edge_85 hX hR hE N k5 hk5 s1 x1 x2 x3 x4
  · refine tr_iload_n hX 4 dX6_edge_72 rfl rfl ?_
    refine tr_iconst (v := (-1)) hX dX6_edge_73 rfl ?_
    refine tr_icmp_eq hX 82 dX6_edge_74 (by decide) ?_ ?_
    · refine tr_lv (lv2 := [(0, rf G.1 21), (1, .int x1), (2, .int x2), (4, .int x4), (5, .int x5)]) [1, 2, 3, 5, 6] rfl ?_
      exact w_X6_edge_82 hX hR hE N k5 hk5 s1 x1 x2 x4 x5
    · refine tr_iload hX 0 dX6_edge_77 rfl ?_
      refine tr_if_eq hX 85 dX6_edge_79 (by decide) ?_ ?_
      · refine tr_lv (lv2 := [(0, rf G.1 21), (1, .int x1), (2, .int x2), (3, .int x3), (4, .int x4)]) [1, 2, 3, 4, 5] rfl ?_
        exact w_X6_edge_85 hX hR hE N k5 hk5 s1 x1 x2 x3 x4
      · refine tr_lv (lv2 := [(0, rf G.1 21), (1, .int x1), (2, .int x2), (4, .int x4), (5, .int x5)]) [1, 2, 3, 5, 6] rfl ?_
        exact w_X6_edge_82 hX hR hE N k5 hk5 s1 x1 x2 x4 x5
set_option maxRecDepth 20000 in
set_option maxHeartbeats 2000000 in
theorem w_X6_edge_30 {G : Gx} (hX : ok G cX6_edge 7 RX6 (some .int) 1 21) (hR : okR G) (hE : va_D (AW G.1) (wd G.1 (fun _ _ => 0))) (N : Nat) (k5 : Hp → Int32 → Int32 → Int32 → Int32 → Option (Int32 × Hp)) (hk5 : ∀ (s : Hp) (x1 x2 x3 x4 : Int32), T G (k5 s x1 x2 x3 x4) s 5 [(0, rf G.1 21), (1, .int x1), (2, .int x2), (3, .int x3), (4, .int x4)] []) (s : Hp) (x1 x2 x3 x4 t0 : Int32) : T G (f_X6_edge_30 N k5 s x1 x2 x3 x4 t0) s 30 [(0, rf G.1 21), (1, .int x1), (2, .int x2), (3, .int x3), (4, .int x4)] [.int t0] := by
  unfold f_X6_edge_30
  refine tr_istore (lv2 := [(5, .int t0), (0, rf G.1 21), (1, .int x1), (2, .int x2), (3, .int x3), (4, .int x4)]) hX dX6_edge_30 (by decide) rfl ?_
  refine tr_iload_n hX 3 dX6_edge_32 rfl rfl ?_
  refine tr_if_eq hX 50 dX6_edge_33 (by decide) ?_ ?_
  · refine tr_iload hX 0 dX6_edge_50 rfl ?_
    refine tr_iload_n hX 4 dX6_edge_52 rfl rfl ?_
    refine tr_icmp_ge hX 60 dX6_edge_53 (by decide) ?_ ?_
    · refine tr_iconst (v := 0) hX dX6_edge_60 rfl ?_
      refine tr_lv (lv2 := [(0, rf G.1 21), (1, .int x1), (2, .int x2), (3, .int x3), (4, .int x4), (5, .int t0)]) [1, 2, 3, 4, 5, 0] rfl ?_
      exact w_X6_edge_61 hX hR hE N k5 hk5 s x1 x2 x3 x4 t0 0
    · refine tr_iconst (v := 1) hX dX6_edge_56 rfl ?_
      refine tr_goto hX 61 dX6_edge_57 (by decide) ?_
      refine tr_lv (lv2 := [(0, rf G.1 21), (1, .int x1), (2, .int x2), (3, .int x3), (4, .int x4), (5, .int t0)]) [1, 2, 3, 4, 5, 0] rfl ?_
      exact w_X6_edge_61 hX hR hE N k5 hk5 s x1 x2 x3 x4 t0 1
  · refine tr_iload hX 0 dX6_edge_36 rfl ?_
    refine tr_iload_n hX 4 dX6_edge_38 rfl rfl ?_
    refine tr_icmp_le hX 46 dX6_edge_39 (by decide) ?_ ?_
    · refine tr_iconst (v := 0) hX dX6_edge_46 rfl ?_
      refine tr_goto hX 61 dX6_edge_47 (by decide) ?_
      refine tr_lv (lv2 := [(0, rf G.1 21), (1, .int x1), (2, .int x2), (3, .int x3), (4, .int x4), (5, .int t0)]) [1, 2, 3, 4, 5, 0] rfl ?_
      exact w_X6_edge_61 hX hR hE N k5 hk5 s x1 x2 x3 x4 t0 0
    · refine tr_iconst (v := 1) hX dX6_edge_42 rfl ?_
      refine tr_goto hX 61 dX6_edge_43 (by decide) ?_
      refine tr_lv (lv2 := [(0, rf G.1 21), (1, .int x1), (2, .int x2), (3, .int x3), (4, .int x4), (5, .int t0)]) [1, 2, 3, 4, 5, 0] rfl ?_
      exact w_X6_edge_61 hX hR hE N k5 hk5 s x1 x2 x3 x4 t0 1
set_option maxRecDepth 20000 in
set_option maxHeartbeats 2000000 in
theorem w_X6_edge_5 {G : Gx} (hX : ok G cX6_edge 7 RX6 (some .int) 1 21) (hR : okR G) (hE : va_D (AW G.1) (wd G.1 (fun _ _ => 0))) (N : Nat) (k5 : Hp → Int32 → Int32 → Int32 → Int32 → Option (Int32 × Hp)) (hk5 : ∀ (s : Hp) (x1 x2 x3 x4 : Int32), T G (k5 s x1 x2 x3 x4) s 5 [(0, rf G.1 21), (1, .int x1), (2, .int x2), (3, .int x3), (4, .int x4)] []) (s : Hp) (x1 x2 x3 x4 : Int32) : T G (f_X6_edge_5 N k5 s x1 x2 x3 x4) s 5 [(0, rf G.1 21), (1, .int x1), (2, .int x2), (3, .int x3), (4, .int x4)] [] := by
  unfold f_X6_edge_5
  refine tr_iload hX 4 dX6_edge_5 rfl ?_
  refine tr_sipush (v := 1024) hX dX6_edge_7 rfl ?_
  refine tr_icmp_ge hX 91 dX6_edge_10 (by decide) ?_ ?_
  · refine tr_iload_n hX 3 dX6_edge_91 rfl rfl ?_
    exact tr_iret hX hR dX6_edge_92
  · refine tr_iload_n hX 1 dX6_edge_13 rfl rfl ?_
    refine tr_if_eq hX 25 dX6_edge_14 (by decide) ?_ ?_
    · refine tr_iload hX 4 dX6_edge_25 rfl ?_
      refine tr_bipush (v := 32) hX dX6_edge_27 rfl ?_
      refine tr_iremC hX dX6_edge_29 (by decide) ?_
      exact w_X6_edge_30 hX hR hE N k5 hk5 s x1 x2 x3 x4 (irm x4 32)
    · refine tr_iload hX 4 dX6_edge_17 rfl ?_
      refine tr_bipush (v := 32) hX dX6_edge_19 rfl ?_
      refine tr_idivC hX dX6_edge_21 (by decide) ?_
      refine tr_goto hX 30 dX6_edge_22 (by decide) ?_
      exact w_X6_edge_30 hX hR hE N k5 hk5 s x1 x2 x3 x4 (x4 / 32)
theorem wl_X6_edge_5 {G : Gx} (hX : ok G cX6_edge 7 RX6 (some .int) 1 21) (hR : okR G) (hE : va_D (AW G.1) (wd G.1 (fun _ _ => 0))) (N : Nat) : ∀ (n : Nat) (s : Hp) (x1 x2 x3 x4 : Int32), T G (lp (fun _ _ _ _ _ => none) (f_X6_edge_5 N) n s x1 x2 x3 x4) s 5 [(0, rf G.1 21), (1, .int x1), (2, .int x2), (3, .int x3), (4, .int x4)] [] := by
  intro n
  induction n with
  | zero => exact fun s x1 x2 x3 x4 h => nomatch (show (none : Option (Int32 × Hp)) = some _ from h)
  | succ n ih => exact fun s x1 x2 x3 x4 => w_X6_edge_5 hX hR hE N _ ih s x1 x2 x3 x4
set_option maxRecDepth 20000 in
set_option maxHeartbeats 2000000 in
theorem w_X6_edge {G : Gx} (hX : ok G cX6_edge 7 RX6 (some .int) 1 21) (hR : okR G) (hE : va_D (AW G.1) (wd G.1 (fun _ _ => 0))) (N : Nat) (s : Hp) (x1 x2 : Int32) : T G (f_X6_edge N s x1 x2) s 0 [(0, rf G.1 21), (1, .int x1), (2, .int x2)] [] := by
  unfold f_X6_edge
  refine tr_iconst (v := (-1)) hX dX6_edge_0 rfl ?_
  refine tr_istore_n (lv2 := [(3, .int (-1)), (0, rf G.1 21), (1, .int x1), (2, .int x2)]) hX dX6_edge_1 rfl (by decide) rfl ?_
  refine tr_iconst (v := 0) hX dX6_edge_2 rfl ?_
  refine tr_istore (lv2 := [(4, .int 0), (3, .int (-1)), (0, rf G.1 21), (1, .int x1), (2, .int x2)]) hX dX6_edge_3 (by decide) rfl ?_
  refine tr_lv (lv2 := [(0, rf G.1 21), (1, .int x1), (2, .int x2), (3, .int (-1)), (4, .int 0)]) [2, 3, 4, 1, 0] rfl ?_
  exact wl_X6_edge_5 hX hR hE N N s x1 x2 (-1) 0
theorem c_X6_edge (E : Ex) (hE : va_D (AW E) (wd E (fun _ _ => 0))) (N : Nat) (s : Hp) (x1 x2 : Int32) (r : Int32 × Hp) (h : f_X6_edge N s x1 x2 = some r) : CtrI E yX6_edge cX6_edge 7 (some .int) 1 21 [rf E 21, .int x1, .int x2] s r :=
  ctrI_of (by decide +kernel) hE (Nat.le_of_ble_eq_true rfl) h (fun G hX hR hG => by subst hG; exact w_X6_edge hX hR hE N s x1 x2)
set_option maxRecDepth 20000 in
set_option maxHeartbeats 2000000 in
theorem w_X9_box_69 {G : Gx} (hX : ok G cX9_box 3 RX9 (some .int) 3 68) (hR : okR G) (hE : va_D (AW G.1) (wd G.1 (fun _ _ => 0))) (N : Nat) (s : Hp) (t1 t2 : Int32) : T G (f_X9_box_69 N s t1 t2) s 69 [] [.int t2, .int t1, rf G.1 21] := by
  unfold f_X9_box_69
  refine tr_callV hX 21 [.int t1, .int t2] kv_X6_edge wm_450 (by decide) rfl rfl rfl (by decide) rfl rfl (Nat.le_of_ble_eq_true rfl) dX9_box_69 (fun vq sq hq => c_X6_edge G.1 hE N s t1 t2 (vq, sq) hq) fun v8 s7 => ?_
  exact tr_iret hX hR dX9_box_72
set_option maxRecDepth 20000 in
set_option maxHeartbeats 2000000 in
theorem w_X9_box_57 {G : Gx} (hX : ok G cX9_box 3 RX9 (some .int) 3 68) (hR : okR G) (hE : va_D (AW G.1) (wd G.1 (fun _ _ => 0))) (N : Nat) (s : Hp) (x2 t1 : Int32) : T G (f_X9_box_57 N s x2 t1) s 57 [(2, .int x2)] [.int t1, rf G.1 21] := by
  unfold f_X9_box_57
  refine tr_iload_n hX 0 dX9_box_57 rfl rfl ?_
  refine tr_iconst (v := 2) hX dX9_box_58 rfl ?_
  refine tr_iremC hX dX9_box_59 (by decide) ?_
  refine tr_iconst (v := 1) hX dX9_box_60 rfl ?_
  refine tr_icmp_ne hX 68 dX9_box_61 (by decide) ?_ ?_
  · refine tr_iconst (v := 0) hX dX9_box_68 rfl ?_
    refine tr_lv (lv2 := []) [] rfl ?_
    exact w_X9_box_69 hX hR hE N s t1 0
  · refine tr_iconst (v := 1) hX dX9_box_64 rfl ?_
    refine tr_goto hX 69 dX9_box_65 (by decide) ?_
    refine tr_lv (lv2 := []) [] rfl ?_
    exact w_X9_box_69 hX hR hE N s t1 1
set_option maxRecDepth 20000 in
set_option maxHeartbeats 2000000 in
theorem w_X9_box {G : Gx} (hX : ok G cX9_box 3 RX9 (some .int) 3 68) (hR : okR G) (hE : va_D (AW G.1) (wd G.1 (fun _ _ => 0))) (N : Nat) (s : Hp) (x1 x2 : Int32) : T G (f_X9_box N s x1 x2) s 0 [(0, rf G.1 0), (1, .int x1), (2, .int x2)] [] := by
  unfold f_X9_box
  refine tr_iload_n hX 1 dX9_box_0 rfl rfl ?_
  refine tr_aload_n hX 0 dX9_box_1 rfl rfl ?_
  refine tr_getR hX 0 3 (by decide) rfl rfl rfl (by decide) gX9 wm_291 dX9_box_2 ?_
  refine tr_getNI hX 18 4 (by decide) rfl rfl rfl (by decide) gX0 wm_132 dX9_box_5 ?_
  refine tr_callS hX [.int x1, .int (s 18 4)] ks_X9_isBelow wm_320 (by decide) rfl rfl (Nat.le_of_ble_eq_true rfl) dX9_box_8 (fun vq sq hq => c_X9_isBelow G.1 hE N s x1 (s 18 4) (vq, sq) hq) fun v2 s1 => ?_
  refine tr_if_eq hX 22 dX9_box_11 (by decide) ?_ ?_
  · refine tr_iconst (v := (-1)) hX dX9_box_22 rfl ?_
    exact tr_iret hX hR dX9_box_23
  · refine tr_iload_n hX 2 dX9_box_14 rfl rfl ?_
    refine tr_iconst (v := 4) hX dX9_box_15 rfl ?_
    refine tr_callS hX [.int x2, .int 4] ks_X9_isBelow wm_320 (by decide) rfl rfl (Nat.le_of_ble_eq_true rfl) dX9_box_16 (fun vq sq hq => c_X9_isBelow G.1 hE N s1 x2 4 (vq, sq) hq) fun v4 s3 => ?_
    refine tr_if_ne hX 24 dX9_box_19 (by decide) ?_ ?_
    · refine tr_aload_n hX 0 dX9_box_24 rfl rfl ?_
      refine tr_getR hX 0 4 (by decide) rfl rfl rfl (by decide) gX9 wm_292 dX9_box_25 ?_
      refine tr_aload_n hX 0 dX9_box_28 rfl rfl ?_
      refine tr_getR hX 0 2 (by decide) rfl rfl rfl (by decide) gX9 wm_290 dX9_box_29 ?_
      refine tr_aload_n hX 0 dX9_box_32 rfl rfl ?_
      refine tr_getR hX 0 3 (by decide) rfl rfl rfl (by decide) gX9 wm_291 dX9_box_33 ?_
      refine tr_getNR hX 18 1 (by decide) rfl rfl rfl (by decide) gX0 wm_126 dX9_box_36 ?_
      refine tr_iload_n hX 1 dX9_box_39 rfl rfl ?_
      refine tr_callVv hX 21 [rf G.1 9, rf G.1 20, .int x1] kv_X6_draw wm_413 (by decide) rfl rfl rfl (by decide) rfl rfl (Nat.le_of_ble_eq_true rfl) dX9_box_40 (fun vq sq hq => c_X6_draw G.1 hE N s3 x1 (vq, sq) hq) fun v6 s5 => ?_
      refine tr_aload_n hX 0 dX9_box_43 rfl rfl ?_
      refine tr_getR hX 0 4 (by decide) rfl rfl rfl (by decide) gX9 wm_292 dX9_box_44 ?_
      refine tr_iload_n hX 2 dX9_box_47 rfl rfl ?_
      refine tr_iconst (v := 2) hX dX9_box_48 rfl ?_
      refine tr_icmp_lt hX 56 dX9_box_49 (by decide) ?_ ?_
      · refine tr_iconst (v := 0) hX dX9_box_56 rfl ?_
        refine tr_lv (lv2 := [(2, .int x2)]) [2] rfl ?_
        exact w_X9_box_57 hX hR hE N s5 x2 0
      · refine tr_iconst (v := 1) hX dX9_box_52 rfl ?_
        refine tr_goto hX 57 dX9_box_53 (by decide) ?_
        refine tr_lv (lv2 := [(2, .int x2)]) [2] rfl ?_
        exact w_X9_box_57 hX hR hE N s5 x2 1
    · refine tr_iconst (v := (-1)) hX dX9_box_22 rfl ?_
      exact tr_iret hX hR dX9_box_23
theorem c_X9_box (E : Ex) (hE : va_D (AW E) (wd E (fun _ _ => 0))) (N : Nat) (s : Hp) (x1 x2 : Int32) (r : Int32 × Hp) (h : f_X9_box N s x1 x2 = some r) : CtrI E yX9_box cX9_box 3 (some .int) 3 68 [rf E 0, .int x1, .int x2] s r :=
  ctrI_of (by decide +kernel) hE (Nat.le_of_ble_eq_true rfl) h (fun G hX hR hG => by subst hG; exact w_X9_box hX hR hE N s x1 x2)
set_option maxRecDepth 20000 in
set_option maxHeartbeats 2000000 in
theorem w_X7_changeBehind_92 {G : Gx} (hX : ok G cX7_changeBehind 6 RX7 (some .int) 1 21) (hR : okR G) (hE : va_D (AW G.1) (wd G.1 (fun _ _ => 0))) (N : Nat) (k6 : Hp → Int32 → Int32 → Int32 → Int32 → Option (Int32 × Hp)) (hk6 : ∀ (s : Hp) (x1 x2 x4 x5 : Int32), T G (k6 s x1 x2 x4 x5) s 6 [(0, rf G.1 4), (1, .int x1), (2, .int x2), (4, .int x4), (5, .int x5)] []) (s : Hp) (x1 x2 x4 x5 : Int32) : T G (f_X7_changeBehind_92 N k6 s x1 x2 x4 x5) s 92 [(0, rf G.1 4), (1, .int x1), (2, .int x2), (4, .int x4), (5, .int x5)] [] := by
  unfold f_X7_changeBehind_92
  refine tr_iincB (b := 1) (lv2 := fun y3 => [(5, .int y3), (0, rf G.1 4), (1, .int x1), (2, .int x2), (4, .int x4)]) hX 4 dX7_changeBehind_92 rfl rfl (by decide) (fun _ => rfl) fun y3 => ?_
  refine tr_goto hX 6 dX7_changeBehind_95 (by decide) ?_
  refine tr_lv (lv2 := [(0, rf G.1 4), (1, .int x1), (2, .int x2), (4, .int x4), (5, .int y3)]) [1, 2, 3, 4, 0] rfl ?_
  exact hk6 s x1 x2 x4 y3
set_option maxRecDepth 20000 in
set_option maxHeartbeats 2000000 in
theorem w_X7_changeBehind_54 {G : Gx} (hX : ok G cX7_changeBehind 6 RX7 (some .int) 1 21) (hR : okR G) (hE : va_D (AW G.1) (wd G.1 (fun _ _ => 0))) (N : Nat) (k6 : Hp → Int32 → Int32 → Int32 → Int32 → Option (Int32 × Hp)) (hk6 : ∀ (s : Hp) (x1 x2 x4 x5 : Int32), T G (k6 s x1 x2 x4 x5) s 6 [(0, rf G.1 4), (1, .int x1), (2, .int x2), (4, .int x4), (5, .int x5)] []) (s : Hp) (x1 x2 x4 x5 : Int32) : T G (f_X7_changeBehind_54 N k6 s x1 x2 x4 x5) s 54 [(0, rf G.1 4), (1, .int x1), (2, .int x2), (4, .int x4), (5, .int x5)] [] := by
  unfold f_X7_changeBehind_54
  refine tr_aload_n hX 0 dX7_changeBehind_54 rfl rfl ?_
  refine tr_getR hX 4 1 (by decide) rfl rfl rfl (by decide) gX7 wm_58 dX7_changeBehind_55 ?_
  refine tr_iload hX 4 dX7_changeBehind_58 rfl ?_
  refine tr_iald hX 6 (by decide) rfl dX7_changeBehind_60 ?_
  refine tr_iload_n hX 1 dX7_changeBehind_61 rfl rfl ?_
  refine tr_icmp_ne hX 92 dX7_changeBehind_62 (by decide) ?_ ?_
  · exact w_X7_changeBehind_92 hX hR hE N k6 hk6 s x1 x2 x4 x5
  · refine tr_aload_n hX 0 dX7_changeBehind_65 rfl rfl ?_
    refine tr_getR hX 4 3 (by decide) rfl rfl rfl (by decide) gX7 wm_65 dX7_changeBehind_66 ?_
    refine tr_iload hX 4 dX7_changeBehind_69 rfl ?_
    refine tr_iald hX 8 (by decide) rfl dX7_changeBehind_71 ?_
    refine tr_iload_n hX 2 dX7_changeBehind_72 rfl rfl ?_
    refine tr_icmp_lt hX 92 dX7_changeBehind_73 (by decide) ?_ ?_
    · exact w_X7_changeBehind_92 hX hR hE N k6 hk6 s x1 x2 x4 x5
    · refine tr_iload hX 3 dX7_changeBehind_76 rfl ?_
      refine tr_aload_n hX 0 dX7_changeBehind_78 rfl rfl ?_
      refine tr_getR hX 4 3 (by decide) rfl rfl rfl (by decide) gX7 wm_65 dX7_changeBehind_79 ?_
      refine tr_iload hX 4 dX7_changeBehind_82 rfl ?_
      refine tr_iald hX 8 (by decide) rfl dX7_changeBehind_84 ?_
      refine tr_iconst (v := 1) hX dX7_changeBehind_85 rfl ?_
      refine tr_iadd hX dX7_changeBehind_86 ?_
      refine tr_min hX wm_466 wm_375 wm_4 wm_376 (by decide) (Nat.le_of_ble_eq_true rfl) dX7_changeBehind_87 ?_
      refine tr_istoreB (lv2 := fun y2 => [(4, .int y2), (0, rf G.1 4), (1, .int x1), (2, .int x2), (5, .int x5)]) hX dX7_changeBehind_90 (by decide) (fun _ => rfl) fun y2 => ?_
      refine tr_lv (lv2 := [(0, rf G.1 4), (1, .int x1), (2, .int x2), (4, .int y2), (5, .int x5)]) [1, 2, 3, 0, 4] rfl ?_
      exact w_X7_changeBehind_92 hX hR hE N k6 hk6 s x1 x2 y2 x5
set_option maxRecDepth 20000 in
set_option maxHeartbeats 2000000 in
theorem w_X7_changeBehind_6 {G : Gx} (hX : ok G cX7_changeBehind 6 RX7 (some .int) 1 21) (hR : okR G) (hE : va_D (AW G.1) (wd G.1 (fun _ _ => 0))) (N : Nat) (k6 : Hp → Int32 → Int32 → Int32 → Int32 → Option (Int32 × Hp)) (hk6 : ∀ (s : Hp) (x1 x2 x4 x5 : Int32), T G (k6 s x1 x2 x4 x5) s 6 [(0, rf G.1 4), (1, .int x1), (2, .int x2), (4, .int x4), (5, .int x5)] []) (s : Hp) (x1 x2 x4 x5 : Int32) : T G (f_X7_changeBehind_6 N k6 s x1 x2 x4 x5) s 6 [(0, rf G.1 4), (1, .int x1), (2, .int x2), (4, .int x4), (5, .int x5)] [] := by
  unfold f_X7_changeBehind_6
  refine tr_iload hX 4 dX7_changeBehind_6 rfl ?_
  refine tr_aload_n hX 0 dX7_changeBehind_8 rfl rfl ?_
  refine tr_getI hX 4 4 (by decide) rfl rfl rfl (by decide) gX7 wm_69 dX7_changeBehind_9 ?_
  refine tr_icmp_ge hX 98 dX7_changeBehind_12 (by decide) ?_ ?_
  · refine tr_iload hX 3 dX7_changeBehind_98 rfl ?_
    exact tr_iret hX hR dX7_changeBehind_100
  · refine tr_aload_n hX 0 dX7_changeBehind_15 rfl rfl ?_
    refine tr_getR hX 4 1 (by decide) rfl rfl rfl (by decide) gX7 wm_58 dX7_changeBehind_16 ?_
    refine tr_iload hX 4 dX7_changeBehind_19 rfl ?_
    refine tr_iald hX 6 (by decide) rfl dX7_changeBehind_21 ?_
    refine tr_iload_n hX 1 dX7_changeBehind_22 rfl rfl ?_
    refine tr_icmp_ne hX 54 dX7_changeBehind_23 (by decide) ?_ ?_
    · exact w_X7_changeBehind_54 hX hR hE N k6 hk6 s x1 x2 x4 x5
    · refine tr_aload_n hX 0 dX7_changeBehind_26 rfl rfl ?_
      refine tr_getR hX 4 2 (by decide) rfl rfl rfl (by decide) gX7 wm_61 dX7_changeBehind_27 ?_
      refine tr_iload hX 4 dX7_changeBehind_30 rfl ?_
      refine tr_iald hX 7 (by decide) rfl dX7_changeBehind_32 ?_
      refine tr_iload_n hX 2 dX7_changeBehind_33 rfl rfl ?_
      refine tr_icmp_le hX 54 dX7_changeBehind_34 (by decide) ?_ ?_
      · exact w_X7_changeBehind_54 hX hR hE N k6 hk6 s x1 x2 x4 x5
      · refine tr_iload hX 3 dX7_changeBehind_37 rfl ?_
        refine tr_aload_n hX 0 dX7_changeBehind_39 rfl rfl ?_
        refine tr_getR hX 4 2 (by decide) rfl rfl rfl (by decide) gX7 wm_61 dX7_changeBehind_40 ?_
        refine tr_iload hX 4 dX7_changeBehind_43 rfl ?_
        refine tr_iald hX 7 (by decide) rfl dX7_changeBehind_45 ?_
        refine tr_min hX wm_466 wm_375 wm_4 wm_376 (by decide) (Nat.le_of_ble_eq_true rfl) dX7_changeBehind_46 ?_
        refine tr_istoreB (lv2 := fun y1 => [(4, .int y1), (0, rf G.1 4), (1, .int x1), (2, .int x2), (5, .int x5)]) hX dX7_changeBehind_49 (by decide) (fun _ => rfl) fun y1 => ?_
        refine tr_goto hX 92 dX7_changeBehind_51 (by decide) ?_
        refine tr_lv (lv2 := [(0, rf G.1 4), (1, .int x1), (2, .int x2), (4, .int y1), (5, .int x5)]) [1, 2, 3, 0, 4] rfl ?_
        exact w_X7_changeBehind_92 hX hR hE N k6 hk6 s x1 x2 y1 x5
theorem wl_X7_changeBehind_6 {G : Gx} (hX : ok G cX7_changeBehind 6 RX7 (some .int) 1 21) (hR : okR G) (hE : va_D (AW G.1) (wd G.1 (fun _ _ => 0))) (N : Nat) : ∀ (n : Nat) (s : Hp) (x1 x2 x4 x5 : Int32), T G (lp (fun _ _ _ _ _ => none) (f_X7_changeBehind_6 N) n s x1 x2 x4 x5) s 6 [(0, rf G.1 4), (1, .int x1), (2, .int x2), (4, .int x4), (5, .int x5)] [] := by
  intro n
  induction n with
  | zero => exact fun s x1 x2 x4 x5 h => nomatch (show (none : Option (Int32 × Hp)) = some _ from h)
  | succ n ih => exact fun s x1 x2 x4 x5 => w_X7_changeBehind_6 hX hR hE N _ ih s x1 x2 x4 x5
set_option maxRecDepth 20000 in
set_option maxHeartbeats 2000000 in
theorem w_X7_changeBehind {G : Gx} (hX : ok G cX7_changeBehind 6 RX7 (some .int) 1 21) (hR : okR G) (hE : va_D (AW G.1) (wd G.1 (fun _ _ => 0))) (N : Nat) (s : Hp) (x1 x2 x3 : Int32) : T G (f_X7_changeBehind N s x1 x2 x3) s 0 [(0, rf G.1 4), (1, .int x1), (2, .int x2), (3, .int x3)] [] := by
  unfold f_X7_changeBehind
  refine tr_iload_n hX 3 dX7_changeBehind_0 rfl rfl ?_
  refine tr_istore (lv2 := [(4, .int x3), (0, rf G.1 4), (1, .int x1), (2, .int x2), (3, .int x3)]) hX dX7_changeBehind_1 (by decide) rfl ?_
  refine tr_iconst (v := 0) hX dX7_changeBehind_3 rfl ?_
  refine tr_istore (lv2 := [(5, .int 0), (4, .int x3), (0, rf G.1 4), (1, .int x1), (2, .int x2), (3, .int x3)]) hX dX7_changeBehind_4 (by decide) rfl ?_
  refine tr_lv (lv2 := [(0, rf G.1 4), (1, .int x1), (2, .int x2), (4, .int x3), (5, .int 0)]) [2, 3, 4, 1, 0] rfl ?_
  exact wl_X7_changeBehind_6 hX hR hE N N s x1 x2 x3 0
theorem c_X7_changeBehind (E : Ex) (hE : va_D (AW E) (wd E (fun _ _ => 0))) (N : Nat) (s : Hp) (x1 x2 x3 : Int32) (r : Int32 × Hp) (h : f_X7_changeBehind N s x1 x2 x3 = some r) : CtrI E yX7_changeBehind cX7_changeBehind 6 (some .int) 1 21 [rf E 4, .int x1, .int x2, .int x3] s r :=
  ctrI_of (by decide +kernel) hE (Nat.le_of_ble_eq_true rfl) h (fun G hX hR hG => by subst hG; exact w_X7_changeBehind hX hR hE N s x1 x2 x3)
set_option maxRecDepth 20000 in
set_option maxHeartbeats 2000000 in
theorem w_X7_changeBehind_b_92 {G : Gx} (hX : ok G cX7_changeBehind 6 RX7 (some .int) 1 21) (hR : okR G) (hE : va_D (AW G.1) (wd G.1 (fun _ _ => 0))) (N : Nat) (k6 : Hp → Int32 → Int32 → Int32 → Int32 → Option (Int32 × Hp)) (hk6 : ∀ (s : Hp) (x1 x2 x4 x5 : Int32), T G (k6 s x1 x2 x4 x5) s 6 [(0, rf G.1 10), (1, .int x1), (2, .int x2), (4, .int x4), (5, .int x5)] []) (s : Hp) (x1 x2 x4 x5 : Int32) : T G (f_X7_changeBehind_b_92 N k6 s x1 x2 x4 x5) s 92 [(0, rf G.1 10), (1, .int x1), (2, .int x2), (4, .int x4), (5, .int x5)] [] := by
  unfold f_X7_changeBehind_b_92
  refine tr_iincB (b := 1) (lv2 := fun y3 => [(5, .int y3), (0, rf G.1 10), (1, .int x1), (2, .int x2), (4, .int x4)]) hX 4 dX7_changeBehind_92 rfl rfl (by decide) (fun _ => rfl) fun y3 => ?_
  refine tr_goto hX 6 dX7_changeBehind_95 (by decide) ?_
  refine tr_lv (lv2 := [(0, rf G.1 10), (1, .int x1), (2, .int x2), (4, .int x4), (5, .int y3)]) [1, 2, 3, 4, 0] rfl ?_
  exact hk6 s x1 x2 x4 y3
set_option maxRecDepth 20000 in
set_option maxHeartbeats 2000000 in
theorem w_X7_changeBehind_b_54 {G : Gx} (hX : ok G cX7_changeBehind 6 RX7 (some .int) 1 21) (hR : okR G) (hE : va_D (AW G.1) (wd G.1 (fun _ _ => 0))) (N : Nat) (k6 : Hp → Int32 → Int32 → Int32 → Int32 → Option (Int32 × Hp)) (hk6 : ∀ (s : Hp) (x1 x2 x4 x5 : Int32), T G (k6 s x1 x2 x4 x5) s 6 [(0, rf G.1 10), (1, .int x1), (2, .int x2), (4, .int x4), (5, .int x5)] []) (s : Hp) (x1 x2 x4 x5 : Int32) : T G (f_X7_changeBehind_b_54 N k6 s x1 x2 x4 x5) s 54 [(0, rf G.1 10), (1, .int x1), (2, .int x2), (4, .int x4), (5, .int x5)] [] := by
  unfold f_X7_changeBehind_b_54
  refine tr_aload_n hX 0 dX7_changeBehind_54 rfl rfl ?_
  refine tr_getR hX 10 1 (by decide) rfl rfl rfl (by decide) gX7 wm_58 dX7_changeBehind_55 ?_
  refine tr_iload hX 4 dX7_changeBehind_58 rfl ?_
  refine tr_iald hX 12 (by decide) rfl dX7_changeBehind_60 ?_
  refine tr_iload_n hX 1 dX7_changeBehind_61 rfl rfl ?_
  refine tr_icmp_ne hX 92 dX7_changeBehind_62 (by decide) ?_ ?_
  · exact w_X7_changeBehind_b_92 hX hR hE N k6 hk6 s x1 x2 x4 x5
  · refine tr_aload_n hX 0 dX7_changeBehind_65 rfl rfl ?_
    refine tr_getR hX 10 3 (by decide) rfl rfl rfl (by decide) gX7 wm_65 dX7_changeBehind_66 ?_
    refine tr_iload hX 4 dX7_changeBehind_69 rfl ?_
    refine tr_iald hX 14 (by decide) rfl dX7_changeBehind_71 ?_
    refine tr_iload_n hX 2 dX7_changeBehind_72 rfl rfl ?_
    refine tr_icmp_lt hX 92 dX7_changeBehind_73 (by decide) ?_ ?_
    · exact w_X7_changeBehind_b_92 hX hR hE N k6 hk6 s x1 x2 x4 x5
    · refine tr_iload hX 3 dX7_changeBehind_76 rfl ?_
      refine tr_aload_n hX 0 dX7_changeBehind_78 rfl rfl ?_
      refine tr_getR hX 10 3 (by decide) rfl rfl rfl (by decide) gX7 wm_65 dX7_changeBehind_79 ?_
      refine tr_iload hX 4 dX7_changeBehind_82 rfl ?_
      refine tr_iald hX 14 (by decide) rfl dX7_changeBehind_84 ?_
      refine tr_iconst (v := 1) hX dX7_changeBehind_85 rfl ?_
      refine tr_iadd hX dX7_changeBehind_86 ?_
      refine tr_min hX wm_466 wm_375 wm_4 wm_376 (by decide) (Nat.le_of_ble_eq_true rfl) dX7_changeBehind_87 ?_
      refine tr_istoreB (lv2 := fun y2 => [(4, .int y2), (0, rf G.1 10), (1, .int x1), (2, .int x2), (5, .int x5)]) hX dX7_changeBehind_90 (by decide) (fun _ => rfl) fun y2 => ?_
      refine tr_lv (lv2 := [(0, rf G.1 10), (1, .int x1), (2, .int x2), (4, .int y2), (5, .int x5)]) [1, 2, 3, 0, 4] rfl ?_
      exact w_X7_changeBehind_b_92 hX hR hE N k6 hk6 s x1 x2 y2 x5
set_option maxRecDepth 20000 in
set_option maxHeartbeats 2000000 in
theorem w_X7_changeBehind_b_6 {G : Gx} (hX : ok G cX7_changeBehind 6 RX7 (some .int) 1 21) (hR : okR G) (hE : va_D (AW G.1) (wd G.1 (fun _ _ => 0))) (N : Nat) (k6 : Hp → Int32 → Int32 → Int32 → Int32 → Option (Int32 × Hp)) (hk6 : ∀ (s : Hp) (x1 x2 x4 x5 : Int32), T G (k6 s x1 x2 x4 x5) s 6 [(0, rf G.1 10), (1, .int x1), (2, .int x2), (4, .int x4), (5, .int x5)] []) (s : Hp) (x1 x2 x4 x5 : Int32) : T G (f_X7_changeBehind_b_6 N k6 s x1 x2 x4 x5) s 6 [(0, rf G.1 10), (1, .int x1), (2, .int x2), (4, .int x4), (5, .int x5)] [] := by
  unfold f_X7_changeBehind_b_6
  refine tr_iload hX 4 dX7_changeBehind_6 rfl ?_
  refine tr_aload_n hX 0 dX7_changeBehind_8 rfl rfl ?_
  refine tr_getI hX 10 4 (by decide) rfl rfl rfl (by decide) gX7 wm_69 dX7_changeBehind_9 ?_
  refine tr_icmp_ge hX 98 dX7_changeBehind_12 (by decide) ?_ ?_
  · refine tr_iload hX 3 dX7_changeBehind_98 rfl ?_
    exact tr_iret hX hR dX7_changeBehind_100
  · refine tr_aload_n hX 0 dX7_changeBehind_15 rfl rfl ?_
    refine tr_getR hX 10 1 (by decide) rfl rfl rfl (by decide) gX7 wm_58 dX7_changeBehind_16 ?_
    refine tr_iload hX 4 dX7_changeBehind_19 rfl ?_
    refine tr_iald hX 12 (by decide) rfl dX7_changeBehind_21 ?_
    refine tr_iload_n hX 1 dX7_changeBehind_22 rfl rfl ?_
    refine tr_icmp_ne hX 54 dX7_changeBehind_23 (by decide) ?_ ?_
    · exact w_X7_changeBehind_b_54 hX hR hE N k6 hk6 s x1 x2 x4 x5
    · refine tr_aload_n hX 0 dX7_changeBehind_26 rfl rfl ?_
      refine tr_getR hX 10 2 (by decide) rfl rfl rfl (by decide) gX7 wm_61 dX7_changeBehind_27 ?_
      refine tr_iload hX 4 dX7_changeBehind_30 rfl ?_
      refine tr_iald hX 13 (by decide) rfl dX7_changeBehind_32 ?_
      refine tr_iload_n hX 2 dX7_changeBehind_33 rfl rfl ?_
      refine tr_icmp_le hX 54 dX7_changeBehind_34 (by decide) ?_ ?_
      · exact w_X7_changeBehind_b_54 hX hR hE N k6 hk6 s x1 x2 x4 x5
      · refine tr_iload hX 3 dX7_changeBehind_37 rfl ?_
        refine tr_aload_n hX 0 dX7_changeBehind_39 rfl rfl ?_
        refine tr_getR hX 10 2 (by decide) rfl rfl rfl (by decide) gX7 wm_61 dX7_changeBehind_40 ?_
        refine tr_iload hX 4 dX7_changeBehind_43 rfl ?_
        refine tr_iald hX 13 (by decide) rfl dX7_changeBehind_45 ?_
        refine tr_min hX wm_466 wm_375 wm_4 wm_376 (by decide) (Nat.le_of_ble_eq_true rfl) dX7_changeBehind_46 ?_
        refine tr_istoreB (lv2 := fun y1 => [(4, .int y1), (0, rf G.1 10), (1, .int x1), (2, .int x2), (5, .int x5)]) hX dX7_changeBehind_49 (by decide) (fun _ => rfl) fun y1 => ?_
        refine tr_goto hX 92 dX7_changeBehind_51 (by decide) ?_
        refine tr_lv (lv2 := [(0, rf G.1 10), (1, .int x1), (2, .int x2), (4, .int y1), (5, .int x5)]) [1, 2, 3, 0, 4] rfl ?_
        exact w_X7_changeBehind_b_92 hX hR hE N k6 hk6 s x1 x2 y1 x5
theorem wl_X7_changeBehind_b_6 {G : Gx} (hX : ok G cX7_changeBehind 6 RX7 (some .int) 1 21) (hR : okR G) (hE : va_D (AW G.1) (wd G.1 (fun _ _ => 0))) (N : Nat) : ∀ (n : Nat) (s : Hp) (x1 x2 x4 x5 : Int32), T G (lp (fun _ _ _ _ _ => none) (f_X7_changeBehind_b_6 N) n s x1 x2 x4 x5) s 6 [(0, rf G.1 10), (1, .int x1), (2, .int x2), (4, .int x4), (5, .int x5)] [] := by
  intro n
  induction n with
  | zero => exact fun s x1 x2 x4 x5 h => nomatch (show (none : Option (Int32 × Hp)) = some _ from h)
  | succ n ih => exact fun s x1 x2 x4 x5 => w_X7_changeBehind_b_6 hX hR hE N _ ih s x1 x2 x4 x5
set_option maxRecDepth 20000 in
set_option maxHeartbeats 2000000 in
theorem w_X7_changeBehind_b {G : Gx} (hX : ok G cX7_changeBehind 6 RX7 (some .int) 1 21) (hR : okR G) (hE : va_D (AW G.1) (wd G.1 (fun _ _ => 0))) (N : Nat) (s : Hp) (x1 x2 x3 : Int32) : T G (f_X7_changeBehind_b N s x1 x2 x3) s 0 [(0, rf G.1 10), (1, .int x1), (2, .int x2), (3, .int x3)] [] := by
  unfold f_X7_changeBehind_b
  refine tr_iload_n hX 3 dX7_changeBehind_0 rfl rfl ?_
  refine tr_istore (lv2 := [(4, .int x3), (0, rf G.1 10), (1, .int x1), (2, .int x2), (3, .int x3)]) hX dX7_changeBehind_1 (by decide) rfl ?_
  refine tr_iconst (v := 0) hX dX7_changeBehind_3 rfl ?_
  refine tr_istore (lv2 := [(5, .int 0), (4, .int x3), (0, rf G.1 10), (1, .int x1), (2, .int x2), (3, .int x3)]) hX dX7_changeBehind_4 (by decide) rfl ?_
  refine tr_lv (lv2 := [(0, rf G.1 10), (1, .int x1), (2, .int x2), (4, .int x3), (5, .int 0)]) [2, 3, 4, 1, 0] rfl ?_
  exact wl_X7_changeBehind_b_6 hX hR hE N N s x1 x2 x3 0
theorem c_X7_changeBehind_b (E : Ex) (hE : va_D (AW E) (wd E (fun _ _ => 0))) (N : Nat) (s : Hp) (x1 x2 x3 : Int32) (r : Int32 × Hp) (h : f_X7_changeBehind_b N s x1 x2 x3 = some r) : CtrI E yX7_changeBehind cX7_changeBehind 6 (some .int) 1 21 [rf E 10, .int x1, .int x2, .int x3] s r :=
  ctrI_of (by decide +kernel) hE (Nat.le_of_ble_eq_true rfl) h (fun G hX hR hG => by subst hG; exact w_X7_changeBehind_b hX hR hE N s x1 x2 x3)
set_option maxRecDepth 20000 in
set_option maxHeartbeats 2000000 in
theorem w_X9_changeBehind {G : Gx} (hX : ok G cX9_changeBehind 4 RX9 (some .int) 2 46) (hR : okR G) (hE : va_D (AW G.1) (wd G.1 (fun _ _ => 0))) (N : Nat) (s : Hp) (x1 x2 x3 : Int32) : T G (f_X9_changeBehind N s x1 x2 x3) s 0 [(0, rf G.1 0), (1, .int x1), (2, .int x2), (3, .int x3)] [] := by
  unfold f_X9_changeBehind
  refine tr_aload_n hX 0 dX9_changeBehind_0 rfl rfl ?_
  refine tr_getR hX 0 2 (by decide) rfl rfl rfl (by decide) gX9 wm_290 dX9_changeBehind_1 ?_
  refine tr_getNR hX 9 0 (by decide) rfl rfl rfl (by decide) gX2 wm_97 dX9_changeBehind_4 ?_
  refine tr_iload_n hX 1 dX9_changeBehind_7 rfl rfl ?_
  refine tr_iload_n hX 2 dX9_changeBehind_8 rfl rfl ?_
  refine tr_aload_n hX 0 dX9_changeBehind_9 rfl rfl ?_
  refine tr_getR hX 0 1 (by decide) rfl rfl rfl (by decide) gX9 wm_289 dX9_changeBehind_10 ?_
  refine tr_iload_n hX 1 dX9_changeBehind_13 rfl rfl ?_
  refine tr_iload_n hX 2 dX9_changeBehind_14 rfl rfl ?_
  refine tr_iload_n hX 3 dX9_changeBehind_15 rfl rfl ?_
  refine tr_callV hX 4 [.int x1, .int x2, .int x3] kv_X7_changeBehind wm_462 (by decide) rfl rfl rfl (by decide) rfl rfl (Nat.le_of_ble_eq_true rfl) dX9_changeBehind_16 (fun vq sq hq => c_X7_changeBehind G.1 hE N s x1 x2 x3 (vq, sq) hq) fun v2 s1 => ?_
  refine tr_callV hX 10 [.int x1, .int x2, .int v2] kv_X7_changeBehind wm_462 (by decide) rfl rfl rfl (by decide) rfl rfl (Nat.le_of_ble_eq_true rfl) dX9_changeBehind_19 (fun vq sq hq => c_X7_changeBehind_b G.1 hE N s1 x1 x2 v2 (vq, sq) hq) fun v4 s3 => ?_
  exact tr_iret hX hR dX9_changeBehind_22
theorem c_X9_changeBehind (E : Ex) (hE : va_D (AW E) (wd E (fun _ _ => 0))) (N : Nat) (s : Hp) (x1 x2 x3 : Int32) (r : Int32 × Hp) (h : f_X9_changeBehind N s x1 x2 x3 = some r) : CtrI E yX9_changeBehind cX9_changeBehind 4 (some .int) 2 46 [rf E 0, .int x1, .int x2, .int x3] s r :=
  ctrI_of (by decide +kernel) hE (Nat.le_of_ble_eq_true rfl) h (fun G hX hR hG => by subst hG; exact w_X9_changeBehind hX hR hE N s x1 x2 x3)
set_option maxRecDepth 20000 in
set_option maxHeartbeats 2000000 in
theorem w_X7_holds_42 {G : Gx} (hX : ok G cX7_holds 4 RX7 (some .boolean) 0 0) (hR : okR G) (hE : va_D (AW G.1) (wd G.1 (fun _ _ => 0))) (N : Nat) (k2 : Hp → Int32 → Int32 → Int32 → Option (Int32 × Hp)) (hk2 : ∀ (s : Hp) (x1 x2 x3 : Int32), T G (k2 s x1 x2 x3) s 2 [(0, rf G.1 10), (1, .int x1), (2, .int x2), (3, .int x3)] []) (s : Hp) (x1 x2 x3 : Int32) : T G (f_X7_holds_42 N k2 s x1 x2 x3) s 42 [(0, rf G.1 10), (1, .int x1), (2, .int x2), (3, .int x3)] [] := by
  unfold f_X7_holds_42
  refine tr_iincB (b := 1) (lv2 := fun y1 => [(3, .int y1), (0, rf G.1 10), (1, .int x1), (2, .int x2)]) hX 3 dX7_holds_42 rfl rfl (by decide) (fun _ => rfl) fun y1 => ?_
  refine tr_goto hX 2 dX7_holds_45 (by decide) ?_
  refine tr_lv (lv2 := [(0, rf G.1 10), (1, .int x1), (2, .int x2), (3, .int y1)]) [1, 2, 3, 0] rfl ?_
  exact hk2 s x1 x2 y1
set_option maxRecDepth 20000 in
set_option maxHeartbeats 2000000 in
theorem w_X7_holds_2 {G : Gx} (hX : ok G cX7_holds 4 RX7 (some .boolean) 0 0) (hR : okR G) (hE : va_D (AW G.1) (wd G.1 (fun _ _ => 0))) (N : Nat) (k2 : Hp → Int32 → Int32 → Int32 → Option (Int32 × Hp)) (hk2 : ∀ (s : Hp) (x1 x2 x3 : Int32), T G (k2 s x1 x2 x3) s 2 [(0, rf G.1 10), (1, .int x1), (2, .int x2), (3, .int x3)] []) (s : Hp) (x1 x2 x3 : Int32) : T G (f_X7_holds_2 N k2 s x1 x2 x3) s 2 [(0, rf G.1 10), (1, .int x1), (2, .int x2), (3, .int x3)] [] := by
  unfold f_X7_holds_2
  refine tr_iload_n hX 3 dX7_holds_2 rfl rfl ?_
  refine tr_aload_n hX 0 dX7_holds_3 rfl rfl ?_
  refine tr_getI hX 10 4 (by decide) rfl rfl rfl (by decide) gX7 wm_69 dX7_holds_4 ?_
  refine tr_icmp_ge hX 48 dX7_holds_7 (by decide) ?_ ?_
  · refine tr_iconst (v := 0) hX dX7_holds_48 rfl ?_
    exact tr_zret hX hR rfl dX7_holds_49
  · refine tr_aload_n hX 0 dX7_holds_10 rfl rfl ?_
    refine tr_getR hX 10 1 (by decide) rfl rfl rfl (by decide) gX7 wm_58 dX7_holds_11 ?_
    refine tr_iload_n hX 3 dX7_holds_14 rfl rfl ?_
    refine tr_iald hX 12 (by decide) rfl dX7_holds_15 ?_
    refine tr_iload_n hX 1 dX7_holds_16 rfl rfl ?_
    refine tr_icmp_ne hX 42 dX7_holds_17 (by decide) ?_ ?_
    · exact w_X7_holds_42 hX hR hE N k2 hk2 s x1 x2 x3
    · refine tr_aload_n hX 0 dX7_holds_20 rfl rfl ?_
      refine tr_getR hX 10 2 (by decide) rfl rfl rfl (by decide) gX7 wm_61 dX7_holds_21 ?_
      refine tr_iload_n hX 3 dX7_holds_24 rfl rfl ?_
      refine tr_iald hX 13 (by decide) rfl dX7_holds_25 ?_
      refine tr_iload_n hX 2 dX7_holds_26 rfl rfl ?_
      refine tr_icmp_gt hX 42 dX7_holds_27 (by decide) ?_ ?_
      · exact w_X7_holds_42 hX hR hE N k2 hk2 s x1 x2 x3
      · refine tr_iload_n hX 2 dX7_holds_30 rfl rfl ?_
        refine tr_aload_n hX 0 dX7_holds_31 rfl rfl ?_
        refine tr_getR hX 10 3 (by decide) rfl rfl rfl (by decide) gX7 wm_65 dX7_holds_32 ?_
        refine tr_iload_n hX 3 dX7_holds_35 rfl rfl ?_
        refine tr_iald hX 14 (by decide) rfl dX7_holds_36 ?_
        refine tr_icmp_gt hX 42 dX7_holds_37 (by decide) ?_ ?_
        · exact w_X7_holds_42 hX hR hE N k2 hk2 s x1 x2 x3
        · refine tr_iconst (v := 1) hX dX7_holds_40 rfl ?_
          exact tr_zret hX hR rfl dX7_holds_41
theorem wl_X7_holds_2 {G : Gx} (hX : ok G cX7_holds 4 RX7 (some .boolean) 0 0) (hR : okR G) (hE : va_D (AW G.1) (wd G.1 (fun _ _ => 0))) (N : Nat) : ∀ (n : Nat) (s : Hp) (x1 x2 x3 : Int32), T G (lp (fun _ _ _ _ => none) (f_X7_holds_2 N) n s x1 x2 x3) s 2 [(0, rf G.1 10), (1, .int x1), (2, .int x2), (3, .int x3)] [] := by
  intro n
  induction n with
  | zero => exact fun s x1 x2 x3 h => nomatch (show (none : Option (Int32 × Hp)) = some _ from h)
  | succ n ih => exact fun s x1 x2 x3 => w_X7_holds_2 hX hR hE N _ ih s x1 x2 x3
set_option maxRecDepth 20000 in
set_option maxHeartbeats 2000000 in
theorem w_X7_holds {G : Gx} (hX : ok G cX7_holds 4 RX7 (some .boolean) 0 0) (hR : okR G) (hE : va_D (AW G.1) (wd G.1 (fun _ _ => 0))) (N : Nat) (s : Hp) (x1 x2 : Int32) : T G (f_X7_holds N s x1 x2) s 0 [(0, rf G.1 10), (1, .int x1), (2, .int x2)] [] := by
  unfold f_X7_holds
  refine tr_iconst (v := 0) hX dX7_holds_0 rfl ?_
  refine tr_istore_n (lv2 := [(3, .int 0), (0, rf G.1 10), (1, .int x1), (2, .int x2)]) hX dX7_holds_1 rfl (by decide) rfl ?_
  refine tr_lv (lv2 := [(0, rf G.1 10), (1, .int x1), (2, .int x2), (3, .int 0)]) [1, 2, 3, 0] rfl ?_
  exact wl_X7_holds_2 hX hR hE N N s x1 x2 0
theorem c_X7_holds (E : Ex) (hE : va_D (AW E) (wd E (fun _ _ => 0))) (N : Nat) (s : Hp) (x1 x2 : Int32) (r : Int32 × Hp) (h : f_X7_holds N s x1 x2 = some r) : CtrI E yX7_holds cX7_holds 4 (some .boolean) 0 0 [rf E 10, .int x1, .int x2] s r :=
  ctrI_of (by decide +kernel) hE (Nat.le_of_ble_eq_true rfl) h (fun G hX hR hG => by subst hG; exact w_X7_holds hX hR hE N s x1 x2)
set_option maxRecDepth 20000 in
set_option maxHeartbeats 2000000 in
theorem w_X7_holds_b_42 {G : Gx} (hX : ok G cX7_holds 4 RX7 (some .boolean) 0 0) (hR : okR G) (hE : va_D (AW G.1) (wd G.1 (fun _ _ => 0))) (N : Nat) (k2 : Hp → Int32 → Int32 → Int32 → Option (Int32 × Hp)) (hk2 : ∀ (s : Hp) (x1 x2 x3 : Int32), T G (k2 s x1 x2 x3) s 2 [(0, rf G.1 4), (1, .int x1), (2, .int x2), (3, .int x3)] []) (s : Hp) (x1 x2 x3 : Int32) : T G (f_X7_holds_b_42 N k2 s x1 x2 x3) s 42 [(0, rf G.1 4), (1, .int x1), (2, .int x2), (3, .int x3)] [] := by
  unfold f_X7_holds_b_42
  refine tr_iincB (b := 1) (lv2 := fun y1 => [(3, .int y1), (0, rf G.1 4), (1, .int x1), (2, .int x2)]) hX 3 dX7_holds_42 rfl rfl (by decide) (fun _ => rfl) fun y1 => ?_
  refine tr_goto hX 2 dX7_holds_45 (by decide) ?_
  refine tr_lv (lv2 := [(0, rf G.1 4), (1, .int x1), (2, .int x2), (3, .int y1)]) [1, 2, 3, 0] rfl ?_
  exact hk2 s x1 x2 y1
set_option maxRecDepth 20000 in
set_option maxHeartbeats 2000000 in
theorem w_X7_holds_b_2 {G : Gx} (hX : ok G cX7_holds 4 RX7 (some .boolean) 0 0) (hR : okR G) (hE : va_D (AW G.1) (wd G.1 (fun _ _ => 0))) (N : Nat) (k2 : Hp → Int32 → Int32 → Int32 → Option (Int32 × Hp)) (hk2 : ∀ (s : Hp) (x1 x2 x3 : Int32), T G (k2 s x1 x2 x3) s 2 [(0, rf G.1 4), (1, .int x1), (2, .int x2), (3, .int x3)] []) (s : Hp) (x1 x2 x3 : Int32) : T G (f_X7_holds_b_2 N k2 s x1 x2 x3) s 2 [(0, rf G.1 4), (1, .int x1), (2, .int x2), (3, .int x3)] [] := by
  unfold f_X7_holds_b_2
  refine tr_iload_n hX 3 dX7_holds_2 rfl rfl ?_
  refine tr_aload_n hX 0 dX7_holds_3 rfl rfl ?_
  refine tr_getI hX 4 4 (by decide) rfl rfl rfl (by decide) gX7 wm_69 dX7_holds_4 ?_
  refine tr_icmp_ge hX 48 dX7_holds_7 (by decide) ?_ ?_
  · refine tr_iconst (v := 0) hX dX7_holds_48 rfl ?_
    exact tr_zret hX hR rfl dX7_holds_49
  · refine tr_aload_n hX 0 dX7_holds_10 rfl rfl ?_
    refine tr_getR hX 4 1 (by decide) rfl rfl rfl (by decide) gX7 wm_58 dX7_holds_11 ?_
    refine tr_iload_n hX 3 dX7_holds_14 rfl rfl ?_
    refine tr_iald hX 6 (by decide) rfl dX7_holds_15 ?_
    refine tr_iload_n hX 1 dX7_holds_16 rfl rfl ?_
    refine tr_icmp_ne hX 42 dX7_holds_17 (by decide) ?_ ?_
    · exact w_X7_holds_b_42 hX hR hE N k2 hk2 s x1 x2 x3
    · refine tr_aload_n hX 0 dX7_holds_20 rfl rfl ?_
      refine tr_getR hX 4 2 (by decide) rfl rfl rfl (by decide) gX7 wm_61 dX7_holds_21 ?_
      refine tr_iload_n hX 3 dX7_holds_24 rfl rfl ?_
      refine tr_iald hX 7 (by decide) rfl dX7_holds_25 ?_
      refine tr_iload_n hX 2 dX7_holds_26 rfl rfl ?_
      refine tr_icmp_gt hX 42 dX7_holds_27 (by decide) ?_ ?_
      · exact w_X7_holds_b_42 hX hR hE N k2 hk2 s x1 x2 x3
      · refine tr_iload_n hX 2 dX7_holds_30 rfl rfl ?_
        refine tr_aload_n hX 0 dX7_holds_31 rfl rfl ?_
        refine tr_getR hX 4 3 (by decide) rfl rfl rfl (by decide) gX7 wm_65 dX7_holds_32 ?_
        refine tr_iload_n hX 3 dX7_holds_35 rfl rfl ?_
        refine tr_iald hX 8 (by decide) rfl dX7_holds_36 ?_
        refine tr_icmp_gt hX 42 dX7_holds_37 (by decide) ?_ ?_
        · exact w_X7_holds_b_42 hX hR hE N k2 hk2 s x1 x2 x3
        · refine tr_iconst (v := 1) hX dX7_holds_40 rfl ?_
          exact tr_zret hX hR rfl dX7_holds_41
theorem wl_X7_holds_b_2 {G : Gx} (hX : ok G cX7_holds 4 RX7 (some .boolean) 0 0) (hR : okR G) (hE : va_D (AW G.1) (wd G.1 (fun _ _ => 0))) (N : Nat) : ∀ (n : Nat) (s : Hp) (x1 x2 x3 : Int32), T G (lp (fun _ _ _ _ => none) (f_X7_holds_b_2 N) n s x1 x2 x3) s 2 [(0, rf G.1 4), (1, .int x1), (2, .int x2), (3, .int x3)] [] := by
  intro n
  induction n with
  | zero => exact fun s x1 x2 x3 h => nomatch (show (none : Option (Int32 × Hp)) = some _ from h)
  | succ n ih => exact fun s x1 x2 x3 => w_X7_holds_b_2 hX hR hE N _ ih s x1 x2 x3
set_option maxRecDepth 20000 in
set_option maxHeartbeats 2000000 in
theorem w_X7_holds_b {G : Gx} (hX : ok G cX7_holds 4 RX7 (some .boolean) 0 0) (hR : okR G) (hE : va_D (AW G.1) (wd G.1 (fun _ _ => 0))) (N : Nat) (s : Hp) (x1 x2 : Int32) : T G (f_X7_holds_b N s x1 x2) s 0 [(0, rf G.1 4), (1, .int x1), (2, .int x2)] [] := by
  unfold f_X7_holds_b
  refine tr_iconst (v := 0) hX dX7_holds_0 rfl ?_
  refine tr_istore_n (lv2 := [(3, .int 0), (0, rf G.1 4), (1, .int x1), (2, .int x2)]) hX dX7_holds_1 rfl (by decide) rfl ?_
  refine tr_lv (lv2 := [(0, rf G.1 4), (1, .int x1), (2, .int x2), (3, .int 0)]) [1, 2, 3, 0] rfl ?_
  exact wl_X7_holds_b_2 hX hR hE N N s x1 x2 0
theorem c_X7_holds_b (E : Ex) (hE : va_D (AW E) (wd E (fun _ _ => 0))) (N : Nat) (s : Hp) (x1 x2 : Int32) (r : Int32 × Hp) (h : f_X7_holds_b N s x1 x2 = some r) : CtrI E yX7_holds cX7_holds 4 (some .boolean) 0 0 [rf E 4, .int x1, .int x2] s r :=
  ctrI_of (by decide +kernel) hE (Nat.le_of_ble_eq_true rfl) h (fun G hX hR hG => by subst hG; exact w_X7_holds_b hX hR hE N s x1 x2)
set_option maxRecDepth 20000 in
set_option maxHeartbeats 2000000 in
theorem w_X9_stateAt {G : Gx} (hX : ok G cX9_stateAt 3 RX9 (some .int) 1 23) (hR : okR G) (hE : va_D (AW G.1) (wd G.1 (fun _ _ => 0))) (N : Nat) (s : Hp) (x1 x2 : Int32) : T G (f_X9_stateAt N s x1 x2) s 0 [(0, rf G.1 0), (1, .int x1), (2, .int x2)] [] := by
  unfold f_X9_stateAt
  refine tr_aload_n hX 0 dX9_stateAt_0 rfl rfl ?_
  refine tr_getR hX 0 2 (by decide) rfl rfl rfl (by decide) gX9 wm_290 dX9_stateAt_1 ?_
  refine tr_getNR hX 9 0 (by decide) rfl rfl rfl (by decide) gX2 wm_97 dX9_stateAt_4 ?_
  refine tr_iload_n hX 1 dX9_stateAt_7 rfl rfl ?_
  refine tr_iload_n hX 2 dX9_stateAt_8 rfl rfl ?_
  refine tr_callV hX 10 [.int x1, .int x2] kv_X7_holds wm_471 (by decide) rfl rfl rfl (by decide) rfl rfl (Nat.le_of_ble_eq_true rfl) dX9_stateAt_9 (fun vq sq hq => c_X7_holds G.1 hE N s x1 x2 (vq, sq) hq) fun v2 s1 => ?_
  refine tr_if_eq hX 17 dX9_stateAt_12 (by decide) ?_ ?_
  · refine tr_aload_n hX 0 dX9_stateAt_17 rfl rfl ?_
    refine tr_getR hX 0 1 (by decide) rfl rfl rfl (by decide) gX9 wm_289 dX9_stateAt_18 ?_
    refine tr_iload_n hX 1 dX9_stateAt_21 rfl rfl ?_
    refine tr_iload_n hX 2 dX9_stateAt_22 rfl rfl ?_
    refine tr_callV hX 4 [.int x1, .int x2] kv_X7_holds wm_471 (by decide) rfl rfl rfl (by decide) rfl rfl (Nat.le_of_ble_eq_true rfl) dX9_stateAt_23 (fun vq sq hq => c_X7_holds_b G.1 hE N s1 x1 x2 (vq, sq) hq) fun v4 s3 => ?_
    refine tr_if_eq hX 33 dX9_stateAt_26 (by decide) ?_ ?_
    · refine tr_iconst (v := 2) hX dX9_stateAt_33 rfl ?_
      exact tr_iret hX hR dX9_stateAt_34
    · refine tr_iconst (v := 1) hX dX9_stateAt_29 rfl ?_
      refine tr_goto hX 34 dX9_stateAt_30 (by decide) ?_
      exact tr_iret hX hR dX9_stateAt_34
  · refine tr_iconst (v := 0) hX dX9_stateAt_15 rfl ?_
    exact tr_iret hX hR dX9_stateAt_16
theorem c_X9_stateAt (E : Ex) (hE : va_D (AW E) (wd E (fun _ _ => 0))) (N : Nat) (s : Hp) (x1 x2 : Int32) (r : Int32 × Hp) (h : f_X9_stateAt N s x1 x2 = some r) : CtrI E yX9_stateAt cX9_stateAt 3 (some .int) 1 23 [rf E 0, .int x1, .int x2] s r :=
  ctrI_of (by decide +kernel) hE (Nat.le_of_ble_eq_true rfl) h (fun G hX hR hG => by subst hG; exact w_X9_stateAt hX hR hE N s x1 x2)
set_option maxRecDepth 20000 in
set_option maxHeartbeats 2000000 in
theorem w_X9_minutes_77 {G : Gx} (hX : ok G cX9_minutes 8 RX9 (some .int) 3 69) (hR : okR G) (hE : va_D (AW G.1) (wd G.1 (fun _ _ => 0))) (N : Nat) (k37 : Hp → Int32 → Int32 → Int32 → Int32 → Int32 → Option (Int32 × Hp)) (hk37 : ∀ (s : Hp) (x1 x3 x4 x5 x7 : Int32), T G (k37 s x1 x3 x4 x5 x7) s 37 [(0, rf G.1 0), (1, .int x1), (3, .int x3), (4, .int x4), (5, .int x5), (7, .int x7)] []) (s : Hp) (x1 x3 x4 x5 x6 x7 : Int32) : T G (f_X9_minutes_77 N k37 s x1 x3 x4 x5 x6 x7) s 77 [(0, rf G.1 0), (1, .int x1), (3, .int x3), (4, .int x4), (5, .int x5), (6, .int x6), (7, .int x7)] [] := by
  unfold f_X9_minutes_77
  refine tr_iload hX 6 dX9_minutes_77 rfl ?_
  refine tr_iconst (v := 1) hX dX9_minutes_79 rfl ?_
  refine tr_iadd hX dX9_minutes_80 ?_
  refine tr_iload hX 5 dX9_minutes_81 rfl ?_
  refine tr_max hX wm_475 wm_53 wm_4 wm_54 (by decide) (Nat.le_of_ble_eq_true rfl) dX9_minutes_83 ?_
  refine tr_istoreB (lv2 := fun y12 => [(7, .int y12), (0, rf G.1 0), (1, .int x1), (3, .int x3), (4, .int x4), (5, .int x5), (6, .int x6)]) hX dX9_minutes_86 (by decide) (fun _ => rfl) fun y12 => ?_
  refine tr_goto hX 37 dX9_minutes_88 (by decide) ?_
  refine tr_lv (lv2 := [(0, rf G.1 0), (1, .int x1), (3, .int x3), (4, .int x4), (5, .int x5), (7, .int y12)]) [1, 2, 3, 4, 5, 0] rfl ?_
  exact hk37 s x1 x3 x4 x5 y12
set_option maxRecDepth 20000 in
set_option maxHeartbeats 2000000 in
theorem w_X9_minutes_37 {G : Gx} (hX : ok G cX9_minutes 8 RX9 (some .int) 3 69) (hR : okR G) (hE : va_D (AW G.1) (wd G.1 (fun _ _ => 0))) (N : Nat) (k37 : Hp → Int32 → Int32 → Int32 → Int32 → Int32 → Option (Int32 × Hp)) (hk37 : ∀ (s : Hp) (x1 x3 x4 x5 x7 : Int32), T G (k37 s x1 x3 x4 x5 x7) s 37 [(0, rf G.1 0), (1, .int x1), (3, .int x3), (4, .int x4), (5, .int x5), (7, .int x7)] []) (s : Hp) (x1 x3 x4 x5 x7 : Int32) : T G (f_X9_minutes_37 N k37 s x1 x3 x4 x5 x7) s 37 [(0, rf G.1 0), (1, .int x1), (3, .int x3), (4, .int x4), (5, .int x5), (7, .int x7)] [] := by
  unfold f_X9_minutes_37
  refine tr_iload hX 5 dX9_minutes_37 rfl ?_
  refine tr_iload_n hX 2 dX9_minutes_39 rfl rfl ?_
  refine tr_icmp_gt hX 91 dX9_minutes_40 (by decide) ?_ ?_
  · refine tr_iload hX 4 dX9_minutes_91 rfl ?_
    exact tr_iret hX hR dX9_minutes_93
  · refine tr_aload_n hX 0 dX9_minutes_43 rfl rfl ?_
    refine tr_iload_n hX 1 dX9_minutes_44 rfl rfl ?_
    refine tr_iload hX 5 dX9_minutes_45 rfl ?_
    refine tr_iload_n hX 2 dX9_minutes_47 rfl rfl ?_
    refine tr_iconst (v := 1) hX dX9_minutes_48 rfl ?_
    refine tr_iadd hX dX9_minutes_49 ?_
    refine tr_callV hX 0 [.int x1, .int x7, .int (x3 + 1)] kv_X9_changeBehind wm_458 (by decide) rfl rfl rfl (by decide) rfl rfl (Nat.le_of_ble_eq_true rfl) dX9_minutes_50 (fun vq sq hq => c_X9_changeBehind G.1 hE N s x1 x7 (x3 + 1) (vq, sq) hq) fun v8 s7 => ?_
    refine tr_istore (lv2 := [(6, .int v8), (0, rf G.1 0), (1, .int x1), (3, .int x3), (4, .int x4), (5, .int x5), (7, .int x7)]) hX dX9_minutes_53 (by decide) rfl ?_
    refine tr_aload_n hX 1 dX9_minutes_55 rfl rfl ?_
    refine tr_iload_n hX 2 dX9_minutes_56 rfl rfl ?_
    refine tr_iload hX 6 dX9_minutes_57 rfl ?_
    refine tr_callV hX 0 [.int x1, .int x7] kv_X9_stateAt wm_467 (by decide) rfl rfl rfl (by decide) rfl rfl (Nat.le_of_ble_eq_true rfl) dX9_minutes_59 (fun vq sq hq => c_X9_stateAt G.1 hE N s7 x1 x7 (vq, sq) hq) fun v10 s9 => ?_
    refine tr_iload hX 4 dX9_minutes_62 rfl ?_
    refine tr_icmp_ne hX 77 dX9_minutes_64 (by decide) ?_ ?_
    · refine tr_lv (lv2 := [(0, rf G.1 0), (1, .int x1), (3, .int x3), (4, .int x4), (5, .int x5), (6, .int v8), (7, .int x7)]) [1, 2, 3, 4, 5, 0, 6] rfl ?_
      exact w_X9_minutes_77 hX hR hE N k37 hk37 s9 x1 x3 x4 x5 v8 x7
    · refine tr_iload hX 5 dX9_minutes_67 rfl ?_
      refine tr_iload hX 0 dX9_minutes_69 rfl ?_
      refine tr_iload hX 6 dX9_minutes_71 rfl ?_
      refine tr_isub hX dX9_minutes_73 ?_
      refine tr_iadd hX dX9_minutes_74 ?_
      refine tr_istoreB (lv2 := fun y11 => [(5, .int y11), (6, .int v8), (0, rf G.1 0), (1, .int x1), (3, .int x3), (4, .int x4), (7, .int x7)]) hX dX9_minutes_75 (by decide) (fun _ => rfl) fun y11 => ?_
      refine tr_lv (lv2 := [(0, rf G.1 0), (1, .int x1), (3, .int x3), (4, .int x4), (5, .int y11), (6, .int v8), (7, .int x7)]) [2, 3, 4, 5, 0, 1, 6] rfl ?_
      exact w_X9_minutes_77 hX hR hE N k37 hk37 s9 x1 x3 x4 y11 v8 x7
theorem wl_X9_minutes_37 {G : Gx} (hX : ok G cX9_minutes 8 RX9 (some .int) 3 69) (hR : okR G) (hE : va_D (AW G.1) (wd G.1 (fun _ _ => 0))) (N : Nat) : ∀ (n : Nat) (s : Hp) (x1 x3 x4 x5 x7 : Int32), T G (lp (fun _ _ _ _ _ _ => none) (f_X9_minutes_37 N) n s x1 x3 x4 x5 x7) s 37 [(0, rf G.1 0), (1, .int x1), (3, .int x3), (4, .int x4), (5, .int x5), (7, .int x7)] [] := by
  intro n
  induction n with
  | zero => exact fun s x1 x3 x4 x5 x7 h => nomatch (show (none : Option (Int32 × Hp)) = some _ from h)
  | succ n ih => exact fun s x1 x3 x4 x5 x7 => w_X9_minutes_37 hX hR hE N _ ih s x1 x3 x4 x5 x7
set_option maxRecDepth 20000 in
set_option maxHeartbeats 2000000 in
theorem w_X9_minutes {G : Gx} (hX : ok G cX9_minutes 8 RX9 (some .int) 3 69) (hR : okR G) (hE : va_D (AW G.1) (wd G.1 (fun _ _ => 0))) (N : Nat) (s : Hp) (x1 x2 x3 x4 : Int32) : T G (f_X9_minutes N s x1 x2 x3 x4) s 0 [(0, rf G.1 0), (1, .int x1), (2, .int x2), (3, .int x3), (4, .int x4)] [] := by
  unfold f_X9_minutes
  refine tr_iload_n hX 1 dX9_minutes_0 rfl rfl ?_
  refine tr_bipush (v := 16) hX dX9_minutes_1 rfl ?_
  refine tr_callS hX [.int x1, .int 16] ks_X9_isBelow wm_320 (by decide) rfl rfl (Nat.le_of_ble_eq_true rfl) dX9_minutes_3 (fun vq sq hq => c_X9_isBelow G.1 hE N s x1 16 (vq, sq) hq) fun v2 s1 => ?_
  refine tr_if_eq hX 26 dX9_minutes_6 (by decide) ?_ ?_
  · refine tr_iconst (v := (-1)) hX dX9_minutes_26 rfl ?_
    exact tr_iret hX hR dX9_minutes_27
  · refine tr_iload_n hX 2 dX9_minutes_9 rfl rfl ?_
    refine tr_iload_n hX 3 dX9_minutes_10 rfl rfl ?_
    refine tr_callS hX [.int x2, .int x3] ks_X9_isStretch wm_335 (by decide) rfl rfl (Nat.le_of_ble_eq_true rfl) dX9_minutes_11 (fun vq sq hq => c_X9_isStretch G.1 hE N s1 x2 x3 (vq, sq) hq) fun v4 s3 => ?_
    refine tr_if_eq hX 26 dX9_minutes_14 (by decide) ?_ ?_
    · refine tr_iconst (v := (-1)) hX dX9_minutes_26 rfl ?_
      exact tr_iret hX hR dX9_minutes_27
    · refine tr_iload hX 4 dX9_minutes_17 rfl ?_
      refine tr_iconst (v := 3) hX dX9_minutes_19 rfl ?_
      refine tr_callS hX [.int x4, .int 3] ks_X9_isBelow wm_320 (by decide) rfl rfl (Nat.le_of_ble_eq_true rfl) dX9_minutes_20 (fun vq sq hq => c_X9_isBelow G.1 hE N s3 x4 3 (vq, sq) hq) fun v6 s5 => ?_
      refine tr_if_ne hX 28 dX9_minutes_23 (by decide) ?_ ?_
      · refine tr_iconst (v := 0) hX dX9_minutes_28 rfl ?_
        refine tr_istore (lv2 := [(5, .int 0), (0, rf G.1 0), (1, .int x1), (2, .int x2), (3, .int x3), (4, .int x4)]) hX dX9_minutes_29 (by decide) rfl ?_
        refine tr_iload_n hX 3 dX9_minutes_31 rfl rfl ?_
        refine tr_istore (lv2 := [(6, .int x2), (5, .int 0), (0, rf G.1 0), (1, .int x1), (2, .int x2), (3, .int x3), (4, .int x4)]) hX dX9_minutes_32 (by decide) rfl ?_
        refine tr_iload_n hX 4 dX9_minutes_34 rfl rfl ?_
        refine tr_istore (lv2 := [(7, .int x2), (6, .int x2), (5, .int 0), (0, rf G.1 0), (1, .int x1), (2, .int x2), (3, .int x3), (4, .int x4)]) hX dX9_minutes_35 (by decide) rfl ?_
        refine tr_lv (lv2 := [(0, rf G.1 0), (1, .int x1), (3, .int x3), (4, .int x4), (5, .int 0), (7, .int x2)]) [3, 4, 6, 7, 2, 0] rfl ?_
        exact wl_X9_minutes_37 hX hR hE N N s5 x1 x3 x4 0 x2
      · refine tr_iconst (v := (-1)) hX dX9_minutes_26 rfl ?_
        exact tr_iret hX hR dX9_minutes_27
theorem c_X9_minutes (E : Ex) (hE : va_D (AW E) (wd E (fun _ _ => 0))) (N : Nat) (s : Hp) (x1 x2 x3 x4 : Int32) (r : Int32 × Hp) (h : f_X9_minutes N s x1 x2 x3 x4 = some r) : CtrI E yX9_minutes cX9_minutes 8 (some .int) 3 69 [rf E 0, .int x1, .int x2, .int x3, .int x4] s r :=
  ctrI_of (by decide +kernel) hE (Nat.le_of_ble_eq_true rfl) h (fun G hX hR hG => by subst hG; exact w_X9_minutes hX hR hE N s x1 x2 x3 x4)
set_option maxRecDepth 20000 in
set_option maxHeartbeats 2000000 in
theorem w_X9_blind_69 {G : Gx} (hX : ok G cX9_blind 7 RX9 (some .int) 3 69) (hR : okR G) (hE : va_D (AW G.1) (wd G.1 (fun _ _ => 0))) (N : Nat) (k28 : Hp → Int32 → Int32 → Int32 → Int32 → Option (Int32 × Hp)) (hk28 : ∀ (s : Hp) (x1 x3 x4 x6 : Int32), T G (k28 s x1 x3 x4 x6) s 28 [(0, rf G.1 0), (1, .int x1), (3, .int x3), (4, .int x4), (6, .int x6)] []) (s : Hp) (x1 x3 x4 x5 x6 : Int32) : T G (f_X9_blind_69 N k28 s x1 x3 x4 x5 x6) s 69 [(0, rf G.1 0), (1, .int x1), (3, .int x3), (4, .int x4), (5, .int x5), (6, .int x6)] [] := by
  unfold f_X9_blind_69
  refine tr_iload hX 5 dX9_blind_69 rfl ?_
  refine tr_iconst (v := 1) hX dX9_blind_71 rfl ?_
  refine tr_iadd hX dX9_blind_72 ?_
  refine tr_iload hX 4 dX9_blind_73 rfl ?_
  refine tr_max hX wm_475 wm_53 wm_4 wm_54 (by decide) (Nat.le_of_ble_eq_true rfl) dX9_blind_75 ?_
  refine tr_istoreB (lv2 := fun y10 => [(6, .int y10), (0, rf G.1 0), (1, .int x1), (3, .int x3), (4, .int x4), (5, .int x5)]) hX dX9_blind_78 (by decide) (fun _ => rfl) fun y10 => ?_
  refine tr_goto hX 28 dX9_blind_80 (by decide) ?_
  refine tr_lv (lv2 := [(0, rf G.1 0), (1, .int x1), (3, .int x3), (4, .int x4), (6, .int y10)]) [1, 2, 3, 4, 0] rfl ?_
  exact hk28 s x1 x3 x4 y10
set_option maxRecDepth 20000 in
set_option maxHeartbeats 2000000 in
theorem w_X9_blind_28 {G : Gx} (hX : ok G cX9_blind 7 RX9 (some .int) 3 69) (hR : okR G) (hE : va_D (AW G.1) (wd G.1 (fun _ _ => 0))) (N : Nat) (k28 : Hp → Int32 → Int32 → Int32 → Int32 → Option (Int32 × Hp)) (hk28 : ∀ (s : Hp) (x1 x3 x4 x6 : Int32), T G (k28 s x1 x3 x4 x6) s 28 [(0, rf G.1 0), (1, .int x1), (3, .int x3), (4, .int x4), (6, .int x6)] []) (s : Hp) (x1 x3 x4 x6 : Int32) : T G (f_X9_blind_28 N k28 s x1 x3 x4 x6) s 28 [(0, rf G.1 0), (1, .int x1), (3, .int x3), (4, .int x4), (6, .int x6)] [] := by
  unfold f_X9_blind_28
  refine tr_iload hX 4 dX9_blind_28 rfl ?_
  refine tr_iload_n hX 2 dX9_blind_30 rfl rfl ?_
  refine tr_icmp_gt hX 83 dX9_blind_31 (by decide) ?_ ?_
  · refine tr_iload hX 3 dX9_blind_83 rfl ?_
    exact tr_iret hX hR dX9_blind_85
  · refine tr_aload_n hX 0 dX9_blind_34 rfl rfl ?_
    refine tr_iload_n hX 1 dX9_blind_35 rfl rfl ?_
    refine tr_iload hX 4 dX9_blind_36 rfl ?_
    refine tr_iload_n hX 2 dX9_blind_38 rfl rfl ?_
    refine tr_iconst (v := 1) hX dX9_blind_39 rfl ?_
    refine tr_iadd hX dX9_blind_40 ?_
    refine tr_callV hX 0 [.int x1, .int x6, .int (x3 + 1)] kv_X9_changeBehind wm_458 (by decide) rfl rfl rfl (by decide) rfl rfl (Nat.le_of_ble_eq_true rfl) dX9_blind_41 (fun vq sq hq => c_X9_changeBehind G.1 hE N s x1 x6 (x3 + 1) (vq, sq) hq) fun v6 s5 => ?_
    refine tr_istore (lv2 := [(5, .int v6), (0, rf G.1 0), (1, .int x1), (3, .int x3), (4, .int x4), (6, .int x6)]) hX dX9_blind_44 (by decide) rfl ?_
    refine tr_aload_n hX 1 dX9_blind_46 rfl rfl ?_
    refine tr_iload_n hX 2 dX9_blind_47 rfl rfl ?_
    refine tr_iload hX 5 dX9_blind_48 rfl ?_
    refine tr_callV hX 0 [.int x1, .int x6] kv_X9_stateAt wm_467 (by decide) rfl rfl rfl (by decide) rfl rfl (Nat.le_of_ble_eq_true rfl) dX9_blind_50 (fun vq sq hq => c_X9_stateAt G.1 hE N s5 x1 x6 (vq, sq) hq) fun v8 s7 => ?_
    refine tr_iconst (v := 2) hX dX9_blind_53 rfl ?_
    refine tr_icmp_ne hX 69 dX9_blind_54 (by decide) ?_ ?_
    · refine tr_lv (lv2 := [(0, rf G.1 0), (1, .int x1), (3, .int x3), (4, .int x4), (5, .int v6), (6, .int x6)]) [1, 2, 3, 4, 0, 5] rfl ?_
      exact w_X9_blind_69 hX hR hE N k28 hk28 s7 x1 x3 x4 v6 x6
    · refine tr_iload hX 4 dX9_blind_57 rfl ?_
      refine tr_iload hX 0 dX9_blind_59 rfl ?_
      refine tr_iload hX 5 dX9_blind_61 rfl ?_
      refine tr_isub hX dX9_blind_63 ?_
      refine tr_max hX wm_475 wm_53 wm_4 wm_54 (by decide) (Nat.le_of_ble_eq_true rfl) dX9_blind_64 ?_
      refine tr_istoreB (lv2 := fun y9 => [(4, .int y9), (5, .int v6), (0, rf G.1 0), (1, .int x1), (3, .int x3), (6, .int x6)]) hX dX9_blind_67 (by decide) (fun _ => rfl) fun y9 => ?_
      refine tr_lv (lv2 := [(0, rf G.1 0), (1, .int x1), (3, .int x3), (4, .int y9), (5, .int v6), (6, .int x6)]) [2, 3, 4, 0, 1, 5] rfl ?_
      exact w_X9_blind_69 hX hR hE N k28 hk28 s7 x1 x3 y9 v6 x6
theorem wl_X9_blind_28 {G : Gx} (hX : ok G cX9_blind 7 RX9 (some .int) 3 69) (hR : okR G) (hE : va_D (AW G.1) (wd G.1 (fun _ _ => 0))) (N : Nat) : ∀ (n : Nat) (s : Hp) (x1 x3 x4 x6 : Int32), T G (lp (fun _ _ _ _ _ => none) (f_X9_blind_28 N) n s x1 x3 x4 x6) s 28 [(0, rf G.1 0), (1, .int x1), (3, .int x3), (4, .int x4), (6, .int x6)] [] := by
  intro n
  induction n with
  | zero => exact fun s x1 x3 x4 x6 h => nomatch (show (none : Option (Int32 × Hp)) = some _ from h)
  | succ n ih => exact fun s x1 x3 x4 x6 => w_X9_blind_28 hX hR hE N _ ih s x1 x3 x4 x6
set_option maxRecDepth 20000 in
set_option maxHeartbeats 2000000 in
theorem w_X9_blind {G : Gx} (hX : ok G cX9_blind 7 RX9 (some .int) 3 69) (hR : okR G) (hE : va_D (AW G.1) (wd G.1 (fun _ _ => 0))) (N : Nat) (s : Hp) (x1 x2 x3 : Int32) : T G (f_X9_blind N s x1 x2 x3) s 0 [(0, rf G.1 0), (1, .int x1), (2, .int x2), (3, .int x3)] [] := by
  unfold f_X9_blind
  refine tr_iload_n hX 1 dX9_blind_0 rfl rfl ?_
  refine tr_bipush (v := 16) hX dX9_blind_1 rfl ?_
  refine tr_callS hX [.int x1, .int 16] ks_X9_isBelow wm_320 (by decide) rfl rfl (Nat.le_of_ble_eq_true rfl) dX9_blind_3 (fun vq sq hq => c_X9_isBelow G.1 hE N s x1 16 (vq, sq) hq) fun v2 s1 => ?_
  refine tr_if_eq hX 17 dX9_blind_6 (by decide) ?_ ?_
  · refine tr_iconst (v := (-1)) hX dX9_blind_17 rfl ?_
    exact tr_iret hX hR dX9_blind_18
  · refine tr_iload_n hX 2 dX9_blind_9 rfl rfl ?_
    refine tr_iload_n hX 3 dX9_blind_10 rfl rfl ?_
    refine tr_callS hX [.int x2, .int x3] ks_X9_isStretch wm_335 (by decide) rfl rfl (Nat.le_of_ble_eq_true rfl) dX9_blind_11 (fun vq sq hq => c_X9_isStretch G.1 hE N s1 x2 x3 (vq, sq) hq) fun v4 s3 => ?_
    refine tr_if_ne hX 19 dX9_blind_14 (by decide) ?_ ?_
    · refine tr_iconst (v := 0) hX dX9_blind_19 rfl ?_
      refine tr_istore (lv2 := [(4, .int 0), (0, rf G.1 0), (1, .int x1), (2, .int x2), (3, .int x3)]) hX dX9_blind_20 (by decide) rfl ?_
      refine tr_iload_n hX 3 dX9_blind_22 rfl rfl ?_
      refine tr_istore (lv2 := [(5, .int x2), (4, .int 0), (0, rf G.1 0), (1, .int x1), (2, .int x2), (3, .int x3)]) hX dX9_blind_23 (by decide) rfl ?_
      refine tr_iload_n hX 4 dX9_blind_25 rfl rfl ?_
      refine tr_istore (lv2 := [(6, .int x2), (5, .int x2), (4, .int 0), (0, rf G.1 0), (1, .int x1), (2, .int x2), (3, .int x3)]) hX dX9_blind_26 (by decide) rfl ?_
      refine tr_lv (lv2 := [(0, rf G.1 0), (1, .int x1), (3, .int x3), (4, .int 0), (6, .int x2)]) [3, 4, 6, 2, 0] rfl ?_
      exact wl_X9_blind_28 hX hR hE N N s3 x1 x3 0 x2
    · refine tr_iconst (v := (-1)) hX dX9_blind_17 rfl ?_
      exact tr_iret hX hR dX9_blind_18
theorem c_X9_blind (E : Ex) (hE : va_D (AW E) (wd E (fun _ _ => 0))) (N : Nat) (s : Hp) (x1 x2 x3 : Int32) (r : Int32 × Hp) (h : f_X9_blind N s x1 x2 x3 = some r) : CtrI E yX9_blind cX9_blind 7 (some .int) 3 69 [rf E 0, .int x1, .int x2, .int x3] s r :=
  ctrI_of (by decide +kernel) hE (Nat.le_of_ble_eq_true rfl) h (fun G hX hR hG => by subst hG; exact w_X9_blind hX hR hE N s x1 x2 x3)
