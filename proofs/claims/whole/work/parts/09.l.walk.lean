set_option maxRecDepth 20000 in
set_option maxHeartbeats 2000000 in
theorem w_X10_about_27 {G : Gx} (hX : ok G cX10_about 4 RX10 (some .int) 0 0) (hR : okR G) (hE : va_D (AW G.1) (wd G.1 (fun _ _ => 0))) (N : Nat) (k4 : Hp → Int32 → Int32 → Int32 → Option (Int32 × Hp)) (hk4 : ∀ (s : Hp) (x1 x2 x3 : Int32), T G (k4 s x1 x2 x3) s 4 [(0, rf G.1 36), (1, .int x1), (2, .int x2), (3, .int x3)] []) (s : Hp) (x1 x3 t0 t1 : Int32) : T G (f_X10_about_27 N k4 s x1 x3 t0 t1) s 27 [(0, rf G.1 36), (1, .int x1), (3, .int x3)] [.int t1, .int t0] := by
  unfold f_X10_about_27
  refine tr_iadd hX dX10_about_27 ?_
  refine tr_istore_nB (lv2 := fun y1 => [(2, .int y1), (0, rf G.1 36), (1, .int x1), (3, .int x3)]) hX dX10_about_28 rfl (by decide) (fun _ => rfl) fun y1 => ?_
  refine tr_iincB (b := 1) (lv2 := fun y2 => [(3, .int y2), (2, .int y1), (0, rf G.1 36), (1, .int x1)]) hX 3 dX10_about_29 rfl rfl (by decide) (fun _ => rfl) fun y2 => ?_
  refine tr_goto hX 4 dX10_about_32 (by decide) ?_
  refine tr_lv (lv2 := [(0, rf G.1 36), (1, .int x1), (2, .int y1), (3, .int y2)]) [2, 3, 1, 0] rfl ?_
  exact hk4 s x1 y1 y2
set_option maxRecDepth 20000 in
set_option maxHeartbeats 2000000 in
theorem w_X10_about_4 {G : Gx} (hX : ok G cX10_about 4 RX10 (some .int) 0 0) (hR : okR G) (hE : va_D (AW G.1) (wd G.1 (fun _ _ => 0))) (N : Nat) (k4 : Hp → Int32 → Int32 → Int32 → Option (Int32 × Hp)) (hk4 : ∀ (s : Hp) (x1 x2 x3 : Int32), T G (k4 s x1 x2 x3) s 4 [(0, rf G.1 36), (1, .int x1), (2, .int x2), (3, .int x3)] []) (s : Hp) (x1 x2 x3 : Int32) : T G (f_X10_about_4 N k4 s x1 x2 x3) s 4 [(0, rf G.1 36), (1, .int x1), (2, .int x2), (3, .int x3)] [] := by
  unfold f_X10_about_4
  refine tr_iload_n hX 3 dX10_about_4 rfl rfl ?_
  refine tr_aload_n hX 0 dX10_about_5 rfl rfl ?_
  refine tr_getI hX 36 8 (by decide) rfl rfl rfl (by decide) gX10 wm_704 dX10_about_6 ?_
  refine tr_icmp_ge hX 35 dX10_about_9 (by decide) ?_ ?_
  · refine tr_iload_n hX 1 dX10_about_35 rfl rfl ?_
    refine tr_split (fun hs36_0 => ?_) (fun hs36_0 => ?_)
    · refine tr_tab hX 84 hs36_0 dX10_about_36 (by decide) (by decide) rfl (by decide) ?_
      refine tr_aload_n hX 0 dX10_about_84 rfl rfl ?_
      refine tr_getI hX 36 0 (by decide) rfl rfl rfl (by decide) gX10 wm_696 dX10_about_85 ?_
      exact tr_iret hX hR dX10_about_88
    · refine tr_split (fun hs36_1 => ?_) (fun hs36_1 => ?_)
      · refine tr_tab hX 89 hs36_1 dX10_about_36 (by decide) (by decide) rfl (by decide) ?_
        refine tr_aload_n hX 0 dX10_about_89 rfl rfl ?_
        refine tr_getI hX 36 3 (by decide) rfl rfl rfl (by decide) gX10 wm_699 dX10_about_90 ?_
        exact tr_iret hX hR dX10_about_93
      · refine tr_split (fun hs36_2 => ?_) (fun hs36_2 => ?_)
        · refine tr_tab hX 94 hs36_2 dX10_about_36 (by decide) (by decide) rfl (by decide) ?_
          refine tr_aload_n hX 0 dX10_about_94 rfl rfl ?_
          refine tr_getI hX 36 8 (by decide) rfl rfl rfl (by decide) gX10 wm_704 dX10_about_95 ?_
          exact tr_iret hX hR dX10_about_98
        · refine tr_split (fun hs36_3 => ?_) (fun hs36_3 => ?_)
          · refine tr_tab hX 99 hs36_3 dX10_about_36 (by decide) (by decide) rfl (by decide) ?_
            refine tr_aload_n hX 0 dX10_about_99 rfl rfl ?_
            refine tr_getI hX 36 23 (by decide) rfl rfl rfl (by decide) gX10 wm_719 dX10_about_100 ?_
            exact tr_iret hX hR dX10_about_103
          · refine tr_split (fun hs36_4 => ?_) (fun hs36_4 => ?_)
            · refine tr_tab hX 104 hs36_4 dX10_about_36 (by decide) (by decide) rfl (by decide) ?_
              refine tr_aload_n hX 0 dX10_about_104 rfl rfl ?_
              refine tr_getI hX 36 16 (by decide) rfl rfl rfl (by decide) gX10 wm_712 dX10_about_105 ?_
              exact tr_iret hX hR dX10_about_108
            · refine tr_split (fun hs36_5 => ?_) (fun hs36_5 => ?_)
              · refine tr_tab hX 109 hs36_5 dX10_about_36 (by decide) (by decide) rfl (by decide) ?_
                refine tr_aload_n hX 0 dX10_about_109 rfl rfl ?_
                refine tr_getI hX 36 17 (by decide) rfl rfl rfl (by decide) gX10 wm_713 dX10_about_110 ?_
                exact tr_iret hX hR dX10_about_113
              · refine tr_split (fun hs36_6 => ?_) (fun hs36_6 => ?_)
                · refine tr_tab hX 114 hs36_6 dX10_about_36 (by decide) (by decide) rfl (by decide) ?_
                  refine tr_aload_n hX 0 dX10_about_114 rfl rfl ?_
                  refine tr_getI hX 36 22 (by decide) rfl rfl rfl (by decide) gX10 wm_718 dX10_about_115 ?_
                  exact tr_iret hX hR dX10_about_118
                · refine tr_split (fun hs36_7 => ?_) (fun hs36_7 => ?_)
                  · refine tr_tab hX 119 hs36_7 dX10_about_36 (by decide) (by decide) rfl (by decide) ?_
                    refine tr_iload_n hX 2 dX10_about_119 rfl rfl ?_
                    exact tr_iret hX hR dX10_about_120
                  · refine tr_tabO hX 121 dX10_about_36 (by have q0 := lv_neT (a := 0) hs36_0 rfl; have q1 := lv_neT (a := 1) hs36_1 rfl; have q2 := lv_neT (a := 2) hs36_2 rfl; have q3 := lv_neT (a := 3) hs36_3 rfl; have q4 := lv_neT (a := 4) hs36_4 rfl; have q5 := lv_neT (a := 5) hs36_5 rfl; have q6 := lv_neT (a := 6) hs36_6 rfl; have q7 := lv_neT (a := 7) hs36_7 rfl; omega) (by decide) ?_
                    refine tr_iconst (v := (-1)) hX dX10_about_121 rfl ?_
                    exact tr_iret hX hR dX10_about_122
  · refine tr_iload_n hX 2 dX10_about_12 rfl rfl ?_
    refine tr_aload_n hX 0 dX10_about_13 rfl rfl ?_
    refine tr_getR hX 36 14 (by decide) rfl rfl rfl (by decide) gX10 wm_710 dX10_about_14 ?_
    refine tr_iload_n hX 3 dX10_about_17 rfl rfl ?_
    refine tr_zald hX 48 (by decide) rfl dX10_about_18 ?_
    refine tr_if_eq hX 26 dX10_about_19 (by decide) ?_ ?_
    · refine tr_iconst (v := 0) hX dX10_about_26 rfl ?_
      refine tr_lv (lv2 := [(0, rf G.1 36), (1, .int x1), (3, .int x3)]) [0, 1, 3] rfl ?_
      exact w_X10_about_27 hX hR hE N k4 hk4 s x1 x3 x2 0
    · refine tr_iconst (v := 1) hX dX10_about_22 rfl ?_
      refine tr_goto hX 27 dX10_about_23 (by decide) ?_
      refine tr_lv (lv2 := [(0, rf G.1 36), (1, .int x1), (3, .int x3)]) [0, 1, 3] rfl ?_
      exact w_X10_about_27 hX hR hE N k4 hk4 s x1 x3 x2 1
theorem wl_X10_about_4 {G : Gx} (hX : ok G cX10_about 4 RX10 (some .int) 0 0) (hR : okR G) (hE : va_D (AW G.1) (wd G.1 (fun _ _ => 0))) (N : Nat) : ∀ (n : Nat) (s : Hp) (x1 x2 x3 : Int32), T G (lp (fun _ _ _ _ => none) (f_X10_about_4 N) n s x1 x2 x3) s 4 [(0, rf G.1 36), (1, .int x1), (2, .int x2), (3, .int x3)] [] := by
  intro n
  induction n with
  | zero => exact fun s x1 x2 x3 h => nomatch (show (none : Option (Int32 × Hp)) = some _ from h)
  | succ n ih => exact fun s x1 x2 x3 => w_X10_about_4 hX hR hE N _ ih s x1 x2 x3
set_option maxRecDepth 20000 in
set_option maxHeartbeats 2000000 in
theorem w_X10_about {G : Gx} (hX : ok G cX10_about 4 RX10 (some .int) 0 0) (hR : okR G) (hE : va_D (AW G.1) (wd G.1 (fun _ _ => 0))) (N : Nat) (s : Hp) (x1 : Int32) : T G (f_X10_about N s x1) s 0 [(0, rf G.1 36), (1, .int x1)] [] := by
  unfold f_X10_about
  refine tr_iconst (v := 0) hX dX10_about_0 rfl ?_
  refine tr_istore_n (lv2 := [(2, .int 0), (0, rf G.1 36), (1, .int x1)]) hX dX10_about_1 rfl (by decide) rfl ?_
  refine tr_iconst (v := 0) hX dX10_about_2 rfl ?_
  refine tr_istore_n (lv2 := [(3, .int 0), (2, .int 0), (0, rf G.1 36), (1, .int x1)]) hX dX10_about_3 rfl (by decide) rfl ?_
  refine tr_lv (lv2 := [(0, rf G.1 36), (1, .int x1), (2, .int 0), (3, .int 0)]) [2, 3, 1, 0] rfl ?_
  exact wl_X10_about_4 hX hR hE N N s x1 0 0
theorem c_X10_about (E : Ex) (hE : va_D (AW E) (wd E (fun _ _ => 0))) (N : Nat) (s : Hp) (x1 : Int32) (r : Int32 × Hp) (h : f_X10_about N s x1 = some r) : CtrI E yX10_about cX10_about 4 (some .int) 0 0 [rf E 36, .int x1] s r :=
  ctrI_of (by decide +kernel) hE (Nat.le_of_ble_eq_true rfl) h (fun G hX hR hG => by subst hG; exact w_X10_about hX hR hE N s x1)
