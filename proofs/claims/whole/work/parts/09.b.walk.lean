set_option maxRecDepth 20000 in
set_option maxHeartbeats 2000000 in
theorem w_X9_isSide {G : Gx} (hX : ok G cX9_isSide 1 RX9 (some .boolean) 0 0) (hR : okR G) (hE : va_D (AW G.1) (wd G.1 (fun _ _ => 0))) (N : Nat) (s : Hp) (x0 : Int32) : T G (f_X9_isSide N s x0) s 0 [(0, .int x0)] [] := by
  unfold f_X9_isSide
  refine tr_iload_n hX 0 dX9_isSide_0 rfl rfl ?_
  refine tr_bipush (v := (-100)) hX dX9_isSide_1 rfl ?_
  refine tr_icmp_lt hX 16 dX9_isSide_3 (by decide) ?_ ?_
  · refine tr_iconst (v := 0) hX dX9_isSide_16 rfl ?_
    exact tr_zret hX hR rfl dX9_isSide_17
  · refine tr_iload_n hX 0 dX9_isSide_6 rfl rfl ?_
    refine tr_bipush (v := 100) hX dX9_isSide_7 rfl ?_
    refine tr_icmp_gt hX 16 dX9_isSide_9 (by decide) ?_ ?_
    · refine tr_iconst (v := 0) hX dX9_isSide_16 rfl ?_
      exact tr_zret hX hR rfl dX9_isSide_17
    · refine tr_iconst (v := 1) hX dX9_isSide_12 rfl ?_
      refine tr_goto hX 17 dX9_isSide_13 (by decide) ?_
      exact tr_zret hX hR rfl dX9_isSide_17
theorem c_X9_isSide (E : Ex) (hE : va_D (AW E) (wd E (fun _ _ => 0))) (N : Nat) (s : Hp) (x0 : Int32) (r : Int32 × Hp) (h : f_X9_isSide N s x0 = some r) : CtrI E yX9_isSide cX9_isSide 1 (some .boolean) 0 0 [.int x0] s r :=
  ctrI_of (by decide +kernel) hE (Nat.le_of_ble_eq_true rfl) h (fun G hX hR hG => by subst hG; exact w_X9_isSide hX hR hE N s x0)
set_option maxRecDepth 20000 in
set_option maxHeartbeats 2000000 in
theorem w_X2_clearFields_28 {G : Gx} (hX : ok G cX2_clearFields 3 RX2 none 0 0) (hR : okV G) (hE : va_D (AW G.1) (wd G.1 (fun _ _ => 0))) (N : Nat) (k28 : Hp → Int32 → Int32 → Option (Int32 × Hp)) (hk28 : ∀ (s : Hp) (x1 x2 : Int32), T G (k28 s x1 x2) s 28 [(0, rf G.1 9), (1, .int x1), (2, .int x2)] []) (s : Hp) (x1 x2 : Int32) : T G (f_X2_clearFields_28 N k28 s x1 x2) s 28 [(0, rf G.1 9), (1, .int x1), (2, .int x2)] [] := by
  unfold f_X2_clearFields_28
  refine tr_iload_n hX 2 dX2_clearFields_28 rfl rfl ?_
  refine tr_bipush (v := 32) hX dX2_clearFields_29 rfl ?_
  refine tr_icmp_ge hX 49 dX2_clearFields_31 (by decide) ?_ ?_
  · exact tr_vret hX hR dX2_clearFields_49
  · refine tr_aload_n hX 0 dX2_clearFields_34 rfl rfl ?_
    refine tr_getR hX 9 3 (by decide) rfl rfl rfl (by decide) gX2 wm_102 dX2_clearFields_35 ?_
    refine tr_iload_n hX 1 dX2_clearFields_38 rfl rfl ?_
    refine tr_aald hX 17 (by decide) rfl dX2_clearFields_39 (fun hr3 => ?_)
    refine tr_iload_n hX 2 dX2_clearFields_40 rfl rfl ?_
    refine tr_iconst (v := 0) hX dX2_clearFields_41 rfl ?_
    refine tr_iast hX (58 + ix x1) (rw_c58 hr3) (rw_s58 hr3) dX2_clearFields_42 fun s4 => ?_
    refine tr_iincB (b := 1) (lv2 := fun y5 => [(2, .int y5), (0, rf G.1 9), (1, .int x1)]) hX 2 dX2_clearFields_43 rfl rfl (by decide) (fun _ => rfl) fun y5 => ?_
    refine tr_goto hX 28 dX2_clearFields_46 (by decide) ?_
    refine tr_lv (lv2 := [(0, rf G.1 9), (1, .int x1), (2, .int y5)]) [1, 2, 0] rfl ?_
    exact hk28 s4 x1 y5
theorem wl_X2_clearFields_28 {G : Gx} (hX : ok G cX2_clearFields 3 RX2 none 0 0) (hR : okV G) (hE : va_D (AW G.1) (wd G.1 (fun _ _ => 0))) (N : Nat) : ∀ (n : Nat) (s : Hp) (x1 x2 : Int32), T G (lp (fun _ _ _ => none) (f_X2_clearFields_28 N) n s x1 x2) s 28 [(0, rf G.1 9), (1, .int x1), (2, .int x2)] [] := by
  intro n
  induction n with
  | zero => exact fun s x1 x2 h => nomatch (show (none : Option (Int32 × Hp)) = some _ from h)
  | succ n ih => exact fun s x1 x2 => w_X2_clearFields_28 hX hR hE N _ ih s x1 x2
set_option maxRecDepth 20000 in
set_option maxHeartbeats 2000000 in
theorem w_X2_clearFields_26 {G : Gx} (hX : ok G cX2_clearFields 3 RX2 none 0 0) (hR : okV G) (hE : va_D (AW G.1) (wd G.1 (fun _ _ => 0))) (N : Nat) (s : Hp) (x1 : Int32) : T G (f_X2_clearFields_26 N s x1) s 26 [(0, rf G.1 9), (1, .int x1)] [] := by
  unfold f_X2_clearFields_26
  refine tr_iconst (v := 0) hX dX2_clearFields_26 rfl ?_
  refine tr_istore_n (lv2 := [(2, .int 0), (0, rf G.1 9), (1, .int x1)]) hX dX2_clearFields_27 rfl (by decide) rfl ?_
  refine tr_lv (lv2 := [(0, rf G.1 9), (1, .int x1), (2, .int 0)]) [1, 2, 0] rfl ?_
  exact wl_X2_clearFields_28 hX hR hE N N s x1 0
set_option maxRecDepth 20000 in
set_option maxHeartbeats 2000000 in
theorem w_X2_clearFields {G : Gx} (hX : ok G cX2_clearFields 3 RX2 none 0 0) (hR : okV G) (hE : va_D (AW G.1) (wd G.1 (fun _ _ => 0))) (N : Nat) (s : Hp) (x1 : Int32) : T G (f_X2_clearFields N s x1) s 0 [(0, rf G.1 9), (1, .int x1)] [] := by
  unfold f_X2_clearFields
  refine tr_aload_n hX 0 dX2_clearFields_0 rfl rfl ?_
  refine tr_getR hX 9 2 (by decide) rfl rfl rfl (by decide) gX2 wm_100 dX2_clearFields_1 ?_
  refine tr_iload_n hX 1 dX2_clearFields_4 rfl rfl ?_
  refine tr_zald hX 16 (by decide) rfl dX2_clearFields_5 ?_
  refine tr_if_ne hX 26 dX2_clearFields_6 (by decide) ?_ ?_
  · exact w_X2_clearFields_26 hX hR hE N s x1
  · refine tr_aload_n hX 0 dX2_clearFields_9 rfl rfl ?_
    refine tr_getR hX 9 2 (by decide) rfl rfl rfl (by decide) gX2 wm_100 dX2_clearFields_10 ?_
    refine tr_iload_n hX 1 dX2_clearFields_13 rfl rfl ?_
    refine tr_iconst (v := 1) hX dX2_clearFields_14 rfl ?_
    refine tr_zast hX 16 (by decide) rfl rfl dX2_clearFields_15 fun s1 => ?_
    refine tr_aload_n hX 0 dX2_clearFields_16 rfl rfl ?_
    refine tr_dup hX dX2_clearFields_17 rfl ?_
    refine tr_getI hX 9 4 (by decide) rfl rfl rfl (by decide) gX2 wm_104 dX2_clearFields_18 ?_
    refine tr_iconst (v := 1) hX dX2_clearFields_21 rfl ?_
    refine tr_iadd hX dX2_clearFields_22 ?_
    refine tr_putI hX 9 4 tyX2 tyX2_ok nmX2 (by decide) rfl rfl rfl (by decide) gX2 wm_104 rfl (by decide +kernel) dX2_clearFields_23 fun s2 => ?_
    exact w_X2_clearFields_26 hX hR hE N s2 x1
theorem c_X2_clearFields (E : Ex) (hE : va_D (AW E) (wd E (fun _ _ => 0))) (N : Nat) (s : Hp) (x1 : Int32) (r : Int32 × Hp) (h : f_X2_clearFields N s x1 = some r) : CtrV E yX2_clearFields cX2_clearFields 3 none 0 0 [rf E 9, .int x1] s r :=
  ctrV_of (by decide +kernel) hE (Nat.le_of_ble_eq_true rfl) h (fun G hX hR hG => by subst hG; exact w_X2_clearFields hX hR hE N s x1)
set_option maxRecDepth 20000 in
set_option maxHeartbeats 2000000 in
theorem w_X2_addField {G : Gx} (hX : ok G cX2_addField 3 RX2 none 0 0) (hR : okV G) (hE : va_D (AW G.1) (wd G.1 (fun _ _ => 0))) (N : Nat) (s : Hp) (x1 x2 : Int32) : T G (f_X2_addField N s x1 x2) s 0 [(0, rf G.1 9), (1, .int x1), (2, .int x2)] [] := by
  unfold f_X2_addField
  refine tr_aload_n hX 0 dX2_addField_0 rfl rfl ?_
  refine tr_getR hX 9 3 (by decide) rfl rfl rfl (by decide) gX2 wm_102 dX2_addField_1 ?_
  refine tr_iload_n hX 1 dX2_addField_4 rfl rfl ?_
  refine tr_aald hX 17 (by decide) rfl dX2_addField_5 (fun hr1 => ?_)
  refine tr_iload_n hX 2 dX2_addField_6 rfl rfl ?_
  refine tr_bipush (v := 32) hX dX2_addField_7 rfl ?_
  refine tr_idivC hX dX2_addField_9 (by decide) ?_
  refine tr_dup2 hX dX2_addField_10 rfl rfl ?_
  refine tr_iald hX (58 + ix x1) (rw_c58 hr1) (rw_s58 hr1) dX2_addField_11 ?_
  refine tr_iconst (v := 1) hX dX2_addField_12 rfl ?_
  refine tr_iload_n hX 2 dX2_addField_13 rfl rfl ?_
  refine tr_bipush (v := 32) hX dX2_addField_14 rfl ?_
  refine tr_iremC hX dX2_addField_16 (by decide) ?_
  refine tr_ishl hX dX2_addField_17 ?_
  refine tr_ior hX dX2_addField_18 ?_
  refine tr_iast hX (58 + ix x1) (rw_c58 hr1) (rw_s58 hr1) dX2_addField_19 fun s2 => ?_
  exact tr_vret hX hR dX2_addField_20
theorem c_X2_addField (E : Ex) (hE : va_D (AW E) (wd E (fun _ _ => 0))) (N : Nat) (s : Hp) (x1 x2 : Int32) (r : Int32 × Hp) (h : f_X2_addField N s x1 x2 = some r) : CtrV E yX2_addField cX2_addField 3 none 0 0 [rf E 9, .int x1, .int x2] s r :=
  ctrV_of (by decide +kernel) hE (Nat.le_of_ble_eq_true rfl) h (fun G hX hR hG => by subst hG; exact w_X2_addField hX hR hE N s x1 x2)
set_option maxRecDepth 20000 in
set_option maxHeartbeats 2000000 in
theorem w_X9_wedge_166 {G : Gx} (hX : ok G cX9_wedge 10 RX9 (some .boolean) 1 22) (hR : okR G) (hE : va_D (AW G.1) (wd G.1 (fun _ _ => 0))) (N : Nat) (k86 : Hp → Int32 → Int32 → Int32 → Int32 → Int32 → Int32 → Int32 → Option (Int32 × Hp)) (hk86 : ∀ (s : Hp) (x1 x2 x3 x4 x5 x6 x7 : Int32), T G (k86 s x1 x2 x3 x4 x5 x6 x7) s 86 [(0, rf G.1 0), (1, .int x1), (2, .int x2), (3, .int x3), (4, .int x4), (5, .int x5), (6, .int x6), (7, .int x7)] []) (s : Hp) (x1 x2 x3 x4 x5 x6 x7 : Int32) : T G (f_X9_wedge_166 N k86 s x1 x2 x3 x4 x5 x6 x7) s 166 [(0, rf G.1 0), (1, .int x1), (2, .int x2), (3, .int x3), (4, .int x4), (5, .int x5), (6, .int x6), (7, .int x7)] [] := by
  unfold f_X9_wedge_166
  refine tr_iincB (b := 1) (lv2 := fun y18 => [(7, .int y18), (0, rf G.1 0), (1, .int x1), (2, .int x2), (3, .int x3), (4, .int x4), (5, .int x5), (6, .int x6)]) hX 7 dX9_wedge_166 rfl rfl (by decide) (fun _ => rfl) fun y18 => ?_
  refine tr_goto hX 86 dX9_wedge_169 (by decide) ?_
  refine tr_lv (lv2 := [(0, rf G.1 0), (1, .int x1), (2, .int x2), (3, .int x3), (4, .int x4), (5, .int x5), (6, .int x6), (7, .int y18)]) [1, 2, 3, 4, 5, 6, 7, 0] rfl ?_
  exact hk86 s x1 x2 x3 x4 x5 x6 y18
set_option maxRecDepth 20000 in
set_option maxHeartbeats 2000000 in
theorem w_X9_wedge_86 {G : Gx} (hX : ok G cX9_wedge 10 RX9 (some .boolean) 1 22) (hR : okR G) (hE : va_D (AW G.1) (wd G.1 (fun _ _ => 0))) (N : Nat) (k86 : Hp → Int32 → Int32 → Int32 → Int32 → Int32 → Int32 → Int32 → Option (Int32 × Hp)) (hk86 : ∀ (s : Hp) (x1 x2 x3 x4 x5 x6 x7 : Int32), T G (k86 s x1 x2 x3 x4 x5 x6 x7) s 86 [(0, rf G.1 0), (1, .int x1), (2, .int x2), (3, .int x3), (4, .int x4), (5, .int x5), (6, .int x6), (7, .int x7)] []) (s : Hp) (x1 x2 x3 x4 x5 x6 x7 : Int32) : T G (f_X9_wedge_86 N k86 s x1 x2 x3 x4 x5 x6 x7) s 86 [(0, rf G.1 0), (1, .int x1), (2, .int x2), (3, .int x3), (4, .int x4), (5, .int x5), (6, .int x6), (7, .int x7)] [] := by
  unfold f_X9_wedge_86
  refine tr_iload hX 7 dX9_wedge_86 rfl ?_
  refine tr_sipush (v := 1024) hX dX9_wedge_88 rfl ?_
  refine tr_icmp_ge hX 172 dX9_wedge_91 (by decide) ?_ ?_
  · refine tr_iconst (v := 1) hX dX9_wedge_172 rfl ?_
    exact tr_zret hX hR rfl dX9_wedge_173
  · refine tr_iload hX 7 dX9_wedge_94 rfl ?_
    refine tr_bipush (v := 32) hX dX9_wedge_96 rfl ?_
    refine tr_iremC hX dX9_wedge_98 (by decide) ?_
    refine tr_aload_n hX 0 dX9_wedge_99 rfl rfl ?_
    refine tr_getR hX 0 0 (by decide) rfl rfl rfl (by decide) gX9 wm_288 dX9_wedge_100 ?_
    refine tr_getNR hX 1 0 (by decide) rfl rfl rfl (by decide) gX4 wm_33 dX9_wedge_103 ?_
    refine tr_iload hX 6 dX9_wedge_106 rfl ?_
    refine tr_iald hX 2 (by decide) rfl dX9_wedge_108 ?_
    refine tr_isub hX dX9_wedge_109 ?_
    refine tr_istoreB (lv2 := fun y14 => [(8, .int y14), (0, rf G.1 0), (1, .int x1), (2, .int x2), (3, .int x3), (4, .int x4), (5, .int x5), (6, .int x6), (7, .int x7)]) hX dX9_wedge_110 (by decide) (fun _ => rfl) fun y14 => ?_
    refine tr_iload hX 8 dX9_wedge_112 rfl ?_
    refine tr_bipush (v := 32) hX dX9_wedge_114 rfl ?_
    refine tr_idivC hX dX9_wedge_116 (by decide) ?_
    refine tr_aload_n hX 1 dX9_wedge_117 rfl rfl ?_
    refine tr_getR hX 0 0 (by decide) rfl rfl rfl (by decide) gX9 wm_288 dX9_wedge_118 ?_
    refine tr_getNR hX 1 1 (by decide) rfl rfl rfl (by decide) gX4 wm_35 dX9_wedge_121 ?_
    refine tr_iload hX 7 dX9_wedge_124 rfl ?_
    refine tr_iald hX 3 (by decide) rfl dX9_wedge_126 ?_
    refine tr_isub hX dX9_wedge_127 ?_
    refine tr_istoreB (lv2 := fun y15 => [(9, .int y15), (8, .int y14), (0, rf G.1 0), (1, .int x1), (2, .int x2), (3, .int x3), (4, .int x4), (5, .int x5), (6, .int x6), (7, .int x7)]) hX dX9_wedge_128 (by decide) (fun _ => rfl) fun y15 => ?_
    refine tr_iload_n hX 4 dX9_wedge_130 rfl rfl ?_
    refine tr_iload hX 0 dX9_wedge_131 rfl ?_
    refine tr_imul hX dX9_wedge_133 ?_
    refine tr_iload_n hX 5 dX9_wedge_134 rfl rfl ?_
    refine tr_iload hX 1 dX9_wedge_135 rfl ?_
    refine tr_imul hX dX9_wedge_137 ?_
    refine tr_isub hX dX9_wedge_138 ?_
    refine tr_if_lt hX 166 dX9_wedge_139 (by decide) ?_ ?_
    · refine tr_lv (lv2 := [(0, rf G.1 0), (1, .int x1), (2, .int x2), (3, .int x3), (4, .int x4), (5, .int x5), (6, .int x6), (7, .int x7)]) [2, 3, 4, 5, 6, 7, 8, 9] rfl ?_
      exact w_X9_wedge_166 hX hR hE N k86 hk86 s x1 x2 x3 x4 x5 x6 x7
    · refine tr_iload hX 1 dX9_wedge_142 rfl ?_
      refine tr_iload hX 7 dX9_wedge_144 rfl ?_
      refine tr_imul hX dX9_wedge_146 ?_
      refine tr_iload hX 0 dX9_wedge_147 rfl ?_
      refine tr_iload hX 6 dX9_wedge_149 rfl ?_
      refine tr_imul hX dX9_wedge_151 ?_
      refine tr_isub hX dX9_wedge_152 ?_
      refine tr_if_lt hX 166 dX9_wedge_153 (by decide) ?_ ?_
      · refine tr_lv (lv2 := [(0, rf G.1 0), (1, .int x1), (2, .int x2), (3, .int x3), (4, .int x4), (5, .int x5), (6, .int x6), (7, .int x7)]) [2, 3, 4, 5, 6, 7, 8, 9] rfl ?_
        exact w_X9_wedge_166 hX hR hE N k86 hk86 s x1 x2 x3 x4 x5 x6 x7
      · refine tr_aload_n hX 2 dX9_wedge_156 rfl rfl ?_
        refine tr_getR hX 0 2 (by decide) rfl rfl rfl (by decide) gX9 wm_290 dX9_wedge_157 ?_
        refine tr_iload_n hX 3 dX9_wedge_160 rfl rfl ?_
        refine tr_iload hX 9 dX9_wedge_161 rfl ?_
        refine tr_callVv hX 9 [.int x1, .int x7] kv_X2_addField wm_393 (by decide) rfl rfl rfl (by decide) rfl rfl (Nat.le_of_ble_eq_true rfl) dX9_wedge_163 (fun vq sq hq => c_X2_addField G.1 hE N s x1 x7 (vq, sq) hq) fun v17 s16 => ?_
        refine tr_lv (lv2 := [(0, rf G.1 0), (1, .int x1), (2, .int x2), (3, .int x3), (4, .int x4), (5, .int x5), (6, .int x6), (7, .int x7)]) [2, 3, 4, 5, 6, 7, 8, 9] rfl ?_
        exact w_X9_wedge_166 hX hR hE N k86 hk86 s16 x1 x2 x3 x4 x5 x6 x7
theorem wl_X9_wedge_86 {G : Gx} (hX : ok G cX9_wedge 10 RX9 (some .boolean) 1 22) (hR : okR G) (hE : va_D (AW G.1) (wd G.1 (fun _ _ => 0))) (N : Nat) : ∀ (n : Nat) (s : Hp) (x1 x2 x3 x4 x5 x6 x7 : Int32), T G (lp (fun _ _ _ _ _ _ _ _ => none) (f_X9_wedge_86 N) n s x1 x2 x3 x4 x5 x6 x7) s 86 [(0, rf G.1 0), (1, .int x1), (2, .int x2), (3, .int x3), (4, .int x4), (5, .int x5), (6, .int x6), (7, .int x7)] [] := by
  intro n
  induction n with
  | zero => exact fun s x1 x2 x3 x4 x5 x6 x7 h => nomatch (show (none : Option (Int32 × Hp)) = some _ from h)
  | succ n ih => exact fun s x1 x2 x3 x4 x5 x6 x7 => w_X9_wedge_86 hX hR hE N _ ih s x1 x2 x3 x4 x5 x6 x7
set_option maxRecDepth 20000 in
set_option maxHeartbeats 2000000 in
theorem w_X9_wedge {G : Gx} (hX : ok G cX9_wedge 10 RX9 (some .boolean) 1 22) (hR : okR G) (hE : va_D (AW G.1) (wd G.1 (fun _ _ => 0))) (N : Nat) (s : Hp) (x1 x2 x3 x4 x5 : Int32) : T G (f_X9_wedge N s x1 x2 x3 x4 x5) s 0 [(0, rf G.1 0), (1, .int x1), (2, .int x2), (3, .int x3), (4, .int x4), (5, .int x5)] [] := by
  unfold f_X9_wedge
  refine tr_iload_n hX 1 dX9_wedge_0 rfl rfl ?_
  refine tr_aload_n hX 0 dX9_wedge_1 rfl rfl ?_
  refine tr_getR hX 0 2 (by decide) rfl rfl rfl (by decide) gX9 wm_290 dX9_wedge_2 ?_
  refine tr_getNR hX 9 0 (by decide) rfl rfl rfl (by decide) gX2 wm_97 dX9_wedge_5 ?_
  refine tr_getNI hX 10 4 (by decide) rfl rfl rfl (by decide) gX7 wm_72 dX9_wedge_8 ?_
  refine tr_callS hX [.int x1, .int (s 10 4)] ks_X9_isBelow wm_320 (by decide) rfl rfl (Nat.le_of_ble_eq_true rfl) dX9_wedge_11 (fun vq sq hq => c_X9_isBelow G.1 hE N s x1 (s 10 4) (vq, sq) hq) fun v2 s1 => ?_
  refine tr_if_eq hX 59 dX9_wedge_14 (by decide) ?_ ?_
  · refine tr_iconst (v := 0) hX dX9_wedge_59 rfl ?_
    exact tr_zret hX hR rfl dX9_wedge_60
  · refine tr_iload_n hX 2 dX9_wedge_17 rfl rfl ?_
    refine tr_callS hX [.int x2] ks_X9_isSide wm_386 (by decide) rfl rfl (Nat.le_of_ble_eq_true rfl) dX9_wedge_18 (fun vq sq hq => c_X9_isSide G.1 hE N s1 x2 (vq, sq) hq) fun v4 s3 => ?_
    refine tr_if_eq hX 59 dX9_wedge_21 (by decide) ?_ ?_
    · refine tr_iconst (v := 0) hX dX9_wedge_59 rfl ?_
      exact tr_zret hX hR rfl dX9_wedge_60
    · refine tr_iload_n hX 3 dX9_wedge_24 rfl rfl ?_
      refine tr_callS hX [.int x3] ks_X9_isSide wm_386 (by decide) rfl rfl (Nat.le_of_ble_eq_true rfl) dX9_wedge_25 (fun vq sq hq => c_X9_isSide G.1 hE N s3 x3 (vq, sq) hq) fun v6 s5 => ?_
      refine tr_if_eq hX 59 dX9_wedge_28 (by decide) ?_ ?_
      · refine tr_iconst (v := 0) hX dX9_wedge_59 rfl ?_
        exact tr_zret hX hR rfl dX9_wedge_60
      · refine tr_iload hX 4 dX9_wedge_31 rfl ?_
        refine tr_callS hX [.int x4] ks_X9_isSide wm_386 (by decide) rfl rfl (Nat.le_of_ble_eq_true rfl) dX9_wedge_33 (fun vq sq hq => c_X9_isSide G.1 hE N s5 x4 (vq, sq) hq) fun v8 s7 => ?_
        refine tr_if_eq hX 59 dX9_wedge_36 (by decide) ?_ ?_
        · refine tr_iconst (v := 0) hX dX9_wedge_59 rfl ?_
          exact tr_zret hX hR rfl dX9_wedge_60
        · refine tr_iload hX 5 dX9_wedge_39 rfl ?_
          refine tr_callS hX [.int x5] ks_X9_isSide wm_386 (by decide) rfl rfl (Nat.le_of_ble_eq_true rfl) dX9_wedge_41 (fun vq sq hq => c_X9_isSide G.1 hE N s7 x5 (vq, sq) hq) fun v10 s9 => ?_
          refine tr_if_eq hX 59 dX9_wedge_44 (by decide) ?_ ?_
          · refine tr_iconst (v := 0) hX dX9_wedge_59 rfl ?_
            exact tr_zret hX hR rfl dX9_wedge_60
          · refine tr_iload_n hX 2 dX9_wedge_47 rfl rfl ?_
            refine tr_iload hX 5 dX9_wedge_48 rfl ?_
            refine tr_imul hX dX9_wedge_50 ?_
            refine tr_iload_n hX 3 dX9_wedge_51 rfl rfl ?_
            refine tr_iload hX 4 dX9_wedge_52 rfl ?_
            refine tr_imul hX dX9_wedge_54 ?_
            refine tr_isub hX dX9_wedge_55 ?_
            refine tr_if_gt hX 61 dX9_wedge_56 (by decide) ?_ ?_
            · refine tr_aload_n hX 0 dX9_wedge_61 rfl rfl ?_
              refine tr_getR hX 0 2 (by decide) rfl rfl rfl (by decide) gX9 wm_290 dX9_wedge_62 ?_
              refine tr_getNR hX 9 0 (by decide) rfl rfl rfl (by decide) gX2 wm_97 dX9_wedge_65 ?_
              refine tr_getNR hX 10 0 (by decide) rfl rfl rfl (by decide) gX7 wm_57 dX9_wedge_68 ?_
              refine tr_iload_n hX 1 dX9_wedge_71 rfl rfl ?_
              refine tr_iald hX 11 (by decide) rfl dX9_wedge_72 ?_
              refine tr_istoreB (lv2 := fun y11 => [(6, .int y11), (0, rf G.1 0), (1, .int x1), (2, .int x2), (3, .int x3), (4, .int x4), (5, .int x5)]) hX dX9_wedge_73 (by decide) (fun _ => rfl) fun y11 => ?_
              refine tr_aload_n hX 1 dX9_wedge_75 rfl rfl ?_
              refine tr_getR hX 0 2 (by decide) rfl rfl rfl (by decide) gX9 wm_290 dX9_wedge_76 ?_
              refine tr_iload_n hX 2 dX9_wedge_79 rfl rfl ?_
              refine tr_callVv hX 9 [.int x1] kv_X2_clearFields wm_389 (by decide) rfl rfl rfl (by decide) rfl rfl (Nat.le_of_ble_eq_true rfl) dX9_wedge_80 (fun vq sq hq => c_X2_clearFields G.1 hE N s9 x1 (vq, sq) hq) fun v13 s12 => ?_
              refine tr_iconst (v := 0) hX dX9_wedge_83 rfl ?_
              refine tr_istore (lv2 := [(7, .int 0), (6, .int y11), (0, rf G.1 0), (1, .int x1), (2, .int x2), (3, .int x3), (4, .int x4), (5, .int x5)]) hX dX9_wedge_84 (by decide) rfl ?_
              refine tr_lv (lv2 := [(0, rf G.1 0), (1, .int x1), (2, .int x2), (3, .int x3), (4, .int x4), (5, .int x5), (6, .int y11), (7, .int 0)]) [2, 3, 4, 5, 6, 7, 1, 0] rfl ?_
              exact wl_X9_wedge_86 hX hR hE N N s12 x1 x2 x3 x4 x5 y11 0
            · refine tr_iconst (v := 0) hX dX9_wedge_59 rfl ?_
              exact tr_zret hX hR rfl dX9_wedge_60
theorem c_X9_wedge (E : Ex) (hE : va_D (AW E) (wd E (fun _ _ => 0))) (N : Nat) (s : Hp) (x1 x2 x3 x4 x5 : Int32) (r : Int32 × Hp) (h : f_X9_wedge N s x1 x2 x3 x4 x5 = some r) : CtrI E yX9_wedge cX9_wedge 10 (some .boolean) 1 22 [rf E 0, .int x1, .int x2, .int x3, .int x4, .int x5] s r :=
  ctrI_of (by decide +kernel) hE (Nat.le_of_ble_eq_true rfl) h (fun G hX hR hG => by subst hG; exact w_X9_wedge hX hR hE N s x1 x2 x3 x4 x5)
set_option maxRecDepth 20000 in
set_option maxHeartbeats 2000000 in
theorem w_X9_joins {G : Gx} (hX : ok G cX9_joins 3 RX9 (some .boolean) 3 69) (hR : okR G) (hE : va_D (AW G.1) (wd G.1 (fun _ _ => 0))) (N : Nat) (s : Hp) (x1 x2 : Int32) : T G (f_X9_joins N s x1 x2) s 0 [(0, rf G.1 0), (1, .int x1), (2, .int x2)] [] := by
  unfold f_X9_joins
  refine tr_iload_n hX 1 dX9_joins_0 rfl rfl ?_
  refine tr_bipush (v := 100) hX dX9_joins_1 rfl ?_
  refine tr_callS hX [.int x1, .int 100] ks_X9_isBelow wm_320 (by decide) rfl rfl (Nat.le_of_ble_eq_true rfl) dX9_joins_3 (fun vq sq hq => c_X9_isBelow G.1 hE N s x1 100 (vq, sq) hq) fun v2 s1 => ?_
  refine tr_if_eq hX 19 dX9_joins_6 (by decide) ?_ ?_
  · refine tr_iconst (v := 0) hX dX9_joins_19 rfl ?_
    exact tr_zret hX hR rfl dX9_joins_20
  · refine tr_iload_n hX 2 dX9_joins_9 rfl rfl ?_
    refine tr_sipush (v := 1000) hX dX9_joins_10 rfl ?_
    refine tr_callS hX [.int x2, .int 1000] ks_X9_isBelow wm_320 (by decide) rfl rfl (Nat.le_of_ble_eq_true rfl) dX9_joins_13 (fun vq sq hq => c_X9_isBelow G.1 hE N s1 x2 1000 (vq, sq) hq) fun v4 s3 => ?_
    refine tr_if_ne hX 21 dX9_joins_16 (by decide) ?_ ?_
    · refine tr_aload_n hX 0 dX9_joins_21 rfl rfl ?_
      refine tr_getR hX 0 3 (by decide) rfl rfl rfl (by decide) gX9 wm_291 dX9_joins_22 ?_
      refine tr_iload_n hX 1 dX9_joins_25 rfl rfl ?_
      refine tr_putNI hX 18 2 tyX0 tyX0_ok nmX0 (by decide) rfl rfl rfl (by decide) gX0 wm_128 rfl (by decide +kernel) dX9_joins_26 fun s5 => ?_
      refine tr_aload_n hX 0 dX9_joins_29 rfl rfl ?_
      refine tr_getR hX 0 3 (by decide) rfl rfl rfl (by decide) gX9 wm_291 dX9_joins_30 ?_
      refine tr_iload_n hX 2 dX9_joins_33 rfl rfl ?_
      refine tr_putNI hX 18 3 tyX0 tyX0_ok nmX0 (by decide) rfl rfl rfl (by decide) gX0 wm_130 rfl (by decide +kernel) dX9_joins_34 fun s6 => ?_
      refine tr_aload_n hX 0 dX9_joins_37 rfl rfl ?_
      refine tr_getR hX 0 3 (by decide) rfl rfl rfl (by decide) gX9 wm_291 dX9_joins_38 ?_
      refine tr_aload_n hX 0 dX9_joins_41 rfl rfl ?_
      refine tr_getR hX 0 2 (by decide) rfl rfl rfl (by decide) gX9 wm_290 dX9_joins_42 ?_
      refine tr_callVv hX 18 [rf G.1 9] kv_X0_gather wm_359 (by decide) rfl rfl rfl (by decide) rfl rfl (Nat.le_of_ble_eq_true rfl) dX9_joins_45 (fun vq sq hq => c_X0_gather G.1 hE N s6 (vq, sq) hq) fun v8 s7 => ?_
      refine tr_iconst (v := 1) hX dX9_joins_48 rfl ?_
      exact tr_zret hX hR rfl dX9_joins_49
    · refine tr_iconst (v := 0) hX dX9_joins_19 rfl ?_
      exact tr_zret hX hR rfl dX9_joins_20
theorem c_X9_joins (E : Ex) (hE : va_D (AW E) (wd E (fun _ _ => 0))) (N : Nat) (s : Hp) (x1 x2 : Int32) (r : Int32 × Hp) (h : f_X9_joins N s x1 x2 = some r) : CtrI E yX9_joins cX9_joins 3 (some .boolean) 3 69 [rf E 0, .int x1, .int x2] s r :=
  ctrI_of (by decide +kernel) hE (Nat.le_of_ble_eq_true rfl) h (fun G hX hR hG => by subst hG; exact w_X9_joins hX hR hE N s x1 x2)
set_option maxRecDepth 20000 in
set_option maxHeartbeats 2000000 in
theorem w_X9_senders {G : Gx} (hX : ok G cX9_senders 1 RX9 (some .int) 0 0) (hR : okR G) (hE : va_D (AW G.1) (wd G.1 (fun _ _ => 0))) (N : Nat) (s : Hp) : T G (f_X9_senders N s) s 0 [(0, rf G.1 0)] [] := by
  unfold f_X9_senders
  refine tr_aload_n hX 0 dX9_senders_0 rfl rfl ?_
  refine tr_getR hX 0 3 (by decide) rfl rfl rfl (by decide) gX9 wm_291 dX9_senders_1 ?_
  refine tr_getNI hX 18 4 (by decide) rfl rfl rfl (by decide) gX0 wm_132 dX9_senders_4 ?_
  exact tr_iret hX hR dX9_senders_7
theorem c_X9_senders (E : Ex) (hE : va_D (AW E) (wd E (fun _ _ => 0))) (N : Nat) (s : Hp) (r : Int32 × Hp) (h : f_X9_senders N s = some r) : CtrI E yX9_senders cX9_senders 1 (some .int) 0 0 [rf E 0] s r :=
  ctrI_of (by decide +kernel) hE (Nat.le_of_ble_eq_true rfl) h (fun G hX hR hG => by subst hG; exact w_X9_senders hX hR hE N s)
set_option maxRecDepth 20000 in
set_option maxHeartbeats 2000000 in
theorem w_X9_senderOf {G : Gx} (hX : ok G cX9_senderOf 2 RX9 (some .int) 1 21) (hR : okR G) (hE : va_D (AW G.1) (wd G.1 (fun _ _ => 0))) (N : Nat) (s : Hp) (x1 : Int32) : T G (f_X9_senderOf N s x1) s 0 [(0, rf G.1 0), (1, .int x1)] [] := by
  unfold f_X9_senderOf
  refine tr_iload_n hX 1 dX9_senderOf_0 rfl rfl ?_
  refine tr_aload_n hX 0 dX9_senderOf_1 rfl rfl ?_
  refine tr_getR hX 0 2 (by decide) rfl rfl rfl (by decide) gX9 wm_290 dX9_senderOf_2 ?_
  refine tr_getNR hX 9 0 (by decide) rfl rfl rfl (by decide) gX2 wm_97 dX9_senderOf_5 ?_
  refine tr_getNI hX 10 4 (by decide) rfl rfl rfl (by decide) gX7 wm_72 dX9_senderOf_8 ?_
  refine tr_callS hX [.int x1, .int (s 10 4)] ks_X9_isBelow wm_320 (by decide) rfl rfl (Nat.le_of_ble_eq_true rfl) dX9_senderOf_11 (fun vq sq hq => c_X9_isBelow G.1 hE N s x1 (s 10 4) (vq, sq) hq) fun v2 s1 => ?_
  refine tr_if_eq hX 29 dX9_senderOf_14 (by decide) ?_ ?_
  · refine tr_iconst (v := (-1)) hX dX9_senderOf_29 rfl ?_
    exact tr_iret hX hR dX9_senderOf_30
  · refine tr_aload_n hX 0 dX9_senderOf_17 rfl rfl ?_
    refine tr_getR hX 0 3 (by decide) rfl rfl rfl (by decide) gX9 wm_291 dX9_senderOf_18 ?_
    refine tr_getNR hX 18 1 (by decide) rfl rfl rfl (by decide) gX0 wm_126 dX9_senderOf_21 ?_
    refine tr_iload_n hX 1 dX9_senderOf_24 rfl rfl ?_
    refine tr_iald hX 20 (by decide) rfl dX9_senderOf_25 ?_
    refine tr_goto hX 30 dX9_senderOf_26 (by decide) ?_
    exact tr_iret hX hR dX9_senderOf_30
theorem c_X9_senderOf (E : Ex) (hE : va_D (AW E) (wd E (fun _ _ => 0))) (N : Nat) (s : Hp) (x1 : Int32) (r : Int32 × Hp) (h : f_X9_senderOf N s x1 = some r) : CtrI E yX9_senderOf cX9_senderOf 2 (some .int) 1 21 [rf E 0, .int x1] s r :=
  ctrI_of (by decide +kernel) hE (Nat.le_of_ble_eq_true rfl) h (fun G hX hR hG => by subst hG; exact w_X9_senderOf hX hR hE N s x1)
set_option maxRecDepth 20000 in
set_option maxHeartbeats 2000000 in
theorem w_X6_add_142 {G : Gx} (hX : ok G cX6_add 4 RX6 none 1 21) (hR : okV G) (hE : va_D (AW G.1) (wd G.1 (fun _ _ => 0))) (N : Nat) (k142 : Hp → Int32 → Int32 → Option (Int32 × Hp)) (hk142 : ∀ (s : Hp) (x2 x3 : Int32), T G (k142 s x2 x3) s 142 [(0, rf G.1 21), (1, rf G.1 9), (2, .int x2), (3, .int x3)] []) (s : Hp) (x2 x3 : Int32) : T G (f_X6_add_142 N k142 s x2 x3) s 142 [(0, rf G.1 21), (1, rf G.1 9), (2, .int x2), (3, .int x3)] [] := by
  unfold f_X6_add_142
  refine tr_aload_n hX 1 dX6_add_142 rfl rfl ?_
  refine tr_getNR hX 9 2 (by decide) rfl rfl rfl (by decide) gX2 wm_101 dX6_add_143 ?_
  refine tr_iload_n hX 2 dX6_add_146 rfl rfl ?_
  refine tr_zald hX 16 (by decide) rfl dX6_add_147 ?_
  refine tr_if_eq hX 180 dX6_add_148 (by decide) ?_ ?_
  · exact tr_vret hX hR dX6_add_180
  · refine tr_iload_n hX 3 dX6_add_151 rfl rfl ?_
    refine tr_bipush (v := 32) hX dX6_add_152 rfl ?_
    refine tr_icmp_ge hX 180 dX6_add_154 (by decide) ?_ ?_
    · exact tr_vret hX hR dX6_add_180
    · refine tr_aload_n hX 0 dX6_add_157 rfl rfl ?_
      refine tr_getR hX 21 1 (by decide) rfl rfl rfl (by decide) gX6 wm_153 dX6_add_158 ?_
      refine tr_iload_n hX 3 dX6_add_161 rfl rfl ?_
      refine tr_dup2 hX dX6_add_162 rfl rfl ?_
      refine tr_iald hX 23 (by decide) rfl dX6_add_163 ?_
      refine tr_aload_n hX 1 dX6_add_164 rfl rfl ?_
      refine tr_getNR hX 9 3 (by decide) rfl rfl rfl (by decide) gX2 wm_103 dX6_add_165 ?_
      refine tr_iload_n hX 2 dX6_add_168 rfl rfl ?_
      refine tr_aald hX 17 (by decide) rfl dX6_add_169 (fun hr9 => ?_)
      refine tr_iload_n hX 3 dX6_add_170 rfl rfl ?_
      refine tr_iald hX (58 + ix x2) (rw_c58 hr9) (rw_s58 hr9) dX6_add_171 ?_
      refine tr_iand hX dX6_add_172 ?_
      refine tr_iast hX 23 (by decide) rfl dX6_add_173 fun s10 => ?_
      refine tr_iincB (b := 1) (lv2 := fun y11 => [(3, .int y11), (0, rf G.1 21), (1, rf G.1 9), (2, .int x2)]) hX 3 dX6_add_174 rfl rfl (by decide) (fun _ => rfl) fun y11 => ?_
      refine tr_goto hX 142 dX6_add_177 (by decide) ?_
      refine tr_lv (lv2 := [(0, rf G.1 21), (1, rf G.1 9), (2, .int x2), (3, .int y11)]) [1, 2, 3, 0] rfl ?_
      exact hk142 s10 x2 y11
theorem wl_X6_add_142 {G : Gx} (hX : ok G cX6_add 4 RX6 none 1 21) (hR : okV G) (hE : va_D (AW G.1) (wd G.1 (fun _ _ => 0))) (N : Nat) : ∀ (n : Nat) (s : Hp) (x2 x3 : Int32), T G (lp (fun _ _ _ => none) (f_X6_add_142 N) n s x2 x3) s 142 [(0, rf G.1 21), (1, rf G.1 9), (2, .int x2), (3, .int x3)] [] := by
  intro n
  induction n with
  | zero => exact fun s x2 x3 h => nomatch (show (none : Option (Int32 × Hp)) = some _ from h)
  | succ n ih => exact fun s x2 x3 => w_X6_add_142 hX hR hE N _ ih s x2 x3
set_option maxRecDepth 20000 in
set_option maxHeartbeats 2000000 in
theorem w_X6_add {G : Gx} (hX : ok G cX6_add 4 RX6 none 1 21) (hR : okV G) (hE : va_D (AW G.1) (wd G.1 (fun _ _ => 0))) (N : Nat) (s : Hp) (x2 : Int32) : T G (f_X6_add N s x2) s 0 [(0, rf G.1 21), (1, rf G.1 9), (2, .int x2)] [] := by
  unfold f_X6_add
  refine tr_aload_n hX 0 dX6_add_0 rfl rfl ?_
  refine tr_getI hX 21 2 (by decide) rfl rfl rfl (by decide) gX6 wm_155 dX6_add_1 ?_
  refine tr_aload_n hX 0 dX6_add_4 rfl rfl ?_
  refine tr_getR hX 21 0 (by decide) rfl rfl rfl (by decide) gX6 wm_150 dX6_add_5 ?_
  refine tr_alen (v := 60) hX 22 (by decide) rfl rfl dX6_add_8 ?_
  refine tr_icmp_lt hX 13 dX6_add_9 (by decide) ?_ ?_
  · refine tr_aload_n hX 0 dX6_add_13 rfl rfl ?_
    refine tr_getR hX 21 0 (by decide) rfl rfl rfl (by decide) gX6 wm_150 dX6_add_14 ?_
    refine tr_aload_n hX 0 dX6_add_17 rfl rfl ?_
    refine tr_getI hX 21 2 (by decide) rfl rfl rfl (by decide) gX6 wm_155 dX6_add_18 ?_
    refine tr_iload_n hX 2 dX6_add_21 rfl rfl ?_
    refine tr_iast hX 22 (by decide) rfl dX6_add_22 fun s1 => ?_
    refine tr_aload_n hX 0 dX6_add_23 rfl rfl ?_
    refine tr_dup hX dX6_add_24 rfl ?_
    refine tr_getI hX 21 2 (by decide) rfl rfl rfl (by decide) gX6 wm_155 dX6_add_25 ?_
    refine tr_iconst (v := 1) hX dX6_add_28 rfl ?_
    refine tr_iadd hX dX6_add_29 ?_
    refine tr_putI hX 21 2 tyX6 tyX6_ok nmX6 (by decide) rfl rfl rfl (by decide) gX6 wm_155 rfl (by decide +kernel) dX6_add_30 fun s2 => ?_
    refine tr_aload_n hX 0 dX6_add_33 rfl rfl ?_
    refine tr_aload_n hX 1 dX6_add_34 rfl rfl ?_
    refine tr_getNR hX 9 0 (by decide) rfl rfl rfl (by decide) gX2 wm_96 dX6_add_35 ?_
    refine tr_getNR hX 10 1 (by decide) rfl rfl rfl (by decide) gX7 wm_59 dX6_add_38 ?_
    refine tr_iload_n hX 2 dX6_add_41 rfl rfl ?_
    refine tr_iald hX 12 (by decide) rfl dX6_add_42 ?_
    refine tr_putI hX 21 3 tyX6 tyX6_ok nmX6 (by decide) rfl rfl rfl (by decide) gX6 wm_158 rfl (by decide +kernel) dX6_add_43 fun s3 => ?_
    refine tr_aload_n hX 0 dX6_add_46 rfl rfl ?_
    refine tr_aload_n hX 0 dX6_add_47 rfl rfl ?_
    refine tr_getI hX 21 4 (by decide) rfl rfl rfl (by decide) gX6 wm_161 dX6_add_48 ?_
    refine tr_aload_n hX 1 dX6_add_51 rfl rfl ?_
    refine tr_getNR hX 9 0 (by decide) rfl rfl rfl (by decide) gX2 wm_96 dX6_add_52 ?_
    refine tr_getNR hX 10 2 (by decide) rfl rfl rfl (by decide) gX7 wm_62 dX6_add_55 ?_
    refine tr_iload_n hX 2 dX6_add_58 rfl rfl ?_
    refine tr_iald hX 13 (by decide) rfl dX6_add_59 ?_
    refine tr_min hX wm_421 wm_375 wm_4 wm_376 (by decide) (Nat.le_of_ble_eq_true rfl) dX6_add_60 ?_
    refine tr_putI hX 21 4 tyX6 tyX6_ok nmX6 (by decide) rfl rfl rfl (by decide) gX6 wm_161 rfl (by decide +kernel) dX6_add_63 fun s4 => ?_
    refine tr_aload_n hX 0 dX6_add_66 rfl rfl ?_
    refine tr_aload_n hX 0 dX6_add_67 rfl rfl ?_
    refine tr_getI hX 21 5 (by decide) rfl rfl rfl (by decide) gX6 wm_163 dX6_add_68 ?_
    refine tr_aload_n hX 1 dX6_add_71 rfl rfl ?_
    refine tr_getNR hX 9 0 (by decide) rfl rfl rfl (by decide) gX2 wm_96 dX6_add_72 ?_
    refine tr_getNR hX 10 3 (by decide) rfl rfl rfl (by decide) gX7 wm_67 dX6_add_75 ?_
    refine tr_iload_n hX 2 dX6_add_78 rfl rfl ?_
    refine tr_iald hX 14 (by decide) rfl dX6_add_79 ?_
    refine tr_max hX wm_422 wm_53 wm_4 wm_54 (by decide) (Nat.le_of_ble_eq_true rfl) dX6_add_80 ?_
    refine tr_putI hX 21 5 tyX6 tyX6_ok nmX6 (by decide) rfl rfl rfl (by decide) gX6 wm_163 rfl (by decide +kernel) dX6_add_83 fun s5 => ?_
    refine tr_aload_n hX 0 dX6_add_86 rfl rfl ?_
    refine tr_aload_n hX 0 dX6_add_87 rfl rfl ?_
    refine tr_getI hX 21 6 (by decide) rfl rfl rfl (by decide) gX6 wm_165 dX6_add_88 ?_
    refine tr_aload_n hX 1 dX6_add_91 rfl rfl ?_
    refine tr_getNR hX 9 1 (by decide) rfl rfl rfl (by decide) gX2 wm_99 dX6_add_92 ?_
    refine tr_iload_n hX 2 dX6_add_95 rfl rfl ?_
    refine tr_iald hX 15 (by decide) rfl dX6_add_96 ?_
    refine tr_min hX wm_421 wm_375 wm_4 wm_376 (by decide) (Nat.le_of_ble_eq_true rfl) dX6_add_97 ?_
    refine tr_putI hX 21 6 tyX6 tyX6_ok nmX6 (by decide) rfl rfl rfl (by decide) gX6 wm_165 rfl (by decide +kernel) dX6_add_100 fun s6 => ?_
    refine tr_aload_n hX 0 dX6_add_103 rfl rfl ?_
    refine tr_aload_n hX 0 dX6_add_104 rfl rfl ?_
    refine tr_getI hX 21 7 (by decide) rfl rfl rfl (by decide) gX6 wm_168 dX6_add_105 ?_
    refine tr_aload_n hX 1 dX6_add_108 rfl rfl ?_
    refine tr_getNR hX 9 1 (by decide) rfl rfl rfl (by decide) gX2 wm_99 dX6_add_109 ?_
    refine tr_iload_n hX 2 dX6_add_112 rfl rfl ?_
    refine tr_iald hX 15 (by decide) rfl dX6_add_113 ?_
    refine tr_max hX wm_422 wm_53 wm_4 wm_54 (by decide) (Nat.le_of_ble_eq_true rfl) dX6_add_114 ?_
    refine tr_putI hX 21 7 tyX6 tyX6_ok nmX6 (by decide) rfl rfl rfl (by decide) gX6 wm_168 rfl (by decide +kernel) dX6_add_117 fun s7 => ?_
    refine tr_aload_n hX 0 dX6_add_120 rfl rfl ?_
    refine tr_dup hX dX6_add_121 rfl ?_
    refine tr_getI hX 21 8 (by decide) rfl rfl rfl (by decide) gX6 wm_171 dX6_add_122 ?_
    refine tr_iconst (v := 1) hX dX6_add_125 rfl ?_
    refine tr_aload_n hX 1 dX6_add_126 rfl rfl ?_
    refine tr_getNR hX 9 0 (by decide) rfl rfl rfl (by decide) gX2 wm_96 dX6_add_127 ?_
    refine tr_getNR hX 10 0 (by decide) rfl rfl rfl (by decide) gX7 wm_56 dX6_add_130 ?_
    refine tr_iload_n hX 2 dX6_add_133 rfl rfl ?_
    refine tr_iald hX 11 (by decide) rfl dX6_add_134 ?_
    refine tr_ishl hX dX6_add_135 ?_
    refine tr_ior hX dX6_add_136 ?_
    refine tr_putI hX 21 8 tyX6 tyX6_ok nmX6 (by decide) rfl rfl rfl (by decide) gX6 wm_171 rfl (by decide +kernel) dX6_add_137 fun s8 => ?_
    refine tr_iconst (v := 0) hX dX6_add_140 rfl ?_
    refine tr_istore_n (lv2 := [(3, .int 0), (0, rf G.1 21), (1, rf G.1 9), (2, .int x2)]) hX dX6_add_141 rfl (by decide) rfl ?_
    refine tr_lv (lv2 := [(0, rf G.1 21), (1, rf G.1 9), (2, .int x2), (3, .int 0)]) [1, 2, 3, 0] rfl ?_
    exact wl_X6_add_142 hX hR hE N N s8 x2 0
  · exact tr_vret hX hR dX6_add_12
theorem c_X6_add (E : Ex) (hE : va_D (AW E) (wd E (fun _ _ => 0))) (N : Nat) (s : Hp) (x2 : Int32) (r : Int32 × Hp) (h : f_X6_add N s x2 = some r) : CtrV E yX6_add cX6_add 4 none 1 21 [rf E 21, rf E 9, .int x2] s r :=
  ctrV_of (by decide +kernel) hE (Nat.le_of_ble_eq_true rfl) h (fun G hX hR hG => by subst hG; exact w_X6_add hX hR hE N s x2)
set_option maxRecDepth 20000 in
set_option maxHeartbeats 2000000 in
theorem w_X6_draw_93 {G : Gx} (hX : ok G cX6_draw 5 RX6 none 2 44) (hR : okV G) (hE : va_D (AW G.1) (wd G.1 (fun _ _ => 0))) (N : Nat) (k66 : Hp → Int32 → Int32 → Option (Int32 × Hp)) (hk66 : ∀ (s : Hp) (x3 x4 : Int32), T G (k66 s x3 x4) s 66 [(0, rf G.1 21), (1, rf G.1 9), (2, rf G.1 20), (3, .int x3), (4, .int x4)] []) (s : Hp) (x3 x4 : Int32) : T G (f_X6_draw_93 N k66 s x3 x4) s 93 [(0, rf G.1 21), (1, rf G.1 9), (2, rf G.1 20), (3, .int x3), (4, .int x4)] [] := by
  unfold f_X6_draw_93
  refine tr_iincB (b := 1) (lv2 := fun y12 => [(4, .int y12), (0, rf G.1 21), (1, rf G.1 9), (2, rf G.1 20), (3, .int x3)]) hX 4 dX6_draw_93 rfl rfl (by decide) (fun _ => rfl) fun y12 => ?_
  refine tr_goto hX 66 dX6_draw_96 (by decide) ?_
  refine tr_lv (lv2 := [(0, rf G.1 21), (1, rf G.1 9), (2, rf G.1 20), (3, .int x3), (4, .int y12)]) [1, 2, 3, 4, 0] rfl ?_
  exact hk66 s x3 y12
set_option maxRecDepth 20000 in
set_option maxHeartbeats 2000000 in
theorem w_X6_draw_66 {G : Gx} (hX : ok G cX6_draw 5 RX6 none 2 44) (hR : okV G) (hE : va_D (AW G.1) (wd G.1 (fun _ _ => 0))) (N : Nat) (k66 : Hp → Int32 → Int32 → Option (Int32 × Hp)) (hk66 : ∀ (s : Hp) (x3 x4 : Int32), T G (k66 s x3 x4) s 66 [(0, rf G.1 21), (1, rf G.1 9), (2, rf G.1 20), (3, .int x3), (4, .int x4)] []) (s : Hp) (x3 x4 : Int32) : T G (f_X6_draw_66 N k66 s x3 x4) s 66 [(0, rf G.1 21), (1, rf G.1 9), (2, rf G.1 20), (3, .int x3), (4, .int x4)] [] := by
  unfold f_X6_draw_66
  refine tr_iload hX 4 dX6_draw_66 rfl ?_
  refine tr_aload_n hX 1 dX6_draw_68 rfl rfl ?_
  refine tr_getNR hX 9 0 (by decide) rfl rfl rfl (by decide) gX2 wm_96 dX6_draw_69 ?_
  refine tr_getNI hX 10 4 (by decide) rfl rfl rfl (by decide) gX7 wm_71 dX6_draw_72 ?_
  refine tr_icmp_ge hX 99 dX6_draw_75 (by decide) ?_ ?_
  · exact tr_vret hX hR dX6_draw_99
  · refine tr_aload_n hX 2 dX6_draw_78 rfl rfl ?_
    refine tr_iload hX 4 dX6_draw_79 rfl ?_
    refine tr_iald hX 20 (by decide) rfl dX6_draw_81 ?_
    refine tr_iload_n hX 3 dX6_draw_82 rfl rfl ?_
    refine tr_icmp_ne hX 93 dX6_draw_83 (by decide) ?_ ?_
    · exact w_X6_draw_93 hX hR hE N k66 hk66 s x3 x4
    · refine tr_aload_n hX 0 dX6_draw_86 rfl rfl ?_
      refine tr_aload_n hX 1 dX6_draw_87 rfl rfl ?_
      refine tr_iload hX 4 dX6_draw_88 rfl ?_
      refine tr_callVv hX 21 [rf G.1 9, .int x4] kv_X6_add wm_417 (by decide) rfl rfl rfl (by decide) rfl rfl (Nat.le_of_ble_eq_true rfl) dX6_draw_90 (fun vq sq hq => c_X6_add G.1 hE N s x4 (vq, sq) hq) fun v11 s10 => ?_
      exact w_X6_draw_93 hX hR hE N k66 hk66 s10 x3 x4
theorem wl_X6_draw_66 {G : Gx} (hX : ok G cX6_draw 5 RX6 none 2 44) (hR : okV G) (hE : va_D (AW G.1) (wd G.1 (fun _ _ => 0))) (N : Nat) : ∀ (n : Nat) (s : Hp) (x3 x4 : Int32), T G (lp (fun _ _ _ => none) (f_X6_draw_66 N) n s x3 x4) s 66 [(0, rf G.1 21), (1, rf G.1 9), (2, rf G.1 20), (3, .int x3), (4, .int x4)] [] := by
  intro n
  induction n with
  | zero => exact fun s x3 x4 h => nomatch (show (none : Option (Int32 × Hp)) = some _ from h)
  | succ n ih => exact fun s x3 x4 => w_X6_draw_66 hX hR hE N _ ih s x3 x4
set_option maxRecDepth 20000 in
set_option maxHeartbeats 2000000 in
theorem w_X6_draw_42 {G : Gx} (hX : ok G cX6_draw 5 RX6 none 2 44) (hR : okV G) (hE : va_D (AW G.1) (wd G.1 (fun _ _ => 0))) (N : Nat) (k42 : Hp → Int32 → Int32 → Option (Int32 × Hp)) (hk42 : ∀ (s : Hp) (x3 x4 : Int32), T G (k42 s x3 x4) s 42 [(0, rf G.1 21), (1, rf G.1 9), (2, rf G.1 20), (3, .int x3), (4, .int x4)] []) (s : Hp) (x3 x4 : Int32) : T G (f_X6_draw_42 N k42 s x3 x4) s 42 [(0, rf G.1 21), (1, rf G.1 9), (2, rf G.1 20), (3, .int x3), (4, .int x4)] [] := by
  unfold f_X6_draw_42
  refine tr_iload hX 4 dX6_draw_42 rfl ?_
  refine tr_bipush (v := 32) hX dX6_draw_44 rfl ?_
  refine tr_icmp_ge hX 63 dX6_draw_46 (by decide) ?_ ?_
  · refine tr_iconst (v := 0) hX dX6_draw_63 rfl ?_
    refine tr_istore (lv2 := [(4, .int 0), (0, rf G.1 21), (1, rf G.1 9), (2, rf G.1 20), (3, .int x3)]) hX dX6_draw_64 (by decide) rfl ?_
    refine tr_lv (lv2 := [(0, rf G.1 21), (1, rf G.1 9), (2, rf G.1 20), (3, .int x3), (4, .int 0)]) [1, 2, 3, 4, 0] rfl ?_
    exact wl_X6_draw_66 hX hR hE N N s x3 0
  · refine tr_aload_n hX 0 dX6_draw_49 rfl rfl ?_
    refine tr_getR hX 21 1 (by decide) rfl rfl rfl (by decide) gX6 wm_153 dX6_draw_50 ?_
    refine tr_iload hX 4 dX6_draw_53 rfl ?_
    refine tr_iconst (v := (-1)) hX dX6_draw_55 rfl ?_
    refine tr_iast hX 23 (by decide) rfl dX6_draw_56 fun s8 => ?_
    refine tr_iincB (b := 1) (lv2 := fun y9 => [(4, .int y9), (0, rf G.1 21), (1, rf G.1 9), (2, rf G.1 20), (3, .int x3)]) hX 4 dX6_draw_57 rfl rfl (by decide) (fun _ => rfl) fun y9 => ?_
    refine tr_goto hX 42 dX6_draw_60 (by decide) ?_
    refine tr_lv (lv2 := [(0, rf G.1 21), (1, rf G.1 9), (2, rf G.1 20), (3, .int x3), (4, .int y9)]) [1, 2, 3, 4, 0] rfl ?_
    exact hk42 s8 x3 y9
theorem wl_X6_draw_42 {G : Gx} (hX : ok G cX6_draw 5 RX6 none 2 44) (hR : okV G) (hE : va_D (AW G.1) (wd G.1 (fun _ _ => 0))) (N : Nat) : ∀ (n : Nat) (s : Hp) (x3 x4 : Int32), T G (lp (fun _ _ _ => none) (f_X6_draw_42 N) n s x3 x4) s 42 [(0, rf G.1 21), (1, rf G.1 9), (2, rf G.1 20), (3, .int x3), (4, .int x4)] [] := by
  intro n
  induction n with
  | zero => exact fun s x3 x4 h => nomatch (show (none : Option (Int32 × Hp)) = some _ from h)
  | succ n ih => exact fun s x3 x4 => w_X6_draw_42 hX hR hE N _ ih s x3 x4
set_option maxRecDepth 20000 in
set_option maxHeartbeats 2000000 in
theorem w_X6_draw {G : Gx} (hX : ok G cX6_draw 5 RX6 none 2 44) (hR : okV G) (hE : va_D (AW G.1) (wd G.1 (fun _ _ => 0))) (N : Nat) (s : Hp) (x3 : Int32) : T G (f_X6_draw N s x3) s 0 [(0, rf G.1 21), (1, rf G.1 9), (2, rf G.1 20), (3, .int x3)] [] := by
  unfold f_X6_draw
  refine tr_aload_n hX 0 dX6_draw_0 rfl rfl ?_
  refine tr_iconst (v := 0) hX dX6_draw_1 rfl ?_
  refine tr_putI hX 21 2 tyX6 tyX6_ok nmX6 (by decide) rfl rfl rfl (by decide) gX6 wm_155 rfl (by decide +kernel) dX6_draw_2 fun s1 => ?_
  refine tr_aload_n hX 0 dX6_draw_5 rfl rfl ?_
  refine tr_iconst (v := (-1)) hX dX6_draw_6 rfl ?_
  refine tr_putI hX 21 3 tyX6 tyX6_ok nmX6 (by decide) rfl rfl rfl (by decide) gX6 wm_158 rfl (by decide +kernel) dX6_draw_7 fun s2 => ?_
  refine tr_aload_n hX 0 dX6_draw_10 rfl rfl ?_
  refine tr_sipush (v := 10000) hX dX6_draw_11 rfl ?_
  refine tr_putI hX 21 4 tyX6 tyX6_ok nmX6 (by decide) rfl rfl rfl (by decide) gX6 wm_161 rfl (by decide +kernel) dX6_draw_14 fun s3 => ?_
  refine tr_aload_n hX 0 dX6_draw_17 rfl rfl ?_
  refine tr_iconst (v := (-1)) hX dX6_draw_18 rfl ?_
  refine tr_putI hX 21 5 tyX6 tyX6_ok nmX6 (by decide) rfl rfl rfl (by decide) gX6 wm_163 rfl (by decide +kernel) dX6_draw_19 fun s4 => ?_
  refine tr_aload_n hX 0 dX6_draw_22 rfl rfl ?_
  refine tr_sipush (v := 1000) hX dX6_draw_23 rfl ?_
  refine tr_putI hX 21 6 tyX6 tyX6_ok nmX6 (by decide) rfl rfl rfl (by decide) gX6 wm_165 rfl (by decide +kernel) dX6_draw_26 fun s5 => ?_
  refine tr_aload_n hX 0 dX6_draw_29 rfl rfl ?_
  refine tr_iconst (v := (-1)) hX dX6_draw_30 rfl ?_
  refine tr_putI hX 21 7 tyX6 tyX6_ok nmX6 (by decide) rfl rfl rfl (by decide) gX6 wm_168 rfl (by decide +kernel) dX6_draw_31 fun s6 => ?_
  refine tr_aload_n hX 0 dX6_draw_34 rfl rfl ?_
  refine tr_iconst (v := 0) hX dX6_draw_35 rfl ?_
  refine tr_putI hX 21 8 tyX6 tyX6_ok nmX6 (by decide) rfl rfl rfl (by decide) gX6 wm_171 rfl (by decide +kernel) dX6_draw_36 fun s7 => ?_
  refine tr_iconst (v := 0) hX dX6_draw_39 rfl ?_
  refine tr_istore (lv2 := [(4, .int 0), (0, rf G.1 21), (1, rf G.1 9), (2, rf G.1 20), (3, .int x3)]) hX dX6_draw_40 (by decide) rfl ?_
  refine tr_lv (lv2 := [(0, rf G.1 21), (1, rf G.1 9), (2, rf G.1 20), (3, .int x3), (4, .int 0)]) [1, 2, 3, 4, 0] rfl ?_
  exact wl_X6_draw_42 hX hR hE N N s7 x3 0
theorem c_X6_draw (E : Ex) (hE : va_D (AW E) (wd E (fun _ _ => 0))) (N : Nat) (s : Hp) (x3 : Int32) (r : Int32 × Hp) (h : f_X6_draw N s x3 = some r) : CtrV E yX6_draw cX6_draw 5 none 2 44 [rf E 21, rf E 9, rf E 20, .int x3] s r :=
  ctrV_of (by decide +kernel) hE (Nat.le_of_ble_eq_true rfl) h (fun G hX hR hG => by subst hG; exact w_X6_draw hX hR hE N s x3)
set_option maxRecDepth 20000 in
set_option maxHeartbeats 2000000 in
theorem w_J6_bitCount_0f7a4 {G : Gx} (hX : ok G cJ6_bitCount_0f7a4 1 RJ6 (some .int) 0 0) (hR : okR G) (hE : va_D (AW G.1) (wd G.1 (fun _ _ => 0))) (N : Nat) (s : Hp) (x0 : Int32) : T G (f_J6_bitCount_0f7a4 N s x0) s 0 [(0, .int x0)] [] := by
  unfold f_J6_bitCount_0f7a4
  refine tr_iload_n hX 0 dJ6_bitCount_0f7a4_0 rfl rfl ?_
  refine tr_iload_n hX 0 dJ6_bitCount_0f7a4_1 rfl rfl ?_
  refine tr_iconst (v := 1) hX dJ6_bitCount_0f7a4_2 rfl ?_
  refine tr_iushr hX dJ6_bitCount_0f7a4_3 ?_
  refine tr_ldcw (v := 1431655765) hX wm_430 dJ6_bitCount_0f7a4_4 ?_
  refine tr_iand hX dJ6_bitCount_0f7a4_7 ?_
  refine tr_isub hX dJ6_bitCount_0f7a4_8 ?_
  refine tr_istore_nB (lv2 := fun y1 => [(0, .int y1)]) hX dJ6_bitCount_0f7a4_9 rfl (by decide) (fun _ => rfl) fun y1 => ?_
  refine tr_iload_n hX 0 dJ6_bitCount_0f7a4_10 rfl rfl ?_
  refine tr_ldcw (v := 858993459) hX wm_431 dJ6_bitCount_0f7a4_11 ?_
  refine tr_iand hX dJ6_bitCount_0f7a4_14 ?_
  refine tr_iload_n hX 0 dJ6_bitCount_0f7a4_15 rfl rfl ?_
  refine tr_iconst (v := 2) hX dJ6_bitCount_0f7a4_16 rfl ?_
  refine tr_iushr hX dJ6_bitCount_0f7a4_17 ?_
  refine tr_ldcw (v := 858993459) hX wm_431 dJ6_bitCount_0f7a4_18 ?_
  refine tr_iand hX dJ6_bitCount_0f7a4_21 ?_
  refine tr_iadd hX dJ6_bitCount_0f7a4_22 ?_
  refine tr_istore_nB (lv2 := fun y2 => [(0, .int y2)]) hX dJ6_bitCount_0f7a4_23 rfl (by decide) (fun _ => rfl) fun y2 => ?_
  refine tr_iload_n hX 0 dJ6_bitCount_0f7a4_24 rfl rfl ?_
  refine tr_iload_n hX 0 dJ6_bitCount_0f7a4_25 rfl rfl ?_
  refine tr_iconst (v := 4) hX dJ6_bitCount_0f7a4_26 rfl ?_
  refine tr_iushr hX dJ6_bitCount_0f7a4_27 ?_
  refine tr_iadd hX dJ6_bitCount_0f7a4_28 ?_
  refine tr_ldcw (v := 252645135) hX wm_432 dJ6_bitCount_0f7a4_29 ?_
  refine tr_iand hX dJ6_bitCount_0f7a4_32 ?_
  refine tr_istore_nB (lv2 := fun y3 => [(0, .int y3)]) hX dJ6_bitCount_0f7a4_33 rfl (by decide) (fun _ => rfl) fun y3 => ?_
  refine tr_iload_n hX 0 dJ6_bitCount_0f7a4_34 rfl rfl ?_
  refine tr_iload_n hX 0 dJ6_bitCount_0f7a4_35 rfl rfl ?_
  refine tr_bipush (v := 8) hX dJ6_bitCount_0f7a4_36 rfl ?_
  refine tr_iushr hX dJ6_bitCount_0f7a4_38 ?_
  refine tr_iadd hX dJ6_bitCount_0f7a4_39 ?_
  refine tr_istore_nB (lv2 := fun y4 => [(0, .int y4)]) hX dJ6_bitCount_0f7a4_40 rfl (by decide) (fun _ => rfl) fun y4 => ?_
  refine tr_iload_n hX 0 dJ6_bitCount_0f7a4_41 rfl rfl ?_
  refine tr_iload_n hX 0 dJ6_bitCount_0f7a4_42 rfl rfl ?_
  refine tr_bipush (v := 16) hX dJ6_bitCount_0f7a4_43 rfl ?_
  refine tr_iushr hX dJ6_bitCount_0f7a4_45 ?_
  refine tr_iadd hX dJ6_bitCount_0f7a4_46 ?_
  refine tr_istore_nB (lv2 := fun y5 => [(0, .int y5)]) hX dJ6_bitCount_0f7a4_47 rfl (by decide) (fun _ => rfl) fun y5 => ?_
  refine tr_iload_n hX 0 dJ6_bitCount_0f7a4_48 rfl rfl ?_
  refine tr_bipush (v := 63) hX dJ6_bitCount_0f7a4_49 rfl ?_
  refine tr_iand hX dJ6_bitCount_0f7a4_51 ?_
  exact tr_iret hX hR dJ6_bitCount_0f7a4_52
theorem c_J6_bitCount_0f7a4 (E : Ex) (hE : va_D (AW E) (wd E (fun _ _ => 0))) (N : Nat) (s : Hp) (x0 : Int32) (r : Int32 × Hp) (h : f_J6_bitCount_0f7a4 N s x0 = some r) : CtrI E yJ6_bitCount_0f7a4 cJ6_bitCount_0f7a4 1 (some .int) 0 0 [.int x0] s r :=
  ctrI_of (by decide +kernel) hE (Nat.le_of_ble_eq_true rfl) h (fun G hX hR hG => by subst hG; exact w_J6_bitCount_0f7a4 hX hR hE N s x0)
set_option maxRecDepth 20000 in
set_option maxHeartbeats 2000000 in
theorem w_X6_countFields_4 {G : Gx} (hX : ok G cX6_countFields 3 RX6 (some .int) 1 20) (hR : okR G) (hE : va_D (AW G.1) (wd G.1 (fun _ _ => 0))) (N : Nat) (k4 : Hp → Int32 → Int32 → Option (Int32 × Hp)) (hk4 : ∀ (s : Hp) (x1 x2 : Int32), T G (k4 s x1 x2) s 4 [(0, rf G.1 21), (1, .int x1), (2, .int x2)] []) (s : Hp) (x1 x2 : Int32) : T G (f_X6_countFields_4 N k4 s x1 x2) s 4 [(0, rf G.1 21), (1, .int x1), (2, .int x2)] [] := by
  unfold f_X6_countFields_4
  refine tr_iload_n hX 2 dX6_countFields_4 rfl rfl ?_
  refine tr_bipush (v := 32) hX dX6_countFields_5 rfl ?_
  refine tr_icmp_ge hX 28 dX6_countFields_7 (by decide) ?_ ?_
  · refine tr_iload_n hX 1 dX6_countFields_28 rfl rfl ?_
    exact tr_iret hX hR dX6_countFields_29
  · refine tr_iload_n hX 1 dX6_countFields_10 rfl rfl ?_
    refine tr_aload_n hX 0 dX6_countFields_11 rfl rfl ?_
    refine tr_getR hX 21 1 (by decide) rfl rfl rfl (by decide) gX6 wm_153 dX6_countFields_12 ?_
    refine tr_iload_n hX 2 dX6_countFields_15 rfl rfl ?_
    refine tr_iald hX 23 (by decide) rfl dX6_countFields_16 ?_
    refine tr_callS hX [.int (s 23 (ix x2))] ks_J6_bitCount_0f7a4 wm_427 (by decide) rfl rfl (Nat.le_of_ble_eq_true rfl) dX6_countFields_17 (fun vq sq hq => c_J6_bitCount_0f7a4 G.1 hE N s (s 23 (ix x2)) (vq, sq) hq) fun v2 s1 => ?_
    refine tr_iadd hX dX6_countFields_20 ?_
    refine tr_istore_nB (lv2 := fun y3 => [(1, .int y3), (0, rf G.1 21), (2, .int x2)]) hX dX6_countFields_21 rfl (by decide) (fun _ => rfl) fun y3 => ?_
    refine tr_iincB (b := 1) (lv2 := fun y4 => [(2, .int y4), (1, .int y3), (0, rf G.1 21)]) hX 2 dX6_countFields_22 rfl rfl (by decide) (fun _ => rfl) fun y4 => ?_
    refine tr_goto hX 4 dX6_countFields_25 (by decide) ?_
    refine tr_lv (lv2 := [(0, rf G.1 21), (1, .int y3), (2, .int y4)]) [2, 1, 0] rfl ?_
    exact hk4 s1 y3 y4
theorem wl_X6_countFields_4 {G : Gx} (hX : ok G cX6_countFields 3 RX6 (some .int) 1 20) (hR : okR G) (hE : va_D (AW G.1) (wd G.1 (fun _ _ => 0))) (N : Nat) : ∀ (n : Nat) (s : Hp) (x1 x2 : Int32), T G (lp (fun _ _ _ => none) (f_X6_countFields_4 N) n s x1 x2) s 4 [(0, rf G.1 21), (1, .int x1), (2, .int x2)] [] := by
  intro n
  induction n with
  | zero => exact fun s x1 x2 h => nomatch (show (none : Option (Int32 × Hp)) = some _ from h)
  | succ n ih => exact fun s x1 x2 => w_X6_countFields_4 hX hR hE N _ ih s x1 x2
set_option maxRecDepth 20000 in
set_option maxHeartbeats 2000000 in
theorem w_X6_countFields {G : Gx} (hX : ok G cX6_countFields 3 RX6 (some .int) 1 20) (hR : okR G) (hE : va_D (AW G.1) (wd G.1 (fun _ _ => 0))) (N : Nat) (s : Hp) : T G (f_X6_countFields N s) s 0 [(0, rf G.1 21)] [] := by
  unfold f_X6_countFields
  refine tr_iconst (v := 0) hX dX6_countFields_0 rfl ?_
  refine tr_istore_n (lv2 := [(1, .int 0), (0, rf G.1 21)]) hX dX6_countFields_1 rfl (by decide) rfl ?_
  refine tr_iconst (v := 0) hX dX6_countFields_2 rfl ?_
  refine tr_istore_n (lv2 := [(2, .int 0), (1, .int 0), (0, rf G.1 21)]) hX dX6_countFields_3 rfl (by decide) rfl ?_
  refine tr_lv (lv2 := [(0, rf G.1 21), (1, .int 0), (2, .int 0)]) [2, 1, 0] rfl ?_
  exact wl_X6_countFields_4 hX hR hE N N s 0 0
theorem c_X6_countFields (E : Ex) (hE : va_D (AW E) (wd E (fun _ _ => 0))) (N : Nat) (s : Hp) (r : Int32 × Hp) (h : f_X6_countFields N s = some r) : CtrI E yX6_countFields cX6_countFields 3 (some .int) 1 20 [rf E 21] s r :=
  ctrI_of (by decide +kernel) hE (Nat.le_of_ble_eq_true rfl) h (fun G hX hR hG => by subst hG; exact w_X6_countFields hX hR hE N s)
set_option maxRecDepth 20000 in
set_option maxHeartbeats 2000000 in
theorem w_X9_sender {G : Gx} (hX : ok G cX9_sender 3 RX9 (some .int) 3 68) (hR : okR G) (hE : va_D (AW G.1) (wd G.1 (fun _ _ => 0))) (N : Nat) (s : Hp) (x1 x2 : Int32) : T G (f_X9_sender N s x1 x2) s 0 [(0, rf G.1 0), (1, .int x1), (2, .int x2)] [] := by
  unfold f_X9_sender
  refine tr_iload_n hX 1 dX9_sender_0 rfl rfl ?_
  refine tr_aload_n hX 0 dX9_sender_1 rfl rfl ?_
  refine tr_getR hX 0 3 (by decide) rfl rfl rfl (by decide) gX9 wm_291 dX9_sender_2 ?_
  refine tr_getNI hX 18 4 (by decide) rfl rfl rfl (by decide) gX0 wm_132 dX9_sender_5 ?_
  refine tr_callS hX [.int x1, .int (s 18 4)] ks_X9_isBelow wm_320 (by decide) rfl rfl (Nat.le_of_ble_eq_true rfl) dX9_sender_8 (fun vq sq hq => c_X9_isBelow G.1 hE N s x1 (s 18 4) (vq, sq) hq) fun v2 s1 => ?_
  refine tr_if_ne hX 16 dX9_sender_11 (by decide) ?_ ?_
  · refine tr_aload_n hX 0 dX9_sender_16 rfl rfl ?_
    refine tr_getR hX 0 4 (by decide) rfl rfl rfl (by decide) gX9 wm_292 dX9_sender_17 ?_
    refine tr_aload_n hX 0 dX9_sender_20 rfl rfl ?_
    refine tr_getR hX 0 2 (by decide) rfl rfl rfl (by decide) gX9 wm_290 dX9_sender_21 ?_
    refine tr_aload_n hX 0 dX9_sender_24 rfl rfl ?_
    refine tr_getR hX 0 3 (by decide) rfl rfl rfl (by decide) gX9 wm_291 dX9_sender_25 ?_
    refine tr_getNR hX 18 1 (by decide) rfl rfl rfl (by decide) gX0 wm_126 dX9_sender_28 ?_
    refine tr_iload_n hX 1 dX9_sender_31 rfl rfl ?_
    refine tr_callVv hX 21 [rf G.1 9, rf G.1 20, .int x1] kv_X6_draw wm_413 (by decide) rfl rfl rfl (by decide) rfl rfl (Nat.le_of_ble_eq_true rfl) dX9_sender_32 (fun vq sq hq => c_X6_draw G.1 hE N s1 x1 (vq, sq) hq) fun v4 s3 => ?_
    refine tr_iload_n hX 2 dX9_sender_35 rfl rfl ?_
    refine tr_split (fun hs36_0 => ?_) (fun hs36_0 => ?_)
    · refine tr_tab hX 88 hs36_0 dX9_sender_36 (by decide) (by decide) rfl (by decide) ?_
      refine tr_aload_n hX 0 dX9_sender_88 rfl rfl ?_
      refine tr_getR hX 0 4 (by decide) rfl rfl rfl (by decide) gX9 wm_292 dX9_sender_89 ?_
      refine tr_getNR hX 21 0 (by decide) rfl rfl rfl (by decide) gX6 wm_152 dX9_sender_92 ?_
      refine tr_iconst (v := 0) hX dX9_sender_95 rfl ?_
      refine tr_iald hX 22 (by decide) rfl dX9_sender_96 ?_
      exact tr_iret hX hR dX9_sender_97
    · refine tr_split (fun hs36_1 => ?_) (fun hs36_1 => ?_)
      · refine tr_tab hX 98 hs36_1 dX9_sender_36 (by decide) (by decide) rfl (by decide) ?_
        refine tr_aload_n hX 0 dX9_sender_98 rfl rfl ?_
        refine tr_getR hX 0 4 (by decide) rfl rfl rfl (by decide) gX9 wm_292 dX9_sender_99 ?_
        refine tr_getNI hX 21 2 (by decide) rfl rfl rfl (by decide) gX6 wm_157 dX9_sender_102 ?_
        exact tr_iret hX hR dX9_sender_105
      · refine tr_split (fun hs36_2 => ?_) (fun hs36_2 => ?_)
        · refine tr_tab hX 106 hs36_2 dX9_sender_36 (by decide) (by decide) rfl (by decide) ?_
          refine tr_aload_n hX 0 dX9_sender_106 rfl rfl ?_
          refine tr_getR hX 0 4 (by decide) rfl rfl rfl (by decide) gX9 wm_292 dX9_sender_107 ?_
          refine tr_getNI hX 21 3 (by decide) rfl rfl rfl (by decide) gX6 wm_160 dX9_sender_110 ?_
          exact tr_iret hX hR dX9_sender_113
        · refine tr_split (fun hs36_3 => ?_) (fun hs36_3 => ?_)
          · refine tr_tab hX 114 hs36_3 dX9_sender_36 (by decide) (by decide) rfl (by decide) ?_
            refine tr_aload_n hX 0 dX9_sender_114 rfl rfl ?_
            refine tr_getR hX 0 4 (by decide) rfl rfl rfl (by decide) gX9 wm_292 dX9_sender_115 ?_
            refine tr_getNI hX 21 4 (by decide) rfl rfl rfl (by decide) gX6 wm_162 dX9_sender_118 ?_
            exact tr_iret hX hR dX9_sender_121
          · refine tr_split (fun hs36_4 => ?_) (fun hs36_4 => ?_)
            · refine tr_tab hX 122 hs36_4 dX9_sender_36 (by decide) (by decide) rfl (by decide) ?_
              refine tr_aload_n hX 0 dX9_sender_122 rfl rfl ?_
              refine tr_getR hX 0 4 (by decide) rfl rfl rfl (by decide) gX9 wm_292 dX9_sender_123 ?_
              refine tr_getNI hX 21 5 (by decide) rfl rfl rfl (by decide) gX6 wm_164 dX9_sender_126 ?_
              exact tr_iret hX hR dX9_sender_129
            · refine tr_split (fun hs36_5 => ?_) (fun hs36_5 => ?_)
              · refine tr_tab hX 130 hs36_5 dX9_sender_36 (by decide) (by decide) rfl (by decide) ?_
                refine tr_aload_n hX 0 dX9_sender_130 rfl rfl ?_
                refine tr_getR hX 0 4 (by decide) rfl rfl rfl (by decide) gX9 wm_292 dX9_sender_131 ?_
                refine tr_getNI hX 21 6 (by decide) rfl rfl rfl (by decide) gX6 wm_167 dX9_sender_134 ?_
                exact tr_iret hX hR dX9_sender_137
              · refine tr_split (fun hs36_6 => ?_) (fun hs36_6 => ?_)
                · refine tr_tab hX 138 hs36_6 dX9_sender_36 (by decide) (by decide) rfl (by decide) ?_
                  refine tr_aload_n hX 0 dX9_sender_138 rfl rfl ?_
                  refine tr_getR hX 0 4 (by decide) rfl rfl rfl (by decide) gX9 wm_292 dX9_sender_139 ?_
                  refine tr_getNI hX 21 7 (by decide) rfl rfl rfl (by decide) gX6 wm_170 dX9_sender_142 ?_
                  exact tr_iret hX hR dX9_sender_145
                · refine tr_split (fun hs36_7 => ?_) (fun hs36_7 => ?_)
                  · refine tr_tab hX 146 hs36_7 dX9_sender_36 (by decide) (by decide) rfl (by decide) ?_
                    refine tr_aload_n hX 0 dX9_sender_146 rfl rfl ?_
                    refine tr_getR hX 0 4 (by decide) rfl rfl rfl (by decide) gX9 wm_292 dX9_sender_147 ?_
                    refine tr_callV hX 21 [] kv_X6_countFields wm_423 (by decide) rfl rfl rfl (by decide) rfl rfl (Nat.le_of_ble_eq_true rfl) dX9_sender_150 (fun vq sq hq => c_X6_countFields G.1 hE N s3 (vq, sq) hq) fun v6 s5 => ?_
                    exact tr_iret hX hR dX9_sender_153
                  · refine tr_split (fun hs36_8 => ?_) (fun hs36_8 => ?_)
                    · refine tr_tab hX 154 hs36_8 dX9_sender_36 (by decide) (by decide) rfl (by decide) ?_
                      refine tr_aload_n hX 0 dX9_sender_154 rfl rfl ?_
                      refine tr_getR hX 0 4 (by decide) rfl rfl rfl (by decide) gX9 wm_292 dX9_sender_155 ?_
                      refine tr_getNI hX 21 8 (by decide) rfl rfl rfl (by decide) gX6 wm_172 dX9_sender_158 ?_
                      refine tr_callS hX [.int (s3 21 8)] ks_J6_bitCount_0f7a4 wm_433 (by decide) rfl rfl (Nat.le_of_ble_eq_true rfl) dX9_sender_161 (fun vq sq hq => c_J6_bitCount_0f7a4 G.1 hE N s3 (s3 21 8) (vq, sq) hq) fun v8 s7 => ?_
                      exact tr_iret hX hR dX9_sender_164
                    · refine tr_tabO hX 165 dX9_sender_36 (by have q0 := lv_neT (a := 0) hs36_0 rfl; have q1 := lv_neT (a := 1) hs36_1 rfl; have q2 := lv_neT (a := 2) hs36_2 rfl; have q3 := lv_neT (a := 3) hs36_3 rfl; have q4 := lv_neT (a := 4) hs36_4 rfl; have q5 := lv_neT (a := 5) hs36_5 rfl; have q6 := lv_neT (a := 6) hs36_6 rfl; have q7 := lv_neT (a := 7) hs36_7 rfl; have q8 := lv_neT (a := 8) hs36_8 rfl; omega) (by decide) ?_
                      refine tr_iconst (v := (-1)) hX dX9_sender_165 rfl ?_
                      exact tr_iret hX hR dX9_sender_166
  · refine tr_iconst (v := (-1)) hX dX9_sender_14 rfl ?_
    exact tr_iret hX hR dX9_sender_15
theorem c_X9_sender (E : Ex) (hE : va_D (AW E) (wd E (fun _ _ => 0))) (N : Nat) (s : Hp) (x1 x2 : Int32) (r : Int32 × Hp) (h : f_X9_sender N s x1 x2 = some r) : CtrI E yX9_sender cX9_sender 3 (some .int) 3 68 [rf E 0, .int x1, .int x2] s r :=
  ctrI_of (by decide +kernel) hE (Nat.le_of_ble_eq_true rfl) h (fun G hX hR hG => by subst hG; exact w_X9_sender hX hR hE N s x1 x2)
set_option maxRecDepth 20000 in
set_option maxHeartbeats 2000000 in
theorem w_X6_has {G : Gx} (hX : ok G cX6_has 2 RX6 (some .boolean) 0 0) (hR : okR G) (hE : va_D (AW G.1) (wd G.1 (fun _ _ => 0))) (N : Nat) (s : Hp) (x1 : Int32) : T G (f_X6_has N s x1) s 0 [(0, rf G.1 21), (1, .int x1)] [] := by
  unfold f_X6_has
  refine tr_aload_n hX 0 dX6_has_0 rfl rfl ?_
  refine tr_getR hX 21 1 (by decide) rfl rfl rfl (by decide) gX6 wm_153 dX6_has_1 ?_
  refine tr_iload_n hX 1 dX6_has_4 rfl rfl ?_
  refine tr_bipush (v := 32) hX dX6_has_5 rfl ?_
  refine tr_idivC hX dX6_has_7 (by decide) ?_
  refine tr_iald hX 23 (by decide) rfl dX6_has_8 ?_
  refine tr_iload_n hX 1 dX6_has_9 rfl rfl ?_
  refine tr_bipush (v := 32) hX dX6_has_10 rfl ?_
  refine tr_iremC hX dX6_has_12 (by decide) ?_
  refine tr_ishr hX dX6_has_13 ?_
  refine tr_iconst (v := 1) hX dX6_has_14 rfl ?_
  refine tr_iand hX dX6_has_15 ?_
  refine tr_if_eq hX 23 dX6_has_16 (by decide) ?_ ?_
  · refine tr_iconst (v := 0) hX dX6_has_23 rfl ?_
    exact tr_zret hX hR rfl dX6_has_24
  · refine tr_iconst (v := 1) hX dX6_has_19 rfl ?_
    refine tr_goto hX 24 dX6_has_20 (by decide) ?_
    exact tr_zret hX hR rfl dX6_has_24
theorem c_X6_has (E : Ex) (hE : va_D (AW E) (wd E (fun _ _ => 0))) (N : Nat) (s : Hp) (x1 : Int32) (r : Int32 × Hp) (h : f_X6_has N s x1 = some r) : CtrI E yX6_has cX6_has 2 (some .boolean) 0 0 [rf E 21, .int x1] s r :=
  ctrI_of (by decide +kernel) hE (Nat.le_of_ble_eq_true rfl) h (fun G hX hR hG => by subst hG; exact w_X6_has hX hR hE N s x1)
set_option maxRecDepth 20000 in
set_option maxHeartbeats 2000000 in
theorem w_X6_fieldAt_29 {G : Gx} (hX : ok G cX6_fieldAt 4 RX6 (some .int) 1 21) (hR : okR G) (hE : va_D (AW G.1) (wd G.1 (fun _ _ => 0))) (N : Nat) (k4 : Hp → Int32 → Int32 → Int32 → Option (Int32 × Hp)) (hk4 : ∀ (s : Hp) (x1 x2 x3 : Int32), T G (k4 s x1 x2 x3) s 4 [(0, rf G.1 21), (1, .int x1), (2, .int x2), (3, .int x3)] []) (s : Hp) (x1 x2 x3 : Int32) : T G (f_X6_fieldAt_29 N k4 s x1 x2 x3) s 29 [(0, rf G.1 21), (1, .int x1), (2, .int x2), (3, .int x3)] [] := by
  unfold f_X6_fieldAt_29
  refine tr_iincB (b := 1) (lv2 := fun y4 => [(3, .int y4), (0, rf G.1 21), (1, .int x1), (2, .int x2)]) hX 3 dX6_fieldAt_29 rfl rfl (by decide) (fun _ => rfl) fun y4 => ?_
  refine tr_goto hX 4 dX6_fieldAt_32 (by decide) ?_
  refine tr_lv (lv2 := [(0, rf G.1 21), (1, .int x1), (2, .int x2), (3, .int y4)]) [1, 2, 3, 0] rfl ?_
  exact hk4 s x1 x2 y4
set_option maxRecDepth 20000 in
set_option maxHeartbeats 2000000 in
theorem w_X6_fieldAt_4 {G : Gx} (hX : ok G cX6_fieldAt 4 RX6 (some .int) 1 21) (hR : okR G) (hE : va_D (AW G.1) (wd G.1 (fun _ _ => 0))) (N : Nat) (k4 : Hp → Int32 → Int32 → Int32 → Option (Int32 × Hp)) (hk4 : ∀ (s : Hp) (x1 x2 x3 : Int32), T G (k4 s x1 x2 x3) s 4 [(0, rf G.1 21), (1, .int x1), (2, .int x2), (3, .int x3)] []) (s : Hp) (x1 x2 x3 : Int32) : T G (f_X6_fieldAt_4 N k4 s x1 x2 x3) s 4 [(0, rf G.1 21), (1, .int x1), (2, .int x2), (3, .int x3)] [] := by
  unfold f_X6_fieldAt_4
  refine tr_iload_n hX 3 dX6_fieldAt_4 rfl rfl ?_
  refine tr_sipush (v := 1024) hX dX6_fieldAt_5 rfl ?_
  refine tr_icmp_ge hX 35 dX6_fieldAt_8 (by decide) ?_ ?_
  · refine tr_iconst (v := (-1)) hX dX6_fieldAt_35 rfl ?_
    exact tr_iret hX hR dX6_fieldAt_36
  · refine tr_aload_n hX 0 dX6_fieldAt_11 rfl rfl ?_
    refine tr_iload_n hX 3 dX6_fieldAt_12 rfl rfl ?_
    refine tr_callV hX 21 [.int x3] kv_X6_has wm_442 (by decide) rfl rfl rfl (by decide) rfl rfl (Nat.le_of_ble_eq_true rfl) dX6_fieldAt_13 (fun vq sq hq => c_X6_has G.1 hE N s x3 (vq, sq) hq) fun v2 s1 => ?_
    refine tr_if_eq hX 29 dX6_fieldAt_16 (by decide) ?_ ?_
    · exact w_X6_fieldAt_29 hX hR hE N k4 hk4 s1 x1 x2 x3
    · refine tr_iload_n hX 2 dX6_fieldAt_19 rfl rfl ?_
      refine tr_iload_n hX 1 dX6_fieldAt_20 rfl rfl ?_
      refine tr_icmp_ne hX 26 dX6_fieldAt_21 (by decide) ?_ ?_
      · refine tr_iincB (b := 1) (lv2 := fun y3 => [(2, .int y3), (0, rf G.1 21), (1, .int x1), (3, .int x3)]) hX 2 dX6_fieldAt_26 rfl rfl (by decide) (fun _ => rfl) fun y3 => ?_
        refine tr_lv (lv2 := [(0, rf G.1 21), (1, .int x1), (2, .int y3), (3, .int x3)]) [1, 2, 0, 3] rfl ?_
        exact w_X6_fieldAt_29 hX hR hE N k4 hk4 s1 x1 y3 x3
      · refine tr_iload_n hX 3 dX6_fieldAt_24 rfl rfl ?_
        exact tr_iret hX hR dX6_fieldAt_25
theorem wl_X6_fieldAt_4 {G : Gx} (hX : ok G cX6_fieldAt 4 RX6 (some .int) 1 21) (hR : okR G) (hE : va_D (AW G.1) (wd G.1 (fun _ _ => 0))) (N : Nat) : ∀ (n : Nat) (s : Hp) (x1 x2 x3 : Int32), T G (lp (fun _ _ _ _ => none) (f_X6_fieldAt_4 N) n s x1 x2 x3) s 4 [(0, rf G.1 21), (1, .int x1), (2, .int x2), (3, .int x3)] [] := by
  intro n
  induction n with
  | zero => exact fun s x1 x2 x3 h => nomatch (show (none : Option (Int32 × Hp)) = some _ from h)
  | succ n ih => exact fun s x1 x2 x3 => w_X6_fieldAt_4 hX hR hE N _ ih s x1 x2 x3
set_option maxRecDepth 20000 in
set_option maxHeartbeats 2000000 in
theorem w_X6_fieldAt {G : Gx} (hX : ok G cX6_fieldAt 4 RX6 (some .int) 1 21) (hR : okR G) (hE : va_D (AW G.1) (wd G.1 (fun _ _ => 0))) (N : Nat) (s : Hp) (x1 : Int32) : T G (f_X6_fieldAt N s x1) s 0 [(0, rf G.1 21), (1, .int x1)] [] := by
  unfold f_X6_fieldAt
  refine tr_iconst (v := 0) hX dX6_fieldAt_0 rfl ?_
  refine tr_istore_n (lv2 := [(2, .int 0), (0, rf G.1 21), (1, .int x1)]) hX dX6_fieldAt_1 rfl (by decide) rfl ?_
  refine tr_iconst (v := 0) hX dX6_fieldAt_2 rfl ?_
  refine tr_istore_n (lv2 := [(3, .int 0), (2, .int 0), (0, rf G.1 21), (1, .int x1)]) hX dX6_fieldAt_3 rfl (by decide) rfl ?_
  refine tr_lv (lv2 := [(0, rf G.1 21), (1, .int x1), (2, .int 0), (3, .int 0)]) [2, 3, 1, 0] rfl ?_
  exact wl_X6_fieldAt_4 hX hR hE N N s x1 0 0
theorem c_X6_fieldAt (E : Ex) (hE : va_D (AW E) (wd E (fun _ _ => 0))) (N : Nat) (s : Hp) (x1 : Int32) (r : Int32 × Hp) (h : f_X6_fieldAt N s x1 = some r) : CtrI E yX6_fieldAt cX6_fieldAt 4 (some .int) 1 21 [rf E 21, .int x1] s r :=
  ctrI_of (by decide +kernel) hE (Nat.le_of_ble_eq_true rfl) h (fun G hX hR hG => by subst hG; exact w_X6_fieldAt hX hR hE N s x1)
