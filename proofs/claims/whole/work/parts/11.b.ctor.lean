set_option maxRecDepth 20000 in
set_option maxHeartbeats 4000000 in
theorem c_X4_init (E : Ex) (h0 : Nat) : CtrC E yX4_init cX4_init 1 1 12 2 12 h0 [] (4, [.null, .null, .int 0]) (fun L S => ∃ (q1 : Nat) (q2 : Nat), L = [(h0, .inr (4, [.ref q1, .ref q2, .int 0])), arrW E 0 6 q1, arrW E 0 6 q2] ∧ S = []) := by
  refine ctrC_of (by decide +kernel) rfl (Nat.le_of_ble_eq_true rfl) (fun K hX hN hP hK => ?_)
  subst hK
  show Kj K [(h0, .inr (4, [.null, .null, .int 0]))] [] 0 0 0 [(0, .ref h0)] []
  refine kn_aload_n hX 0 dX4_init_0 rfl rfl ?_
  refine kn_obj hX wc_31 wc_24 wc_25 (by decide) (Nat.le_of_ble_eq_true rfl) dX4_init_1 ?_
  refine kn_aload_n hX 0 dX4_init_4 rfl rfl ?_
  refine kn_bipush (v := 6) hX dX4_init_5 rfl ?_
  refine kn_newI (N := 6) hX wc_45 (by decide) rfl (by decide) (by decide) (by decide) dX4_init_7 fun q1 => ?_
  refine kn_putF (ty := .array .int) (L2 := [(h0, .inr (4, [.ref q1, .null, .int 0])), arrW K.1 0 6 q1]) hX 0 0 tyX4 tyX4_ok nmX4 rfl rfl (by decide) gX4 wc_32 rfl hN rfl (by decide +kernel) rfl rfl (Nat.le_of_ble_eq_true rfl) dX4_init_9 rfl ?_
  refine kn_aload_n hX 0 dX4_init_12 rfl rfl ?_
  refine kn_bipush (v := 6) hX dX4_init_13 rfl ?_
  refine kn_newI (N := 6) hX wc_45 (by decide) rfl (by decide) (by decide) (by decide) dX4_init_15 fun q2 => ?_
  refine kn_putF (ty := .array .int) (L2 := [(h0, .inr (4, [.ref q1, .ref q2, .int 0])), arrW K.1 0 6 q1, arrW K.1 0 6 q2]) hX 0 1 tyX4 tyX4_ok nmX4 rfl rfl (by decide) gX4 wc_34 rfl hN rfl (by decide +kernel) rfl rfl (Nat.le_of_ble_eq_true rfl) dX4_init_17 rfl ?_
  exact kn_ret hX hP ⟨q1, q2, rfl, rfl⟩ dX4_init_20
set_option maxRecDepth 20000 in
set_option maxHeartbeats 4000000 in
theorem c_X7_init_100 (E : Ex) (h0 : Nat) : CtrC E yX7_init cX7_init 3 1 21 4 400 h0 [.int 100] (7, [.null, .null, .null, .null, .int 0]) (fun L S => ∃ (q1 : Nat) (q2 : Nat) (q3 : Nat) (q4 : Nat), L = [(h0, .inr (7, [.ref q1, .ref q2, .ref q3, .ref q4, .int 0])), arrW E 0 100 q1, arrW E 0 100 q2, arrW E 0 100 q3, arrW E 0 100 q4] ∧ S = []) := by
  refine ctrC_of (by decide +kernel) rfl (Nat.le_of_ble_eq_true rfl) (fun K hX hN hP hK => ?_)
  subst hK
  show Kj K [(h0, .inr (7, [.null, .null, .null, .null, .int 0]))] [] 0 0 0 [(0, .ref h0), (1, .int 100)] []
  refine kn_aload_n hX 0 dX7_init_0 rfl rfl ?_
  refine kn_obj hX wc_51 wc_24 wc_25 (by decide) (Nat.le_of_ble_eq_true rfl) dX7_init_1 ?_
  refine kn_iconst (v := 0) hX dX7_init_4 rfl ?_
  refine kn_iload_n hX 1 dX7_init_5 rfl rfl ?_
  refine kn_max (v := 100) hX rfl wc_52 wc_53 wc_4 wc_54 (by decide) (Nat.le_of_ble_eq_true rfl) (by decide) (by decide) dX7_init_6 ?_
  refine kn_istore_n (lv2 := [(2, .int 100), (0, .ref h0), (1, .int 100)]) hX dX7_init_9 rfl (by decide) rfl ?_
  refine kn_aload_n hX 1 dX7_init_10 rfl rfl ?_
  refine kn_iload_n hX 0 dX7_init_11 rfl rfl ?_
  refine kn_newI (N := 100) hX wc_45 (by decide) rfl (by decide) (by decide) (by decide) dX7_init_12 fun q1 => ?_
  refine kn_putF (ty := .array .int) (L2 := [(h0, .inr (7, [.ref q1, .null, .null, .null, .int 0])), arrW K.1 0 100 q1]) hX 0 0 tyX7 tyX7_ok nmX7 rfl rfl (by decide) gX7 wc_55 rfl hN rfl (by decide +kernel) rfl rfl (Nat.le_of_ble_eq_true rfl) dX7_init_14 rfl ?_
  refine kn_aload_n hX 1 dX7_init_17 rfl rfl ?_
  refine kn_iload_n hX 0 dX7_init_18 rfl rfl ?_
  refine kn_newI (N := 100) hX wc_45 (by decide) rfl (by decide) (by decide) (by decide) dX7_init_19 fun q2 => ?_
  refine kn_putF (ty := .array .int) (L2 := [(h0, .inr (7, [.ref q1, .ref q2, .null, .null, .int 0])), arrW K.1 0 100 q1, arrW K.1 0 100 q2]) hX 0 1 tyX7 tyX7_ok nmX7 rfl rfl (by decide) gX7 wc_58 rfl hN rfl (by decide +kernel) rfl rfl (Nat.le_of_ble_eq_true rfl) dX7_init_21 rfl ?_
  refine kn_aload_n hX 1 dX7_init_24 rfl rfl ?_
  refine kn_iload_n hX 0 dX7_init_25 rfl rfl ?_
  refine kn_newI (N := 100) hX wc_45 (by decide) rfl (by decide) (by decide) (by decide) dX7_init_26 fun q3 => ?_
  refine kn_putF (ty := .array .int) (L2 := [(h0, .inr (7, [.ref q1, .ref q2, .ref q3, .null, .int 0])), arrW K.1 0 100 q1, arrW K.1 0 100 q2, arrW K.1 0 100 q3]) hX 0 2 tyX7 tyX7_ok nmX7 rfl rfl (by decide) gX7 wc_61 rfl hN rfl (by decide +kernel) rfl rfl (Nat.le_of_ble_eq_true rfl) dX7_init_28 rfl ?_
  refine kn_aload_n hX 1 dX7_init_31 rfl rfl ?_
  refine kn_iload_n hX 0 dX7_init_32 rfl rfl ?_
  refine kn_newI (N := 100) hX wc_45 (by decide) rfl (by decide) (by decide) (by decide) dX7_init_33 fun q4 => ?_
  refine kn_putF (ty := .array .int) (L2 := [(h0, .inr (7, [.ref q1, .ref q2, .ref q3, .ref q4, .int 0])), arrW K.1 0 100 q1, arrW K.1 0 100 q2, arrW K.1 0 100 q3, arrW K.1 0 100 q4]) hX 0 3 tyX7 tyX7_ok nmX7 rfl rfl (by decide) gX7 wc_65 rfl hN rfl (by decide +kernel) rfl rfl (Nat.le_of_ble_eq_true rfl) dX7_init_35 rfl ?_
  exact kn_ret hX hP ⟨q1, q2, q3, q4, rfl, rfl⟩ dX7_init_38
set_option maxRecDepth 20000 in
set_option maxHeartbeats 4000000 in
theorem c_X7_init_60 (E : Ex) (h0 : Nat) : CtrC E yX7_init cX7_init 3 1 21 4 240 h0 [.int 60] (7, [.null, .null, .null, .null, .int 0]) (fun L S => ∃ (q1 : Nat) (q2 : Nat) (q3 : Nat) (q4 : Nat), L = [(h0, .inr (7, [.ref q1, .ref q2, .ref q3, .ref q4, .int 0])), arrW E 0 60 q1, arrW E 0 60 q2, arrW E 0 60 q3, arrW E 0 60 q4] ∧ S = []) := by
  refine ctrC_of (by decide +kernel) rfl (Nat.le_of_ble_eq_true rfl) (fun K hX hN hP hK => ?_)
  subst hK
  show Kj K [(h0, .inr (7, [.null, .null, .null, .null, .int 0]))] [] 0 0 0 [(0, .ref h0), (1, .int 60)] []
  refine kn_aload_n hX 0 dX7_init_0 rfl rfl ?_
  refine kn_obj hX wc_51 wc_24 wc_25 (by decide) (Nat.le_of_ble_eq_true rfl) dX7_init_1 ?_
  refine kn_iconst (v := 0) hX dX7_init_4 rfl ?_
  refine kn_iload_n hX 1 dX7_init_5 rfl rfl ?_
  refine kn_max (v := 60) hX rfl wc_52 wc_53 wc_4 wc_54 (by decide) (Nat.le_of_ble_eq_true rfl) (by decide) (by decide) dX7_init_6 ?_
  refine kn_istore_n (lv2 := [(2, .int 60), (0, .ref h0), (1, .int 60)]) hX dX7_init_9 rfl (by decide) rfl ?_
  refine kn_aload_n hX 1 dX7_init_10 rfl rfl ?_
  refine kn_iload_n hX 0 dX7_init_11 rfl rfl ?_
  refine kn_newI (N := 60) hX wc_45 (by decide) rfl (by decide) (by decide) (by decide) dX7_init_12 fun q1 => ?_
  refine kn_putF (ty := .array .int) (L2 := [(h0, .inr (7, [.ref q1, .null, .null, .null, .int 0])), arrW K.1 0 60 q1]) hX 0 0 tyX7 tyX7_ok nmX7 rfl rfl (by decide) gX7 wc_55 rfl hN rfl (by decide +kernel) rfl rfl (Nat.le_of_ble_eq_true rfl) dX7_init_14 rfl ?_
  refine kn_aload_n hX 1 dX7_init_17 rfl rfl ?_
  refine kn_iload_n hX 0 dX7_init_18 rfl rfl ?_
  refine kn_newI (N := 60) hX wc_45 (by decide) rfl (by decide) (by decide) (by decide) dX7_init_19 fun q2 => ?_
  refine kn_putF (ty := .array .int) (L2 := [(h0, .inr (7, [.ref q1, .ref q2, .null, .null, .int 0])), arrW K.1 0 60 q1, arrW K.1 0 60 q2]) hX 0 1 tyX7 tyX7_ok nmX7 rfl rfl (by decide) gX7 wc_58 rfl hN rfl (by decide +kernel) rfl rfl (Nat.le_of_ble_eq_true rfl) dX7_init_21 rfl ?_
  refine kn_aload_n hX 1 dX7_init_24 rfl rfl ?_
  refine kn_iload_n hX 0 dX7_init_25 rfl rfl ?_
  refine kn_newI (N := 60) hX wc_45 (by decide) rfl (by decide) (by decide) (by decide) dX7_init_26 fun q3 => ?_
  refine kn_putF (ty := .array .int) (L2 := [(h0, .inr (7, [.ref q1, .ref q2, .ref q3, .null, .int 0])), arrW K.1 0 60 q1, arrW K.1 0 60 q2, arrW K.1 0 60 q3]) hX 0 2 tyX7 tyX7_ok nmX7 rfl rfl (by decide) gX7 wc_61 rfl hN rfl (by decide +kernel) rfl rfl (Nat.le_of_ble_eq_true rfl) dX7_init_28 rfl ?_
  refine kn_aload_n hX 1 dX7_init_31 rfl rfl ?_
  refine kn_iload_n hX 0 dX7_init_32 rfl rfl ?_
  refine kn_newI (N := 60) hX wc_45 (by decide) rfl (by decide) (by decide) (by decide) dX7_init_33 fun q4 => ?_
  refine kn_putF (ty := .array .int) (L2 := [(h0, .inr (7, [.ref q1, .ref q2, .ref q3, .ref q4, .int 0])), arrW K.1 0 60 q1, arrW K.1 0 60 q2, arrW K.1 0 60 q3, arrW K.1 0 60 q4]) hX 0 3 tyX7 tyX7_ok nmX7 rfl rfl (by decide) gX7 wc_65 rfl hN rfl (by decide +kernel) rfl rfl (Nat.le_of_ble_eq_true rfl) dX7_init_35 rfl ?_
  exact kn_ret hX hP ⟨q1, q2, q3, q4, rfl, rfl⟩ dX7_init_38
set_option maxRecDepth 20000 in
set_option maxHeartbeats 4000000 in
theorem c_X2_init (E : Ex) (h0 : Nat) : CtrC E yX2_init cX2_init 1 2 43 68 2345 h0 [] (2, [.null, .null, .null, .null, .int 0]) (fun L S => ∃ (q1 : Nat) (q2 : Nat) (q3 : Nat) (q4 : Nat) (q5 : Nat) (q6 : Nat) (q7 : Nat) (q8 : Nat) (r9 : Nat → Nat), L = [(h0, .inr (2, [.ref q1, .ref q6, .ref q7, .ref q8, .int 0])), (q1, .inr (7, [.ref q2, .ref q3, .ref q4, .ref q5, .int 0])), arrW E 0 60 q2, arrW E 0 60 q3, arrW E 0 60 q4, arrW E 0 60 q5, arrW E 0 60 q6, arrW E 1 60 q7, outW E 60 q8 r9] ∧ S = (([] ++ []) ++ rowsW E r9 60 32)) := by
  refine ctrC_of (by decide +kernel) rfl (Nat.le_of_ble_eq_true rfl) (fun K hX hN hP hK => ?_)
  subst hK
  show Kj K [(h0, .inr (2, [.null, .null, .null, .null, .int 0]))] [] 0 0 0 [(0, .ref h0)] []
  refine kn_aload_n hX 0 dX2_init_0 rfl rfl ?_
  refine kn_obj hX wc_89 wc_24 wc_25 (by decide) (Nat.le_of_ble_eq_true rfl) dX2_init_1 ?_
  refine kn_aload_n hX 0 dX2_init_4 rfl rfl ?_
  refine kn_new (ci := 7) (fs := [.null, .null, .null, .null, .int 0]) hX tyX7 tyX7_ok gX7 wc_90 wc_47 wc_3 rfl (by decide) (by decide) (by decide) dX2_init_5 fun q1 => ?_
  refine kn_dup hX dX2_init_8 rfl ?_
  refine kn_bipush (v := 60) hX dX2_init_9 rfl ?_
  refine kn_call hX [.int 60] [(h0, .inr (2, [.null, .null, .null, .null, .int 0]))] rfl wc_91 wc_49 wc_3 wc_50 rfl (by decide +kernel) (by decide) rfl rfl (Nat.le_of_ble_eq_true rfl) (by decide) (by decide) dX2_init_11 (c_X7_init_60 K.1 q1) fun Lc Sc hpost => ?_
  obtain ⟨q2, q3, q4, q5, rfl, rfl⟩ := hpost
  refine kn_putF (ty := .object "AirWatch$Spans") (L2 := [(h0, .inr (2, [.ref q1, .null, .null, .null, .int 0])), (q1, .inr (7, [.ref q2, .ref q3, .ref q4, .ref q5, .int 0])), arrW K.1 0 60 q2, arrW K.1 0 60 q3, arrW K.1 0 60 q4, arrW K.1 0 60 q5]) hX 0 0 tyX2 tyX2_ok nmX2 rfl rfl (by decide) gX2 wc_94 rfl hN rfl (by decide +kernel) rfl rfl (Nat.le_of_ble_eq_true rfl) dX2_init_14 rfl ?_
  refine kn_aload_n hX 0 dX2_init_17 rfl rfl ?_
  refine kn_bipush (v := 60) hX dX2_init_18 rfl ?_
  refine kn_newI (N := 60) hX wc_45 (by decide) rfl (by decide) (by decide) (by decide) dX2_init_20 fun q6 => ?_
  refine kn_putF (ty := .array .int) (L2 := [(h0, .inr (2, [.ref q1, .ref q6, .null, .null, .int 0])), (q1, .inr (7, [.ref q2, .ref q3, .ref q4, .ref q5, .int 0])), arrW K.1 0 60 q2, arrW K.1 0 60 q3, arrW K.1 0 60 q4, arrW K.1 0 60 q5, arrW K.1 0 60 q6]) hX 0 1 tyX2 tyX2_ok nmX2 rfl rfl (by decide) gX2 wc_98 rfl hN rfl (by decide +kernel) rfl rfl (Nat.le_of_ble_eq_true rfl) dX2_init_22 rfl ?_
  refine kn_aload_n hX 0 dX2_init_25 rfl rfl ?_
  refine kn_bipush (v := 60) hX dX2_init_26 rfl ?_
  refine kn_newZ (N := 60) hX wc_117 (by decide) rfl (by decide) (by decide) (by decide) dX2_init_28 fun q7 => ?_
  refine kn_putF (ty := .array .boolean) (L2 := [(h0, .inr (2, [.ref q1, .ref q6, .ref q7, .null, .int 0])), (q1, .inr (7, [.ref q2, .ref q3, .ref q4, .ref q5, .int 0])), arrW K.1 0 60 q2, arrW K.1 0 60 q3, arrW K.1 0 60 q4, arrW K.1 0 60 q5, arrW K.1 0 60 q6, arrW K.1 1 60 q7]) hX 0 2 tyX2 tyX2_ok nmX2 rfl rfl (by decide) gX2 wc_100 rfl hN rfl (by decide +kernel) rfl rfl (Nat.le_of_ble_eq_true rfl) dX2_init_30 rfl ?_
  refine kn_aload_n hX 0 dX2_init_33 rfl rfl ?_
  refine kn_bipush (v := 60) hX dX2_init_34 rfl ?_
  refine kn_bipush (v := 32) hX dX2_init_36 rfl ?_
  refine kn_mna (N := 60) (M := 32) hX wc_92 wc_45 (by decide) (by decide) rfl rfl (by decide) (by decide) (by decide) (by decide) dX2_init_38 fun q8 r9 => ?_
  refine kn_putF (ty := .array (.array .int)) (L2 := [(h0, .inr (2, [.ref q1, .ref q6, .ref q7, .ref q8, .int 0])), (q1, .inr (7, [.ref q2, .ref q3, .ref q4, .ref q5, .int 0])), arrW K.1 0 60 q2, arrW K.1 0 60 q3, arrW K.1 0 60 q4, arrW K.1 0 60 q5, arrW K.1 0 60 q6, arrW K.1 1 60 q7, outW K.1 60 q8 r9]) hX 0 3 tyX2 tyX2_ok nmX2 rfl rfl (by decide) gX2 wc_102 rfl hN rfl (by decide +kernel) rfl rfl (Nat.le_of_ble_eq_true rfl) dX2_init_42 rfl ?_
  exact kn_ret hX hP ⟨q1, q2, q3, q4, q5, q6, q7, q8, r9, rfl, rfl⟩ dX2_init_45
set_option maxRecDepth 20000 in
set_option maxHeartbeats 4000000 in
theorem c_X0_init (E : Ex) (h0 : Nat) : CtrC E yX0_init cX0_init 1 1 12 2 120 h0 [] (0, [.null, .null, .int 0, .int 0, .int 0]) (fun L S => ∃ (q1 : Nat) (q2 : Nat), L = [(h0, .inr (0, [.ref q1, .ref q2, .int 5, .int 10, .int 0])), arrW E 0 60 q1, arrW E 0 60 q2] ∧ S = []) := by
  refine ctrC_of (by decide +kernel) rfl (Nat.le_of_ble_eq_true rfl) (fun K hX hN hP hK => ?_)
  subst hK
  show Kj K [(h0, .inr (0, [.null, .null, .int 0, .int 0, .int 0]))] [] 0 0 0 [(0, .ref h0)] []
  refine kn_aload_n hX 0 dX0_init_0 rfl rfl ?_
  refine kn_obj hX wc_123 wc_24 wc_25 (by decide) (Nat.le_of_ble_eq_true rfl) dX0_init_1 ?_
  refine kn_aload_n hX 0 dX0_init_4 rfl rfl ?_
  refine kn_bipush (v := 60) hX dX0_init_5 rfl ?_
  refine kn_newI (N := 60) hX wc_45 (by decide) rfl (by decide) (by decide) (by decide) dX0_init_7 fun q1 => ?_
  refine kn_putF (ty := .array .int) (L2 := [(h0, .inr (0, [.ref q1, .null, .int 0, .int 0, .int 0])), arrW K.1 0 60 q1]) hX 0 0 tyX0 tyX0_ok nmX0 rfl rfl (by decide) gX0 wc_124 rfl hN rfl (by decide +kernel) rfl rfl (Nat.le_of_ble_eq_true rfl) dX0_init_9 rfl ?_
  refine kn_aload_n hX 0 dX0_init_12 rfl rfl ?_
  refine kn_bipush (v := 60) hX dX0_init_13 rfl ?_
  refine kn_newI (N := 60) hX wc_45 (by decide) rfl (by decide) (by decide) (by decide) dX0_init_15 fun q2 => ?_
  refine kn_putF (ty := .array .int) (L2 := [(h0, .inr (0, [.ref q1, .ref q2, .int 0, .int 0, .int 0])), arrW K.1 0 60 q1, arrW K.1 0 60 q2]) hX 0 1 tyX0 tyX0_ok nmX0 rfl rfl (by decide) gX0 wc_125 rfl hN rfl (by decide +kernel) rfl rfl (Nat.le_of_ble_eq_true rfl) dX0_init_17 rfl ?_
  refine kn_aload_n hX 0 dX0_init_20 rfl rfl ?_
  refine kn_iconst (v := 5) hX dX0_init_21 rfl ?_
  refine kn_put (ty := .int) (L2 := [(h0, .inr (0, [.ref q1, .ref q2, .int 5, .int 0, .int 0])), arrW K.1 0 60 q1, arrW K.1 0 60 q2]) hX 0 2 tyX0 tyX0_ok nmX0 rfl rfl (by decide) gX0 wc_127 rfl (by decide +kernel) rfl rfl (Nat.le_of_ble_eq_true rfl) dX0_init_22 rfl ?_
  refine kn_aload_n hX 0 dX0_init_25 rfl rfl ?_
  refine kn_bipush (v := 10) hX dX0_init_26 rfl ?_
  refine kn_put (ty := .int) (L2 := [(h0, .inr (0, [.ref q1, .ref q2, .int 5, .int 10, .int 0])), arrW K.1 0 60 q1, arrW K.1 0 60 q2]) hX 0 3 tyX0 tyX0_ok nmX0 rfl rfl (by decide) gX0 wc_129 rfl (by decide +kernel) rfl rfl (Nat.le_of_ble_eq_true rfl) dX0_init_28 rfl ?_
  exact kn_ret hX hP ⟨q1, q2, rfl, rfl⟩ dX0_init_31
set_option maxRecDepth 20000 in
set_option maxHeartbeats 4000000 in
theorem c_X6_init (E : Ex) (h0 : Nat) : CtrC E yX6_init cX6_init 1 1 12 2 92 h0 [] (6, [.null, .null, .int 0, .int 0, .int 0, .int 0, .int 0, .int 0, .int 0]) (fun L S => ∃ (q1 : Nat) (q2 : Nat), L = [(h0, .inr (6, [.ref q1, .ref q2, .int 0, .int 0, .int 0, .int 0, .int 0, .int 0, .int 0])), arrW E 0 60 q1, arrW E 0 32 q2] ∧ S = []) := by
  refine ctrC_of (by decide +kernel) rfl (Nat.le_of_ble_eq_true rfl) (fun K hX hN hP hK => ?_)
  subst hK
  show Kj K [(h0, .inr (6, [.null, .null, .int 0, .int 0, .int 0, .int 0, .int 0, .int 0, .int 0]))] [] 0 0 0 [(0, .ref h0)] []
  refine kn_aload_n hX 0 dX6_init_0 rfl rfl ?_
  refine kn_obj hX wc_149 wc_24 wc_25 (by decide) (Nat.le_of_ble_eq_true rfl) dX6_init_1 ?_
  refine kn_aload_n hX 0 dX6_init_4 rfl rfl ?_
  refine kn_bipush (v := 60) hX dX6_init_5 rfl ?_
  refine kn_newI (N := 60) hX wc_45 (by decide) rfl (by decide) (by decide) (by decide) dX6_init_7 fun q1 => ?_
  refine kn_putF (ty := .array .int) (L2 := [(h0, .inr (6, [.ref q1, .null, .int 0, .int 0, .int 0, .int 0, .int 0, .int 0, .int 0])), arrW K.1 0 60 q1]) hX 0 0 tyX6 tyX6_ok nmX6 rfl rfl (by decide) gX6 wc_150 rfl hN rfl (by decide +kernel) rfl rfl (Nat.le_of_ble_eq_true rfl) dX6_init_9 rfl ?_
  refine kn_aload_n hX 0 dX6_init_12 rfl rfl ?_
  refine kn_bipush (v := 32) hX dX6_init_13 rfl ?_
  refine kn_newI (N := 32) hX wc_45 (by decide) rfl (by decide) (by decide) (by decide) dX6_init_15 fun q2 => ?_
  refine kn_putF (ty := .array .int) (L2 := [(h0, .inr (6, [.ref q1, .ref q2, .int 0, .int 0, .int 0, .int 0, .int 0, .int 0, .int 0])), arrW K.1 0 60 q1, arrW K.1 0 32 q2]) hX 0 1 tyX6 tyX6_ok nmX6 rfl rfl (by decide) gX6 wc_153 rfl hN rfl (by decide +kernel) rfl rfl (Nat.le_of_ble_eq_true rfl) dX6_init_17 rfl ?_
  exact kn_ret hX hP ⟨q1, q2, rfl, rfl⟩ dX6_init_20
set_option maxRecDepth 20000 in
set_option maxHeartbeats 4000000 in
theorem c_X8_init (E : Ex) (h0 : Nat) : CtrC E yX8_init cX8_init 1 1 12 1 100 h0 [] (8, [.null, .int 0, .int 0, .int 0, .int 0]) (fun L S => ∃ (q1 : Nat), L = [(h0, .inr (8, [.ref q1, .int 0, .int 0, .int 0, .int 0])), arrW E 0 100 q1] ∧ S = []) := by
  refine ctrC_of (by decide +kernel) rfl (Nat.le_of_ble_eq_true rfl) (fun K hX hN hP hK => ?_)
  subst hK
  show Kj K [(h0, .inr (8, [.null, .int 0, .int 0, .int 0, .int 0]))] [] 0 0 0 [(0, .ref h0)] []
  refine kn_aload_n hX 0 dX8_init_0 rfl rfl ?_
  refine kn_obj hX wc_197 wc_24 wc_25 (by decide) (Nat.le_of_ble_eq_true rfl) dX8_init_1 ?_
  refine kn_aload_n hX 0 dX8_init_4 rfl rfl ?_
  refine kn_bipush (v := 100) hX dX8_init_5 rfl ?_
  refine kn_newI (N := 100) hX wc_45 (by decide) rfl (by decide) (by decide) (by decide) dX8_init_7 fun q1 => ?_
  refine kn_putF (ty := .array .int) (L2 := [(h0, .inr (8, [.ref q1, .int 0, .int 0, .int 0, .int 0])), arrW K.1 0 100 q1]) hX 0 0 tyX8 tyX8_ok nmX8 rfl rfl (by decide) gX8 wc_198 rfl hN rfl (by decide +kernel) rfl rfl (Nat.le_of_ble_eq_true rfl) dX8_init_9 rfl ?_
  exact kn_ret hX hP ⟨q1, rfl, rfl⟩ dX8_init_12
set_option maxRecDepth 20000 in
set_option maxHeartbeats 4000000 in
theorem c_X5_init (E : Ex) (h0 : Nat) : CtrC E yX5_init cX5_init 1 1 12 1 10 h0 [] (5, [.null, .int 0, .int 0, .int 0]) (fun L S => ∃ (q1 : Nat), L = [(h0, .inr (5, [.ref q1, .int 0, .int (-1), .int (-1)])), arrW E 0 10 q1] ∧ S = []) := by
  refine ctrC_of (by decide +kernel) rfl (Nat.le_of_ble_eq_true rfl) (fun K hX hN hP hK => ?_)
  subst hK
  show Kj K [(h0, .inr (5, [.null, .int 0, .int 0, .int 0]))] [] 0 0 0 [(0, .ref h0)] []
  refine kn_aload_n hX 0 dX5_init_0 rfl rfl ?_
  refine kn_obj hX wc_222 wc_24 wc_25 (by decide) (Nat.le_of_ble_eq_true rfl) dX5_init_1 ?_
  refine kn_aload_n hX 0 dX5_init_4 rfl rfl ?_
  refine kn_bipush (v := 10) hX dX5_init_5 rfl ?_
  refine kn_newI (N := 10) hX wc_45 (by decide) rfl (by decide) (by decide) (by decide) dX5_init_7 fun q1 => ?_
  refine kn_putF (ty := .array .int) (L2 := [(h0, .inr (5, [.ref q1, .int 0, .int 0, .int 0])), arrW K.1 0 10 q1]) hX 0 0 tyX5 tyX5_ok nmX5 rfl rfl (by decide) gX5 wc_223 rfl hN rfl (by decide +kernel) rfl rfl (Nat.le_of_ble_eq_true rfl) dX5_init_9 rfl ?_
  refine kn_aload_n hX 0 dX5_init_12 rfl rfl ?_
  refine kn_iconst (v := (-1)) hX dX5_init_13 rfl ?_
  refine kn_put (ty := .int) (L2 := [(h0, .inr (5, [.ref q1, .int 0, .int (-1), .int 0])), arrW K.1 0 10 q1]) hX 0 2 tyX5 tyX5_ok nmX5 rfl rfl (by decide) gX5 wc_226 rfl (by decide +kernel) rfl rfl (Nat.le_of_ble_eq_true rfl) dX5_init_14 rfl ?_
  refine kn_aload_n hX 0 dX5_init_17 rfl rfl ?_
  refine kn_iconst (v := (-1)) hX dX5_init_18 rfl ?_
  refine kn_put (ty := .int) (L2 := [(h0, .inr (5, [.ref q1, .int 0, .int (-1), .int (-1)])), arrW K.1 0 10 q1]) hX 0 3 tyX5 tyX5_ok nmX5 rfl rfl (by decide) gX5 wc_228 rfl (by decide +kernel) rfl rfl (Nat.le_of_ble_eq_true rfl) dX5_init_19 rfl ?_
  exact kn_ret hX hP ⟨q1, rfl, rfl⟩ dX5_init_22
set_option maxRecDepth 20000 in
set_option maxHeartbeats 4000000 in
theorem c_X1_init (E : Ex) (h0 : Nat) : CtrC E yX1_init cX1_init 1 1 12 11 110 h0 [] (1, [.null, .int 0]) (fun L S => ∃ (q1 : Nat) (r2 : Nat → Nat), L = [(h0, .inr (1, [.ref q1, .int 0])), outW E 10 q1 r2] ∧ S = ([] ++ rowsW E r2 10 10)) := by
  refine ctrC_of (by decide +kernel) rfl (Nat.le_of_ble_eq_true rfl) (fun K hX hN hP hK => ?_)
  subst hK
  show Kj K [(h0, .inr (1, [.null, .int 0]))] [] 0 0 0 [(0, .ref h0)] []
  refine kn_aload_n hX 0 dX1_init_0 rfl rfl ?_
  refine kn_obj hX wc_244 wc_24 wc_25 (by decide) (Nat.le_of_ble_eq_true rfl) dX1_init_1 ?_
  refine kn_aload_n hX 0 dX1_init_4 rfl rfl ?_
  refine kn_bipush (v := 10) hX dX1_init_5 rfl ?_
  refine kn_bipush (v := 10) hX dX1_init_7 rfl ?_
  refine kn_mna (N := 10) (M := 10) hX wc_245 wc_45 (by decide) (by decide) rfl rfl (by decide) (by decide) (by decide) (by decide) dX1_init_9 fun q1 r2 => ?_
  refine kn_putF (ty := .array (.array .int)) (L2 := [(h0, .inr (1, [.ref q1, .int 0])), outW K.1 10 q1 r2]) hX 0 0 tyX1 tyX1_ok nmX1 rfl rfl (by decide) gX1 wc_246 rfl hN rfl (by decide +kernel) rfl rfl (Nat.le_of_ble_eq_true rfl) dX1_init_13 rfl ?_
  exact kn_ret hX hP ⟨q1, r2, rfl, rfl⟩ dX1_init_16
set_option maxRecDepth 20000 in
set_option maxHeartbeats 4000000 in
theorem c_X3_init (E : Ex) (h0 : Nat) : CtrC E yX3_init cX3_init 1 1 12 13 100 h0 [] (3, [.null, .null, .null, .null, .null, .int 0, .int 0, .int 0]) (fun L S => ∃ (q1 : Nat) (q2 : Nat) (r3 : Nat → Nat) (q4 : Nat) (r5 : Nat → Nat) (q6 : Nat) (q7 : Nat), L = [(h0, .inr (3, [.ref q1, .ref q2, .ref q4, .ref q6, .ref q7, .int 0, .int 0, .int 0])), arrW E 0 4 q1, outW E 4 q2 r3, outW E 4 q4 r5, arrW E 0 4 q6, arrW E 0 4 q7] ∧ S = (([] ++ rowsW E r3 4 16) ++ rowsW E r5 4 4)) := by
  refine ctrC_of (by decide +kernel) rfl (Nat.le_of_ble_eq_true rfl) (fun K hX hN hP hK => ?_)
  subst hK
  show Kj K [(h0, .inr (3, [.null, .null, .null, .null, .null, .int 0, .int 0, .int 0]))] [] 0 0 0 [(0, .ref h0)] []
  refine kn_aload_n hX 0 dX3_init_0 rfl rfl ?_
  refine kn_obj hX wc_259 wc_24 wc_25 (by decide) (Nat.le_of_ble_eq_true rfl) dX3_init_1 ?_
  refine kn_aload_n hX 0 dX3_init_4 rfl rfl ?_
  refine kn_iconst (v := 4) hX dX3_init_5 rfl ?_
  refine kn_newI (N := 4) hX wc_45 (by decide) rfl (by decide) (by decide) (by decide) dX3_init_6 fun q1 => ?_
  refine kn_putF (ty := .array .int) (L2 := [(h0, .inr (3, [.ref q1, .null, .null, .null, .null, .int 0, .int 0, .int 0])), arrW K.1 0 4 q1]) hX 0 0 tyX3 tyX3_ok nmX3 rfl rfl (by decide) gX3 wc_261 rfl hN rfl (by decide +kernel) rfl rfl (Nat.le_of_ble_eq_true rfl) dX3_init_8 rfl ?_
  refine kn_aload_n hX 0 dX3_init_11 rfl rfl ?_
  refine kn_iconst (v := 4) hX dX3_init_12 rfl ?_
  refine kn_bipush (v := 16) hX dX3_init_13 rfl ?_
  refine kn_mna (N := 4) (M := 16) hX wc_260 wc_45 (by decide) (by decide) rfl rfl (by decide) (by decide) (by decide) (by decide) dX3_init_15 fun q2 r3 => ?_
  refine kn_putF (ty := .array (.array .int)) (L2 := [(h0, .inr (3, [.ref q1, .ref q2, .null, .null, .null, .int 0, .int 0, .int 0])), arrW K.1 0 4 q1, outW K.1 4 q2 r3]) hX 0 1 tyX3 tyX3_ok nmX3 rfl rfl (by decide) gX3 wc_262 rfl hN rfl (by decide +kernel) rfl rfl (Nat.le_of_ble_eq_true rfl) dX3_init_19 rfl ?_
  refine kn_aload_n hX 0 dX3_init_22 rfl rfl ?_
  refine kn_iconst (v := 4) hX dX3_init_23 rfl ?_
  refine kn_iconst (v := 4) hX dX3_init_24 rfl ?_
  refine kn_mna (N := 4) (M := 4) hX wc_260 wc_45 (by decide) (by decide) rfl rfl (by decide) (by decide) (by decide) (by decide) dX3_init_25 fun q4 r5 => ?_
  refine kn_putF (ty := .array (.array .int)) (L2 := [(h0, .inr (3, [.ref q1, .ref q2, .ref q4, .null, .null, .int 0, .int 0, .int 0])), arrW K.1 0 4 q1, outW K.1 4 q2 r3, outW K.1 4 q4 r5]) hX 0 2 tyX3 tyX3_ok nmX3 rfl rfl (by decide) gX3 wc_263 rfl hN rfl (by decide +kernel) rfl rfl (Nat.le_of_ble_eq_true rfl) dX3_init_29 rfl ?_
  refine kn_aload_n hX 0 dX3_init_32 rfl rfl ?_
  refine kn_iconst (v := 4) hX dX3_init_33 rfl ?_
  refine kn_newI (N := 4) hX wc_45 (by decide) rfl (by decide) (by decide) (by decide) dX3_init_34 fun q6 => ?_
  refine kn_putF (ty := .array .int) (L2 := [(h0, .inr (3, [.ref q1, .ref q2, .ref q4, .ref q6, .null, .int 0, .int 0, .int 0])), arrW K.1 0 4 q1, outW K.1 4 q2 r3, outW K.1 4 q4 r5, arrW K.1 0 4 q6]) hX 0 3 tyX3 tyX3_ok nmX3 rfl rfl (by decide) gX3 wc_264 rfl hN rfl (by decide +kernel) rfl rfl (Nat.le_of_ble_eq_true rfl) dX3_init_36 rfl ?_
  refine kn_aload_n hX 0 dX3_init_39 rfl rfl ?_
  refine kn_iconst (v := 4) hX dX3_init_40 rfl ?_
  refine kn_newI (N := 4) hX wc_45 (by decide) rfl (by decide) (by decide) (by decide) dX3_init_41 fun q7 => ?_
  refine kn_putF (ty := .array .int) (L2 := [(h0, .inr (3, [.ref q1, .ref q2, .ref q4, .ref q6, .ref q7, .int 0, .int 0, .int 0])), arrW K.1 0 4 q1, outW K.1 4 q2 r3, outW K.1 4 q4 r5, arrW K.1 0 4 q6, arrW K.1 0 4 q7]) hX 0 4 tyX3 tyX3_ok nmX3 rfl rfl (by decide) gX3 wc_265 rfl hN rfl (by decide +kernel) rfl rfl (Nat.le_of_ble_eq_true rfl) dX3_init_43 rfl ?_
  exact kn_ret hX hP ⟨q1, q2, r3, q4, r5, q6, q7, rfl, rfl⟩ dX3_init_46
set_option maxRecDepth 20000 in
set_option maxHeartbeats 4000000 in
theorem c_X9_init (E : Ex) (h0 : Nat) : CtrC E yX9_init cX9_init 1 3 63 113 3335 h0 [] (9, [.null, .null, .null, .null, .null, .null, .null, .null, .null]) (fun L S => ∃ (q1 : Nat) (q2 : Nat) (q3 : Nat) (q4 : Nat) (q5 : Nat) (q6 : Nat) (q7 : Nat) (q8 : Nat) (q9 : Nat) (q10 : Nat) (q11 : Nat) (q12 : Nat) (q13 : Nat) (q14 : Nat) (q15 : Nat) (q16 : Nat) (q17 : Nat) (r18 : Nat → Nat) (q19 : Nat) (q20 : Nat) (q21 : Nat) (q22 : Nat) (q23 : Nat) (q24 : Nat) (q25 : Nat) (q26 : Nat) (q27 : Nat) (q28 : Nat) (q29 : Nat) (q30 : Nat) (r31 : Nat → Nat) (q32 : Nat) (q33 : Nat) (q34 : Nat) (r35 : Nat → Nat) (q36 : Nat) (r37 : Nat → Nat) (q38 : Nat) (q39 : Nat), L = [(h0, .inr (9, [.ref q1, .ref q4, .ref q9, .ref q19, .ref q22, .ref q25, .ref q27, .ref q29, .ref q32])), (q1, .inr (4, [.ref q2, .ref q3, .int 0])), arrW E 0 6 q2, arrW E 0 6 q3, (q4, .inr (7, [.ref q5, .ref q6, .ref q7, .ref q8, .int 0])), arrW E 0 100 q5, arrW E 0 100 q6, arrW E 0 100 q7, arrW E 0 100 q8, (q9, .inr (2, [.ref q10, .ref q15, .ref q16, .ref q17, .int 0])), (q10, .inr (7, [.ref q11, .ref q12, .ref q13, .ref q14, .int 0])), arrW E 0 60 q11, arrW E 0 60 q12, arrW E 0 60 q13, arrW E 0 60 q14, arrW E 0 60 q15, arrW E 1 60 q16, outW E 60 q17 r18, (q19, .inr (0, [.ref q20, .ref q21, .int 5, .int 10, .int 0])), arrW E 0 60 q20, arrW E 0 60 q21, (q22, .inr (6, [.ref q23, .ref q24, .int 0, .int 0, .int 0, .int 0, .int 0, .int 0, .int 0])), arrW E 0 60 q23, arrW E 0 32 q24, (q25, .inr (8, [.ref q26, .int 0, .int 0, .int 0, .int 0])), arrW E 0 100 q26, (q27, .inr (5, [.ref q28, .int 0, .int (-1), .int (-1)])), arrW E 0 10 q28, (q29, .inr (1, [.ref q30, .int 0])), outW E 10 q30 r31, (q32, .inr (3, [.ref q33, .ref q34, .ref q36, .ref q38, .ref q39, .int 0, .int 0, .int 0])), arrW E 0 4 q33, outW E 4 q34 r35, outW E 4 q36 r37, arrW E 0 4 q38, arrW E 0 4 q39] ∧ S = ((((((((([] ++ []) ++ []) ++ (([] ++ []) ++ rowsW E r18 60 32)) ++ []) ++ []) ++ []) ++ []) ++ ([] ++ rowsW E r31 10 10)) ++ (([] ++ rowsW E r35 4 16) ++ rowsW E r37 4 4))) := by
  refine ctrC_of (by decide +kernel) rfl (Nat.le_of_ble_eq_true rfl) (fun K hX hN hP hK => ?_)
  subst hK
  show Kj K [(h0, .inr (9, [.null, .null, .null, .null, .null, .null, .null, .null, .null]))] [] 0 0 0 [(0, .ref h0)] []
  refine kn_aload_n hX 0 dX9_init_0 rfl rfl ?_
  refine kn_obj hX wc_23 wc_24 wc_25 (by decide) (Nat.le_of_ble_eq_true rfl) dX9_init_1 ?_
  refine kn_aload_n hX 0 dX9_init_4 rfl rfl ?_
  refine kn_new (ci := 4) (fs := [.null, .null, .int 0]) hX tyX4 tyX4_ok gX4 wc_26 wc_27 wc_2 rfl (by decide) (by decide) (by decide) dX9_init_5 fun q1 => ?_
  refine kn_dup hX dX9_init_8 rfl ?_
  refine kn_callN hX [] [(h0, .inr (9, [.null, .null, .null, .null, .null, .null, .null, .null, .null]))] rfl wc_28 wc_29 wc_2 wc_30 rfl (by decide +kernel) (by decide) rfl rfl (Nat.le_of_ble_eq_true rfl) (by decide) (by decide) dX9_init_9 (c_X4_init K.1 q1) fun Lc Sc hpost => ?_
  obtain ⟨q2, q3, rfl, rfl⟩ := hpost
  refine kn_putF (ty := .object "AirWatch$Posts") (L2 := [(h0, .inr (9, [.ref q1, .null, .null, .null, .null, .null, .null, .null, .null])), (q1, .inr (4, [.ref q2, .ref q3, .int 0])), arrW K.1 0 6 q2, arrW K.1 0 6 q3]) hX 0 0 tyX9 tyX9_ok nmX9 rfl rfl (by decide) gX9 wc_288 rfl hN rfl (by decide +kernel) rfl rfl (Nat.le_of_ble_eq_true rfl) dX9_init_12 rfl ?_
  refine kn_aload_n hX 0 dX9_init_15 rfl rfl ?_
  refine kn_new (ci := 7) (fs := [.null, .null, .null, .null, .int 0]) hX tyX7 tyX7_ok gX7 wc_46 wc_47 wc_3 rfl (by decide) (by decide) (by decide) dX9_init_16 fun q4 => ?_
  refine kn_dup hX dX9_init_19 rfl ?_
  refine kn_bipush (v := 100) hX dX9_init_20 rfl ?_
  refine kn_call hX [.int 100] [(h0, .inr (9, [.ref q1, .null, .null, .null, .null, .null, .null, .null, .null])), (q1, .inr (4, [.ref q2, .ref q3, .int 0])), arrW K.1 0 6 q2, arrW K.1 0 6 q3] rfl wc_48 wc_49 wc_3 wc_50 rfl (by decide +kernel) (by decide) rfl rfl (Nat.le_of_ble_eq_true rfl) (by decide) (by decide) dX9_init_22 (c_X7_init_100 K.1 q4) fun Lc Sc hpost => ?_
  obtain ⟨q5, q6, q7, q8, rfl, rfl⟩ := hpost
  refine kn_putF (ty := .object "AirWatch$Spans") (L2 := [(h0, .inr (9, [.ref q1, .ref q4, .null, .null, .null, .null, .null, .null, .null])), (q1, .inr (4, [.ref q2, .ref q3, .int 0])), arrW K.1 0 6 q2, arrW K.1 0 6 q3, (q4, .inr (7, [.ref q5, .ref q6, .ref q7, .ref q8, .int 0])), arrW K.1 0 100 q5, arrW K.1 0 100 q6, arrW K.1 0 100 q7, arrW K.1 0 100 q8]) hX 0 1 tyX9 tyX9_ok nmX9 rfl rfl (by decide) gX9 wc_289 rfl hN rfl (by decide +kernel) rfl rfl (Nat.le_of_ble_eq_true rfl) dX9_init_25 rfl ?_
  refine kn_aload_n hX 0 dX9_init_28 rfl rfl ?_
  refine kn_new (ci := 2) (fs := [.null, .null, .null, .null, .int 0]) hX tyX2 tyX2_ok gX2 wc_84 wc_85 wc_5 rfl (by decide) (by decide) (by decide) dX9_init_29 fun q9 => ?_
  refine kn_dup hX dX9_init_32 rfl ?_
  refine kn_callN hX [] [(h0, .inr (9, [.ref q1, .ref q4, .null, .null, .null, .null, .null, .null, .null])), (q1, .inr (4, [.ref q2, .ref q3, .int 0])), arrW K.1 0 6 q2, arrW K.1 0 6 q3, (q4, .inr (7, [.ref q5, .ref q6, .ref q7, .ref q8, .int 0])), arrW K.1 0 100 q5, arrW K.1 0 100 q6, arrW K.1 0 100 q7, arrW K.1 0 100 q8] rfl wc_86 wc_87 wc_5 wc_88 rfl (by decide +kernel) (by decide) rfl rfl (Nat.le_of_ble_eq_true rfl) (by decide) (by decide) dX9_init_33 (c_X2_init K.1 q9) fun Lc Sc hpost => ?_
  obtain ⟨q10, q11, q12, q13, q14, q15, q16, q17, r18, rfl, rfl⟩ := hpost
  refine kn_putF (ty := .object "AirWatch$Marks") (L2 := [(h0, .inr (9, [.ref q1, .ref q4, .ref q9, .null, .null, .null, .null, .null, .null])), (q1, .inr (4, [.ref q2, .ref q3, .int 0])), arrW K.1 0 6 q2, arrW K.1 0 6 q3, (q4, .inr (7, [.ref q5, .ref q6, .ref q7, .ref q8, .int 0])), arrW K.1 0 100 q5, arrW K.1 0 100 q6, arrW K.1 0 100 q7, arrW K.1 0 100 q8, (q9, .inr (2, [.ref q10, .ref q15, .ref q16, .ref q17, .int 0])), (q10, .inr (7, [.ref q11, .ref q12, .ref q13, .ref q14, .int 0])), arrW K.1 0 60 q11, arrW K.1 0 60 q12, arrW K.1 0 60 q13, arrW K.1 0 60 q14, arrW K.1 0 60 q15, arrW K.1 1 60 q16, outW K.1 60 q17 r18]) hX 0 2 tyX9 tyX9_ok nmX9 rfl rfl (by decide) gX9 wc_290 rfl hN rfl (by decide +kernel) rfl rfl (Nat.le_of_ble_eq_true rfl) dX9_init_36 rfl ?_
  refine kn_aload_n hX 0 dX9_init_39 rfl rfl ?_
  refine kn_new (ci := 0) (fs := [.null, .null, .int 0, .int 0, .int 0]) hX tyX0 tyX0_ok gX0 wc_118 wc_119 wc_6 rfl (by decide) (by decide) (by decide) dX9_init_40 fun q19 => ?_
  refine kn_dup hX dX9_init_43 rfl ?_
  refine kn_callN hX [] [(h0, .inr (9, [.ref q1, .ref q4, .ref q9, .null, .null, .null, .null, .null, .null])), (q1, .inr (4, [.ref q2, .ref q3, .int 0])), arrW K.1 0 6 q2, arrW K.1 0 6 q3, (q4, .inr (7, [.ref q5, .ref q6, .ref q7, .ref q8, .int 0])), arrW K.1 0 100 q5, arrW K.1 0 100 q6, arrW K.1 0 100 q7, arrW K.1 0 100 q8, (q9, .inr (2, [.ref q10, .ref q15, .ref q16, .ref q17, .int 0])), (q10, .inr (7, [.ref q11, .ref q12, .ref q13, .ref q14, .int 0])), arrW K.1 0 60 q11, arrW K.1 0 60 q12, arrW K.1 0 60 q13, arrW K.1 0 60 q14, arrW K.1 0 60 q15, arrW K.1 1 60 q16, outW K.1 60 q17 r18] rfl wc_120 wc_121 wc_6 wc_122 rfl (by decide +kernel) (by decide) rfl rfl (Nat.le_of_ble_eq_true rfl) (by decide) (by decide) dX9_init_44 (c_X0_init K.1 q19) fun Lc Sc hpost => ?_
  obtain ⟨q20, q21, rfl, rfl⟩ := hpost
  refine kn_putF (ty := .object "AirWatch$Groups") (L2 := [(h0, .inr (9, [.ref q1, .ref q4, .ref q9, .ref q19, .null, .null, .null, .null, .null])), (q1, .inr (4, [.ref q2, .ref q3, .int 0])), arrW K.1 0 6 q2, arrW K.1 0 6 q3, (q4, .inr (7, [.ref q5, .ref q6, .ref q7, .ref q8, .int 0])), arrW K.1 0 100 q5, arrW K.1 0 100 q6, arrW K.1 0 100 q7, arrW K.1 0 100 q8, (q9, .inr (2, [.ref q10, .ref q15, .ref q16, .ref q17, .int 0])), (q10, .inr (7, [.ref q11, .ref q12, .ref q13, .ref q14, .int 0])), arrW K.1 0 60 q11, arrW K.1 0 60 q12, arrW K.1 0 60 q13, arrW K.1 0 60 q14, arrW K.1 0 60 q15, arrW K.1 1 60 q16, outW K.1 60 q17 r18, (q19, .inr (0, [.ref q20, .ref q21, .int 5, .int 10, .int 0])), arrW K.1 0 60 q20, arrW K.1 0 60 q21]) hX 0 3 tyX9 tyX9_ok nmX9 rfl rfl (by decide) gX9 wc_291 rfl hN rfl (by decide +kernel) rfl rfl (Nat.le_of_ble_eq_true rfl) dX9_init_47 rfl ?_
  refine kn_aload_n hX 0 dX9_init_50 rfl rfl ?_
  refine kn_new (ci := 6) (fs := [.null, .null, .int 0, .int 0, .int 0, .int 0, .int 0, .int 0, .int 0]) hX tyX6 tyX6_ok gX6 wc_144 wc_145 wc_7 rfl (by decide) (by decide) (by decide) dX9_init_51 fun q22 => ?_
  refine kn_dup hX dX9_init_54 rfl ?_
  refine kn_callN hX [] [(h0, .inr (9, [.ref q1, .ref q4, .ref q9, .ref q19, .null, .null, .null, .null, .null])), (q1, .inr (4, [.ref q2, .ref q3, .int 0])), arrW K.1 0 6 q2, arrW K.1 0 6 q3, (q4, .inr (7, [.ref q5, .ref q6, .ref q7, .ref q8, .int 0])), arrW K.1 0 100 q5, arrW K.1 0 100 q6, arrW K.1 0 100 q7, arrW K.1 0 100 q8, (q9, .inr (2, [.ref q10, .ref q15, .ref q16, .ref q17, .int 0])), (q10, .inr (7, [.ref q11, .ref q12, .ref q13, .ref q14, .int 0])), arrW K.1 0 60 q11, arrW K.1 0 60 q12, arrW K.1 0 60 q13, arrW K.1 0 60 q14, arrW K.1 0 60 q15, arrW K.1 1 60 q16, outW K.1 60 q17 r18, (q19, .inr (0, [.ref q20, .ref q21, .int 5, .int 10, .int 0])), arrW K.1 0 60 q20, arrW K.1 0 60 q21] rfl wc_146 wc_147 wc_7 wc_148 rfl (by decide +kernel) (by decide) rfl rfl (Nat.le_of_ble_eq_true rfl) (by decide) (by decide) dX9_init_55 (c_X6_init K.1 q22) fun Lc Sc hpost => ?_
  obtain ⟨q23, q24, rfl, rfl⟩ := hpost
  refine kn_putF (ty := .object "AirWatch$Sketch") (L2 := [(h0, .inr (9, [.ref q1, .ref q4, .ref q9, .ref q19, .ref q22, .null, .null, .null, .null])), (q1, .inr (4, [.ref q2, .ref q3, .int 0])), arrW K.1 0 6 q2, arrW K.1 0 6 q3, (q4, .inr (7, [.ref q5, .ref q6, .ref q7, .ref q8, .int 0])), arrW K.1 0 100 q5, arrW K.1 0 100 q6, arrW K.1 0 100 q7, arrW K.1 0 100 q8, (q9, .inr (2, [.ref q10, .ref q15, .ref q16, .ref q17, .int 0])), (q10, .inr (7, [.ref q11, .ref q12, .ref q13, .ref q14, .int 0])), arrW K.1 0 60 q11, arrW K.1 0 60 q12, arrW K.1 0 60 q13, arrW K.1 0 60 q14, arrW K.1 0 60 q15, arrW K.1 1 60 q16, outW K.1 60 q17 r18, (q19, .inr (0, [.ref q20, .ref q21, .int 5, .int 10, .int 0])), arrW K.1 0 60 q20, arrW K.1 0 60 q21, (q22, .inr (6, [.ref q23, .ref q24, .int 0, .int 0, .int 0, .int 0, .int 0, .int 0, .int 0])), arrW K.1 0 60 q23, arrW K.1 0 32 q24]) hX 0 4 tyX9 tyX9_ok nmX9 rfl rfl (by decide) gX9 wc_292 rfl hN rfl (by decide +kernel) rfl rfl (Nat.le_of_ble_eq_true rfl) dX9_init_58 rfl ?_
  refine kn_aload_n hX 0 dX9_init_61 rfl rfl ?_
  refine kn_new (ci := 8) (fs := [.null, .int 0, .int 0, .int 0, .int 0]) hX tyX8 tyX8_ok gX8 wc_192 wc_193 wc_8 rfl (by decide) (by decide) (by decide) dX9_init_62 fun q25 => ?_
  refine kn_dup hX dX9_init_65 rfl ?_
  refine kn_callN hX [] [(h0, .inr (9, [.ref q1, .ref q4, .ref q9, .ref q19, .ref q22, .null, .null, .null, .null])), (q1, .inr (4, [.ref q2, .ref q3, .int 0])), arrW K.1 0 6 q2, arrW K.1 0 6 q3, (q4, .inr (7, [.ref q5, .ref q6, .ref q7, .ref q8, .int 0])), arrW K.1 0 100 q5, arrW K.1 0 100 q6, arrW K.1 0 100 q7, arrW K.1 0 100 q8, (q9, .inr (2, [.ref q10, .ref q15, .ref q16, .ref q17, .int 0])), (q10, .inr (7, [.ref q11, .ref q12, .ref q13, .ref q14, .int 0])), arrW K.1 0 60 q11, arrW K.1 0 60 q12, arrW K.1 0 60 q13, arrW K.1 0 60 q14, arrW K.1 0 60 q15, arrW K.1 1 60 q16, outW K.1 60 q17 r18, (q19, .inr (0, [.ref q20, .ref q21, .int 5, .int 10, .int 0])), arrW K.1 0 60 q20, arrW K.1 0 60 q21, (q22, .inr (6, [.ref q23, .ref q24, .int 0, .int 0, .int 0, .int 0, .int 0, .int 0, .int 0])), arrW K.1 0 60 q23, arrW K.1 0 32 q24] rfl wc_194 wc_195 wc_8 wc_196 rfl (by decide +kernel) (by decide) rfl rfl (Nat.le_of_ble_eq_true rfl) (by decide) (by decide) dX9_init_66 (c_X8_init K.1 q25) fun Lc Sc hpost => ?_
  obtain ⟨q26, rfl, rfl⟩ := hpost
  refine kn_putF (ty := .object "AirWatch$Tape") (L2 := [(h0, .inr (9, [.ref q1, .ref q4, .ref q9, .ref q19, .ref q22, .ref q25, .null, .null, .null])), (q1, .inr (4, [.ref q2, .ref q3, .int 0])), arrW K.1 0 6 q2, arrW K.1 0 6 q3, (q4, .inr (7, [.ref q5, .ref q6, .ref q7, .ref q8, .int 0])), arrW K.1 0 100 q5, arrW K.1 0 100 q6, arrW K.1 0 100 q7, arrW K.1 0 100 q8, (q9, .inr (2, [.ref q10, .ref q15, .ref q16, .ref q17, .int 0])), (q10, .inr (7, [.ref q11, .ref q12, .ref q13, .ref q14, .int 0])), arrW K.1 0 60 q11, arrW K.1 0 60 q12, arrW K.1 0 60 q13, arrW K.1 0 60 q14, arrW K.1 0 60 q15, arrW K.1 1 60 q16, outW K.1 60 q17 r18, (q19, .inr (0, [.ref q20, .ref q21, .int 5, .int 10, .int 0])), arrW K.1 0 60 q20, arrW K.1 0 60 q21, (q22, .inr (6, [.ref q23, .ref q24, .int 0, .int 0, .int 0, .int 0, .int 0, .int 0, .int 0])), arrW K.1 0 60 q23, arrW K.1 0 32 q24, (q25, .inr (8, [.ref q26, .int 0, .int 0, .int 0, .int 0])), arrW K.1 0 100 q26]) hX 0 5 tyX9 tyX9_ok nmX9 rfl rfl (by decide) gX9 wc_293 rfl hN rfl (by decide +kernel) rfl rfl (Nat.le_of_ble_eq_true rfl) dX9_init_69 rfl ?_
  refine kn_aload_n hX 0 dX9_init_72 rfl rfl ?_
  refine kn_new (ci := 5) (fs := [.null, .int 0, .int 0, .int 0]) hX tyX5 tyX5_ok gX5 wc_217 wc_218 wc_9 rfl (by decide) (by decide) (by decide) dX9_init_73 fun q27 => ?_
  refine kn_dup hX dX9_init_76 rfl ?_
  refine kn_callN hX [] [(h0, .inr (9, [.ref q1, .ref q4, .ref q9, .ref q19, .ref q22, .ref q25, .null, .null, .null])), (q1, .inr (4, [.ref q2, .ref q3, .int 0])), arrW K.1 0 6 q2, arrW K.1 0 6 q3, (q4, .inr (7, [.ref q5, .ref q6, .ref q7, .ref q8, .int 0])), arrW K.1 0 100 q5, arrW K.1 0 100 q6, arrW K.1 0 100 q7, arrW K.1 0 100 q8, (q9, .inr (2, [.ref q10, .ref q15, .ref q16, .ref q17, .int 0])), (q10, .inr (7, [.ref q11, .ref q12, .ref q13, .ref q14, .int 0])), arrW K.1 0 60 q11, arrW K.1 0 60 q12, arrW K.1 0 60 q13, arrW K.1 0 60 q14, arrW K.1 0 60 q15, arrW K.1 1 60 q16, outW K.1 60 q17 r18, (q19, .inr (0, [.ref q20, .ref q21, .int 5, .int 10, .int 0])), arrW K.1 0 60 q20, arrW K.1 0 60 q21, (q22, .inr (6, [.ref q23, .ref q24, .int 0, .int 0, .int 0, .int 0, .int 0, .int 0, .int 0])), arrW K.1 0 60 q23, arrW K.1 0 32 q24, (q25, .inr (8, [.ref q26, .int 0, .int 0, .int 0, .int 0])), arrW K.1 0 100 q26] rfl wc_219 wc_220 wc_9 wc_221 rfl (by decide +kernel) (by decide) rfl rfl (Nat.le_of_ble_eq_true rfl) (by decide) (by decide) dX9_init_77 (c_X5_init K.1 q27) fun Lc Sc hpost => ?_
  obtain ⟨q28, rfl, rfl⟩ := hpost
  refine kn_putF (ty := .object "AirWatch$Reader") (L2 := [(h0, .inr (9, [.ref q1, .ref q4, .ref q9, .ref q19, .ref q22, .ref q25, .ref q27, .null, .null])), (q1, .inr (4, [.ref q2, .ref q3, .int 0])), arrW K.1 0 6 q2, arrW K.1 0 6 q3, (q4, .inr (7, [.ref q5, .ref q6, .ref q7, .ref q8, .int 0])), arrW K.1 0 100 q5, arrW K.1 0 100 q6, arrW K.1 0 100 q7, arrW K.1 0 100 q8, (q9, .inr (2, [.ref q10, .ref q15, .ref q16, .ref q17, .int 0])), (q10, .inr (7, [.ref q11, .ref q12, .ref q13, .ref q14, .int 0])), arrW K.1 0 60 q11, arrW K.1 0 60 q12, arrW K.1 0 60 q13, arrW K.1 0 60 q14, arrW K.1 0 60 q15, arrW K.1 1 60 q16, outW K.1 60 q17 r18, (q19, .inr (0, [.ref q20, .ref q21, .int 5, .int 10, .int 0])), arrW K.1 0 60 q20, arrW K.1 0 60 q21, (q22, .inr (6, [.ref q23, .ref q24, .int 0, .int 0, .int 0, .int 0, .int 0, .int 0, .int 0])), arrW K.1 0 60 q23, arrW K.1 0 32 q24, (q25, .inr (8, [.ref q26, .int 0, .int 0, .int 0, .int 0])), arrW K.1 0 100 q26, (q27, .inr (5, [.ref q28, .int 0, .int (-1), .int (-1)])), arrW K.1 0 10 q28]) hX 0 6 tyX9 tyX9_ok nmX9 rfl rfl (by decide) gX9 wc_294 rfl hN rfl (by decide +kernel) rfl rfl (Nat.le_of_ble_eq_true rfl) dX9_init_80 rfl ?_
  refine kn_aload_n hX 0 dX9_init_83 rfl rfl ?_
  refine kn_new (ci := 1) (fs := [.null, .int 0]) hX tyX1 tyX1_ok gX1 wc_239 wc_240 wc_10 rfl (by decide) (by decide) (by decide) dX9_init_84 fun q29 => ?_
  refine kn_dup hX dX9_init_87 rfl ?_
  refine kn_callN hX [] [(h0, .inr (9, [.ref q1, .ref q4, .ref q9, .ref q19, .ref q22, .ref q25, .ref q27, .null, .null])), (q1, .inr (4, [.ref q2, .ref q3, .int 0])), arrW K.1 0 6 q2, arrW K.1 0 6 q3, (q4, .inr (7, [.ref q5, .ref q6, .ref q7, .ref q8, .int 0])), arrW K.1 0 100 q5, arrW K.1 0 100 q6, arrW K.1 0 100 q7, arrW K.1 0 100 q8, (q9, .inr (2, [.ref q10, .ref q15, .ref q16, .ref q17, .int 0])), (q10, .inr (7, [.ref q11, .ref q12, .ref q13, .ref q14, .int 0])), arrW K.1 0 60 q11, arrW K.1 0 60 q12, arrW K.1 0 60 q13, arrW K.1 0 60 q14, arrW K.1 0 60 q15, arrW K.1 1 60 q16, outW K.1 60 q17 r18, (q19, .inr (0, [.ref q20, .ref q21, .int 5, .int 10, .int 0])), arrW K.1 0 60 q20, arrW K.1 0 60 q21, (q22, .inr (6, [.ref q23, .ref q24, .int 0, .int 0, .int 0, .int 0, .int 0, .int 0, .int 0])), arrW K.1 0 60 q23, arrW K.1 0 32 q24, (q25, .inr (8, [.ref q26, .int 0, .int 0, .int 0, .int 0])), arrW K.1 0 100 q26, (q27, .inr (5, [.ref q28, .int 0, .int (-1), .int (-1)])), arrW K.1 0 10 q28] rfl wc_241 wc_242 wc_10 wc_243 rfl (by decide +kernel) (by decide) rfl rfl (Nat.le_of_ble_eq_true rfl) (by decide) (by decide) dX9_init_88 (c_X1_init K.1 q29) fun Lc Sc hpost => ?_
  obtain ⟨q30, r31, rfl, rfl⟩ := hpost
  refine kn_putF (ty := .object "AirWatch$Licences") (L2 := [(h0, .inr (9, [.ref q1, .ref q4, .ref q9, .ref q19, .ref q22, .ref q25, .ref q27, .ref q29, .null])), (q1, .inr (4, [.ref q2, .ref q3, .int 0])), arrW K.1 0 6 q2, arrW K.1 0 6 q3, (q4, .inr (7, [.ref q5, .ref q6, .ref q7, .ref q8, .int 0])), arrW K.1 0 100 q5, arrW K.1 0 100 q6, arrW K.1 0 100 q7, arrW K.1 0 100 q8, (q9, .inr (2, [.ref q10, .ref q15, .ref q16, .ref q17, .int 0])), (q10, .inr (7, [.ref q11, .ref q12, .ref q13, .ref q14, .int 0])), arrW K.1 0 60 q11, arrW K.1 0 60 q12, arrW K.1 0 60 q13, arrW K.1 0 60 q14, arrW K.1 0 60 q15, arrW K.1 1 60 q16, outW K.1 60 q17 r18, (q19, .inr (0, [.ref q20, .ref q21, .int 5, .int 10, .int 0])), arrW K.1 0 60 q20, arrW K.1 0 60 q21, (q22, .inr (6, [.ref q23, .ref q24, .int 0, .int 0, .int 0, .int 0, .int 0, .int 0, .int 0])), arrW K.1 0 60 q23, arrW K.1 0 32 q24, (q25, .inr (8, [.ref q26, .int 0, .int 0, .int 0, .int 0])), arrW K.1 0 100 q26, (q27, .inr (5, [.ref q28, .int 0, .int (-1), .int (-1)])), arrW K.1 0 10 q28, (q29, .inr (1, [.ref q30, .int 0])), outW K.1 10 q30 r31]) hX 0 7 tyX9 tyX9_ok nmX9 rfl rfl (by decide) gX9 wc_295 rfl hN rfl (by decide +kernel) rfl rfl (Nat.le_of_ble_eq_true rfl) dX9_init_91 rfl ?_
  refine kn_aload_n hX 0 dX9_init_94 rfl rfl ?_
  refine kn_new (ci := 3) (fs := [.null, .null, .null, .null, .null, .int 0, .int 0, .int 0]) hX tyX3 tyX3_ok gX3 wc_254 wc_255 wc_11 rfl (by decide) (by decide) (by decide) dX9_init_95 fun q32 => ?_
  refine kn_dup hX dX9_init_98 rfl ?_
  refine kn_callN hX [] [(h0, .inr (9, [.ref q1, .ref q4, .ref q9, .ref q19, .ref q22, .ref q25, .ref q27, .ref q29, .null])), (q1, .inr (4, [.ref q2, .ref q3, .int 0])), arrW K.1 0 6 q2, arrW K.1 0 6 q3, (q4, .inr (7, [.ref q5, .ref q6, .ref q7, .ref q8, .int 0])), arrW K.1 0 100 q5, arrW K.1 0 100 q6, arrW K.1 0 100 q7, arrW K.1 0 100 q8, (q9, .inr (2, [.ref q10, .ref q15, .ref q16, .ref q17, .int 0])), (q10, .inr (7, [.ref q11, .ref q12, .ref q13, .ref q14, .int 0])), arrW K.1 0 60 q11, arrW K.1 0 60 q12, arrW K.1 0 60 q13, arrW K.1 0 60 q14, arrW K.1 0 60 q15, arrW K.1 1 60 q16, outW K.1 60 q17 r18, (q19, .inr (0, [.ref q20, .ref q21, .int 5, .int 10, .int 0])), arrW K.1 0 60 q20, arrW K.1 0 60 q21, (q22, .inr (6, [.ref q23, .ref q24, .int 0, .int 0, .int 0, .int 0, .int 0, .int 0, .int 0])), arrW K.1 0 60 q23, arrW K.1 0 32 q24, (q25, .inr (8, [.ref q26, .int 0, .int 0, .int 0, .int 0])), arrW K.1 0 100 q26, (q27, .inr (5, [.ref q28, .int 0, .int (-1), .int (-1)])), arrW K.1 0 10 q28, (q29, .inr (1, [.ref q30, .int 0])), outW K.1 10 q30 r31] rfl wc_256 wc_257 wc_11 wc_258 rfl (by decide +kernel) (by decide) rfl rfl (Nat.le_of_ble_eq_true rfl) (by decide) (by decide) dX9_init_99 (c_X3_init K.1 q32) fun Lc Sc hpost => ?_
  obtain ⟨q33, q34, r35, q36, r37, q38, q39, rfl, rfl⟩ := hpost
  refine kn_putF (ty := .object "AirWatch$Plan") (L2 := [(h0, .inr (9, [.ref q1, .ref q4, .ref q9, .ref q19, .ref q22, .ref q25, .ref q27, .ref q29, .ref q32])), (q1, .inr (4, [.ref q2, .ref q3, .int 0])), arrW K.1 0 6 q2, arrW K.1 0 6 q3, (q4, .inr (7, [.ref q5, .ref q6, .ref q7, .ref q8, .int 0])), arrW K.1 0 100 q5, arrW K.1 0 100 q6, arrW K.1 0 100 q7, arrW K.1 0 100 q8, (q9, .inr (2, [.ref q10, .ref q15, .ref q16, .ref q17, .int 0])), (q10, .inr (7, [.ref q11, .ref q12, .ref q13, .ref q14, .int 0])), arrW K.1 0 60 q11, arrW K.1 0 60 q12, arrW K.1 0 60 q13, arrW K.1 0 60 q14, arrW K.1 0 60 q15, arrW K.1 1 60 q16, outW K.1 60 q17 r18, (q19, .inr (0, [.ref q20, .ref q21, .int 5, .int 10, .int 0])), arrW K.1 0 60 q20, arrW K.1 0 60 q21, (q22, .inr (6, [.ref q23, .ref q24, .int 0, .int 0, .int 0, .int 0, .int 0, .int 0, .int 0])), arrW K.1 0 60 q23, arrW K.1 0 32 q24, (q25, .inr (8, [.ref q26, .int 0, .int 0, .int 0, .int 0])), arrW K.1 0 100 q26, (q27, .inr (5, [.ref q28, .int 0, .int (-1), .int (-1)])), arrW K.1 0 10 q28, (q29, .inr (1, [.ref q30, .int 0])), outW K.1 10 q30 r31, (q32, .inr (3, [.ref q33, .ref q34, .ref q36, .ref q38, .ref q39, .int 0, .int 0, .int 0])), arrW K.1 0 4 q33, outW K.1 4 q34 r35, outW K.1 4 q36 r37, arrW K.1 0 4 q38, arrW K.1 0 4 q39]) hX 0 8 tyX9 tyX9_ok nmX9 rfl rfl (by decide) gX9 wc_296 rfl hN rfl (by decide +kernel) rfl rfl (Nat.le_of_ble_eq_true rfl) dX9_init_102 rfl ?_
  exact kn_ret hX hP ⟨q1, q2, q3, q4, q5, q6, q7, q8, q9, q10, q11, q12, q13, q14, q15, q16, q17, r18, q19, q20, q21, q22, q23, q24, q25, q26, q27, q28, q29, q30, r31, q32, q33, q34, r35, q36, r37, q38, q39, rfl, rfl⟩ dX9_init_105
set_option maxRecDepth 20000 in
set_option maxHeartbeats 4000000 in
theorem c_X10_init (E : Ex) (h0 : Nat) : CtrC E yX10_init cX10_init 1 1 12 21 1430 h0 [] (10, [.int 0, .null, .null, .int 0, .null, .null, .null, .null, .int 0, .null, .null, .null, .null, .null, .null, .null, .int 0, .int 0, .int 0, .null, .null, .null, .int 0, .int 0, .null, .int 0, .int 0, .int 0, .int 0, .int 0, .int 0, .int 0, .null, .null, .null, .null]) (fun L S => ∃ (q1 : Nat) (q2 : Nat) (q3 : Nat) (q4 : Nat) (q5 : Nat) (q6 : Nat) (q7 : Nat) (q8 : Nat) (q9 : Nat) (q10 : Nat) (q11 : Nat) (q12 : Nat) (q13 : Nat) (q14 : Nat) (q15 : Nat) (q16 : Nat) (q17 : Nat) (q18 : Nat) (q19 : Nat) (q20 : Nat) (q21 : Nat), L = [(h0, .inr (10, [.int 0, .ref q1, .ref q2, .int 0, .ref q3, .ref q4, .ref q5, .ref q6, .int 0, .ref q7, .ref q8, .ref q9, .ref q10, .ref q11, .ref q12, .ref q13, .int 5, .int 10, .int 0, .ref q14, .ref q15, .ref q16, .int 0, .int 0, .ref q17, .int (-1), .int (-1), .int 0, .int 0, .int 0, .int 0, .int 0, .ref q18, .ref q19, .ref q20, .ref q21])), arrW E 0 6 q1, arrW E 0 6 q2, arrW E 0 100 q3, arrW E 0 100 q4, arrW E 0 100 q5, arrW E 0 100 q6, arrW E 0 60 q7, arrW E 0 60 q8, arrW E 0 60 q9, arrW E 0 60 q10, arrW E 0 60 q11, arrW E 1 60 q12, arrW E 0 240 q13, arrW E 0 60 q14, arrW E 0 60 q15, arrW E 0 100 q16, arrW E 0 110 q17, arrW E 0 4 q18, arrW E 0 4 q19, arrW E 0 64 q20, arrW E 0 16 q21] ∧ S = []) := by
  refine ctrC_of (by decide +kernel) rfl (Nat.le_of_ble_eq_true rfl) (fun K hX hN hP hK => ?_)
  subst hK
  show Kj K [(h0, .inr (10, [.int 0, .null, .null, .int 0, .null, .null, .null, .null, .int 0, .null, .null, .null, .null, .null, .null, .null, .int 0, .int 0, .int 0, .null, .null, .null, .int 0, .int 0, .null, .int 0, .int 0, .int 0, .int 0, .int 0, .int 0, .int 0, .null, .null, .null, .null]))] [] 0 0 0 [(0, .ref h0)] []
  refine kn_aload_n hX 0 dX10_init_0 rfl rfl ?_
  refine kn_obj hX wc_695 wc_24 wc_25 (by decide) (Nat.le_of_ble_eq_true rfl) dX10_init_1 ?_
  refine kn_aload_n hX 0 dX10_init_4 rfl rfl ?_
  refine kn_bipush (v := 6) hX dX10_init_5 rfl ?_
  refine kn_newI (N := 6) hX wc_45 (by decide) rfl (by decide) (by decide) (by decide) dX10_init_7 fun q1 => ?_
  refine kn_putF (ty := .array .int) (L2 := [(h0, .inr (10, [.int 0, .ref q1, .null, .int 0, .null, .null, .null, .null, .int 0, .null, .null, .null, .null, .null, .null, .null, .int 0, .int 0, .int 0, .null, .null, .null, .int 0, .int 0, .null, .int 0, .int 0, .int 0, .int 0, .int 0, .int 0, .int 0, .null, .null, .null, .null])), arrW K.1 0 6 q1]) hX 0 1 tyX10 tyX10_ok nmX10 rfl rfl (by decide) gX10 wc_697 rfl hN rfl (by decide +kernel) rfl rfl (Nat.le_of_ble_eq_true rfl) dX10_init_9 rfl ?_
  refine kn_aload_n hX 0 dX10_init_12 rfl rfl ?_
  refine kn_bipush (v := 6) hX dX10_init_13 rfl ?_
  refine kn_newI (N := 6) hX wc_45 (by decide) rfl (by decide) (by decide) (by decide) dX10_init_15 fun q2 => ?_
  refine kn_putF (ty := .array .int) (L2 := [(h0, .inr (10, [.int 0, .ref q1, .ref q2, .int 0, .null, .null, .null, .null, .int 0, .null, .null, .null, .null, .null, .null, .null, .int 0, .int 0, .int 0, .null, .null, .null, .int 0, .int 0, .null, .int 0, .int 0, .int 0, .int 0, .int 0, .int 0, .int 0, .null, .null, .null, .null])), arrW K.1 0 6 q1, arrW K.1 0 6 q2]) hX 0 2 tyX10 tyX10_ok nmX10 rfl rfl (by decide) gX10 wc_698 rfl hN rfl (by decide +kernel) rfl rfl (Nat.le_of_ble_eq_true rfl) dX10_init_17 rfl ?_
  refine kn_aload_n hX 0 dX10_init_20 rfl rfl ?_
  refine kn_bipush (v := 100) hX dX10_init_21 rfl ?_
  refine kn_newI (N := 100) hX wc_45 (by decide) rfl (by decide) (by decide) (by decide) dX10_init_23 fun q3 => ?_
  refine kn_putF (ty := .array .int) (L2 := [(h0, .inr (10, [.int 0, .ref q1, .ref q2, .int 0, .ref q3, .null, .null, .null, .int 0, .null, .null, .null, .null, .null, .null, .null, .int 0, .int 0, .int 0, .null, .null, .null, .int 0, .int 0, .null, .int 0, .int 0, .int 0, .int 0, .int 0, .int 0, .int 0, .null, .null, .null, .null])), arrW K.1 0 6 q1, arrW K.1 0 6 q2, arrW K.1 0 100 q3]) hX 0 4 tyX10 tyX10_ok nmX10 rfl rfl (by decide) gX10 wc_700 rfl hN rfl (by decide +kernel) rfl rfl (Nat.le_of_ble_eq_true rfl) dX10_init_25 rfl ?_
  refine kn_aload_n hX 0 dX10_init_28 rfl rfl ?_
  refine kn_bipush (v := 100) hX dX10_init_29 rfl ?_
  refine kn_newI (N := 100) hX wc_45 (by decide) rfl (by decide) (by decide) (by decide) dX10_init_31 fun q4 => ?_
  refine kn_putF (ty := .array .int) (L2 := [(h0, .inr (10, [.int 0, .ref q1, .ref q2, .int 0, .ref q3, .ref q4, .null, .null, .int 0, .null, .null, .null, .null, .null, .null, .null, .int 0, .int 0, .int 0, .null, .null, .null, .int 0, .int 0, .null, .int 0, .int 0, .int 0, .int 0, .int 0, .int 0, .int 0, .null, .null, .null, .null])), arrW K.1 0 6 q1, arrW K.1 0 6 q2, arrW K.1 0 100 q3, arrW K.1 0 100 q4]) hX 0 5 tyX10 tyX10_ok nmX10 rfl rfl (by decide) gX10 wc_701 rfl hN rfl (by decide +kernel) rfl rfl (Nat.le_of_ble_eq_true rfl) dX10_init_33 rfl ?_
  refine kn_aload_n hX 0 dX10_init_36 rfl rfl ?_
  refine kn_bipush (v := 100) hX dX10_init_37 rfl ?_
  refine kn_newI (N := 100) hX wc_45 (by decide) rfl (by decide) (by decide) (by decide) dX10_init_39 fun q5 => ?_
  refine kn_putF (ty := .array .int) (L2 := [(h0, .inr (10, [.int 0, .ref q1, .ref q2, .int 0, .ref q3, .ref q4, .ref q5, .null, .int 0, .null, .null, .null, .null, .null, .null, .null, .int 0, .int 0, .int 0, .null, .null, .null, .int 0, .int 0, .null, .int 0, .int 0, .int 0, .int 0, .int 0, .int 0, .int 0, .null, .null, .null, .null])), arrW K.1 0 6 q1, arrW K.1 0 6 q2, arrW K.1 0 100 q3, arrW K.1 0 100 q4, arrW K.1 0 100 q5]) hX 0 6 tyX10 tyX10_ok nmX10 rfl rfl (by decide) gX10 wc_702 rfl hN rfl (by decide +kernel) rfl rfl (Nat.le_of_ble_eq_true rfl) dX10_init_41 rfl ?_
  refine kn_aload_n hX 0 dX10_init_44 rfl rfl ?_
  refine kn_bipush (v := 100) hX dX10_init_45 rfl ?_
  refine kn_newI (N := 100) hX wc_45 (by decide) rfl (by decide) (by decide) (by decide) dX10_init_47 fun q6 => ?_
  refine kn_putF (ty := .array .int) (L2 := [(h0, .inr (10, [.int 0, .ref q1, .ref q2, .int 0, .ref q3, .ref q4, .ref q5, .ref q6, .int 0, .null, .null, .null, .null, .null, .null, .null, .int 0, .int 0, .int 0, .null, .null, .null, .int 0, .int 0, .null, .int 0, .int 0, .int 0, .int 0, .int 0, .int 0, .int 0, .null, .null, .null, .null])), arrW K.1 0 6 q1, arrW K.1 0 6 q2, arrW K.1 0 100 q3, arrW K.1 0 100 q4, arrW K.1 0 100 q5, arrW K.1 0 100 q6]) hX 0 7 tyX10 tyX10_ok nmX10 rfl rfl (by decide) gX10 wc_703 rfl hN rfl (by decide +kernel) rfl rfl (Nat.le_of_ble_eq_true rfl) dX10_init_49 rfl ?_
  refine kn_aload_n hX 0 dX10_init_52 rfl rfl ?_
  refine kn_bipush (v := 60) hX dX10_init_53 rfl ?_
  refine kn_newI (N := 60) hX wc_45 (by decide) rfl (by decide) (by decide) (by decide) dX10_init_55 fun q7 => ?_
  refine kn_putF (ty := .array .int) (L2 := [(h0, .inr (10, [.int 0, .ref q1, .ref q2, .int 0, .ref q3, .ref q4, .ref q5, .ref q6, .int 0, .ref q7, .null, .null, .null, .null, .null, .null, .int 0, .int 0, .int 0, .null, .null, .null, .int 0, .int 0, .null, .int 0, .int 0, .int 0, .int 0, .int 0, .int 0, .int 0, .null, .null, .null, .null])), arrW K.1 0 6 q1, arrW K.1 0 6 q2, arrW K.1 0 100 q3, arrW K.1 0 100 q4, arrW K.1 0 100 q5, arrW K.1 0 100 q6, arrW K.1 0 60 q7]) hX 0 9 tyX10 tyX10_ok nmX10 rfl rfl (by decide) gX10 wc_705 rfl hN rfl (by decide +kernel) rfl rfl (Nat.le_of_ble_eq_true rfl) dX10_init_57 rfl ?_
  refine kn_aload_n hX 0 dX10_init_60 rfl rfl ?_
  refine kn_bipush (v := 60) hX dX10_init_61 rfl ?_
  refine kn_newI (N := 60) hX wc_45 (by decide) rfl (by decide) (by decide) (by decide) dX10_init_63 fun q8 => ?_
  refine kn_putF (ty := .array .int) (L2 := [(h0, .inr (10, [.int 0, .ref q1, .ref q2, .int 0, .ref q3, .ref q4, .ref q5, .ref q6, .int 0, .ref q7, .ref q8, .null, .null, .null, .null, .null, .int 0, .int 0, .int 0, .null, .null, .null, .int 0, .int 0, .null, .int 0, .int 0, .int 0, .int 0, .int 0, .int 0, .int 0, .null, .null, .null, .null])), arrW K.1 0 6 q1, arrW K.1 0 6 q2, arrW K.1 0 100 q3, arrW K.1 0 100 q4, arrW K.1 0 100 q5, arrW K.1 0 100 q6, arrW K.1 0 60 q7, arrW K.1 0 60 q8]) hX 0 10 tyX10 tyX10_ok nmX10 rfl rfl (by decide) gX10 wc_706 rfl hN rfl (by decide +kernel) rfl rfl (Nat.le_of_ble_eq_true rfl) dX10_init_65 rfl ?_
  refine kn_aload_n hX 0 dX10_init_68 rfl rfl ?_
  refine kn_bipush (v := 60) hX dX10_init_69 rfl ?_
  refine kn_newI (N := 60) hX wc_45 (by decide) rfl (by decide) (by decide) (by decide) dX10_init_71 fun q9 => ?_
  refine kn_putF (ty := .array .int) (L2 := [(h0, .inr (10, [.int 0, .ref q1, .ref q2, .int 0, .ref q3, .ref q4, .ref q5, .ref q6, .int 0, .ref q7, .ref q8, .ref q9, .null, .null, .null, .null, .int 0, .int 0, .int 0, .null, .null, .null, .int 0, .int 0, .null, .int 0, .int 0, .int 0, .int 0, .int 0, .int 0, .int 0, .null, .null, .null, .null])), arrW K.1 0 6 q1, arrW K.1 0 6 q2, arrW K.1 0 100 q3, arrW K.1 0 100 q4, arrW K.1 0 100 q5, arrW K.1 0 100 q6, arrW K.1 0 60 q7, arrW K.1 0 60 q8, arrW K.1 0 60 q9]) hX 0 11 tyX10 tyX10_ok nmX10 rfl rfl (by decide) gX10 wc_707 rfl hN rfl (by decide +kernel) rfl rfl (Nat.le_of_ble_eq_true rfl) dX10_init_73 rfl ?_
  refine kn_aload_n hX 0 dX10_init_76 rfl rfl ?_
  refine kn_bipush (v := 60) hX dX10_init_77 rfl ?_
  refine kn_newI (N := 60) hX wc_45 (by decide) rfl (by decide) (by decide) (by decide) dX10_init_79 fun q10 => ?_
  refine kn_putF (ty := .array .int) (L2 := [(h0, .inr (10, [.int 0, .ref q1, .ref q2, .int 0, .ref q3, .ref q4, .ref q5, .ref q6, .int 0, .ref q7, .ref q8, .ref q9, .ref q10, .null, .null, .null, .int 0, .int 0, .int 0, .null, .null, .null, .int 0, .int 0, .null, .int 0, .int 0, .int 0, .int 0, .int 0, .int 0, .int 0, .null, .null, .null, .null])), arrW K.1 0 6 q1, arrW K.1 0 6 q2, arrW K.1 0 100 q3, arrW K.1 0 100 q4, arrW K.1 0 100 q5, arrW K.1 0 100 q6, arrW K.1 0 60 q7, arrW K.1 0 60 q8, arrW K.1 0 60 q9, arrW K.1 0 60 q10]) hX 0 12 tyX10 tyX10_ok nmX10 rfl rfl (by decide) gX10 wc_708 rfl hN rfl (by decide +kernel) rfl rfl (Nat.le_of_ble_eq_true rfl) dX10_init_81 rfl ?_
  refine kn_aload_n hX 0 dX10_init_84 rfl rfl ?_
  refine kn_bipush (v := 60) hX dX10_init_85 rfl ?_
  refine kn_newI (N := 60) hX wc_45 (by decide) rfl (by decide) (by decide) (by decide) dX10_init_87 fun q11 => ?_
  refine kn_putF (ty := .array .int) (L2 := [(h0, .inr (10, [.int 0, .ref q1, .ref q2, .int 0, .ref q3, .ref q4, .ref q5, .ref q6, .int 0, .ref q7, .ref q8, .ref q9, .ref q10, .ref q11, .null, .null, .int 0, .int 0, .int 0, .null, .null, .null, .int 0, .int 0, .null, .int 0, .int 0, .int 0, .int 0, .int 0, .int 0, .int 0, .null, .null, .null, .null])), arrW K.1 0 6 q1, arrW K.1 0 6 q2, arrW K.1 0 100 q3, arrW K.1 0 100 q4, arrW K.1 0 100 q5, arrW K.1 0 100 q6, arrW K.1 0 60 q7, arrW K.1 0 60 q8, arrW K.1 0 60 q9, arrW K.1 0 60 q10, arrW K.1 0 60 q11]) hX 0 13 tyX10 tyX10_ok nmX10 rfl rfl (by decide) gX10 wc_709 rfl hN rfl (by decide +kernel) rfl rfl (Nat.le_of_ble_eq_true rfl) dX10_init_89 rfl ?_
  refine kn_aload_n hX 0 dX10_init_92 rfl rfl ?_
  refine kn_bipush (v := 60) hX dX10_init_93 rfl ?_
  refine kn_newZ (N := 60) hX wc_117 (by decide) rfl (by decide) (by decide) (by decide) dX10_init_95 fun q12 => ?_
  refine kn_putF (ty := .array .boolean) (L2 := [(h0, .inr (10, [.int 0, .ref q1, .ref q2, .int 0, .ref q3, .ref q4, .ref q5, .ref q6, .int 0, .ref q7, .ref q8, .ref q9, .ref q10, .ref q11, .ref q12, .null, .int 0, .int 0, .int 0, .null, .null, .null, .int 0, .int 0, .null, .int 0, .int 0, .int 0, .int 0, .int 0, .int 0, .int 0, .null, .null, .null, .null])), arrW K.1 0 6 q1, arrW K.1 0 6 q2, arrW K.1 0 100 q3, arrW K.1 0 100 q4, arrW K.1 0 100 q5, arrW K.1 0 100 q6, arrW K.1 0 60 q7, arrW K.1 0 60 q8, arrW K.1 0 60 q9, arrW K.1 0 60 q10, arrW K.1 0 60 q11, arrW K.1 1 60 q12]) hX 0 14 tyX10 tyX10_ok nmX10 rfl rfl (by decide) gX10 wc_710 rfl hN rfl (by decide +kernel) rfl rfl (Nat.le_of_ble_eq_true rfl) dX10_init_97 rfl ?_
  refine kn_aload_n hX 0 dX10_init_100 rfl rfl ?_
  refine kn_sipush (v := 240) hX dX10_init_101 rfl ?_
  refine kn_newI (N := 240) hX wc_45 (by decide) rfl (by decide) (by decide) (by decide) dX10_init_104 fun q13 => ?_
  refine kn_putF (ty := .array .int) (L2 := [(h0, .inr (10, [.int 0, .ref q1, .ref q2, .int 0, .ref q3, .ref q4, .ref q5, .ref q6, .int 0, .ref q7, .ref q8, .ref q9, .ref q10, .ref q11, .ref q12, .ref q13, .int 0, .int 0, .int 0, .null, .null, .null, .int 0, .int 0, .null, .int 0, .int 0, .int 0, .int 0, .int 0, .int 0, .int 0, .null, .null, .null, .null])), arrW K.1 0 6 q1, arrW K.1 0 6 q2, arrW K.1 0 100 q3, arrW K.1 0 100 q4, arrW K.1 0 100 q5, arrW K.1 0 100 q6, arrW K.1 0 60 q7, arrW K.1 0 60 q8, arrW K.1 0 60 q9, arrW K.1 0 60 q10, arrW K.1 0 60 q11, arrW K.1 1 60 q12, arrW K.1 0 240 q13]) hX 0 15 tyX10 tyX10_ok nmX10 rfl rfl (by decide) gX10 wc_711 rfl hN rfl (by decide +kernel) rfl rfl (Nat.le_of_ble_eq_true rfl) dX10_init_106 rfl ?_
  refine kn_aload_n hX 0 dX10_init_109 rfl rfl ?_
  refine kn_iconst (v := 5) hX dX10_init_110 rfl ?_
  refine kn_put (ty := .int) (L2 := [(h0, .inr (10, [.int 0, .ref q1, .ref q2, .int 0, .ref q3, .ref q4, .ref q5, .ref q6, .int 0, .ref q7, .ref q8, .ref q9, .ref q10, .ref q11, .ref q12, .ref q13, .int 5, .int 0, .int 0, .null, .null, .null, .int 0, .int 0, .null, .int 0, .int 0, .int 0, .int 0, .int 0, .int 0, .int 0, .null, .null, .null, .null])), arrW K.1 0 6 q1, arrW K.1 0 6 q2, arrW K.1 0 100 q3, arrW K.1 0 100 q4, arrW K.1 0 100 q5, arrW K.1 0 100 q6, arrW K.1 0 60 q7, arrW K.1 0 60 q8, arrW K.1 0 60 q9, arrW K.1 0 60 q10, arrW K.1 0 60 q11, arrW K.1 1 60 q12, arrW K.1 0 240 q13]) hX 0 16 tyX10 tyX10_ok nmX10 rfl rfl (by decide) gX10 wc_712 rfl (by decide +kernel) rfl rfl (Nat.le_of_ble_eq_true rfl) dX10_init_111 rfl ?_
  refine kn_aload_n hX 0 dX10_init_114 rfl rfl ?_
  refine kn_bipush (v := 10) hX dX10_init_115 rfl ?_
  refine kn_put (ty := .int) (L2 := [(h0, .inr (10, [.int 0, .ref q1, .ref q2, .int 0, .ref q3, .ref q4, .ref q5, .ref q6, .int 0, .ref q7, .ref q8, .ref q9, .ref q10, .ref q11, .ref q12, .ref q13, .int 5, .int 10, .int 0, .null, .null, .null, .int 0, .int 0, .null, .int 0, .int 0, .int 0, .int 0, .int 0, .int 0, .int 0, .null, .null, .null, .null])), arrW K.1 0 6 q1, arrW K.1 0 6 q2, arrW K.1 0 100 q3, arrW K.1 0 100 q4, arrW K.1 0 100 q5, arrW K.1 0 100 q6, arrW K.1 0 60 q7, arrW K.1 0 60 q8, arrW K.1 0 60 q9, arrW K.1 0 60 q10, arrW K.1 0 60 q11, arrW K.1 1 60 q12, arrW K.1 0 240 q13]) hX 0 17 tyX10 tyX10_ok nmX10 rfl rfl (by decide) gX10 wc_713 rfl (by decide +kernel) rfl rfl (Nat.le_of_ble_eq_true rfl) dX10_init_117 rfl ?_
  refine kn_aload_n hX 0 dX10_init_120 rfl rfl ?_
  refine kn_bipush (v := 60) hX dX10_init_121 rfl ?_
  refine kn_newI (N := 60) hX wc_45 (by decide) rfl (by decide) (by decide) (by decide) dX10_init_123 fun q14 => ?_
  refine kn_putF (ty := .array .int) (L2 := [(h0, .inr (10, [.int 0, .ref q1, .ref q2, .int 0, .ref q3, .ref q4, .ref q5, .ref q6, .int 0, .ref q7, .ref q8, .ref q9, .ref q10, .ref q11, .ref q12, .ref q13, .int 5, .int 10, .int 0, .ref q14, .null, .null, .int 0, .int 0, .null, .int 0, .int 0, .int 0, .int 0, .int 0, .int 0, .int 0, .null, .null, .null, .null])), arrW K.1 0 6 q1, arrW K.1 0 6 q2, arrW K.1 0 100 q3, arrW K.1 0 100 q4, arrW K.1 0 100 q5, arrW K.1 0 100 q6, arrW K.1 0 60 q7, arrW K.1 0 60 q8, arrW K.1 0 60 q9, arrW K.1 0 60 q10, arrW K.1 0 60 q11, arrW K.1 1 60 q12, arrW K.1 0 240 q13, arrW K.1 0 60 q14]) hX 0 19 tyX10 tyX10_ok nmX10 rfl rfl (by decide) gX10 wc_715 rfl hN rfl (by decide +kernel) rfl rfl (Nat.le_of_ble_eq_true rfl) dX10_init_125 rfl ?_
  refine kn_aload_n hX 0 dX10_init_128 rfl rfl ?_
  refine kn_bipush (v := 60) hX dX10_init_129 rfl ?_
  refine kn_newI (N := 60) hX wc_45 (by decide) rfl (by decide) (by decide) (by decide) dX10_init_131 fun q15 => ?_
  refine kn_putF (ty := .array .int) (L2 := [(h0, .inr (10, [.int 0, .ref q1, .ref q2, .int 0, .ref q3, .ref q4, .ref q5, .ref q6, .int 0, .ref q7, .ref q8, .ref q9, .ref q10, .ref q11, .ref q12, .ref q13, .int 5, .int 10, .int 0, .ref q14, .ref q15, .null, .int 0, .int 0, .null, .int 0, .int 0, .int 0, .int 0, .int 0, .int 0, .int 0, .null, .null, .null, .null])), arrW K.1 0 6 q1, arrW K.1 0 6 q2, arrW K.1 0 100 q3, arrW K.1 0 100 q4, arrW K.1 0 100 q5, arrW K.1 0 100 q6, arrW K.1 0 60 q7, arrW K.1 0 60 q8, arrW K.1 0 60 q9, arrW K.1 0 60 q10, arrW K.1 0 60 q11, arrW K.1 1 60 q12, arrW K.1 0 240 q13, arrW K.1 0 60 q14, arrW K.1 0 60 q15]) hX 0 20 tyX10 tyX10_ok nmX10 rfl rfl (by decide) gX10 wc_716 rfl hN rfl (by decide +kernel) rfl rfl (Nat.le_of_ble_eq_true rfl) dX10_init_133 rfl ?_
  refine kn_aload_n hX 0 dX10_init_136 rfl rfl ?_
  refine kn_bipush (v := 100) hX dX10_init_137 rfl ?_
  refine kn_newI (N := 100) hX wc_45 (by decide) rfl (by decide) (by decide) (by decide) dX10_init_139 fun q16 => ?_
  refine kn_putF (ty := .array .int) (L2 := [(h0, .inr (10, [.int 0, .ref q1, .ref q2, .int 0, .ref q3, .ref q4, .ref q5, .ref q6, .int 0, .ref q7, .ref q8, .ref q9, .ref q10, .ref q11, .ref q12, .ref q13, .int 5, .int 10, .int 0, .ref q14, .ref q15, .ref q16, .int 0, .int 0, .null, .int 0, .int 0, .int 0, .int 0, .int 0, .int 0, .int 0, .null, .null, .null, .null])), arrW K.1 0 6 q1, arrW K.1 0 6 q2, arrW K.1 0 100 q3, arrW K.1 0 100 q4, arrW K.1 0 100 q5, arrW K.1 0 100 q6, arrW K.1 0 60 q7, arrW K.1 0 60 q8, arrW K.1 0 60 q9, arrW K.1 0 60 q10, arrW K.1 0 60 q11, arrW K.1 1 60 q12, arrW K.1 0 240 q13, arrW K.1 0 60 q14, arrW K.1 0 60 q15, arrW K.1 0 100 q16]) hX 0 21 tyX10 tyX10_ok nmX10 rfl rfl (by decide) gX10 wc_717 rfl hN rfl (by decide +kernel) rfl rfl (Nat.le_of_ble_eq_true rfl) dX10_init_141 rfl ?_
  refine kn_aload_n hX 0 dX10_init_144 rfl rfl ?_
  refine kn_bipush (v := 110) hX dX10_init_145 rfl ?_
  refine kn_newI (N := 110) hX wc_45 (by decide) rfl (by decide) (by decide) (by decide) dX10_init_147 fun q17 => ?_
  refine kn_putF (ty := .array .int) (L2 := [(h0, .inr (10, [.int 0, .ref q1, .ref q2, .int 0, .ref q3, .ref q4, .ref q5, .ref q6, .int 0, .ref q7, .ref q8, .ref q9, .ref q10, .ref q11, .ref q12, .ref q13, .int 5, .int 10, .int 0, .ref q14, .ref q15, .ref q16, .int 0, .int 0, .ref q17, .int 0, .int 0, .int 0, .int 0, .int 0, .int 0, .int 0, .null, .null, .null, .null])), arrW K.1 0 6 q1, arrW K.1 0 6 q2, arrW K.1 0 100 q3, arrW K.1 0 100 q4, arrW K.1 0 100 q5, arrW K.1 0 100 q6, arrW K.1 0 60 q7, arrW K.1 0 60 q8, arrW K.1 0 60 q9, arrW K.1 0 60 q10, arrW K.1 0 60 q11, arrW K.1 1 60 q12, arrW K.1 0 240 q13, arrW K.1 0 60 q14, arrW K.1 0 60 q15, arrW K.1 0 100 q16, arrW K.1 0 110 q17]) hX 0 24 tyX10 tyX10_ok nmX10 rfl rfl (by decide) gX10 wc_720 rfl hN rfl (by decide +kernel) rfl rfl (Nat.le_of_ble_eq_true rfl) dX10_init_149 rfl ?_
  refine kn_aload_n hX 0 dX10_init_152 rfl rfl ?_
  refine kn_iconst (v := (-1)) hX dX10_init_153 rfl ?_
  refine kn_put (ty := .int) (L2 := [(h0, .inr (10, [.int 0, .ref q1, .ref q2, .int 0, .ref q3, .ref q4, .ref q5, .ref q6, .int 0, .ref q7, .ref q8, .ref q9, .ref q10, .ref q11, .ref q12, .ref q13, .int 5, .int 10, .int 0, .ref q14, .ref q15, .ref q16, .int 0, .int 0, .ref q17, .int (-1), .int 0, .int 0, .int 0, .int 0, .int 0, .int 0, .null, .null, .null, .null])), arrW K.1 0 6 q1, arrW K.1 0 6 q2, arrW K.1 0 100 q3, arrW K.1 0 100 q4, arrW K.1 0 100 q5, arrW K.1 0 100 q6, arrW K.1 0 60 q7, arrW K.1 0 60 q8, arrW K.1 0 60 q9, arrW K.1 0 60 q10, arrW K.1 0 60 q11, arrW K.1 1 60 q12, arrW K.1 0 240 q13, arrW K.1 0 60 q14, arrW K.1 0 60 q15, arrW K.1 0 100 q16, arrW K.1 0 110 q17]) hX 0 25 tyX10 tyX10_ok nmX10 rfl rfl (by decide) gX10 wc_721 rfl (by decide +kernel) rfl rfl (Nat.le_of_ble_eq_true rfl) dX10_init_154 rfl ?_
  refine kn_aload_n hX 0 dX10_init_157 rfl rfl ?_
  refine kn_iconst (v := (-1)) hX dX10_init_158 rfl ?_
  refine kn_put (ty := .int) (L2 := [(h0, .inr (10, [.int 0, .ref q1, .ref q2, .int 0, .ref q3, .ref q4, .ref q5, .ref q6, .int 0, .ref q7, .ref q8, .ref q9, .ref q10, .ref q11, .ref q12, .ref q13, .int 5, .int 10, .int 0, .ref q14, .ref q15, .ref q16, .int 0, .int 0, .ref q17, .int (-1), .int (-1), .int 0, .int 0, .int 0, .int 0, .int 0, .null, .null, .null, .null])), arrW K.1 0 6 q1, arrW K.1 0 6 q2, arrW K.1 0 100 q3, arrW K.1 0 100 q4, arrW K.1 0 100 q5, arrW K.1 0 100 q6, arrW K.1 0 60 q7, arrW K.1 0 60 q8, arrW K.1 0 60 q9, arrW K.1 0 60 q10, arrW K.1 0 60 q11, arrW K.1 1 60 q12, arrW K.1 0 240 q13, arrW K.1 0 60 q14, arrW K.1 0 60 q15, arrW K.1 0 100 q16, arrW K.1 0 110 q17]) hX 0 26 tyX10 tyX10_ok nmX10 rfl rfl (by decide) gX10 wc_722 rfl (by decide +kernel) rfl rfl (Nat.le_of_ble_eq_true rfl) dX10_init_159 rfl ?_
  refine kn_aload_n hX 0 dX10_init_162 rfl rfl ?_
  refine kn_iconst (v := 4) hX dX10_init_163 rfl ?_
  refine kn_newI (N := 4) hX wc_45 (by decide) rfl (by decide) (by decide) (by decide) dX10_init_164 fun q18 => ?_
  refine kn_putF (ty := .array .int) (L2 := [(h0, .inr (10, [.int 0, .ref q1, .ref q2, .int 0, .ref q3, .ref q4, .ref q5, .ref q6, .int 0, .ref q7, .ref q8, .ref q9, .ref q10, .ref q11, .ref q12, .ref q13, .int 5, .int 10, .int 0, .ref q14, .ref q15, .ref q16, .int 0, .int 0, .ref q17, .int (-1), .int (-1), .int 0, .int 0, .int 0, .int 0, .int 0, .ref q18, .null, .null, .null])), arrW K.1 0 6 q1, arrW K.1 0 6 q2, arrW K.1 0 100 q3, arrW K.1 0 100 q4, arrW K.1 0 100 q5, arrW K.1 0 100 q6, arrW K.1 0 60 q7, arrW K.1 0 60 q8, arrW K.1 0 60 q9, arrW K.1 0 60 q10, arrW K.1 0 60 q11, arrW K.1 1 60 q12, arrW K.1 0 240 q13, arrW K.1 0 60 q14, arrW K.1 0 60 q15, arrW K.1 0 100 q16, arrW K.1 0 110 q17, arrW K.1 0 4 q18]) hX 0 32 tyX10 tyX10_ok nmX10 rfl rfl (by decide) gX10 wc_728 rfl hN rfl (by decide +kernel) rfl rfl (Nat.le_of_ble_eq_true rfl) dX10_init_166 rfl ?_
  refine kn_aload_n hX 0 dX10_init_169 rfl rfl ?_
  refine kn_iconst (v := 4) hX dX10_init_170 rfl ?_
  refine kn_newI (N := 4) hX wc_45 (by decide) rfl (by decide) (by decide) (by decide) dX10_init_171 fun q19 => ?_
  refine kn_putF (ty := .array .int) (L2 := [(h0, .inr (10, [.int 0, .ref q1, .ref q2, .int 0, .ref q3, .ref q4, .ref q5, .ref q6, .int 0, .ref q7, .ref q8, .ref q9, .ref q10, .ref q11, .ref q12, .ref q13, .int 5, .int 10, .int 0, .ref q14, .ref q15, .ref q16, .int 0, .int 0, .ref q17, .int (-1), .int (-1), .int 0, .int 0, .int 0, .int 0, .int 0, .ref q18, .ref q19, .null, .null])), arrW K.1 0 6 q1, arrW K.1 0 6 q2, arrW K.1 0 100 q3, arrW K.1 0 100 q4, arrW K.1 0 100 q5, arrW K.1 0 100 q6, arrW K.1 0 60 q7, arrW K.1 0 60 q8, arrW K.1 0 60 q9, arrW K.1 0 60 q10, arrW K.1 0 60 q11, arrW K.1 1 60 q12, arrW K.1 0 240 q13, arrW K.1 0 60 q14, arrW K.1 0 60 q15, arrW K.1 0 100 q16, arrW K.1 0 110 q17, arrW K.1 0 4 q18, arrW K.1 0 4 q19]) hX 0 33 tyX10 tyX10_ok nmX10 rfl rfl (by decide) gX10 wc_729 rfl hN rfl (by decide +kernel) rfl rfl (Nat.le_of_ble_eq_true rfl) dX10_init_173 rfl ?_
  refine kn_aload_n hX 0 dX10_init_176 rfl rfl ?_
  refine kn_bipush (v := 64) hX dX10_init_177 rfl ?_
  refine kn_newI (N := 64) hX wc_45 (by decide) rfl (by decide) (by decide) (by decide) dX10_init_179 fun q20 => ?_
  refine kn_putF (ty := .array .int) (L2 := [(h0, .inr (10, [.int 0, .ref q1, .ref q2, .int 0, .ref q3, .ref q4, .ref q5, .ref q6, .int 0, .ref q7, .ref q8, .ref q9, .ref q10, .ref q11, .ref q12, .ref q13, .int 5, .int 10, .int 0, .ref q14, .ref q15, .ref q16, .int 0, .int 0, .ref q17, .int (-1), .int (-1), .int 0, .int 0, .int 0, .int 0, .int 0, .ref q18, .ref q19, .ref q20, .null])), arrW K.1 0 6 q1, arrW K.1 0 6 q2, arrW K.1 0 100 q3, arrW K.1 0 100 q4, arrW K.1 0 100 q5, arrW K.1 0 100 q6, arrW K.1 0 60 q7, arrW K.1 0 60 q8, arrW K.1 0 60 q9, arrW K.1 0 60 q10, arrW K.1 0 60 q11, arrW K.1 1 60 q12, arrW K.1 0 240 q13, arrW K.1 0 60 q14, arrW K.1 0 60 q15, arrW K.1 0 100 q16, arrW K.1 0 110 q17, arrW K.1 0 4 q18, arrW K.1 0 4 q19, arrW K.1 0 64 q20]) hX 0 34 tyX10 tyX10_ok nmX10 rfl rfl (by decide) gX10 wc_730 rfl hN rfl (by decide +kernel) rfl rfl (Nat.le_of_ble_eq_true rfl) dX10_init_181 rfl ?_
  refine kn_aload_n hX 0 dX10_init_184 rfl rfl ?_
  refine kn_bipush (v := 16) hX dX10_init_185 rfl ?_
  refine kn_newI (N := 16) hX wc_45 (by decide) rfl (by decide) (by decide) (by decide) dX10_init_187 fun q21 => ?_
  refine kn_putF (ty := .array .int) (L2 := [(h0, .inr (10, [.int 0, .ref q1, .ref q2, .int 0, .ref q3, .ref q4, .ref q5, .ref q6, .int 0, .ref q7, .ref q8, .ref q9, .ref q10, .ref q11, .ref q12, .ref q13, .int 5, .int 10, .int 0, .ref q14, .ref q15, .ref q16, .int 0, .int 0, .ref q17, .int (-1), .int (-1), .int 0, .int 0, .int 0, .int 0, .int 0, .ref q18, .ref q19, .ref q20, .ref q21])), arrW K.1 0 6 q1, arrW K.1 0 6 q2, arrW K.1 0 100 q3, arrW K.1 0 100 q4, arrW K.1 0 100 q5, arrW K.1 0 100 q6, arrW K.1 0 60 q7, arrW K.1 0 60 q8, arrW K.1 0 60 q9, arrW K.1 0 60 q10, arrW K.1 0 60 q11, arrW K.1 1 60 q12, arrW K.1 0 240 q13, arrW K.1 0 60 q14, arrW K.1 0 60 q15, arrW K.1 0 100 q16, arrW K.1 0 110 q17, arrW K.1 0 4 q18, arrW K.1 0 4 q19, arrW K.1 0 64 q20, arrW K.1 0 16 q21]) hX 0 35 tyX10 tyX10_ok nmX10 rfl rfl (by decide) gX10 wc_731 rfl hN rfl (by decide +kernel) rfl rfl (Nat.le_of_ble_eq_true rfl) dX10_init_189 rfl ?_
  exact kn_ret hX hP ⟨q1, q2, q3, q4, q5, q6, q7, q8, q9, q10, q11, q12, q13, q14, q15, q16, q17, q18, q19, q20, q21, rfl, rfl⟩ dX10_init_192
