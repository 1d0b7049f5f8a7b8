theorem we_18 : Cond.classLink RL 7 RX9 ∈ gw := gw_in (List.mem_append_right _ (List.mem_of_getElem? (i := 18) (by decide +kernel))) (by decide +kernel)
theorem we_19 : Cond.instantiable RX9 9 ∈ gw := gw_in (List.mem_append_right _ (List.mem_of_getElem? (i := 19) (by decide +kernel))) (by decide +kernel)
theorem we_1 : Cond.initialized RX9 ∈ gw := gw_in (List.mem_append_right _ (List.mem_of_getElem? (i := 1) (by decide +kernel))) (by decide +kernel)
theorem we_20 : Cond.methodLink RL 9 yX9_init ∈ gw := gw_in (List.mem_append_right _ (List.mem_of_getElem? (i := 20) (by decide +kernel))) (by decide +kernel)
theorem we_21 : Cond.instanceMethod yX9_init ∈ gw := gw_in (List.mem_append_right _ (List.mem_of_getElem? (i := 21) (by decide +kernel))) (by decide +kernel)
theorem we_22 : Cond.code yX9_init cX9_init 1 none ∈ gw := gw_in (List.mem_append_right _ (List.mem_of_getElem? (i := 22) (by decide +kernel))) (by decide +kernel)
theorem we_690 : Cond.classLink RL 10 RX10 ∈ gw := gw_in (List.mem_append_right _ (List.mem_of_getElem? (i := 690) (by decide +kernel))) (by decide +kernel)
theorem we_691 : Cond.instantiable RX10 36 ∈ gw := gw_in (List.mem_append_right _ (List.mem_of_getElem? (i := 691) (by decide +kernel))) (by decide +kernel)
theorem we_12 : Cond.initialized RX10 ∈ gw := gw_in (List.mem_append_right _ (List.mem_of_getElem? (i := 12) (by decide +kernel))) (by decide +kernel)
theorem we_692 : Cond.methodLink RL 12 yX10_init ∈ gw := gw_in (List.mem_append_right _ (List.mem_of_getElem? (i := 692) (by decide +kernel))) (by decide +kernel)
theorem we_693 : Cond.instanceMethod yX10_init ∈ gw := gw_in (List.mem_append_right _ (List.mem_of_getElem? (i := 693) (by decide +kernel))) (by decide +kernel)
theorem we_694 : Cond.code yX10_init cX10_init 1 none ∈ gw := gw_in (List.mem_append_right _ (List.mem_of_getElem? (i := 694) (by decide +kernel))) (by decide +kernel)
def LF (E : Ex) (ha : Nat) (aq1 : Nat) (aq2 : Nat) (aq3 : Nat) (aq4 : Nat) (aq5 : Nat) (aq6 : Nat) (aq7 : Nat) (aq8 : Nat) (aq9 : Nat) (aq10 : Nat) (aq11 : Nat) (aq12 : Nat) (aq13 : Nat) (aq14 : Nat) (aq15 : Nat) (aq16 : Nat) (aq17 : Nat) (ar18 : Nat → Nat) (aq19 : Nat) (aq20 : Nat) (aq21 : Nat) (aq22 : Nat) (aq23 : Nat) (aq24 : Nat) (aq25 : Nat) (aq26 : Nat) (aq27 : Nat) (aq28 : Nat) (aq29 : Nat) (aq30 : Nat) (ar31 : Nat → Nat) (aq32 : Nat) (aq33 : Nat) (aq34 : Nat) (ar35 : Nat → Nat) (aq36 : Nat) (ar37 : Nat → Nat) (aq38 : Nat) (aq39 : Nat) (hm : Nat) (mq1 : Nat) (mq2 : Nat) (mq3 : Nat) (mq4 : Nat) (mq5 : Nat) (mq6 : Nat) (mq7 : Nat) (mq8 : Nat) (mq9 : Nat) (mq10 : Nat) (mq11 : Nat) (mq12 : Nat) (mq13 : Nat) (mq14 : Nat) (mq15 : Nat) (mq16 : Nat) (mq17 : Nat) (mq18 : Nat) (mq19 : Nat) (mq20 : Nat) (mq21 : Nat) : va_W := [(ha, .inr (9, [.ref aq1, .ref aq4, .ref aq9, .ref aq19, .ref aq22, .ref aq25, .ref aq27, .ref aq29, .ref aq32])), (aq1, .inr (4, [.ref aq2, .ref aq3, .int 0])), arrW E 0 6 aq2, arrW E 0 6 aq3, (aq4, .inr (7, [.ref aq5, .ref aq6, .ref aq7, .ref aq8, .int 0])), arrW E 0 100 aq5, arrW E 0 100 aq6, arrW E 0 100 aq7, arrW E 0 100 aq8, (aq9, .inr (2, [.ref aq10, .ref aq15, .ref aq16, .ref aq17, .int 0])), (aq10, .inr (7, [.ref aq11, .ref aq12, .ref aq13, .ref aq14, .int 0])), arrW E 0 60 aq11, arrW E 0 60 aq12, arrW E 0 60 aq13, arrW E 0 60 aq14, arrW E 0 60 aq15, arrW E 1 60 aq16, outW E 60 aq17 ar18, (aq19, .inr (0, [.ref aq20, .ref aq21, .int 5, .int 10, .int 0])), arrW E 0 60 aq20, arrW E 0 60 aq21, (aq22, .inr (6, [.ref aq23, .ref aq24, .int 0, .int 0, .int 0, .int 0, .int 0, .int 0, .int 0])), arrW E 0 60 aq23, arrW E 0 32 aq24, (aq25, .inr (8, [.ref aq26, .int 0, .int 0, .int 0, .int 0])), arrW E 0 100 aq26, (aq27, .inr (5, [.ref aq28, .int 0, .int (-1), .int (-1)])), arrW E 0 10 aq28, (aq29, .inr (1, [.ref aq30, .int 0])), outW E 10 aq30 ar31, (aq32, .inr (3, [.ref aq33, .ref aq34, .ref aq36, .ref aq38, .ref aq39, .int 0, .int 0, .int 0])), arrW E 0 4 aq33, outW E 4 aq34 ar35, outW E 4 aq36 ar37, arrW E 0 4 aq38, arrW E 0 4 aq39, (hm, .inr (10, [.int 0, .ref mq1, .ref mq2, .int 0, .ref mq3, .ref mq4, .ref mq5, .ref mq6, .int 0, .ref mq7, .ref mq8, .ref mq9, .ref mq10, .ref mq11, .ref mq12, .ref mq13, .int 5, .int 10, .int 0, .ref mq14, .ref mq15, .ref mq16, .int 0, .int 0, .ref mq17, .int (-1), .int (-1), .int 0, .int 0, .int 0, .int 0, .int 0, .ref mq18, .ref mq19, .ref mq20, .ref mq21])), arrW E 0 6 mq1, arrW E 0 6 mq2, arrW E 0 100 mq3, arrW E 0 100 mq4, arrW E 0 100 mq5, arrW E 0 100 mq6, arrW E 0 60 mq7, arrW E 0 60 mq8, arrW E 0 60 mq9, arrW E 0 60 mq10, arrW E 0 60 mq11, arrW E 1 60 mq12, arrW E 0 240 mq13, arrW E 0 60 mq14, arrW E 0 60 mq15, arrW E 0 100 mq16, arrW E 0 110 mq17, arrW E 0 4 mq18, arrW E 0 4 mq19, arrW E 0 64 mq20, arrW E 0 16 mq21]
def SF (E : Ex) (ha : Nat) (aq1 : Nat) (aq2 : Nat) (aq3 : Nat) (aq4 : Nat) (aq5 : Nat) (aq6 : Nat) (aq7 : Nat) (aq8 : Nat) (aq9 : Nat) (aq10 : Nat) (aq11 : Nat) (aq12 : Nat) (aq13 : Nat) (aq14 : Nat) (aq15 : Nat) (aq16 : Nat) (aq17 : Nat) (ar18 : Nat → Nat) (aq19 : Nat) (aq20 : Nat) (aq21 : Nat) (aq22 : Nat) (aq23 : Nat) (aq24 : Nat) (aq25 : Nat) (aq26 : Nat) (aq27 : Nat) (aq28 : Nat) (aq29 : Nat) (aq30 : Nat) (ar31 : Nat → Nat) (aq32 : Nat) (aq33 : Nat) (aq34 : Nat) (ar35 : Nat → Nat) (aq36 : Nat) (ar37 : Nat → Nat) (aq38 : Nat) (aq39 : Nat) (hm : Nat) (mq1 : Nat) (mq2 : Nat) (mq3 : Nat) (mq4 : Nat) (mq5 : Nat) (mq6 : Nat) (mq7 : Nat) (mq8 : Nat) (mq9 : Nat) (mq10 : Nat) (mq11 : Nat) (mq12 : Nat) (mq13 : Nat) (mq14 : Nat) (mq15 : Nat) (mq16 : Nat) (mq17 : Nat) (mq18 : Nat) (mq19 : Nat) (mq20 : Nat) (mq21 : Nat) : va_W := (([] ++ ((((((((([] ++ []) ++ []) ++ (([] ++ []) ++ rowsW E ar18 60 32)) ++ []) ++ []) ++ []) ++ []) ++ ([] ++ rowsW E ar31 10 10)) ++ (([] ++ rowsW E ar35 4 16) ++ rowsW E ar37 4 4))) ++ [])
set_option maxRecDepth 20000 in
set_option maxHeartbeats 4000000 in
theorem start_K {K : Kx} {b : Nat} (hX : okK K code 4 RL ret 12 426 600000 7302250) (k : ∀ (ha : Nat) (aq1 : Nat) (aq2 : Nat) (aq3 : Nat) (aq4 : Nat) (aq5 : Nat) (aq6 : Nat) (aq7 : Nat) (aq8 : Nat) (aq9 : Nat) (aq10 : Nat) (aq11 : Nat) (aq12 : Nat) (aq13 : Nat) (aq14 : Nat) (aq15 : Nat) (aq16 : Nat) (aq17 : Nat) (ar18 : Nat → Nat) (aq19 : Nat) (aq20 : Nat) (aq21 : Nat) (aq22 : Nat) (aq23 : Nat) (aq24 : Nat) (aq25 : Nat) (aq26 : Nat) (aq27 : Nat) (aq28 : Nat) (aq29 : Nat) (aq30 : Nat) (ar31 : Nat → Nat) (aq32 : Nat) (aq33 : Nat) (aq34 : Nat) (ar35 : Nat → Nat) (aq36 : Nat) (ar37 : Nat → Nat) (aq38 : Nat) (aq39 : Nat) (hm : Nat) (mq1 : Nat) (mq2 : Nat) (mq3 : Nat) (mq4 : Nat) (mq5 : Nat) (mq6 : Nat) (mq7 : Nat) (mq8 : Nat) (mq9 : Nat) (mq10 : Nat) (mq11 : Nat) (mq12 : Nat) (mq13 : Nat) (mq14 : Nat) (mq15 : Nat) (mq16 : Nat) (mq17 : Nat) (mq18 : Nat) (mq19 : Nat) (mq20 : Nat) (mq21 : Nat), Kj K (LF K.1 ha aq1 aq2 aq3 aq4 aq5 aq6 aq7 aq8 aq9 aq10 aq11 aq12 aq13 aq14 aq15 aq16 aq17 ar18 aq19 aq20 aq21 aq22 aq23 aq24 aq25 aq26 aq27 aq28 aq29 aq30 ar31 aq32 aq33 aq34 ar35 aq36 ar37 aq38 aq39 hm mq1 mq2 mq3 mq4 mq5 mq6 mq7 mq8 mq9 mq10 mq11 mq12 mq13 mq14 mq15 mq16 mq17 mq18 mq19 mq20 mq21) (SF K.1 ha aq1 aq2 aq3 aq4 aq5 aq6 aq7 aq8 aq9 aq10 aq11 aq12 aq13 aq14 aq15 aq16 aq17 ar18 aq19 aq20 aq21 aq22 aq23 aq24 aq25 aq26 aq27 aq28 aq29 aq30 ar31 aq32 aq33 aq34 ar35 aq36 ar37 aq38 aq39 hm mq1 mq2 mq3 mq4 mq5 mq6 mq7 mq8 mq9 mq10 mq11 mq12 mq13 mq14 mq15 mq16 mq17 mq18 mq19 mq20 mq21) 136 4810 18 [(3, .int 0), (2, .ref hm), (1, .ref ha), (0, .ref b)] []) : Kj K [] [] 0 0 0 [(0, .ref b)] [] := by
  refine kn_new (ci := 9) (fs := [.null, .null, .null, .null, .null, .null, .null, .null, .null]) hX tyX9 tyX9_ok gX9 we_18 we_19 we_1 rfl (by decide) (by decide) (by decide) dL_law_0 fun ha => ?_
  refine kn_dup hX dL_law_3 rfl ?_
  refine kn_call hX [] [] rfl we_20 we_21 we_1 we_22 rfl (by decide +kernel) (by decide) rfl rfl (Nat.le_of_ble_eq_true rfl) (by decide) (by decide) dL_law_4 (c_X9_init K.1 ha) fun Lc Sc hpost => ?_
  obtain ⟨aq1, aq2, aq3, aq4, aq5, aq6, aq7, aq8, aq9, aq10, aq11, aq12, aq13, aq14, aq15, aq16, aq17, ar18, aq19, aq20, aq21, aq22, aq23, aq24, aq25, aq26, aq27, aq28, aq29, aq30, ar31, aq32, aq33, aq34, ar35, aq36, ar37, aq38, aq39, rfl, rfl⟩ := hpost
  refine kn_astore_n (lv2 := [(1, .ref ha), (0, .ref b)]) hX dL_law_7 rfl (by decide) rfl ?_
  refine kn_new (ci := 10) (fs := [.int 0, .null, .null, .int 0, .null, .null, .null, .null, .int 0, .null, .null, .null, .null, .null, .null, .null, .int 0, .int 0, .int 0, .null, .null, .null, .int 0, .int 0, .null, .int 0, .int 0, .int 0, .int 0, .int 0, .int 0, .int 0, .null, .null, .null, .null]) hX tyX10 tyX10_ok gX10 we_690 we_691 we_12 rfl (by decide) (by decide) (by decide) dL_law_8 fun hm => ?_
  refine kn_dup hX dL_law_11 rfl ?_
  refine kn_call hX [] _ rfl we_692 we_693 we_12 we_694 rfl (by decide +kernel) (by decide) rfl rfl (Nat.le_of_ble_eq_true rfl) (by decide) (by decide) dL_law_12 (c_X10_init K.1 hm) fun Lc Sc hpost => ?_
  obtain ⟨mq1, mq2, mq3, mq4, mq5, mq6, mq7, mq8, mq9, mq10, mq11, mq12, mq13, mq14, mq15, mq16, mq17, mq18, mq19, mq20, mq21, rfl, rfl⟩ := hpost
  refine kn_astore_n (lv2 := [(2, .ref hm), (1, .ref ha), (0, .ref b)]) hX dL_law_15 rfl (by decide) rfl ?_
  refine kn_iconst (v := 0) hX dL_law_16 rfl ?_
  refine kn_istore_n (lv2 := [(3, .int 0), (2, .ref hm), (1, .ref ha), (0, .ref b)]) hX dL_law_17 rfl (by decide) rfl ?_
  exact k ha aq1 aq2 aq3 aq4 aq5 aq6 aq7 aq8 aq9 aq10 aq11 aq12 aq13 aq14 aq15 aq16 aq17 ar18 aq19 aq20 aq21 aq22 aq23 aq24 aq25 aq26 aq27 aq28 aq29 aq30 ar31 aq32 aq33 aq34 ar35 aq36 ar37 aq38 aq39 hm mq1 mq2 mq3 mq4 mq5 mq6 mq7 mq8 mq9 mq10 mq11 mq12 mq13 mq14 mq15 mq16 mq17 mq18 mq19 mq20 mq21
def QF (ha : Nat) (aq1 : Nat) (aq2 : Nat) (aq3 : Nat) (aq4 : Nat) (aq5 : Nat) (aq6 : Nat) (aq7 : Nat) (aq8 : Nat) (aq9 : Nat) (aq10 : Nat) (aq11 : Nat) (aq12 : Nat) (aq13 : Nat) (aq14 : Nat) (aq15 : Nat) (aq16 : Nat) (aq17 : Nat) (ar18 : Nat → Nat) (aq19 : Nat) (aq20 : Nat) (aq21 : Nat) (aq22 : Nat) (aq23 : Nat) (aq24 : Nat) (aq25 : Nat) (aq26 : Nat) (aq27 : Nat) (aq28 : Nat) (aq29 : Nat) (aq30 : Nat) (ar31 : Nat → Nat) (aq32 : Nat) (aq33 : Nat) (aq34 : Nat) (ar35 : Nat → Nat) (aq36 : Nat) (ar37 : Nat → Nat) (aq38 : Nat) (aq39 : Nat) (hm : Nat) (mq1 : Nat) (mq2 : Nat) (mq3 : Nat) (mq4 : Nat) (mq5 : Nat) (mq6 : Nat) (mq7 : Nat) (mq8 : Nat) (mq9 : Nat) (mq10 : Nat) (mq11 : Nat) (mq12 : Nat) (mq13 : Nat) (mq14 : Nat) (mq15 : Nat) (mq16 : Nat) (mq17 : Nat) (mq18 : Nat) (mq19 : Nat) (mq20 : Nat) (mq21 : Nat) : List Nat := [ha, aq1, aq2, aq3, aq4, aq5, aq6, aq7, aq8, aq9, aq10, aq11, aq12, aq13, aq14, aq15, aq16, aq17, aq19, aq20, aq21, aq22, aq23, aq24, aq25, aq26, aq27, aq28, aq29, aq30, aq32, aq33, aq34, aq36, aq38, aq39, hm, mq1, mq2, mq3, mq4, mq5, mq6, mq7, mq8, mq9, mq10, mq11, mq12, mq13, mq14, mq15, mq16, mq17, mq18, mq19, mq20, mq21]
def adF (qs : List Nat) (r1 r2 r3 r4 z : Nat → Nat) : Nat → Nat := fun c => if c < 58 then qs.getD c 0 else if c < 118 then r1 (c - 58) else if c < 128 then r2 (c - 118) else if c < 132 then r3 (c - 128) else if c < 136 then r4 (c - 132) else z c
def s00 : Hp := fun c k => if c = 18 then (if k = 2 then 5 else if k = 3 then 10 else 0) else if c = 26 then (if k = 2 then (-1) else if k = 3 then (-1) else 0) else if c = 36 then (if k = 16 then 5 else if k = 17 then 10 else if k = 25 then (-1) else if k = 26 then (-1) else 0) else 0
theorem rowsW_get {E : Ex} {r : Nat → Nat} {n k i : Nat} (h : i < n) : (rowsW E r n k)[i]? = some (r i, .inl (E.2.2.1 0, k, .inl (fun _ => 0))) := by
  unfold rowsW
  rw [List.getElem?_map, List.getElem?_range h]
  rfl
theorem rowsW_len {E : Ex} {r : Nat → Nat} {n k : Nat} : (rowsW E r n k).length = n := by simp [rowsW]
theorem s00_row {c : Nat} (h : 58 ≤ c) : s00 c = fun _ => 0 := by
  funext k
  unfold s00
  rw [if_neg (by omega), if_neg (by omega), if_neg (by omega)]
theorem SF_eq {E : Ex} (ha : Nat) (aq1 : Nat) (aq2 : Nat) (aq3 : Nat) (aq4 : Nat) (aq5 : Nat) (aq6 : Nat) (aq7 : Nat) (aq8 : Nat) (aq9 : Nat) (aq10 : Nat) (aq11 : Nat) (aq12 : Nat) (aq13 : Nat) (aq14 : Nat) (aq15 : Nat) (aq16 : Nat) (aq17 : Nat) (ar18 : Nat → Nat) (aq19 : Nat) (aq20 : Nat) (aq21 : Nat) (aq22 : Nat) (aq23 : Nat) (aq24 : Nat) (aq25 : Nat) (aq26 : Nat) (aq27 : Nat) (aq28 : Nat) (aq29 : Nat) (aq30 : Nat) (ar31 : Nat → Nat) (aq32 : Nat) (aq33 : Nat) (aq34 : Nat) (ar35 : Nat → Nat) (aq36 : Nat) (ar37 : Nat → Nat) (aq38 : Nat) (aq39 : Nat) (hm : Nat) (mq1 : Nat) (mq2 : Nat) (mq3 : Nat) (mq4 : Nat) (mq5 : Nat) (mq6 : Nat) (mq7 : Nat) (mq8 : Nat) (mq9 : Nat) (mq10 : Nat) (mq11 : Nat) (mq12 : Nat) (mq13 : Nat) (mq14 : Nat) (mq15 : Nat) (mq16 : Nat) (mq17 : Nat) (mq18 : Nat) (mq19 : Nat) (mq20 : Nat) (mq21 : Nat) : SF E ha aq1 aq2 aq3 aq4 aq5 aq6 aq7 aq8 aq9 aq10 aq11 aq12 aq13 aq14 aq15 aq16 aq17 ar18 aq19 aq20 aq21 aq22 aq23 aq24 aq25 aq26 aq27 aq28 aq29 aq30 ar31 aq32 aq33 aq34 ar35 aq36 ar37 aq38 aq39 hm mq1 mq2 mq3 mq4 mq5 mq6 mq7 mq8 mq9 mq10 mq11 mq12 mq13 mq14 mq15 mq16 mq17 mq18 mq19 mq20 mq21 = rowsW E ar18 60 32 ++ (rowsW E ar31 10 10 ++ (rowsW E ar35 4 16 ++ rowsW E ar37 4 4)) := by
  unfold SF
  simp only [List.nil_append, List.append_nil, List.append_assoc]
theorem LF_len {E : Ex} (ha : Nat) (aq1 : Nat) (aq2 : Nat) (aq3 : Nat) (aq4 : Nat) (aq5 : Nat) (aq6 : Nat) (aq7 : Nat) (aq8 : Nat) (aq9 : Nat) (aq10 : Nat) (aq11 : Nat) (aq12 : Nat) (aq13 : Nat) (aq14 : Nat) (aq15 : Nat) (aq16 : Nat) (aq17 : Nat) (ar18 : Nat → Nat) (aq19 : Nat) (aq20 : Nat) (aq21 : Nat) (aq22 : Nat) (aq23 : Nat) (aq24 : Nat) (aq25 : Nat) (aq26 : Nat) (aq27 : Nat) (aq28 : Nat) (aq29 : Nat) (aq30 : Nat) (ar31 : Nat → Nat) (aq32 : Nat) (aq33 : Nat) (aq34 : Nat) (ar35 : Nat → Nat) (aq36 : Nat) (ar37 : Nat → Nat) (aq38 : Nat) (aq39 : Nat) (hm : Nat) (mq1 : Nat) (mq2 : Nat) (mq3 : Nat) (mq4 : Nat) (mq5 : Nat) (mq6 : Nat) (mq7 : Nat) (mq8 : Nat) (mq9 : Nat) (mq10 : Nat) (mq11 : Nat) (mq12 : Nat) (mq13 : Nat) (mq14 : Nat) (mq15 : Nat) (mq16 : Nat) (mq17 : Nat) (mq18 : Nat) (mq19 : Nat) (mq20 : Nat) (mq21 : Nat) : (LF E ha aq1 aq2 aq3 aq4 aq5 aq6 aq7 aq8 aq9 aq10 aq11 aq12 aq13 aq14 aq15 aq16 aq17 ar18 aq19 aq20 aq21 aq22 aq23 aq24 aq25 aq26 aq27 aq28 aq29 aq30 ar31 aq32 aq33 aq34 ar35 aq36 ar37 aq38 aq39 hm mq1 mq2 mq3 mq4 mq5 mq6 mq7 mq8 mq9 mq10 mq11 mq12 mq13 mq14 mq15 mq16 mq17 mq18 mq19 mq20 mq21).length = 58 := rfl
theorem out_eq {ad r : Nat → Nat} {n b : Nat} (h : ∀ i, i < n → ad (b + i) = r i) : (fun i => if i < n then some (r i) else none) = fun i => if i < n then some (ad (b + i)) else none := by
  funext i
  by_cases hi : i < n
  · rw [if_pos hi, if_pos hi, h i hi]
  · rw [if_neg hi, if_neg hi]
set_option maxRecDepth 20000 in
theorem lf_0 (l : Launch) (D : va_G) (cA : Nat → ClassId) (ad0 ad : Nat → Nat) (ar18 ar31 ar35 ar37 : Nat → Nat) : (LF (l, D, cA, ad0) (ad 0) (ad 1) (ad 2) (ad 3) (ad 4) (ad 5) (ad 6) (ad 7) (ad 8) (ad 9) (ad 10) (ad 11) (ad 12) (ad 13) (ad 14) (ad 15) (ad 16) (ad 17) ar18 (ad 18) (ad 19) (ad 20) (ad 21) (ad 22) (ad 23) (ad 24) (ad 25) (ad 26) (ad 27) (ad 28) (ad 29) ar31 (ad 30) (ad 31) (ad 32) ar35 (ad 33) ar37 (ad 34) (ad 35) (ad 36) (ad 37) (ad 38) (ad 39) (ad 40) (ad 41) (ad 42) (ad 43) (ad 44) (ad 45) (ad 46) (ad 47) (ad 48) (ad 49) (ad 50) (ad 51) (ad 52) (ad 53) (ad 54) (ad 55) (ad 56) (ad 57))[0]? = some (ad 0, cellE (l, D, cA, ad) s00 0 (sch 0)) := rfl
set_option maxRecDepth 20000 in
theorem lf_1 (l : Launch) (D : va_G) (cA : Nat → ClassId) (ad0 ad : Nat → Nat) (ar18 ar31 ar35 ar37 : Nat → Nat) : (LF (l, D, cA, ad0) (ad 0) (ad 1) (ad 2) (ad 3) (ad 4) (ad 5) (ad 6) (ad 7) (ad 8) (ad 9) (ad 10) (ad 11) (ad 12) (ad 13) (ad 14) (ad 15) (ad 16) (ad 17) ar18 (ad 18) (ad 19) (ad 20) (ad 21) (ad 22) (ad 23) (ad 24) (ad 25) (ad 26) (ad 27) (ad 28) (ad 29) ar31 (ad 30) (ad 31) (ad 32) ar35 (ad 33) ar37 (ad 34) (ad 35) (ad 36) (ad 37) (ad 38) (ad 39) (ad 40) (ad 41) (ad 42) (ad 43) (ad 44) (ad 45) (ad 46) (ad 47) (ad 48) (ad 49) (ad 50) (ad 51) (ad 52) (ad 53) (ad 54) (ad 55) (ad 56) (ad 57))[1]? = some (ad 1, cellE (l, D, cA, ad) s00 1 (sch 1)) := rfl
set_option maxRecDepth 20000 in
theorem lf_2 (l : Launch) (D : va_G) (cA : Nat → ClassId) (ad0 ad : Nat → Nat) (ar18 ar31 ar35 ar37 : Nat → Nat) : (LF (l, D, cA, ad0) (ad 0) (ad 1) (ad 2) (ad 3) (ad 4) (ad 5) (ad 6) (ad 7) (ad 8) (ad 9) (ad 10) (ad 11) (ad 12) (ad 13) (ad 14) (ad 15) (ad 16) (ad 17) ar18 (ad 18) (ad 19) (ad 20) (ad 21) (ad 22) (ad 23) (ad 24) (ad 25) (ad 26) (ad 27) (ad 28) (ad 29) ar31 (ad 30) (ad 31) (ad 32) ar35 (ad 33) ar37 (ad 34) (ad 35) (ad 36) (ad 37) (ad 38) (ad 39) (ad 40) (ad 41) (ad 42) (ad 43) (ad 44) (ad 45) (ad 46) (ad 47) (ad 48) (ad 49) (ad 50) (ad 51) (ad 52) (ad 53) (ad 54) (ad 55) (ad 56) (ad 57))[2]? = some (ad 2, cellE (l, D, cA, ad) s00 2 (sch 2)) := rfl
set_option maxRecDepth 20000 in
theorem lf_3 (l : Launch) (D : va_G) (cA : Nat → ClassId) (ad0 ad : Nat → Nat) (ar18 ar31 ar35 ar37 : Nat → Nat) : (LF (l, D, cA, ad0) (ad 0) (ad 1) (ad 2) (ad 3) (ad 4) (ad 5) (ad 6) (ad 7) (ad 8) (ad 9) (ad 10) (ad 11) (ad 12) (ad 13) (ad 14) (ad 15) (ad 16) (ad 17) ar18 (ad 18) (ad 19) (ad 20) (ad 21) (ad 22) (ad 23) (ad 24) (ad 25) (ad 26) (ad 27) (ad 28) (ad 29) ar31 (ad 30) (ad 31) (ad 32) ar35 (ad 33) ar37 (ad 34) (ad 35) (ad 36) (ad 37) (ad 38) (ad 39) (ad 40) (ad 41) (ad 42) (ad 43) (ad 44) (ad 45) (ad 46) (ad 47) (ad 48) (ad 49) (ad 50) (ad 51) (ad 52) (ad 53) (ad 54) (ad 55) (ad 56) (ad 57))[3]? = some (ad 3, cellE (l, D, cA, ad) s00 3 (sch 3)) := rfl
set_option maxRecDepth 20000 in
theorem lf_4 (l : Launch) (D : va_G) (cA : Nat → ClassId) (ad0 ad : Nat → Nat) (ar18 ar31 ar35 ar37 : Nat → Nat) : (LF (l, D, cA, ad0) (ad 0) (ad 1) (ad 2) (ad 3) (ad 4) (ad 5) (ad 6) (ad 7) (ad 8) (ad 9) (ad 10) (ad 11) (ad 12) (ad 13) (ad 14) (ad 15) (ad 16) (ad 17) ar18 (ad 18) (ad 19) (ad 20) (ad 21) (ad 22) (ad 23) (ad 24) (ad 25) (ad 26) (ad 27) (ad 28) (ad 29) ar31 (ad 30) (ad 31) (ad 32) ar35 (ad 33) ar37 (ad 34) (ad 35) (ad 36) (ad 37) (ad 38) (ad 39) (ad 40) (ad 41) (ad 42) (ad 43) (ad 44) (ad 45) (ad 46) (ad 47) (ad 48) (ad 49) (ad 50) (ad 51) (ad 52) (ad 53) (ad 54) (ad 55) (ad 56) (ad 57))[4]? = some (ad 4, cellE (l, D, cA, ad) s00 4 (sch 4)) := rfl
set_option maxRecDepth 20000 in
theorem lf_5 (l : Launch) (D : va_G) (cA : Nat → ClassId) (ad0 ad : Nat → Nat) (ar18 ar31 ar35 ar37 : Nat → Nat) : (LF (l, D, cA, ad0) (ad 0) (ad 1) (ad 2) (ad 3) (ad 4) (ad 5) (ad 6) (ad 7) (ad 8) (ad 9) (ad 10) (ad 11) (ad 12) (ad 13) (ad 14) (ad 15) (ad 16) (ad 17) ar18 (ad 18) (ad 19) (ad 20) (ad 21) (ad 22) (ad 23) (ad 24) (ad 25) (ad 26) (ad 27) (ad 28) (ad 29) ar31 (ad 30) (ad 31) (ad 32) ar35 (ad 33) ar37 (ad 34) (ad 35) (ad 36) (ad 37) (ad 38) (ad 39) (ad 40) (ad 41) (ad 42) (ad 43) (ad 44) (ad 45) (ad 46) (ad 47) (ad 48) (ad 49) (ad 50) (ad 51) (ad 52) (ad 53) (ad 54) (ad 55) (ad 56) (ad 57))[5]? = some (ad 5, cellE (l, D, cA, ad) s00 5 (sch 5)) := rfl
set_option maxRecDepth 20000 in
theorem lf_6 (l : Launch) (D : va_G) (cA : Nat → ClassId) (ad0 ad : Nat → Nat) (ar18 ar31 ar35 ar37 : Nat → Nat) : (LF (l, D, cA, ad0) (ad 0) (ad 1) (ad 2) (ad 3) (ad 4) (ad 5) (ad 6) (ad 7) (ad 8) (ad 9) (ad 10) (ad 11) (ad 12) (ad 13) (ad 14) (ad 15) (ad 16) (ad 17) ar18 (ad 18) (ad 19) (ad 20) (ad 21) (ad 22) (ad 23) (ad 24) (ad 25) (ad 26) (ad 27) (ad 28) (ad 29) ar31 (ad 30) (ad 31) (ad 32) ar35 (ad 33) ar37 (ad 34) (ad 35) (ad 36) (ad 37) (ad 38) (ad 39) (ad 40) (ad 41) (ad 42) (ad 43) (ad 44) (ad 45) (ad 46) (ad 47) (ad 48) (ad 49) (ad 50) (ad 51) (ad 52) (ad 53) (ad 54) (ad 55) (ad 56) (ad 57))[6]? = some (ad 6, cellE (l, D, cA, ad) s00 6 (sch 6)) := rfl
set_option maxRecDepth 20000 in
theorem lf_7 (l : Launch) (D : va_G) (cA : Nat → ClassId) (ad0 ad : Nat → Nat) (ar18 ar31 ar35 ar37 : Nat → Nat) : (LF (l, D, cA, ad0) (ad 0) (ad 1) (ad 2) (ad 3) (ad 4) (ad 5) (ad 6) (ad 7) (ad 8) (ad 9) (ad 10) (ad 11) (ad 12) (ad 13) (ad 14) (ad 15) (ad 16) (ad 17) ar18 (ad 18) (ad 19) (ad 20) (ad 21) (ad 22) (ad 23) (ad 24) (ad 25) (ad 26) (ad 27) (ad 28) (ad 29) ar31 (ad 30) (ad 31) (ad 32) ar35 (ad 33) ar37 (ad 34) (ad 35) (ad 36) (ad 37) (ad 38) (ad 39) (ad 40) (ad 41) (ad 42) (ad 43) (ad 44) (ad 45) (ad 46) (ad 47) (ad 48) (ad 49) (ad 50) (ad 51) (ad 52) (ad 53) (ad 54) (ad 55) (ad 56) (ad 57))[7]? = some (ad 7, cellE (l, D, cA, ad) s00 7 (sch 7)) := rfl
set_option maxRecDepth 20000 in
theorem lf_8 (l : Launch) (D : va_G) (cA : Nat → ClassId) (ad0 ad : Nat → Nat) (ar18 ar31 ar35 ar37 : Nat → Nat) : (LF (l, D, cA, ad0) (ad 0) (ad 1) (ad 2) (ad 3) (ad 4) (ad 5) (ad 6) (ad 7) (ad 8) (ad 9) (ad 10) (ad 11) (ad 12) (ad 13) (ad 14) (ad 15) (ad 16) (ad 17) ar18 (ad 18) (ad 19) (ad 20) (ad 21) (ad 22) (ad 23) (ad 24) (ad 25) (ad 26) (ad 27) (ad 28) (ad 29) ar31 (ad 30) (ad 31) (ad 32) ar35 (ad 33) ar37 (ad 34) (ad 35) (ad 36) (ad 37) (ad 38) (ad 39) (ad 40) (ad 41) (ad 42) (ad 43) (ad 44) (ad 45) (ad 46) (ad 47) (ad 48) (ad 49) (ad 50) (ad 51) (ad 52) (ad 53) (ad 54) (ad 55) (ad 56) (ad 57))[8]? = some (ad 8, cellE (l, D, cA, ad) s00 8 (sch 8)) := rfl
set_option maxRecDepth 20000 in
theorem lf_9 (l : Launch) (D : va_G) (cA : Nat → ClassId) (ad0 ad : Nat → Nat) (ar18 ar31 ar35 ar37 : Nat → Nat) : (LF (l, D, cA, ad0) (ad 0) (ad 1) (ad 2) (ad 3) (ad 4) (ad 5) (ad 6) (ad 7) (ad 8) (ad 9) (ad 10) (ad 11) (ad 12) (ad 13) (ad 14) (ad 15) (ad 16) (ad 17) ar18 (ad 18) (ad 19) (ad 20) (ad 21) (ad 22) (ad 23) (ad 24) (ad 25) (ad 26) (ad 27) (ad 28) (ad 29) ar31 (ad 30) (ad 31) (ad 32) ar35 (ad 33) ar37 (ad 34) (ad 35) (ad 36) (ad 37) (ad 38) (ad 39) (ad 40) (ad 41) (ad 42) (ad 43) (ad 44) (ad 45) (ad 46) (ad 47) (ad 48) (ad 49) (ad 50) (ad 51) (ad 52) (ad 53) (ad 54) (ad 55) (ad 56) (ad 57))[9]? = some (ad 9, cellE (l, D, cA, ad) s00 9 (sch 9)) := rfl
set_option maxRecDepth 20000 in
theorem lf_10 (l : Launch) (D : va_G) (cA : Nat → ClassId) (ad0 ad : Nat → Nat) (ar18 ar31 ar35 ar37 : Nat → Nat) : (LF (l, D, cA, ad0) (ad 0) (ad 1) (ad 2) (ad 3) (ad 4) (ad 5) (ad 6) (ad 7) (ad 8) (ad 9) (ad 10) (ad 11) (ad 12) (ad 13) (ad 14) (ad 15) (ad 16) (ad 17) ar18 (ad 18) (ad 19) (ad 20) (ad 21) (ad 22) (ad 23) (ad 24) (ad 25) (ad 26) (ad 27) (ad 28) (ad 29) ar31 (ad 30) (ad 31) (ad 32) ar35 (ad 33) ar37 (ad 34) (ad 35) (ad 36) (ad 37) (ad 38) (ad 39) (ad 40) (ad 41) (ad 42) (ad 43) (ad 44) (ad 45) (ad 46) (ad 47) (ad 48) (ad 49) (ad 50) (ad 51) (ad 52) (ad 53) (ad 54) (ad 55) (ad 56) (ad 57))[10]? = some (ad 10, cellE (l, D, cA, ad) s00 10 (sch 10)) := rfl
set_option maxRecDepth 20000 in
theorem lf_11 (l : Launch) (D : va_G) (cA : Nat → ClassId) (ad0 ad : Nat → Nat) (ar18 ar31 ar35 ar37 : Nat → Nat) : (LF (l, D, cA, ad0) (ad 0) (ad 1) (ad 2) (ad 3) (ad 4) (ad 5) (ad 6) (ad 7) (ad 8) (ad 9) (ad 10) (ad 11) (ad 12) (ad 13) (ad 14) (ad 15) (ad 16) (ad 17) ar18 (ad 18) (ad 19) (ad 20) (ad 21) (ad 22) (ad 23) (ad 24) (ad 25) (ad 26) (ad 27) (ad 28) (ad 29) ar31 (ad 30) (ad 31) (ad 32) ar35 (ad 33) ar37 (ad 34) (ad 35) (ad 36) (ad 37) (ad 38) (ad 39) (ad 40) (ad 41) (ad 42) (ad 43) (ad 44) (ad 45) (ad 46) (ad 47) (ad 48) (ad 49) (ad 50) (ad 51) (ad 52) (ad 53) (ad 54) (ad 55) (ad 56) (ad 57))[11]? = some (ad 11, cellE (l, D, cA, ad) s00 11 (sch 11)) := rfl
set_option maxRecDepth 20000 in
theorem lf_12 (l : Launch) (D : va_G) (cA : Nat → ClassId) (ad0 ad : Nat → Nat) (ar18 ar31 ar35 ar37 : Nat → Nat) : (LF (l, D, cA, ad0) (ad 0) (ad 1) (ad 2) (ad 3) (ad 4) (ad 5) (ad 6) (ad 7) (ad 8) (ad 9) (ad 10) (ad 11) (ad 12) (ad 13) (ad 14) (ad 15) (ad 16) (ad 17) ar18 (ad 18) (ad 19) (ad 20) (ad 21) (ad 22) (ad 23) (ad 24) (ad 25) (ad 26) (ad 27) (ad 28) (ad 29) ar31 (ad 30) (ad 31) (ad 32) ar35 (ad 33) ar37 (ad 34) (ad 35) (ad 36) (ad 37) (ad 38) (ad 39) (ad 40) (ad 41) (ad 42) (ad 43) (ad 44) (ad 45) (ad 46) (ad 47) (ad 48) (ad 49) (ad 50) (ad 51) (ad 52) (ad 53) (ad 54) (ad 55) (ad 56) (ad 57))[12]? = some (ad 12, cellE (l, D, cA, ad) s00 12 (sch 12)) := rfl
set_option maxRecDepth 20000 in
theorem lf_13 (l : Launch) (D : va_G) (cA : Nat → ClassId) (ad0 ad : Nat → Nat) (ar18 ar31 ar35 ar37 : Nat → Nat) : (LF (l, D, cA, ad0) (ad 0) (ad 1) (ad 2) (ad 3) (ad 4) (ad 5) (ad 6) (ad 7) (ad 8) (ad 9) (ad 10) (ad 11) (ad 12) (ad 13) (ad 14) (ad 15) (ad 16) (ad 17) ar18 (ad 18) (ad 19) (ad 20) (ad 21) (ad 22) (ad 23) (ad 24) (ad 25) (ad 26) (ad 27) (ad 28) (ad 29) ar31 (ad 30) (ad 31) (ad 32) ar35 (ad 33) ar37 (ad 34) (ad 35) (ad 36) (ad 37) (ad 38) (ad 39) (ad 40) (ad 41) (ad 42) (ad 43) (ad 44) (ad 45) (ad 46) (ad 47) (ad 48) (ad 49) (ad 50) (ad 51) (ad 52) (ad 53) (ad 54) (ad 55) (ad 56) (ad 57))[13]? = some (ad 13, cellE (l, D, cA, ad) s00 13 (sch 13)) := rfl
set_option maxRecDepth 20000 in
theorem lf_14 (l : Launch) (D : va_G) (cA : Nat → ClassId) (ad0 ad : Nat → Nat) (ar18 ar31 ar35 ar37 : Nat → Nat) : (LF (l, D, cA, ad0) (ad 0) (ad 1) (ad 2) (ad 3) (ad 4) (ad 5) (ad 6) (ad 7) (ad 8) (ad 9) (ad 10) (ad 11) (ad 12) (ad 13) (ad 14) (ad 15) (ad 16) (ad 17) ar18 (ad 18) (ad 19) (ad 20) (ad 21) (ad 22) (ad 23) (ad 24) (ad 25) (ad 26) (ad 27) (ad 28) (ad 29) ar31 (ad 30) (ad 31) (ad 32) ar35 (ad 33) ar37 (ad 34) (ad 35) (ad 36) (ad 37) (ad 38) (ad 39) (ad 40) (ad 41) (ad 42) (ad 43) (ad 44) (ad 45) (ad 46) (ad 47) (ad 48) (ad 49) (ad 50) (ad 51) (ad 52) (ad 53) (ad 54) (ad 55) (ad 56) (ad 57))[14]? = some (ad 14, cellE (l, D, cA, ad) s00 14 (sch 14)) := rfl
set_option maxRecDepth 20000 in
theorem lf_15 (l : Launch) (D : va_G) (cA : Nat → ClassId) (ad0 ad : Nat → Nat) (ar18 ar31 ar35 ar37 : Nat → Nat) : (LF (l, D, cA, ad0) (ad 0) (ad 1) (ad 2) (ad 3) (ad 4) (ad 5) (ad 6) (ad 7) (ad 8) (ad 9) (ad 10) (ad 11) (ad 12) (ad 13) (ad 14) (ad 15) (ad 16) (ad 17) ar18 (ad 18) (ad 19) (ad 20) (ad 21) (ad 22) (ad 23) (ad 24) (ad 25) (ad 26) (ad 27) (ad 28) (ad 29) ar31 (ad 30) (ad 31) (ad 32) ar35 (ad 33) ar37 (ad 34) (ad 35) (ad 36) (ad 37) (ad 38) (ad 39) (ad 40) (ad 41) (ad 42) (ad 43) (ad 44) (ad 45) (ad 46) (ad 47) (ad 48) (ad 49) (ad 50) (ad 51) (ad 52) (ad 53) (ad 54) (ad 55) (ad 56) (ad 57))[15]? = some (ad 15, cellE (l, D, cA, ad) s00 15 (sch 15)) := rfl
set_option maxRecDepth 20000 in
theorem lf_16 (l : Launch) (D : va_G) (cA : Nat → ClassId) (ad0 ad : Nat → Nat) (ar18 ar31 ar35 ar37 : Nat → Nat) : (LF (l, D, cA, ad0) (ad 0) (ad 1) (ad 2) (ad 3) (ad 4) (ad 5) (ad 6) (ad 7) (ad 8) (ad 9) (ad 10) (ad 11) (ad 12) (ad 13) (ad 14) (ad 15) (ad 16) (ad 17) ar18 (ad 18) (ad 19) (ad 20) (ad 21) (ad 22) (ad 23) (ad 24) (ad 25) (ad 26) (ad 27) (ad 28) (ad 29) ar31 (ad 30) (ad 31) (ad 32) ar35 (ad 33) ar37 (ad 34) (ad 35) (ad 36) (ad 37) (ad 38) (ad 39) (ad 40) (ad 41) (ad 42) (ad 43) (ad 44) (ad 45) (ad 46) (ad 47) (ad 48) (ad 49) (ad 50) (ad 51) (ad 52) (ad 53) (ad 54) (ad 55) (ad 56) (ad 57))[16]? = some (ad 16, cellE (l, D, cA, ad) s00 16 (sch 16)) := rfl
theorem lf_17 (l : Launch) (D : va_G) (cA : Nat → ClassId) (ad0 ad : Nat → Nat) (ar18 ar31 ar35 ar37 : Nat → Nat) (h1 : ∀ i, i < 60 → ad (58 + i) = ar18 i) (h2 : ∀ i, i < 10 → ad (118 + i) = ar31 i) (h3 : ∀ i, i < 4 → ad (128 + i) = ar35 i) (h4 : ∀ i, i < 4 → ad (132 + i) = ar37 i) : (LF (l, D, cA, ad0) (ad 0) (ad 1) (ad 2) (ad 3) (ad 4) (ad 5) (ad 6) (ad 7) (ad 8) (ad 9) (ad 10) (ad 11) (ad 12) (ad 13) (ad 14) (ad 15) (ad 16) (ad 17) ar18 (ad 18) (ad 19) (ad 20) (ad 21) (ad 22) (ad 23) (ad 24) (ad 25) (ad 26) (ad 27) (ad 28) (ad 29) ar31 (ad 30) (ad 31) (ad 32) ar35 (ad 33) ar37 (ad 34) (ad 35) (ad 36) (ad 37) (ad 38) (ad 39) (ad 40) (ad 41) (ad 42) (ad 43) (ad 44) (ad 45) (ad 46) (ad 47) (ad 48) (ad 49) (ad 50) (ad 51) (ad 52) (ad 53) (ad 54) (ad 55) (ad 56) (ad 57))[17]? = some (ad 17, cellE (l, D, cA, ad) s00 17 (sch 17)) := by
  show some ((ad 17, Sum.inl (cA 2, _, .inr (.inr (.inr (.inr _))))) : Nat × va_E) = _
  rw [out_eq h1]
  rfl
set_option maxRecDepth 20000 in
theorem lf_18 (l : Launch) (D : va_G) (cA : Nat → ClassId) (ad0 ad : Nat → Nat) (ar18 ar31 ar35 ar37 : Nat → Nat) : (LF (l, D, cA, ad0) (ad 0) (ad 1) (ad 2) (ad 3) (ad 4) (ad 5) (ad 6) (ad 7) (ad 8) (ad 9) (ad 10) (ad 11) (ad 12) (ad 13) (ad 14) (ad 15) (ad 16) (ad 17) ar18 (ad 18) (ad 19) (ad 20) (ad 21) (ad 22) (ad 23) (ad 24) (ad 25) (ad 26) (ad 27) (ad 28) (ad 29) ar31 (ad 30) (ad 31) (ad 32) ar35 (ad 33) ar37 (ad 34) (ad 35) (ad 36) (ad 37) (ad 38) (ad 39) (ad 40) (ad 41) (ad 42) (ad 43) (ad 44) (ad 45) (ad 46) (ad 47) (ad 48) (ad 49) (ad 50) (ad 51) (ad 52) (ad 53) (ad 54) (ad 55) (ad 56) (ad 57))[18]? = some (ad 18, cellE (l, D, cA, ad) s00 18 (sch 18)) := rfl
set_option maxRecDepth 20000 in
theorem lf_19 (l : Launch) (D : va_G) (cA : Nat → ClassId) (ad0 ad : Nat → Nat) (ar18 ar31 ar35 ar37 : Nat → Nat) : (LF (l, D, cA, ad0) (ad 0) (ad 1) (ad 2) (ad 3) (ad 4) (ad 5) (ad 6) (ad 7) (ad 8) (ad 9) (ad 10) (ad 11) (ad 12) (ad 13) (ad 14) (ad 15) (ad 16) (ad 17) ar18 (ad 18) (ad 19) (ad 20) (ad 21) (ad 22) (ad 23) (ad 24) (ad 25) (ad 26) (ad 27) (ad 28) (ad 29) ar31 (ad 30) (ad 31) (ad 32) ar35 (ad 33) ar37 (ad 34) (ad 35) (ad 36) (ad 37) (ad 38) (ad 39) (ad 40) (ad 41) (ad 42) (ad 43) (ad 44) (ad 45) (ad 46) (ad 47) (ad 48) (ad 49) (ad 50) (ad 51) (ad 52) (ad 53) (ad 54) (ad 55) (ad 56) (ad 57))[19]? = some (ad 19, cellE (l, D, cA, ad) s00 19 (sch 19)) := rfl
set_option maxRecDepth 20000 in
theorem lf_20 (l : Launch) (D : va_G) (cA : Nat → ClassId) (ad0 ad : Nat → Nat) (ar18 ar31 ar35 ar37 : Nat → Nat) : (LF (l, D, cA, ad0) (ad 0) (ad 1) (ad 2) (ad 3) (ad 4) (ad 5) (ad 6) (ad 7) (ad 8) (ad 9) (ad 10) (ad 11) (ad 12) (ad 13) (ad 14) (ad 15) (ad 16) (ad 17) ar18 (ad 18) (ad 19) (ad 20) (ad 21) (ad 22) (ad 23) (ad 24) (ad 25) (ad 26) (ad 27) (ad 28) (ad 29) ar31 (ad 30) (ad 31) (ad 32) ar35 (ad 33) ar37 (ad 34) (ad 35) (ad 36) (ad 37) (ad 38) (ad 39) (ad 40) (ad 41) (ad 42) (ad 43) (ad 44) (ad 45) (ad 46) (ad 47) (ad 48) (ad 49) (ad 50) (ad 51) (ad 52) (ad 53) (ad 54) (ad 55) (ad 56) (ad 57))[20]? = some (ad 20, cellE (l, D, cA, ad) s00 20 (sch 20)) := rfl
set_option maxRecDepth 20000 in
theorem lf_21 (l : Launch) (D : va_G) (cA : Nat → ClassId) (ad0 ad : Nat → Nat) (ar18 ar31 ar35 ar37 : Nat → Nat) : (LF (l, D, cA, ad0) (ad 0) (ad 1) (ad 2) (ad 3) (ad 4) (ad 5) (ad 6) (ad 7) (ad 8) (ad 9) (ad 10) (ad 11) (ad 12) (ad 13) (ad 14) (ad 15) (ad 16) (ad 17) ar18 (ad 18) (ad 19) (ad 20) (ad 21) (ad 22) (ad 23) (ad 24) (ad 25) (ad 26) (ad 27) (ad 28) (ad 29) ar31 (ad 30) (ad 31) (ad 32) ar35 (ad 33) ar37 (ad 34) (ad 35) (ad 36) (ad 37) (ad 38) (ad 39) (ad 40) (ad 41) (ad 42) (ad 43) (ad 44) (ad 45) (ad 46) (ad 47) (ad 48) (ad 49) (ad 50) (ad 51) (ad 52) (ad 53) (ad 54) (ad 55) (ad 56) (ad 57))[21]? = some (ad 21, cellE (l, D, cA, ad) s00 21 (sch 21)) := rfl
set_option maxRecDepth 20000 in
theorem lf_22 (l : Launch) (D : va_G) (cA : Nat → ClassId) (ad0 ad : Nat → Nat) (ar18 ar31 ar35 ar37 : Nat → Nat) : (LF (l, D, cA, ad0) (ad 0) (ad 1) (ad 2) (ad 3) (ad 4) (ad 5) (ad 6) (ad 7) (ad 8) (ad 9) (ad 10) (ad 11) (ad 12) (ad 13) (ad 14) (ad 15) (ad 16) (ad 17) ar18 (ad 18) (ad 19) (ad 20) (ad 21) (ad 22) (ad 23) (ad 24) (ad 25) (ad 26) (ad 27) (ad 28) (ad 29) ar31 (ad 30) (ad 31) (ad 32) ar35 (ad 33) ar37 (ad 34) (ad 35) (ad 36) (ad 37) (ad 38) (ad 39) (ad 40) (ad 41) (ad 42) (ad 43) (ad 44) (ad 45) (ad 46) (ad 47) (ad 48) (ad 49) (ad 50) (ad 51) (ad 52) (ad 53) (ad 54) (ad 55) (ad 56) (ad 57))[22]? = some (ad 22, cellE (l, D, cA, ad) s00 22 (sch 22)) := rfl
set_option maxRecDepth 20000 in
theorem lf_23 (l : Launch) (D : va_G) (cA : Nat → ClassId) (ad0 ad : Nat → Nat) (ar18 ar31 ar35 ar37 : Nat → Nat) : (LF (l, D, cA, ad0) (ad 0) (ad 1) (ad 2) (ad 3) (ad 4) (ad 5) (ad 6) (ad 7) (ad 8) (ad 9) (ad 10) (ad 11) (ad 12) (ad 13) (ad 14) (ad 15) (ad 16) (ad 17) ar18 (ad 18) (ad 19) (ad 20) (ad 21) (ad 22) (ad 23) (ad 24) (ad 25) (ad 26) (ad 27) (ad 28) (ad 29) ar31 (ad 30) (ad 31) (ad 32) ar35 (ad 33) ar37 (ad 34) (ad 35) (ad 36) (ad 37) (ad 38) (ad 39) (ad 40) (ad 41) (ad 42) (ad 43) (ad 44) (ad 45) (ad 46) (ad 47) (ad 48) (ad 49) (ad 50) (ad 51) (ad 52) (ad 53) (ad 54) (ad 55) (ad 56) (ad 57))[23]? = some (ad 23, cellE (l, D, cA, ad) s00 23 (sch 23)) := rfl
set_option maxRecDepth 20000 in
theorem lf_24 (l : Launch) (D : va_G) (cA : Nat → ClassId) (ad0 ad : Nat → Nat) (ar18 ar31 ar35 ar37 : Nat → Nat) : (LF (l, D, cA, ad0) (ad 0) (ad 1) (ad 2) (ad 3) (ad 4) (ad 5) (ad 6) (ad 7) (ad 8) (ad 9) (ad 10) (ad 11) (ad 12) (ad 13) (ad 14) (ad 15) (ad 16) (ad 17) ar18 (ad 18) (ad 19) (ad 20) (ad 21) (ad 22) (ad 23) (ad 24) (ad 25) (ad 26) (ad 27) (ad 28) (ad 29) ar31 (ad 30) (ad 31) (ad 32) ar35 (ad 33) ar37 (ad 34) (ad 35) (ad 36) (ad 37) (ad 38) (ad 39) (ad 40) (ad 41) (ad 42) (ad 43) (ad 44) (ad 45) (ad 46) (ad 47) (ad 48) (ad 49) (ad 50) (ad 51) (ad 52) (ad 53) (ad 54) (ad 55) (ad 56) (ad 57))[24]? = some (ad 24, cellE (l, D, cA, ad) s00 24 (sch 24)) := rfl
set_option maxRecDepth 20000 in
theorem lf_25 (l : Launch) (D : va_G) (cA : Nat → ClassId) (ad0 ad : Nat → Nat) (ar18 ar31 ar35 ar37 : Nat → Nat) : (LF (l, D, cA, ad0) (ad 0) (ad 1) (ad 2) (ad 3) (ad 4) (ad 5) (ad 6) (ad 7) (ad 8) (ad 9) (ad 10) (ad 11) (ad 12) (ad 13) (ad 14) (ad 15) (ad 16) (ad 17) ar18 (ad 18) (ad 19) (ad 20) (ad 21) (ad 22) (ad 23) (ad 24) (ad 25) (ad 26) (ad 27) (ad 28) (ad 29) ar31 (ad 30) (ad 31) (ad 32) ar35 (ad 33) ar37 (ad 34) (ad 35) (ad 36) (ad 37) (ad 38) (ad 39) (ad 40) (ad 41) (ad 42) (ad 43) (ad 44) (ad 45) (ad 46) (ad 47) (ad 48) (ad 49) (ad 50) (ad 51) (ad 52) (ad 53) (ad 54) (ad 55) (ad 56) (ad 57))[25]? = some (ad 25, cellE (l, D, cA, ad) s00 25 (sch 25)) := rfl
set_option maxRecDepth 20000 in
theorem lf_26 (l : Launch) (D : va_G) (cA : Nat → ClassId) (ad0 ad : Nat → Nat) (ar18 ar31 ar35 ar37 : Nat → Nat) : (LF (l, D, cA, ad0) (ad 0) (ad 1) (ad 2) (ad 3) (ad 4) (ad 5) (ad 6) (ad 7) (ad 8) (ad 9) (ad 10) (ad 11) (ad 12) (ad 13) (ad 14) (ad 15) (ad 16) (ad 17) ar18 (ad 18) (ad 19) (ad 20) (ad 21) (ad 22) (ad 23) (ad 24) (ad 25) (ad 26) (ad 27) (ad 28) (ad 29) ar31 (ad 30) (ad 31) (ad 32) ar35 (ad 33) ar37 (ad 34) (ad 35) (ad 36) (ad 37) (ad 38) (ad 39) (ad 40) (ad 41) (ad 42) (ad 43) (ad 44) (ad 45) (ad 46) (ad 47) (ad 48) (ad 49) (ad 50) (ad 51) (ad 52) (ad 53) (ad 54) (ad 55) (ad 56) (ad 57))[26]? = some (ad 26, cellE (l, D, cA, ad) s00 26 (sch 26)) := rfl
set_option maxRecDepth 20000 in
theorem lf_27 (l : Launch) (D : va_G) (cA : Nat → ClassId) (ad0 ad : Nat → Nat) (ar18 ar31 ar35 ar37 : Nat → Nat) : (LF (l, D, cA, ad0) (ad 0) (ad 1) (ad 2) (ad 3) (ad 4) (ad 5) (ad 6) (ad 7) (ad 8) (ad 9) (ad 10) (ad 11) (ad 12) (ad 13) (ad 14) (ad 15) (ad 16) (ad 17) ar18 (ad 18) (ad 19) (ad 20) (ad 21) (ad 22) (ad 23) (ad 24) (ad 25) (ad 26) (ad 27) (ad 28) (ad 29) ar31 (ad 30) (ad 31) (ad 32) ar35 (ad 33) ar37 (ad 34) (ad 35) (ad 36) (ad 37) (ad 38) (ad 39) (ad 40) (ad 41) (ad 42) (ad 43) (ad 44) (ad 45) (ad 46) (ad 47) (ad 48) (ad 49) (ad 50) (ad 51) (ad 52) (ad 53) (ad 54) (ad 55) (ad 56) (ad 57))[27]? = some (ad 27, cellE (l, D, cA, ad) s00 27 (sch 27)) := rfl
set_option maxRecDepth 20000 in
theorem lf_28 (l : Launch) (D : va_G) (cA : Nat → ClassId) (ad0 ad : Nat → Nat) (ar18 ar31 ar35 ar37 : Nat → Nat) : (LF (l, D, cA, ad0) (ad 0) (ad 1) (ad 2) (ad 3) (ad 4) (ad 5) (ad 6) (ad 7) (ad 8) (ad 9) (ad 10) (ad 11) (ad 12) (ad 13) (ad 14) (ad 15) (ad 16) (ad 17) ar18 (ad 18) (ad 19) (ad 20) (ad 21) (ad 22) (ad 23) (ad 24) (ad 25) (ad 26) (ad 27) (ad 28) (ad 29) ar31 (ad 30) (ad 31) (ad 32) ar35 (ad 33) ar37 (ad 34) (ad 35) (ad 36) (ad 37) (ad 38) (ad 39) (ad 40) (ad 41) (ad 42) (ad 43) (ad 44) (ad 45) (ad 46) (ad 47) (ad 48) (ad 49) (ad 50) (ad 51) (ad 52) (ad 53) (ad 54) (ad 55) (ad 56) (ad 57))[28]? = some (ad 28, cellE (l, D, cA, ad) s00 28 (sch 28)) := rfl
theorem lf_29 (l : Launch) (D : va_G) (cA : Nat → ClassId) (ad0 ad : Nat → Nat) (ar18 ar31 ar35 ar37 : Nat → Nat) (h1 : ∀ i, i < 60 → ad (58 + i) = ar18 i) (h2 : ∀ i, i < 10 → ad (118 + i) = ar31 i) (h3 : ∀ i, i < 4 → ad (128 + i) = ar35 i) (h4 : ∀ i, i < 4 → ad (132 + i) = ar37 i) : (LF (l, D, cA, ad0) (ad 0) (ad 1) (ad 2) (ad 3) (ad 4) (ad 5) (ad 6) (ad 7) (ad 8) (ad 9) (ad 10) (ad 11) (ad 12) (ad 13) (ad 14) (ad 15) (ad 16) (ad 17) ar18 (ad 18) (ad 19) (ad 20) (ad 21) (ad 22) (ad 23) (ad 24) (ad 25) (ad 26) (ad 27) (ad 28) (ad 29) ar31 (ad 30) (ad 31) (ad 32) ar35 (ad 33) ar37 (ad 34) (ad 35) (ad 36) (ad 37) (ad 38) (ad 39) (ad 40) (ad 41) (ad 42) (ad 43) (ad 44) (ad 45) (ad 46) (ad 47) (ad 48) (ad 49) (ad 50) (ad 51) (ad 52) (ad 53) (ad 54) (ad 55) (ad 56) (ad 57))[29]? = some (ad 29, cellE (l, D, cA, ad) s00 29 (sch 29)) := by
  show some ((ad 29, Sum.inl (cA 2, _, .inr (.inr (.inr (.inr _))))) : Nat × va_E) = _
  rw [out_eq h2]
  rfl
set_option maxRecDepth 20000 in
theorem lf_30 (l : Launch) (D : va_G) (cA : Nat → ClassId) (ad0 ad : Nat → Nat) (ar18 ar31 ar35 ar37 : Nat → Nat) : (LF (l, D, cA, ad0) (ad 0) (ad 1) (ad 2) (ad 3) (ad 4) (ad 5) (ad 6) (ad 7) (ad 8) (ad 9) (ad 10) (ad 11) (ad 12) (ad 13) (ad 14) (ad 15) (ad 16) (ad 17) ar18 (ad 18) (ad 19) (ad 20) (ad 21) (ad 22) (ad 23) (ad 24) (ad 25) (ad 26) (ad 27) (ad 28) (ad 29) ar31 (ad 30) (ad 31) (ad 32) ar35 (ad 33) ar37 (ad 34) (ad 35) (ad 36) (ad 37) (ad 38) (ad 39) (ad 40) (ad 41) (ad 42) (ad 43) (ad 44) (ad 45) (ad 46) (ad 47) (ad 48) (ad 49) (ad 50) (ad 51) (ad 52) (ad 53) (ad 54) (ad 55) (ad 56) (ad 57))[30]? = some (ad 30, cellE (l, D, cA, ad) s00 30 (sch 30)) := rfl
set_option maxRecDepth 20000 in
theorem lf_31 (l : Launch) (D : va_G) (cA : Nat → ClassId) (ad0 ad : Nat → Nat) (ar18 ar31 ar35 ar37 : Nat → Nat) : (LF (l, D, cA, ad0) (ad 0) (ad 1) (ad 2) (ad 3) (ad 4) (ad 5) (ad 6) (ad 7) (ad 8) (ad 9) (ad 10) (ad 11) (ad 12) (ad 13) (ad 14) (ad 15) (ad 16) (ad 17) ar18 (ad 18) (ad 19) (ad 20) (ad 21) (ad 22) (ad 23) (ad 24) (ad 25) (ad 26) (ad 27) (ad 28) (ad 29) ar31 (ad 30) (ad 31) (ad 32) ar35 (ad 33) ar37 (ad 34) (ad 35) (ad 36) (ad 37) (ad 38) (ad 39) (ad 40) (ad 41) (ad 42) (ad 43) (ad 44) (ad 45) (ad 46) (ad 47) (ad 48) (ad 49) (ad 50) (ad 51) (ad 52) (ad 53) (ad 54) (ad 55) (ad 56) (ad 57))[31]? = some (ad 31, cellE (l, D, cA, ad) s00 31 (sch 31)) := rfl
theorem lf_32 (l : Launch) (D : va_G) (cA : Nat → ClassId) (ad0 ad : Nat → Nat) (ar18 ar31 ar35 ar37 : Nat → Nat) (h1 : ∀ i, i < 60 → ad (58 + i) = ar18 i) (h2 : ∀ i, i < 10 → ad (118 + i) = ar31 i) (h3 : ∀ i, i < 4 → ad (128 + i) = ar35 i) (h4 : ∀ i, i < 4 → ad (132 + i) = ar37 i) : (LF (l, D, cA, ad0) (ad 0) (ad 1) (ad 2) (ad 3) (ad 4) (ad 5) (ad 6) (ad 7) (ad 8) (ad 9) (ad 10) (ad 11) (ad 12) (ad 13) (ad 14) (ad 15) (ad 16) (ad 17) ar18 (ad 18) (ad 19) (ad 20) (ad 21) (ad 22) (ad 23) (ad 24) (ad 25) (ad 26) (ad 27) (ad 28) (ad 29) ar31 (ad 30) (ad 31) (ad 32) ar35 (ad 33) ar37 (ad 34) (ad 35) (ad 36) (ad 37) (ad 38) (ad 39) (ad 40) (ad 41) (ad 42) (ad 43) (ad 44) (ad 45) (ad 46) (ad 47) (ad 48) (ad 49) (ad 50) (ad 51) (ad 52) (ad 53) (ad 54) (ad 55) (ad 56) (ad 57))[32]? = some (ad 32, cellE (l, D, cA, ad) s00 32 (sch 32)) := by
  show some ((ad 32, Sum.inl (cA 2, _, .inr (.inr (.inr (.inr _))))) : Nat × va_E) = _
  rw [out_eq h3]
  rfl
theorem lf_33 (l : Launch) (D : va_G) (cA : Nat → ClassId) (ad0 ad : Nat → Nat) (ar18 ar31 ar35 ar37 : Nat → Nat) (h1 : ∀ i, i < 60 → ad (58 + i) = ar18 i) (h2 : ∀ i, i < 10 → ad (118 + i) = ar31 i) (h3 : ∀ i, i < 4 → ad (128 + i) = ar35 i) (h4 : ∀ i, i < 4 → ad (132 + i) = ar37 i) : (LF (l, D, cA, ad0) (ad 0) (ad 1) (ad 2) (ad 3) (ad 4) (ad 5) (ad 6) (ad 7) (ad 8) (ad 9) (ad 10) (ad 11) (ad 12) (ad 13) (ad 14) (ad 15) (ad 16) (ad 17) ar18 (ad 18) (ad 19) (ad 20) (ad 21) (ad 22) (ad 23) (ad 24) (ad 25) (ad 26) (ad 27) (ad 28) (ad 29) ar31 (ad 30) (ad 31) (ad 32) ar35 (ad 33) ar37 (ad 34) (ad 35) (ad 36) (ad 37) (ad 38) (ad 39) (ad 40) (ad 41) (ad 42) (ad 43) (ad 44) (ad 45) (ad 46) (ad 47) (ad 48) (ad 49) (ad 50) (ad 51) (ad 52) (ad 53) (ad 54) (ad 55) (ad 56) (ad 57))[33]? = some (ad 33, cellE (l, D, cA, ad) s00 33 (sch 33)) := by
  show some ((ad 33, Sum.inl (cA 2, _, .inr (.inr (.inr (.inr _))))) : Nat × va_E) = _
  rw [out_eq h4]
  rfl
set_option maxRecDepth 20000 in
theorem lf_34 (l : Launch) (D : va_G) (cA : Nat → ClassId) (ad0 ad : Nat → Nat) (ar18 ar31 ar35 ar37 : Nat → Nat) : (LF (l, D, cA, ad0) (ad 0) (ad 1) (ad 2) (ad 3) (ad 4) (ad 5) (ad 6) (ad 7) (ad 8) (ad 9) (ad 10) (ad 11) (ad 12) (ad 13) (ad 14) (ad 15) (ad 16) (ad 17) ar18 (ad 18) (ad 19) (ad 20) (ad 21) (ad 22) (ad 23) (ad 24) (ad 25) (ad 26) (ad 27) (ad 28) (ad 29) ar31 (ad 30) (ad 31) (ad 32) ar35 (ad 33) ar37 (ad 34) (ad 35) (ad 36) (ad 37) (ad 38) (ad 39) (ad 40) (ad 41) (ad 42) (ad 43) (ad 44) (ad 45) (ad 46) (ad 47) (ad 48) (ad 49) (ad 50) (ad 51) (ad 52) (ad 53) (ad 54) (ad 55) (ad 56) (ad 57))[34]? = some (ad 34, cellE (l, D, cA, ad) s00 34 (sch 34)) := rfl
set_option maxRecDepth 20000 in
theorem lf_35 (l : Launch) (D : va_G) (cA : Nat → ClassId) (ad0 ad : Nat → Nat) (ar18 ar31 ar35 ar37 : Nat → Nat) : (LF (l, D, cA, ad0) (ad 0) (ad 1) (ad 2) (ad 3) (ad 4) (ad 5) (ad 6) (ad 7) (ad 8) (ad 9) (ad 10) (ad 11) (ad 12) (ad 13) (ad 14) (ad 15) (ad 16) (ad 17) ar18 (ad 18) (ad 19) (ad 20) (ad 21) (ad 22) (ad 23) (ad 24) (ad 25) (ad 26) (ad 27) (ad 28) (ad 29) ar31 (ad 30) (ad 31) (ad 32) ar35 (ad 33) ar37 (ad 34) (ad 35) (ad 36) (ad 37) (ad 38) (ad 39) (ad 40) (ad 41) (ad 42) (ad 43) (ad 44) (ad 45) (ad 46) (ad 47) (ad 48) (ad 49) (ad 50) (ad 51) (ad 52) (ad 53) (ad 54) (ad 55) (ad 56) (ad 57))[35]? = some (ad 35, cellE (l, D, cA, ad) s00 35 (sch 35)) := rfl
set_option maxRecDepth 20000 in
theorem lf_36 (l : Launch) (D : va_G) (cA : Nat → ClassId) (ad0 ad : Nat → Nat) (ar18 ar31 ar35 ar37 : Nat → Nat) : (LF (l, D, cA, ad0) (ad 0) (ad 1) (ad 2) (ad 3) (ad 4) (ad 5) (ad 6) (ad 7) (ad 8) (ad 9) (ad 10) (ad 11) (ad 12) (ad 13) (ad 14) (ad 15) (ad 16) (ad 17) ar18 (ad 18) (ad 19) (ad 20) (ad 21) (ad 22) (ad 23) (ad 24) (ad 25) (ad 26) (ad 27) (ad 28) (ad 29) ar31 (ad 30) (ad 31) (ad 32) ar35 (ad 33) ar37 (ad 34) (ad 35) (ad 36) (ad 37) (ad 38) (ad 39) (ad 40) (ad 41) (ad 42) (ad 43) (ad 44) (ad 45) (ad 46) (ad 47) (ad 48) (ad 49) (ad 50) (ad 51) (ad 52) (ad 53) (ad 54) (ad 55) (ad 56) (ad 57))[36]? = some (ad 36, cellE (l, D, cA, ad) s00 36 (sch 36)) := by
  show some ((ad 36, Sum.inr (10, [.int 0, .ref (ad 37), .ref (ad 38), .int 0, .ref (ad 39), .ref (ad 40), .ref (ad 41), .ref (ad 42), .int 0, .ref (ad 43), .ref (ad 44), .ref (ad 45), .ref (ad 46), .ref (ad 47), .ref (ad 48), .ref (ad 49), .int 5, .int 10, .int 0, .ref (ad 50), .ref (ad 51), .ref (ad 52), .int 0, .int 0, .ref (ad 53), .int (-1), .int (-1), .int 0, .int 0, .int 0, .int 0, .int 0, .ref (ad 54), .ref (ad 55), .ref (ad 56), .ref (ad 57)])) : Nat × va_E) = some (ad 36, Sum.inr (10, List.mapIdx (fun k f => fval (l, D, cA, ad) s00 36 k f) [none, some 37, some 38, none, some 39, some 40, some 41, some 42, none, some 43, some 44, some 45, some 46, some 47, some 48, some 49, none, none, none, some 50, some 51, some 52, none, none, some 53, none, none, none, none, none, none, none, some 54, some 55, some 56, some 57]))
  simp only [List.mapIdx_cons, List.mapIdx_nil]
  rfl
set_option maxRecDepth 20000 in
theorem lf_37 (l : Launch) (D : va_G) (cA : Nat → ClassId) (ad0 ad : Nat → Nat) (ar18 ar31 ar35 ar37 : Nat → Nat) : (LF (l, D, cA, ad0) (ad 0) (ad 1) (ad 2) (ad 3) (ad 4) (ad 5) (ad 6) (ad 7) (ad 8) (ad 9) (ad 10) (ad 11) (ad 12) (ad 13) (ad 14) (ad 15) (ad 16) (ad 17) ar18 (ad 18) (ad 19) (ad 20) (ad 21) (ad 22) (ad 23) (ad 24) (ad 25) (ad 26) (ad 27) (ad 28) (ad 29) ar31 (ad 30) (ad 31) (ad 32) ar35 (ad 33) ar37 (ad 34) (ad 35) (ad 36) (ad 37) (ad 38) (ad 39) (ad 40) (ad 41) (ad 42) (ad 43) (ad 44) (ad 45) (ad 46) (ad 47) (ad 48) (ad 49) (ad 50) (ad 51) (ad 52) (ad 53) (ad 54) (ad 55) (ad 56) (ad 57))[37]? = some (ad 37, cellE (l, D, cA, ad) s00 37 (sch 37)) := rfl
set_option maxRecDepth 20000 in
theorem lf_38 (l : Launch) (D : va_G) (cA : Nat → ClassId) (ad0 ad : Nat → Nat) (ar18 ar31 ar35 ar37 : Nat → Nat) : (LF (l, D, cA, ad0) (ad 0) (ad 1) (ad 2) (ad 3) (ad 4) (ad 5) (ad 6) (ad 7) (ad 8) (ad 9) (ad 10) (ad 11) (ad 12) (ad 13) (ad 14) (ad 15) (ad 16) (ad 17) ar18 (ad 18) (ad 19) (ad 20) (ad 21) (ad 22) (ad 23) (ad 24) (ad 25) (ad 26) (ad 27) (ad 28) (ad 29) ar31 (ad 30) (ad 31) (ad 32) ar35 (ad 33) ar37 (ad 34) (ad 35) (ad 36) (ad 37) (ad 38) (ad 39) (ad 40) (ad 41) (ad 42) (ad 43) (ad 44) (ad 45) (ad 46) (ad 47) (ad 48) (ad 49) (ad 50) (ad 51) (ad 52) (ad 53) (ad 54) (ad 55) (ad 56) (ad 57))[38]? = some (ad 38, cellE (l, D, cA, ad) s00 38 (sch 38)) := rfl
set_option maxRecDepth 20000 in
theorem lf_39 (l : Launch) (D : va_G) (cA : Nat → ClassId) (ad0 ad : Nat → Nat) (ar18 ar31 ar35 ar37 : Nat → Nat) : (LF (l, D, cA, ad0) (ad 0) (ad 1) (ad 2) (ad 3) (ad 4) (ad 5) (ad 6) (ad 7) (ad 8) (ad 9) (ad 10) (ad 11) (ad 12) (ad 13) (ad 14) (ad 15) (ad 16) (ad 17) ar18 (ad 18) (ad 19) (ad 20) (ad 21) (ad 22) (ad 23) (ad 24) (ad 25) (ad 26) (ad 27) (ad 28) (ad 29) ar31 (ad 30) (ad 31) (ad 32) ar35 (ad 33) ar37 (ad 34) (ad 35) (ad 36) (ad 37) (ad 38) (ad 39) (ad 40) (ad 41) (ad 42) (ad 43) (ad 44) (ad 45) (ad 46) (ad 47) (ad 48) (ad 49) (ad 50) (ad 51) (ad 52) (ad 53) (ad 54) (ad 55) (ad 56) (ad 57))[39]? = some (ad 39, cellE (l, D, cA, ad) s00 39 (sch 39)) := rfl
set_option maxRecDepth 20000 in
theorem lf_40 (l : Launch) (D : va_G) (cA : Nat → ClassId) (ad0 ad : Nat → Nat) (ar18 ar31 ar35 ar37 : Nat → Nat) : (LF (l, D, cA, ad0) (ad 0) (ad 1) (ad 2) (ad 3) (ad 4) (ad 5) (ad 6) (ad 7) (ad 8) (ad 9) (ad 10) (ad 11) (ad 12) (ad 13) (ad 14) (ad 15) (ad 16) (ad 17) ar18 (ad 18) (ad 19) (ad 20) (ad 21) (ad 22) (ad 23) (ad 24) (ad 25) (ad 26) (ad 27) (ad 28) (ad 29) ar31 (ad 30) (ad 31) (ad 32) ar35 (ad 33) ar37 (ad 34) (ad 35) (ad 36) (ad 37) (ad 38) (ad 39) (ad 40) (ad 41) (ad 42) (ad 43) (ad 44) (ad 45) (ad 46) (ad 47) (ad 48) (ad 49) (ad 50) (ad 51) (ad 52) (ad 53) (ad 54) (ad 55) (ad 56) (ad 57))[40]? = some (ad 40, cellE (l, D, cA, ad) s00 40 (sch 40)) := rfl
set_option maxRecDepth 20000 in
theorem lf_41 (l : Launch) (D : va_G) (cA : Nat → ClassId) (ad0 ad : Nat → Nat) (ar18 ar31 ar35 ar37 : Nat → Nat) : (LF (l, D, cA, ad0) (ad 0) (ad 1) (ad 2) (ad 3) (ad 4) (ad 5) (ad 6) (ad 7) (ad 8) (ad 9) (ad 10) (ad 11) (ad 12) (ad 13) (ad 14) (ad 15) (ad 16) (ad 17) ar18 (ad 18) (ad 19) (ad 20) (ad 21) (ad 22) (ad 23) (ad 24) (ad 25) (ad 26) (ad 27) (ad 28) (ad 29) ar31 (ad 30) (ad 31) (ad 32) ar35 (ad 33) ar37 (ad 34) (ad 35) (ad 36) (ad 37) (ad 38) (ad 39) (ad 40) (ad 41) (ad 42) (ad 43) (ad 44) (ad 45) (ad 46) (ad 47) (ad 48) (ad 49) (ad 50) (ad 51) (ad 52) (ad 53) (ad 54) (ad 55) (ad 56) (ad 57))[41]? = some (ad 41, cellE (l, D, cA, ad) s00 41 (sch 41)) := rfl
set_option maxRecDepth 20000 in
theorem lf_42 (l : Launch) (D : va_G) (cA : Nat → ClassId) (ad0 ad : Nat → Nat) (ar18 ar31 ar35 ar37 : Nat → Nat) : (LF (l, D, cA, ad0) (ad 0) (ad 1) (ad 2) (ad 3) (ad 4) (ad 5) (ad 6) (ad 7) (ad 8) (ad 9) (ad 10) (ad 11) (ad 12) (ad 13) (ad 14) (ad 15) (ad 16) (ad 17) ar18 (ad 18) (ad 19) (ad 20) (ad 21) (ad 22) (ad 23) (ad 24) (ad 25) (ad 26) (ad 27) (ad 28) (ad 29) ar31 (ad 30) (ad 31) (ad 32) ar35 (ad 33) ar37 (ad 34) (ad 35) (ad 36) (ad 37) (ad 38) (ad 39) (ad 40) (ad 41) (ad 42) (ad 43) (ad 44) (ad 45) (ad 46) (ad 47) (ad 48) (ad 49) (ad 50) (ad 51) (ad 52) (ad 53) (ad 54) (ad 55) (ad 56) (ad 57))[42]? = some (ad 42, cellE (l, D, cA, ad) s00 42 (sch 42)) := rfl
set_option maxRecDepth 20000 in
theorem lf_43 (l : Launch) (D : va_G) (cA : Nat → ClassId) (ad0 ad : Nat → Nat) (ar18 ar31 ar35 ar37 : Nat → Nat) : (LF (l, D, cA, ad0) (ad 0) (ad 1) (ad 2) (ad 3) (ad 4) (ad 5) (ad 6) (ad 7) (ad 8) (ad 9) (ad 10) (ad 11) (ad 12) (ad 13) (ad 14) (ad 15) (ad 16) (ad 17) ar18 (ad 18) (ad 19) (ad 20) (ad 21) (ad 22) (ad 23) (ad 24) (ad 25) (ad 26) (ad 27) (ad 28) (ad 29) ar31 (ad 30) (ad 31) (ad 32) ar35 (ad 33) ar37 (ad 34) (ad 35) (ad 36) (ad 37) (ad 38) (ad 39) (ad 40) (ad 41) (ad 42) (ad 43) (ad 44) (ad 45) (ad 46) (ad 47) (ad 48) (ad 49) (ad 50) (ad 51) (ad 52) (ad 53) (ad 54) (ad 55) (ad 56) (ad 57))[43]? = some (ad 43, cellE (l, D, cA, ad) s00 43 (sch 43)) := rfl
set_option maxRecDepth 20000 in
theorem lf_44 (l : Launch) (D : va_G) (cA : Nat → ClassId) (ad0 ad : Nat → Nat) (ar18 ar31 ar35 ar37 : Nat → Nat) : (LF (l, D, cA, ad0) (ad 0) (ad 1) (ad 2) (ad 3) (ad 4) (ad 5) (ad 6) (ad 7) (ad 8) (ad 9) (ad 10) (ad 11) (ad 12) (ad 13) (ad 14) (ad 15) (ad 16) (ad 17) ar18 (ad 18) (ad 19) (ad 20) (ad 21) (ad 22) (ad 23) (ad 24) (ad 25) (ad 26) (ad 27) (ad 28) (ad 29) ar31 (ad 30) (ad 31) (ad 32) ar35 (ad 33) ar37 (ad 34) (ad 35) (ad 36) (ad 37) (ad 38) (ad 39) (ad 40) (ad 41) (ad 42) (ad 43) (ad 44) (ad 45) (ad 46) (ad 47) (ad 48) (ad 49) (ad 50) (ad 51) (ad 52) (ad 53) (ad 54) (ad 55) (ad 56) (ad 57))[44]? = some (ad 44, cellE (l, D, cA, ad) s00 44 (sch 44)) := rfl
set_option maxRecDepth 20000 in
theorem lf_45 (l : Launch) (D : va_G) (cA : Nat → ClassId) (ad0 ad : Nat → Nat) (ar18 ar31 ar35 ar37 : Nat → Nat) : (LF (l, D, cA, ad0) (ad 0) (ad 1) (ad 2) (ad 3) (ad 4) (ad 5) (ad 6) (ad 7) (ad 8) (ad 9) (ad 10) (ad 11) (ad 12) (ad 13) (ad 14) (ad 15) (ad 16) (ad 17) ar18 (ad 18) (ad 19) (ad 20) (ad 21) (ad 22) (ad 23) (ad 24) (ad 25) (ad 26) (ad 27) (ad 28) (ad 29) ar31 (ad 30) (ad 31) (ad 32) ar35 (ad 33) ar37 (ad 34) (ad 35) (ad 36) (ad 37) (ad 38) (ad 39) (ad 40) (ad 41) (ad 42) (ad 43) (ad 44) (ad 45) (ad 46) (ad 47) (ad 48) (ad 49) (ad 50) (ad 51) (ad 52) (ad 53) (ad 54) (ad 55) (ad 56) (ad 57))[45]? = some (ad 45, cellE (l, D, cA, ad) s00 45 (sch 45)) := rfl
set_option maxRecDepth 20000 in
theorem lf_46 (l : Launch) (D : va_G) (cA : Nat → ClassId) (ad0 ad : Nat → Nat) (ar18 ar31 ar35 ar37 : Nat → Nat) : (LF (l, D, cA, ad0) (ad 0) (ad 1) (ad 2) (ad 3) (ad 4) (ad 5) (ad 6) (ad 7) (ad 8) (ad 9) (ad 10) (ad 11) (ad 12) (ad 13) (ad 14) (ad 15) (ad 16) (ad 17) ar18 (ad 18) (ad 19) (ad 20) (ad 21) (ad 22) (ad 23) (ad 24) (ad 25) (ad 26) (ad 27) (ad 28) (ad 29) ar31 (ad 30) (ad 31) (ad 32) ar35 (ad 33) ar37 (ad 34) (ad 35) (ad 36) (ad 37) (ad 38) (ad 39) (ad 40) (ad 41) (ad 42) (ad 43) (ad 44) (ad 45) (ad 46) (ad 47) (ad 48) (ad 49) (ad 50) (ad 51) (ad 52) (ad 53) (ad 54) (ad 55) (ad 56) (ad 57))[46]? = some (ad 46, cellE (l, D, cA, ad) s00 46 (sch 46)) := rfl
set_option maxRecDepth 20000 in
theorem lf_47 (l : Launch) (D : va_G) (cA : Nat → ClassId) (ad0 ad : Nat → Nat) (ar18 ar31 ar35 ar37 : Nat → Nat) : (LF (l, D, cA, ad0) (ad 0) (ad 1) (ad 2) (ad 3) (ad 4) (ad 5) (ad 6) (ad 7) (ad 8) (ad 9) (ad 10) (ad 11) (ad 12) (ad 13) (ad 14) (ad 15) (ad 16) (ad 17) ar18 (ad 18) (ad 19) (ad 20) (ad 21) (ad 22) (ad 23) (ad 24) (ad 25) (ad 26) (ad 27) (ad 28) (ad 29) ar31 (ad 30) (ad 31) (ad 32) ar35 (ad 33) ar37 (ad 34) (ad 35) (ad 36) (ad 37) (ad 38) (ad 39) (ad 40) (ad 41) (ad 42) (ad 43) (ad 44) (ad 45) (ad 46) (ad 47) (ad 48) (ad 49) (ad 50) (ad 51) (ad 52) (ad 53) (ad 54) (ad 55) (ad 56) (ad 57))[47]? = some (ad 47, cellE (l, D, cA, ad) s00 47 (sch 47)) := rfl
set_option maxRecDepth 20000 in
theorem lf_48 (l : Launch) (D : va_G) (cA : Nat → ClassId) (ad0 ad : Nat → Nat) (ar18 ar31 ar35 ar37 : Nat → Nat) : (LF (l, D, cA, ad0) (ad 0) (ad 1) (ad 2) (ad 3) (ad 4) (ad 5) (ad 6) (ad 7) (ad 8) (ad 9) (ad 10) (ad 11) (ad 12) (ad 13) (ad 14) (ad 15) (ad 16) (ad 17) ar18 (ad 18) (ad 19) (ad 20) (ad 21) (ad 22) (ad 23) (ad 24) (ad 25) (ad 26) (ad 27) (ad 28) (ad 29) ar31 (ad 30) (ad 31) (ad 32) ar35 (ad 33) ar37 (ad 34) (ad 35) (ad 36) (ad 37) (ad 38) (ad 39) (ad 40) (ad 41) (ad 42) (ad 43) (ad 44) (ad 45) (ad 46) (ad 47) (ad 48) (ad 49) (ad 50) (ad 51) (ad 52) (ad 53) (ad 54) (ad 55) (ad 56) (ad 57))[48]? = some (ad 48, cellE (l, D, cA, ad) s00 48 (sch 48)) := rfl
set_option maxRecDepth 20000 in
theorem lf_49 (l : Launch) (D : va_G) (cA : Nat → ClassId) (ad0 ad : Nat → Nat) (ar18 ar31 ar35 ar37 : Nat → Nat) : (LF (l, D, cA, ad0) (ad 0) (ad 1) (ad 2) (ad 3) (ad 4) (ad 5) (ad 6) (ad 7) (ad 8) (ad 9) (ad 10) (ad 11) (ad 12) (ad 13) (ad 14) (ad 15) (ad 16) (ad 17) ar18 (ad 18) (ad 19) (ad 20) (ad 21) (ad 22) (ad 23) (ad 24) (ad 25) (ad 26) (ad 27) (ad 28) (ad 29) ar31 (ad 30) (ad 31) (ad 32) ar35 (ad 33) ar37 (ad 34) (ad 35) (ad 36) (ad 37) (ad 38) (ad 39) (ad 40) (ad 41) (ad 42) (ad 43) (ad 44) (ad 45) (ad 46) (ad 47) (ad 48) (ad 49) (ad 50) (ad 51) (ad 52) (ad 53) (ad 54) (ad 55) (ad 56) (ad 57))[49]? = some (ad 49, cellE (l, D, cA, ad) s00 49 (sch 49)) := rfl
set_option maxRecDepth 20000 in
theorem lf_50 (l : Launch) (D : va_G) (cA : Nat → ClassId) (ad0 ad : Nat → Nat) (ar18 ar31 ar35 ar37 : Nat → Nat) : (LF (l, D, cA, ad0) (ad 0) (ad 1) (ad 2) (ad 3) (ad 4) (ad 5) (ad 6) (ad 7) (ad 8) (ad 9) (ad 10) (ad 11) (ad 12) (ad 13) (ad 14) (ad 15) (ad 16) (ad 17) ar18 (ad 18) (ad 19) (ad 20) (ad 21) (ad 22) (ad 23) (ad 24) (ad 25) (ad 26) (ad 27) (ad 28) (ad 29) ar31 (ad 30) (ad 31) (ad 32) ar35 (ad 33) ar37 (ad 34) (ad 35) (ad 36) (ad 37) (ad 38) (ad 39) (ad 40) (ad 41) (ad 42) (ad 43) (ad 44) (ad 45) (ad 46) (ad 47) (ad 48) (ad 49) (ad 50) (ad 51) (ad 52) (ad 53) (ad 54) (ad 55) (ad 56) (ad 57))[50]? = some (ad 50, cellE (l, D, cA, ad) s00 50 (sch 50)) := rfl
set_option maxRecDepth 20000 in
theorem lf_51 (l : Launch) (D : va_G) (cA : Nat → ClassId) (ad0 ad : Nat → Nat) (ar18 ar31 ar35 ar37 : Nat → Nat) : (LF (l, D, cA, ad0) (ad 0) (ad 1) (ad 2) (ad 3) (ad 4) (ad 5) (ad 6) (ad 7) (ad 8) (ad 9) (ad 10) (ad 11) (ad 12) (ad 13) (ad 14) (ad 15) (ad 16) (ad 17) ar18 (ad 18) (ad 19) (ad 20) (ad 21) (ad 22) (ad 23) (ad 24) (ad 25) (ad 26) (ad 27) (ad 28) (ad 29) ar31 (ad 30) (ad 31) (ad 32) ar35 (ad 33) ar37 (ad 34) (ad 35) (ad 36) (ad 37) (ad 38) (ad 39) (ad 40) (ad 41) (ad 42) (ad 43) (ad 44) (ad 45) (ad 46) (ad 47) (ad 48) (ad 49) (ad 50) (ad 51) (ad 52) (ad 53) (ad 54) (ad 55) (ad 56) (ad 57))[51]? = some (ad 51, cellE (l, D, cA, ad) s00 51 (sch 51)) := rfl
set_option maxRecDepth 20000 in
theorem lf_52 (l : Launch) (D : va_G) (cA : Nat → ClassId) (ad0 ad : Nat → Nat) (ar18 ar31 ar35 ar37 : Nat → Nat) : (LF (l, D, cA, ad0) (ad 0) (ad 1) (ad 2) (ad 3) (ad 4) (ad 5) (ad 6) (ad 7) (ad 8) (ad 9) (ad 10) (ad 11) (ad 12) (ad 13) (ad 14) (ad 15) (ad 16) (ad 17) ar18 (ad 18) (ad 19) (ad 20) (ad 21) (ad 22) (ad 23) (ad 24) (ad 25) (ad 26) (ad 27) (ad 28) (ad 29) ar31 (ad 30) (ad 31) (ad 32) ar35 (ad 33) ar37 (ad 34) (ad 35) (ad 36) (ad 37) (ad 38) (ad 39) (ad 40) (ad 41) (ad 42) (ad 43) (ad 44) (ad 45) (ad 46) (ad 47) (ad 48) (ad 49) (ad 50) (ad 51) (ad 52) (ad 53) (ad 54) (ad 55) (ad 56) (ad 57))[52]? = some (ad 52, cellE (l, D, cA, ad) s00 52 (sch 52)) := rfl
set_option maxRecDepth 20000 in
theorem lf_53 (l : Launch) (D : va_G) (cA : Nat → ClassId) (ad0 ad : Nat → Nat) (ar18 ar31 ar35 ar37 : Nat → Nat) : (LF (l, D, cA, ad0) (ad 0) (ad 1) (ad 2) (ad 3) (ad 4) (ad 5) (ad 6) (ad 7) (ad 8) (ad 9) (ad 10) (ad 11) (ad 12) (ad 13) (ad 14) (ad 15) (ad 16) (ad 17) ar18 (ad 18) (ad 19) (ad 20) (ad 21) (ad 22) (ad 23) (ad 24) (ad 25) (ad 26) (ad 27) (ad 28) (ad 29) ar31 (ad 30) (ad 31) (ad 32) ar35 (ad 33) ar37 (ad 34) (ad 35) (ad 36) (ad 37) (ad 38) (ad 39) (ad 40) (ad 41) (ad 42) (ad 43) (ad 44) (ad 45) (ad 46) (ad 47) (ad 48) (ad 49) (ad 50) (ad 51) (ad 52) (ad 53) (ad 54) (ad 55) (ad 56) (ad 57))[53]? = some (ad 53, cellE (l, D, cA, ad) s00 53 (sch 53)) := rfl
set_option maxRecDepth 20000 in
theorem lf_54 (l : Launch) (D : va_G) (cA : Nat → ClassId) (ad0 ad : Nat → Nat) (ar18 ar31 ar35 ar37 : Nat → Nat) : (LF (l, D, cA, ad0) (ad 0) (ad 1) (ad 2) (ad 3) (ad 4) (ad 5) (ad 6) (ad 7) (ad 8) (ad 9) (ad 10) (ad 11) (ad 12) (ad 13) (ad 14) (ad 15) (ad 16) (ad 17) ar18 (ad 18) (ad 19) (ad 20) (ad 21) (ad 22) (ad 23) (ad 24) (ad 25) (ad 26) (ad 27) (ad 28) (ad 29) ar31 (ad 30) (ad 31) (ad 32) ar35 (ad 33) ar37 (ad 34) (ad 35) (ad 36) (ad 37) (ad 38) (ad 39) (ad 40) (ad 41) (ad 42) (ad 43) (ad 44) (ad 45) (ad 46) (ad 47) (ad 48) (ad 49) (ad 50) (ad 51) (ad 52) (ad 53) (ad 54) (ad 55) (ad 56) (ad 57))[54]? = some (ad 54, cellE (l, D, cA, ad) s00 54 (sch 54)) := rfl
set_option maxRecDepth 20000 in
theorem lf_55 (l : Launch) (D : va_G) (cA : Nat → ClassId) (ad0 ad : Nat → Nat) (ar18 ar31 ar35 ar37 : Nat → Nat) : (LF (l, D, cA, ad0) (ad 0) (ad 1) (ad 2) (ad 3) (ad 4) (ad 5) (ad 6) (ad 7) (ad 8) (ad 9) (ad 10) (ad 11) (ad 12) (ad 13) (ad 14) (ad 15) (ad 16) (ad 17) ar18 (ad 18) (ad 19) (ad 20) (ad 21) (ad 22) (ad 23) (ad 24) (ad 25) (ad 26) (ad 27) (ad 28) (ad 29) ar31 (ad 30) (ad 31) (ad 32) ar35 (ad 33) ar37 (ad 34) (ad 35) (ad 36) (ad 37) (ad 38) (ad 39) (ad 40) (ad 41) (ad 42) (ad 43) (ad 44) (ad 45) (ad 46) (ad 47) (ad 48) (ad 49) (ad 50) (ad 51) (ad 52) (ad 53) (ad 54) (ad 55) (ad 56) (ad 57))[55]? = some (ad 55, cellE (l, D, cA, ad) s00 55 (sch 55)) := rfl
set_option maxRecDepth 20000 in
theorem lf_56 (l : Launch) (D : va_G) (cA : Nat → ClassId) (ad0 ad : Nat → Nat) (ar18 ar31 ar35 ar37 : Nat → Nat) : (LF (l, D, cA, ad0) (ad 0) (ad 1) (ad 2) (ad 3) (ad 4) (ad 5) (ad 6) (ad 7) (ad 8) (ad 9) (ad 10) (ad 11) (ad 12) (ad 13) (ad 14) (ad 15) (ad 16) (ad 17) ar18 (ad 18) (ad 19) (ad 20) (ad 21) (ad 22) (ad 23) (ad 24) (ad 25) (ad 26) (ad 27) (ad 28) (ad 29) ar31 (ad 30) (ad 31) (ad 32) ar35 (ad 33) ar37 (ad 34) (ad 35) (ad 36) (ad 37) (ad 38) (ad 39) (ad 40) (ad 41) (ad 42) (ad 43) (ad 44) (ad 45) (ad 46) (ad 47) (ad 48) (ad 49) (ad 50) (ad 51) (ad 52) (ad 53) (ad 54) (ad 55) (ad 56) (ad 57))[56]? = some (ad 56, cellE (l, D, cA, ad) s00 56 (sch 56)) := rfl
set_option maxRecDepth 20000 in
theorem lf_57 (l : Launch) (D : va_G) (cA : Nat → ClassId) (ad0 ad : Nat → Nat) (ar18 ar31 ar35 ar37 : Nat → Nat) : (LF (l, D, cA, ad0) (ad 0) (ad 1) (ad 2) (ad 3) (ad 4) (ad 5) (ad 6) (ad 7) (ad 8) (ad 9) (ad 10) (ad 11) (ad 12) (ad 13) (ad 14) (ad 15) (ad 16) (ad 17) ar18 (ad 18) (ad 19) (ad 20) (ad 21) (ad 22) (ad 23) (ad 24) (ad 25) (ad 26) (ad 27) (ad 28) (ad 29) ar31 (ad 30) (ad 31) (ad 32) ar35 (ad 33) ar37 (ad 34) (ad 35) (ad 36) (ad 37) (ad 38) (ad 39) (ad 40) (ad 41) (ad 42) (ad 43) (ad 44) (ad 45) (ad 46) (ad 47) (ad 48) (ad 49) (ad 50) (ad 51) (ad 52) (ad 53) (ad 54) (ad 55) (ad 56) (ad 57))[57]? = some (ad 57, cellE (l, D, cA, ad) s00 57 (sch 57)) := rfl
theorem lf_get (l : Launch) (D : va_G) (cA : Nat → ClassId) (ad0 ad : Nat → Nat) (ar18 ar31 ar35 ar37 : Nat → Nat) (h1 : ∀ i, i < 60 → ad (58 + i) = ar18 i) (h2 : ∀ i, i < 10 → ad (118 + i) = ar31 i) (h3 : ∀ i, i < 4 → ad (128 + i) = ar35 i) (h4 : ∀ i, i < 4 → ad (132 + i) = ar37 i) : ∀ c, c < 58 → (LF (l, D, cA, ad0) (ad 0) (ad 1) (ad 2) (ad 3) (ad 4) (ad 5) (ad 6) (ad 7) (ad 8) (ad 9) (ad 10) (ad 11) (ad 12) (ad 13) (ad 14) (ad 15) (ad 16) (ad 17) ar18 (ad 18) (ad 19) (ad 20) (ad 21) (ad 22) (ad 23) (ad 24) (ad 25) (ad 26) (ad 27) (ad 28) (ad 29) ar31 (ad 30) (ad 31) (ad 32) ar35 (ad 33) ar37 (ad 34) (ad 35) (ad 36) (ad 37) (ad 38) (ad 39) (ad 40) (ad 41) (ad 42) (ad 43) (ad 44) (ad 45) (ad 46) (ad 47) (ad 48) (ad 49) (ad 50) (ad 51) (ad 52) (ad 53) (ad 54) (ad 55) (ad 56) (ad 57))[c]? = some (ad c, cellE (l, D, cA, ad) s00 c (sch c)) := by
  intro c hc
  match c, hc with
  | 0, _ => exact lf_0 l D cA ad0 ad ar18 ar31 ar35 ar37
  | 1, _ => exact lf_1 l D cA ad0 ad ar18 ar31 ar35 ar37
  | 2, _ => exact lf_2 l D cA ad0 ad ar18 ar31 ar35 ar37
  | 3, _ => exact lf_3 l D cA ad0 ad ar18 ar31 ar35 ar37
  | 4, _ => exact lf_4 l D cA ad0 ad ar18 ar31 ar35 ar37
  | 5, _ => exact lf_5 l D cA ad0 ad ar18 ar31 ar35 ar37
  | 6, _ => exact lf_6 l D cA ad0 ad ar18 ar31 ar35 ar37
  | 7, _ => exact lf_7 l D cA ad0 ad ar18 ar31 ar35 ar37
  | 8, _ => exact lf_8 l D cA ad0 ad ar18 ar31 ar35 ar37
  | 9, _ => exact lf_9 l D cA ad0 ad ar18 ar31 ar35 ar37
  | 10, _ => exact lf_10 l D cA ad0 ad ar18 ar31 ar35 ar37
  | 11, _ => exact lf_11 l D cA ad0 ad ar18 ar31 ar35 ar37
  | 12, _ => exact lf_12 l D cA ad0 ad ar18 ar31 ar35 ar37
  | 13, _ => exact lf_13 l D cA ad0 ad ar18 ar31 ar35 ar37
  | 14, _ => exact lf_14 l D cA ad0 ad ar18 ar31 ar35 ar37
  | 15, _ => exact lf_15 l D cA ad0 ad ar18 ar31 ar35 ar37
  | 16, _ => exact lf_16 l D cA ad0 ad ar18 ar31 ar35 ar37
  | 17, _ => exact lf_17 l D cA ad0 ad ar18 ar31 ar35 ar37 h1 h2 h3 h4
  | 18, _ => exact lf_18 l D cA ad0 ad ar18 ar31 ar35 ar37
  | 19, _ => exact lf_19 l D cA ad0 ad ar18 ar31 ar35 ar37
  | 20, _ => exact lf_20 l D cA ad0 ad ar18 ar31 ar35 ar37
  | 21, _ => exact lf_21 l D cA ad0 ad ar18 ar31 ar35 ar37
  | 22, _ => exact lf_22 l D cA ad0 ad ar18 ar31 ar35 ar37
  | 23, _ => exact lf_23 l D cA ad0 ad ar18 ar31 ar35 ar37
  | 24, _ => exact lf_24 l D cA ad0 ad ar18 ar31 ar35 ar37
  | 25, _ => exact lf_25 l D cA ad0 ad ar18 ar31 ar35 ar37
  | 26, _ => exact lf_26 l D cA ad0 ad ar18 ar31 ar35 ar37
  | 27, _ => exact lf_27 l D cA ad0 ad ar18 ar31 ar35 ar37
  | 28, _ => exact lf_28 l D cA ad0 ad ar18 ar31 ar35 ar37
  | 29, _ => exact lf_29 l D cA ad0 ad ar18 ar31 ar35 ar37 h1 h2 h3 h4
  | 30, _ => exact lf_30 l D cA ad0 ad ar18 ar31 ar35 ar37
  | 31, _ => exact lf_31 l D cA ad0 ad ar18 ar31 ar35 ar37
  | 32, _ => exact lf_32 l D cA ad0 ad ar18 ar31 ar35 ar37 h1 h2 h3 h4
  | 33, _ => exact lf_33 l D cA ad0 ad ar18 ar31 ar35 ar37 h1 h2 h3 h4
  | 34, _ => exact lf_34 l D cA ad0 ad ar18 ar31 ar35 ar37
  | 35, _ => exact lf_35 l D cA ad0 ad ar18 ar31 ar35 ar37
  | 36, _ => exact lf_36 l D cA ad0 ad ar18 ar31 ar35 ar37
  | 37, _ => exact lf_37 l D cA ad0 ad ar18 ar31 ar35 ar37
  | 38, _ => exact lf_38 l D cA ad0 ad ar18 ar31 ar35 ar37
  | 39, _ => exact lf_39 l D cA ad0 ad ar18 ar31 ar35 ar37
  | 40, _ => exact lf_40 l D cA ad0 ad ar18 ar31 ar35 ar37
  | 41, _ => exact lf_41 l D cA ad0 ad ar18 ar31 ar35 ar37
  | 42, _ => exact lf_42 l D cA ad0 ad ar18 ar31 ar35 ar37
  | 43, _ => exact lf_43 l D cA ad0 ad ar18 ar31 ar35 ar37
  | 44, _ => exact lf_44 l D cA ad0 ad ar18 ar31 ar35 ar37
  | 45, _ => exact lf_45 l D cA ad0 ad ar18 ar31 ar35 ar37
  | 46, _ => exact lf_46 l D cA ad0 ad ar18 ar31 ar35 ar37
  | 47, _ => exact lf_47 l D cA ad0 ad ar18 ar31 ar35 ar37
  | 48, _ => exact lf_48 l D cA ad0 ad ar18 ar31 ar35 ar37
  | 49, _ => exact lf_49 l D cA ad0 ad ar18 ar31 ar35 ar37
  | 50, _ => exact lf_50 l D cA ad0 ad ar18 ar31 ar35 ar37
  | 51, _ => exact lf_51 l D cA ad0 ad ar18 ar31 ar35 ar37
  | 52, _ => exact lf_52 l D cA ad0 ad ar18 ar31 ar35 ar37
  | 53, _ => exact lf_53 l D cA ad0 ad ar18 ar31 ar35 ar37
  | 54, _ => exact lf_54 l D cA ad0 ad ar18 ar31 ar35 ar37
  | 55, _ => exact lf_55 l D cA ad0 ad ar18 ar31 ar35 ar37
  | 56, _ => exact lf_56 l D cA ad0 ad ar18 ar31 ar35 ar37
  | 57, _ => exact lf_57 l D cA ad0 ad ar18 ar31 ar35 ar37
  | c + 58, hc => exact absurd hc (by omega)
set_option maxRecDepth 20000 in
set_option maxHeartbeats 4000000 in
theorem world_eq (l : Launch) (D : va_G) (cA : Nat → ClassId) (ad0 ad : Nat → Nat) (ar18 ar31 ar35 ar37 : Nat → Nat) (h1 : ∀ i, i < 60 → ad (58 + i) = ar18 i) (h2 : ∀ i, i < 10 → ad (118 + i) = ar31 i) (h3 : ∀ i, i < 4 → ad (128 + i) = ar35 i) (h4 : ∀ i, i < 4 → ad (132 + i) = ar37 i) : LF (l, D, cA, ad0) (ad 0) (ad 1) (ad 2) (ad 3) (ad 4) (ad 5) (ad 6) (ad 7) (ad 8) (ad 9) (ad 10) (ad 11) (ad 12) (ad 13) (ad 14) (ad 15) (ad 16) (ad 17) ar18 (ad 18) (ad 19) (ad 20) (ad 21) (ad 22) (ad 23) (ad 24) (ad 25) (ad 26) (ad 27) (ad 28) (ad 29) ar31 (ad 30) (ad 31) (ad 32) ar35 (ad 33) ar37 (ad 34) (ad 35) (ad 36) (ad 37) (ad 38) (ad 39) (ad 40) (ad 41) (ad 42) (ad 43) (ad 44) (ad 45) (ad 46) (ad 47) (ad 48) (ad 49) (ad 50) (ad 51) (ad 52) (ad 53) (ad 54) (ad 55) (ad 56) (ad 57) ++ SF (l, D, cA, ad0) (ad 0) (ad 1) (ad 2) (ad 3) (ad 4) (ad 5) (ad 6) (ad 7) (ad 8) (ad 9) (ad 10) (ad 11) (ad 12) (ad 13) (ad 14) (ad 15) (ad 16) (ad 17) ar18 (ad 18) (ad 19) (ad 20) (ad 21) (ad 22) (ad 23) (ad 24) (ad 25) (ad 26) (ad 27) (ad 28) (ad 29) ar31 (ad 30) (ad 31) (ad 32) ar35 (ad 33) ar37 (ad 34) (ad 35) (ad 36) (ad 37) (ad 38) (ad 39) (ad 40) (ad 41) (ad 42) (ad 43) (ad 44) (ad 45) (ad 46) (ad 47) (ad 48) (ad 49) (ad 50) (ad 51) (ad 52) (ad 53) (ad 54) (ad 55) (ad 56) (ad 57) = wd (l, D, cA, ad) s00 := by
  apply List.ext_getElem?
  intro c
  by_cases h0 : c < NC
  · rw [wd_get _ _ h0]
    by_cases g1 : c < 58
    · rw [List.getElem?_append_left (by rw [LF_len]; exact g1)]
      exact lf_get l D cA ad0 ad ar18 ar31 ar35 ar37 h1 h2 h3 h4 c g1
    · rw [List.getElem?_append_right (by rw [LF_len]; omega), LF_len, SF_eq]
      have h9 : c < 136 := h0
      by_cases g2 : c < 118
      · rw [List.getElem?_append_left (by rw [rowsW_len]; omega), rowsW_get (by omega), ← h1 (c - 58) (by omega)]
        simp only [sch, cellE, s00_row (show 58 ≤ c by omega), if_neg g1, if_pos g2, show 58 + (c - 58) = c by omega]
      · rw [List.getElem?_append_right (by rw [rowsW_len]; omega), rowsW_len]
        by_cases g3 : c < 128
        · rw [List.getElem?_append_left (by rw [rowsW_len]; omega), rowsW_get (by omega), ← h2 (c - 58 - 60) (by omega)]
          simp only [sch, cellE, s00_row (show 58 ≤ c by omega), if_neg g1, if_neg g2, if_pos g3, show 118 + (c - 58 - 60) = c by omega]
        · rw [List.getElem?_append_right (by rw [rowsW_len]; omega), rowsW_len]
          by_cases g4 : c < 132
          · rw [List.getElem?_append_left (by rw [rowsW_len]; omega), rowsW_get (by omega), ← h3 (c - 58 - 60 - 10) (by omega)]
            simp only [sch, cellE, s00_row (show 58 ≤ c by omega), if_neg g1, if_neg g2, if_neg g3, if_pos g4, show 128 + (c - 58 - 60 - 10) = c by omega]
          · rw [List.getElem?_append_right (by rw [rowsW_len]; omega), rowsW_len, rowsW_get (by omega), ← h4 (c - 58 - 60 - 10 - 4) (by omega)]
            simp only [sch, cellE, s00_row (show 58 ≤ c by omega), if_neg g1, if_neg g2, if_neg g3, if_neg g4, show 132 + (c - 58 - 60 - 10 - 4) = c by omega]
  · rw [wd_none _ _ h0]
    apply List.getElem?_eq_none
    rw [List.length_append, LF_len, SF_eq]
    simp only [List.length_append, rowsW_len]
    have : ¬ c < 136 := h0
    omega
theorem adF_1 {qs : List Nat} {r1 r2 r3 r4 z : Nat → Nat} (i : Nat) (h : i < 60) : adF qs r1 r2 r3 r4 z (58 + i) = r1 i := by
  unfold adF
  rw [if_neg (by omega), if_pos (by omega), Nat.add_sub_cancel_left]
theorem adF_2 {qs : List Nat} {r1 r2 r3 r4 z : Nat → Nat} (i : Nat) (h : i < 10) : adF qs r1 r2 r3 r4 z (118 + i) = r2 i := by
  unfold adF
  rw [if_neg (by omega), if_neg (by omega), if_pos (by omega), Nat.add_sub_cancel_left]
theorem adF_3 {qs : List Nat} {r1 r2 r3 r4 z : Nat → Nat} (i : Nat) (h : i < 4) : adF qs r1 r2 r3 r4 z (128 + i) = r3 i := by
  unfold adF
  rw [if_neg (by omega), if_neg (by omega), if_neg (by omega), if_pos (by omega), Nat.add_sub_cancel_left]
theorem adF_4 {qs : List Nat} {r1 r2 r3 r4 z : Nat → Nat} (i : Nat) (h : i < 4) : adF qs r1 r2 r3 r4 z (132 + i) = r4 i := by
  unfold adF
  rw [if_neg (by omega), if_neg (by omega), if_neg (by omega), if_neg (by omega), if_pos (by omega), Nat.add_sub_cancel_left]
def zS (tG : Nat) (adK adV : Nat → Nat) : Nat → Nat := fun c => if c = 136 then tG else if c < 141 then adK (c - 137) else adV (c - 141)
theorem start_stat {args : Array Value} {s : State} (hts : ∀ w ∈ lw_tbl, w.before args s = true) (hgv : (Jvm.Cond.and given_1 narrow_1).before args s = true) (l : Launch) (D : va_G) (cA : Nat → ClassId) : ∃ (tG : Nat) (adK adV : Nat → Nat), ∀ (qs : List Nat) (r1 r2 r3 r4 : Nat → Nat), stat (l, D, cA, adF qs r1 r2 r3 r4 (zS tG adK adV)) (fun q => s.heap.size ≤ q) s s.heap := by
  have hs := flat_of_before _ hgv
  have hA : ∀ a : Nat, a < s.heap.size → ¬ (fun q => s.heap.size ≤ q) a := fun a h => Nat.not_le.mpr h
  obtain ⟨tG, htG, hTG⟩ := va_Tof (tm := .static "AirWatch" "GREATEST" "[I") (ty := .int) (N := 5) (f := fun j => .int (gG j)) (A := fun q => s.heap.size ≤ q) (by decide) (hs (.arrayOf (.static "AirWatch" "GREATEST" "[I") .int) (by decide +kernel)) (va_eqt (hs (.eq (.length (.static "AirWatch" "GREATEST" "[I")) (.int 5)) (by decide +kernel))) (fun j hj => by
    match j, hj with
    | 0, _ => exact va_eqt (hs (.eq (.elem (.static "AirWatch" "GREATEST" "[I") (.int 0)) (.int 15)) (by decide +kernel))
    | 1, _ => exact va_eqt (hs (.eq (.elem (.static "AirWatch" "GREATEST" "[I") (.int 1)) (.int 1439)) (by decide +kernel))
    | 2, _ => exact va_eqt (hs (.eq (.elem (.static "AirWatch" "GREATEST" "[I") (.int 2)) (.int 999)) (by decide +kernel))
    | 3, _ => exact va_eqt (hs (.eq (.elem (.static "AirWatch" "GREATEST" "[I") (.int 3)) (.int 31)) (by decide +kernel))
    | 4, _ => exact va_eqt (hs (.eq (.elem (.static "AirWatch" "GREATEST" "[I") (.int 4)) (.int 31)) (by decide +kernel))) hA
  obtain ⟨adK, adV, hSt, hev⟩ := vk_Sof (args := args) (s := s) (N := 4) (tm := fun i => .string "AirWatch$Reader" ([57, 63, 65, 67].getD i 0)) (len := sLen) (byt := sByt) (A := fun q => s.heap.size ≤ q)
    (fun i hi => by have := sLen_lt hi; omega)
    (fun i hi => by match i, hi with
      | 0, _ => exact hs (.exactly (.string "AirWatch$Reader" 57) "java/lang/String") (by decide +kernel)
      | 1, _ => exact hs (.exactly (.string "AirWatch$Reader" 63) "java/lang/String") (by decide +kernel)
      | 2, _ => exact hs (.exactly (.string "AirWatch$Reader" 65) "java/lang/String") (by decide +kernel)
      | 3, _ => exact hs (.exactly (.string "AirWatch$Reader" 67) "java/lang/String") (by decide +kernel))
    (fun i hi => by match i, hi with
      | 0, _ => exact hs (.eq (.field (.string "AirWatch$Reader" 57) "java/lang/String" "coder" "B") (.int 0)) (by decide +kernel)
      | 1, _ => exact hs (.eq (.field (.string "AirWatch$Reader" 63) "java/lang/String" "coder" "B") (.int 0)) (by decide +kernel)
      | 2, _ => exact hs (.eq (.field (.string "AirWatch$Reader" 65) "java/lang/String" "coder" "B") (.int 0)) (by decide +kernel)
      | 3, _ => exact hs (.eq (.field (.string "AirWatch$Reader" 67) "java/lang/String" "coder" "B") (.int 0)) (by decide +kernel))
    (fun i hi => by match i, hi with
      | 0, _ => exact hs (.arrayOf (.field (.string "AirWatch$Reader" 57) "java/lang/String" "value" "[B") .byte) (by decide +kernel)
      | 1, _ => exact hs (.arrayOf (.field (.string "AirWatch$Reader" 63) "java/lang/String" "value" "[B") .byte) (by decide +kernel)
      | 2, _ => exact hs (.arrayOf (.field (.string "AirWatch$Reader" 65) "java/lang/String" "value" "[B") .byte) (by decide +kernel)
      | 3, _ => exact hs (.arrayOf (.field (.string "AirWatch$Reader" 67) "java/lang/String" "value" "[B") .byte) (by decide +kernel))
    (fun i hi => by match i, hi with
      | 0, _ => exact hs (.eq (.length (.field (.string "AirWatch$Reader" 57) "java/lang/String" "value" "[B")) (.int 4)) (by decide +kernel)
      | 1, _ => exact hs (.eq (.length (.field (.string "AirWatch$Reader" 63) "java/lang/String" "value" "[B")) (.int 4)) (by decide +kernel)
      | 2, _ => exact hs (.eq (.length (.field (.string "AirWatch$Reader" 65) "java/lang/String" "value" "[B")) (.int 4)) (by decide +kernel)
      | 3, _ => exact hs (.eq (.length (.field (.string "AirWatch$Reader" 67) "java/lang/String" "value" "[B")) (.int 3)) (by decide +kernel))
    (fun i hi j hj => match i, hi with
      | 0, _ => by match j, hj with
        | 0, _ => exact hs (.eq (.elem (.field (.string "AirWatch$Reader" 57) "java/lang/String" "value" "[B") (.int 0)) (.int 99)) (by decide +kernel)
        | 1, _ => exact hs (.eq (.elem (.field (.string "AirWatch$Reader" 57) "java/lang/String" "value" "[B") (.int 1)) (.int 104)) (by decide +kernel)
        | 2, _ => exact hs (.eq (.elem (.field (.string "AirWatch$Reader" 57) "java/lang/String" "value" "[B") (.int 2)) (.int 97)) (by decide +kernel)
        | 3, _ => exact hs (.eq (.elem (.field (.string "AirWatch$Reader" 57) "java/lang/String" "value" "[B") (.int 3)) (.int 110)) (by decide +kernel)
      | 1, _ => by match j, hj with
        | 0, _ => exact hs (.eq (.elem (.field (.string "AirWatch$Reader" 63) "java/lang/String" "value" "[B") (.int 0)) (.int 116)) (by decide +kernel)
        | 1, _ => exact hs (.eq (.elem (.field (.string "AirWatch$Reader" 63) "java/lang/String" "value" "[B") (.int 1)) (.int 105)) (by decide +kernel)
        | 2, _ => exact hs (.eq (.elem (.field (.string "AirWatch$Reader" 63) "java/lang/String" "value" "[B") (.int 2)) (.int 109)) (by decide +kernel)
        | 3, _ => exact hs (.eq (.elem (.field (.string "AirWatch$Reader" 63) "java/lang/String" "value" "[B") (.int 3)) (.int 101)) (by decide +kernel)
      | 2, _ => by match j, hj with
        | 0, _ => exact hs (.eq (.elem (.field (.string "AirWatch$Reader" 65) "java/lang/String" "value" "[B") (.int 0)) (.int 116)) (by decide +kernel)
        | 1, _ => exact hs (.eq (.elem (.field (.string "AirWatch$Reader" 65) "java/lang/String" "value" "[B") (.int 1)) (.int 111)) (by decide +kernel)
        | 2, _ => exact hs (.eq (.elem (.field (.string "AirWatch$Reader" 65) "java/lang/String" "value" "[B") (.int 2)) (.int 110)) (by decide +kernel)
        | 3, _ => exact hs (.eq (.elem (.field (.string "AirWatch$Reader" 65) "java/lang/String" "value" "[B") (.int 3)) (.int 101)) (by decide +kernel)
      | 3, _ => by match j, hj with
        | 0, _ => exact hs (.eq (.elem (.field (.string "AirWatch$Reader" 67) "java/lang/String" "value" "[B") (.int 0)) (.int 98)) (by decide +kernel)
        | 1, _ => exact hs (.eq (.elem (.field (.string "AirWatch$Reader" 67) "java/lang/String" "value" "[B") (.int 1)) (.int 111)) (by decide +kernel)
        | 2, _ => exact hs (.eq (.elem (.field (.string "AirWatch$Reader" 67) "java/lang/String" "value" "[B") (.int 2)) (.int 120)) (by decide +kernel))
    (fun i j hi hj hij => by match i, j, hi, hj, hij with
      | 0, 0, _, _, hij => exact absurd rfl hij
      | 0, 1, _, _, _ => exact Or.inl (hs (.not (.eq (.string "AirWatch$Reader" 57) (.string "AirWatch$Reader" 63))) (by decide +kernel))
      | 0, 2, _, _, _ => exact Or.inl (hs (.not (.eq (.string "AirWatch$Reader" 57) (.string "AirWatch$Reader" 65))) (by decide +kernel))
      | 0, 3, _, _, _ => exact Or.inl (hs (.not (.eq (.string "AirWatch$Reader" 57) (.string "AirWatch$Reader" 67))) (by decide +kernel))
      | 1, 0, _, _, _ => exact Or.inr (hs (.not (.eq (.string "AirWatch$Reader" 57) (.string "AirWatch$Reader" 63))) (by decide +kernel))
      | 1, 1, _, _, hij => exact absurd rfl hij
      | 1, 2, _, _, _ => exact Or.inl (hs (.not (.eq (.string "AirWatch$Reader" 63) (.string "AirWatch$Reader" 65))) (by decide +kernel))
      | 1, 3, _, _, _ => exact Or.inl (hs (.not (.eq (.string "AirWatch$Reader" 63) (.string "AirWatch$Reader" 67))) (by decide +kernel))
      | 2, 0, _, _, _ => exact Or.inr (hs (.not (.eq (.string "AirWatch$Reader" 57) (.string "AirWatch$Reader" 65))) (by decide +kernel))
      | 2, 1, _, _, _ => exact Or.inr (hs (.not (.eq (.string "AirWatch$Reader" 63) (.string "AirWatch$Reader" 65))) (by decide +kernel))
      | 2, 2, _, _, hij => exact absurd rfl hij
      | 2, 3, _, _, _ => exact Or.inl (hs (.not (.eq (.string "AirWatch$Reader" 65) (.string "AirWatch$Reader" 67))) (by decide +kernel))
      | 3, 0, _, _, _ => exact Or.inr (hs (.not (.eq (.string "AirWatch$Reader" 57) (.string "AirWatch$Reader" 67))) (by decide +kernel))
      | 3, 1, _, _, _ => exact Or.inr (hs (.not (.eq (.string "AirWatch$Reader" 63) (.string "AirWatch$Reader" 67))) (by decide +kernel))
      | 3, 2, _, _, _ => exact Or.inr (hs (.not (.eq (.string "AirWatch$Reader" 65) (.string "AirWatch$Reader" 67))) (by decide +kernel))
      | 3, 3, _, _, hij => exact absurd rfl hij) hA
  refine ⟨tG, adK, adV, fun qs r1 r2 r3 r4 => ⟨fun a i b n d h hw => va_Nw.of rfl (hts _ hw), ?_, hTG, ?_, ?_, ?_, ?_, ?_, ?_, ?_⟩⟩
  · exact va_Zof (hts (.laysStatic "AirWatch" "GREATEST" "[I") (by decide +kernel)) (hts (.initialized "AirWatch") (by decide +kernel)) htG hA
  · exact vk_R.of (hts (.stringRef "AirWatch$Reader" 57 "chan") (by decide +kernel)) (hev 0 (by decide))
  · exact vk_R.of (hts (.stringRef "AirWatch$Reader" 63 "time") (by decide +kernel)) (hev 1 (by decide))
  · exact vk_R.of (hts (.stringRef "AirWatch$Reader" 65 "tone") (by decide +kernel)) (hev 2 (by decide))
  · exact vk_R.of (hts (.stringRef "AirWatch$Reader" 67 "box") (by decide +kernel)) (hev 3 (by decide))
  · have e1 : ∀ i, i < 4 → adF qs r1 r2 r3 r4 (zS tG adK adV) (137 + i) = adK i := fun i hi => by
      unfold adF zS
      rw [if_neg (by omega), if_neg (by omega), if_neg (by omega), if_neg (by omega), if_neg (by omega), if_neg (by omega), if_pos (by omega), Nat.add_sub_cancel_left]
    have e2 : ∀ i, i < 4 → adF qs r1 r2 r3 r4 (zS tG adK adV) (141 + i) = adV i := fun i hi => by
      unfold adF zS
      rw [if_neg (by omega), if_neg (by omega), if_neg (by omega), if_neg (by omega), if_neg (by omega), if_neg (by omega), if_neg (by omega), Nat.add_sub_cancel_left]
    refine ⟨fun i hi => ?_, fun i j hi hj hij => ?_⟩
    · show va_O _ (adF qs r1 r2 r3 r4 (zS tG adK adV) (137 + i)) _ _ _ ∧ va_OF _ _ _ _ (adF qs r1 r2 r3 r4 (zS tG adK adV) (137 + i)) _ _ _ ∧ va_OF _ _ _ (.ref (adF qs r1 r2 r3 r4 (zS tG adK adV) (141 + i))) (adF qs r1 r2 r3 r4 (zS tG adK adV) (137 + i)) _ _ _ ∧ va_T _ (adF qs r1 r2 r3 r4 (zS tG adK adV) (141 + i)) _ _ _ _ _
      rw [e1 i hi, e2 i hi]
      exact hSt.1 i hi
    · have hij2 : adF qs r1 r2 r3 r4 (zS tG adK adV) (137 + i) = adF qs r1 r2 r3 r4 (zS tG adK adV) (137 + j) := hij
      rw [e1 i hi, e1 j hj] at hij2
      exact hSt.2 i j hi hj hij2
  · exact va_Zof (hts (.laysStatic "java/lang/String" "COMPACT_STRINGS" "Z") (by decide +kernel)) (hts (.initialized "java/lang/String") (by decide +kernel)) (va_eqt (hs (.eq (.static "java/lang/String" "COMPACT_STRINGS" "Z") (.int 1)) (by decide +kernel))) hA
  · exact va_Zqof (hts (.laysStatic "jdk/internal/util/Preconditions" "SIOOBE_FORMATTER" "Ljava/util/function/BiFunction;") (by decide +kernel)) (hts (.initialized "jdk/internal/util/Preconditions") (by decide +kernel)) (hs (.isRef (.static "jdk/internal/util/Preconditions" "SIOOBE_FORMATTER" "Ljava/util/function/BiFunction;")) (by decide +kernel)) hA
theorem start_K2 {args : Array Value} {s : State} (hts : ∀ w ∈ lw_tbl, w.before args s = true) : ∃ (D : va_G) (cA : Nat → ClassId), va_K D classes (tysL cA) s := by
  obtain ⟨c0, i0, k0⟩ := u_known (C := RX0) (T := TX0) (N := 5) (n := 5) hts inX0 (hts (.instantiable RX0 5) (by decide +kernel))
  obtain ⟨c1, i1, k1⟩ := u_known (C := RX1) (T := TX1) (N := 2) (n := 2) hts inX1 (hts (.instantiable RX1 2) (by decide +kernel))
  obtain ⟨c2, i2, k2⟩ := u_known (C := RX2) (T := TX2) (N := 5) (n := 5) hts inX2 (hts (.instantiable RX2 5) (by decide +kernel))
  obtain ⟨c3, i3, k3⟩ := u_known (C := RX3) (T := TX3) (N := 8) (n := 8) hts inX3 (hts (.instantiable RX3 8) (by decide +kernel))
  obtain ⟨c4, i4, k4⟩ := u_known (C := RX4) (T := TX4) (N := 3) (n := 3) hts inX4 (hts (.instantiable RX4 3) (by decide +kernel))
  obtain ⟨c5, i5, k5⟩ := u_known (C := RX5) (T := TX5) (N := 4) (n := 4) hts inX5 (hts (.instantiable RX5 4) (by decide +kernel))
  obtain ⟨c6, i6, k6⟩ := u_known (C := RX6) (T := TX6) (N := 9) (n := 9) hts inX6 (hts (.instantiable RX6 9) (by decide +kernel))
  obtain ⟨c7, i7, k7⟩ := u_known (C := RX7) (T := TX7) (N := 5) (n := 5) hts inX7 (hts (.instantiable RX7 5) (by decide +kernel))
  obtain ⟨c8, i8, k8⟩ := u_known (C := RX8) (T := TX8) (N := 5) (n := 5) hts inX8 (hts (.instantiable RX8 5) (by decide +kernel))
  obtain ⟨c9, i9, k9⟩ := u_known (C := RX9) (T := TX9) (N := 9) (n := 9) hts inX9 (hts (.instantiable RX9 9) (by decide +kernel))
  obtain ⟨c10, i10, k10⟩ := u_known (C := RX10) (T := TX10) (N := 36) (n := 36) hts inX10 (hts (.instantiable RX10 36) (by decide +kernel))
  obtain ⟨cI, kI, pI, f1, f2, f3⟩ := Cond.arrayClass_spec (show (Cond.arrayClass .int).holds args s none s [] = true from hts (.arrayClass .int) (by decide +kernel))
  obtain ⟨cZ, kZ, pZ, g1, g2, g3⟩ := Cond.arrayClass_spec (show (Cond.arrayClass .boolean).holds args s none s [] = true from hts (.arrayClass .boolean) (by decide +kernel))
  obtain ⟨pQ, cQ, kQ, e0, e2, e3, e1⟩ := Cond.arrayOver_specA (show (Cond.arrayOver (.array .int)).holds args s none s [] = true from hts (.arrayOver (.array .int)) (by decide +kernel))
  refine ⟨(fun k => [c0, c1, c2, c3, c4, c5, c6, c7, c8, c9, c10].getD k c0, fun k => [i0, i1, i2, i3, i4, i5, i6, i7, i8, i9, i10].getD k i0), fun t => if t = 0 then cI else if t = 1 then cZ else cQ, ?_, ?_⟩
  · intro k q hq
    match k, hq with
    | 0, hq => cases hq; exact k0
    | 1, hq => cases hq; exact k1
    | 2, hq => cases hq; exact k2
    | 3, hq => cases hq; exact k3
    | 4, hq => cases hq; exact k4
    | 5, hq => cases hq; exact k5
    | 6, hq => cases hq; exact k6
    | 7, hq => cases hq; exact k7
    | 8, hq => cases hq; exact k8
    | 9, hq => cases hq; exact k9
    | 10, hq => cases hq; exact k10
    | k + 11, hq => simp [classes] at hq
  · intro k q hq
    match k, hq with
    | 0, hq => cases hq; exact ⟨fun N z => ⟨(fun q hq => by cases hq), kI, f2, pI, f3⟩, f1⟩
    | 1, hq => cases hq; exact ⟨fun N z => ⟨(fun q hq => by cases hq), kZ, g2, pZ, g3⟩, g1⟩
    | 2, hq => cases hq; exact ⟨fun N z => ⟨(fun q hq => by cases hq), kQ, e2, pQ, e3⟩, e1⟩
    | k + 3, hq => simp at hq
set_option maxRecDepth 20000 in
set_option maxHeartbeats 4000000 in
theorem whole_of {N : Nat} {PS : Hp → Prop} (hH : StepsOK N PS) (h0 : PS s00) {p : Program} {e : Env} {s : State} {m : MethodId} {below : List Frame} {meth : Method} {c : Code} (l : Launch) {b L : Nat} {xs : Nat → Int32} (hL : L ≤ 3072) (C0 : lw_At p s m meth c b L xs) : W p l e room_1 s m #[Value.ref b] below meth c s.heap [] 0 0 (lw_Z below #[Value.ref b] s) (entryFrame m ([Value.ref b] : List Value).toArray 4) := by
  obtain ⟨hx, hb, hr, hml, hown, hts, hXs, hbl, hlocks, hgv⟩ := id C0
  obtain ⟨D, cA, hK⟩ := start_K2 hts
  obtain ⟨tG, adK, adV, hst⟩ := start_stat hts hgv l D cA
  have hgw : ∀ w ∈ gw, w.before #[Value.ref b] s = true := fun w hw => hts w (List.mem_filter.mp hw).1
  have hl := lv_entry ([.ref b]) (n := 4) (Nat.le_of_ble_eq_true rfl)
  rw [lg_entry_eq]
  generalize (lg_sl ([.ref b]) ++ List.replicate (4 - (lg_sl ([.ref b])).length) Slot.unset).toArray = ls at hl ⊢
  have hX : okK ((l, D, cA, fun _ => 0), (p, e, room_1, s, m, #[Value.ref b], below, meth, c, fun q => s.heap.size ≤ q), 4, lw_Z below #[Value.ref b] s) code 4 RL ret 12 426 600000 7302250 :=
    ⟨hx, hb, hml, rfl, hown, hgw, ⟨hK, over_alike (Vm.Alike.refl _) (hts (.arrayOver (.array .int)) (by decide +kernel)), fun a i y h hw => va_Nw.of rfl (hts _ hw)⟩, fun q h => h, hr, hlocks, ⟨Nat.le_refl _, Nat.le_refl _, Nat.le_refl _, Nat.le_refl _⟩⟩
  refine start_K (b := b) hX ?_ s.heap [] ls (fun k q h => by simp at h) ⟨fun i j p q h => by simp at h, fun k q h => by simp at h⟩ va_S.rf hl
  intro ha aq1 aq2 aq3 aq4 aq5 aq6 aq7 aq8 aq9 aq10 aq11 aq12 aq13 aq14 aq15 aq16 aq17 ar18 aq19 aq20 aq21 aq22 aq23 aq24 aq25 aq26 aq27 aq28 aq29 aq30 ar31 aq32 aq33 aq34 ar35 aq36 ar37 aq38 aq39 hm mq1 mq2 mq3 mq4 mq5 mq6 mq7 mq8 mq9 mq10 mq11 mq12 mq13 mq14 mq15 mq16 mq17 mq18 mq19 mq20 mq21
  intro H locs ls hP hD hS hl
  have hwe : LF (l, D, cA, fun _ => 0) ha aq1 aq2 aq3 aq4 aq5 aq6 aq7 aq8 aq9 aq10 aq11 aq12 aq13 aq14 aq15 aq16 aq17 ar18 aq19 aq20 aq21 aq22 aq23 aq24 aq25 aq26 aq27 aq28 aq29 aq30 ar31 aq32 aq33 aq34 ar35 aq36 ar37 aq38 aq39 hm mq1 mq2 mq3 mq4 mq5 mq6 mq7 mq8 mq9 mq10 mq11 mq12 mq13 mq14 mq15 mq16 mq17 mq18 mq19 mq20 mq21 ++ SF (l, D, cA, fun _ => 0) ha aq1 aq2 aq3 aq4 aq5 aq6 aq7 aq8 aq9 aq10 aq11 aq12 aq13 aq14 aq15 aq16 aq17 ar18 aq19 aq20 aq21 aq22 aq23 aq24 aq25 aq26 aq27 aq28 aq29 aq30 ar31 aq32 aq33 aq34 ar35 aq36 ar37 aq38 aq39 hm mq1 mq2 mq3 mq4 mq5 mq6 mq7 mq8 mq9 mq10 mq11 mq12 mq13 mq14 mq15 mq16 mq17 mq18 mq19 mq20 mq21 = wd (l, D, cA, adF (QF ha aq1 aq2 aq3 aq4 aq5 aq6 aq7 aq8 aq9 aq10 aq11 aq12 aq13 aq14 aq15 aq16 aq17 ar18 aq19 aq20 aq21 aq22 aq23 aq24 aq25 aq26 aq27 aq28 aq29 aq30 ar31 aq32 aq33 aq34 ar35 aq36 ar37 aq38 aq39 hm mq1 mq2 mq3 mq4 mq5 mq6 mq7 mq8 mq9 mq10 mq11 mq12 mq13 mq14 mq15 mq16 mq17 mq18 mq19 mq20 mq21) ar18 ar31 ar35 ar37 (zS tG adK adV)) s00 := world_eq l D cA (fun _ => 0) (adF (QF ha aq1 aq2 aq3 aq4 aq5 aq6 aq7 aq8 aq9 aq10 aq11 aq12 aq13 aq14 aq15 aq16 aq17 ar18 aq19 aq20 aq21 aq22 aq23 aq24 aq25 aq26 aq27 aq28 aq29 aq30 ar31 aq32 aq33 aq34 ar35 aq36 ar37 aq38 aq39 hm mq1 mq2 mq3 mq4 mq5 mq6 mq7 mq8 mq9 mq10 mq11 mq12 mq13 mq14 mq15 mq16 mq17 mq18 mq19 mq20 mq21) ar18 ar31 ar35 ar37 (zS tG adK adV)) ar18 ar31 ar35 ar37 adF_1 adF_2 adF_3 adF_4
  have hP : va_P D classes (wd (l, D, cA, adF (QF ha aq1 aq2 aq3 aq4 aq5 aq6 aq7 aq8 aq9 aq10 aq11 aq12 aq13 aq14 aq15 aq16 aq17 ar18 aq19 aq20 aq21 aq22 aq23 aq24 aq25 aq26 aq27 aq28 aq29 aq30 ar31 aq32 aq33 aq34 ar35 aq36 ar37 aq38 aq39 hm mq1 mq2 mq3 mq4 mq5 mq6 mq7 mq8 mq9 mq10 mq11 mq12 mq13 mq14 mq15 mq16 mq17 mq18 mq19 mq20 mq21) ar18 ar31 ar35 ar37 (zS tG adK adV)) s00) H := by rw [← hwe]; exact hP
  have hD : va_D (fun q => s.heap.size ≤ q) (wd (l, D, cA, adF (QF ha aq1 aq2 aq3 aq4 aq5 aq6 aq7 aq8 aq9 aq10 aq11 aq12 aq13 aq14 aq15 aq16 aq17 ar18 aq19 aq20 aq21 aq22 aq23 aq24 aq25 aq26 aq27 aq28 aq29 aq30 ar31 aq32 aq33 aq34 ar35 aq36 ar37 aq38 aq39 hm mq1 mq2 mq3 mq4 mq5 mq6 mq7 mq8 mq9 mq10 mq11 mq12 mq13 mq14 mq15 mq16 mq17 mq18 mq19 mq20 mq21) ar18 ar31 ar35 ar37 (zS tG adK adV)) s00) := by rw [← hwe]; exact hD
  have hX2 : ok ((l, D, cA, adF (QF ha aq1 aq2 aq3 aq4 aq5 aq6 aq7 aq8 aq9 aq10 aq11 aq12 aq13 aq14 aq15 aq16 aq17 ar18 aq19 aq20 aq21 aq22 aq23 aq24 aq25 aq26 aq27 aq28 aq29 aq30 ar31 aq32 aq33 aq34 ar35 aq36 ar37 aq38 aq39 hm mq1 mq2 mq3 mq4 mq5 mq6 mq7 mq8 mq9 mq10 mq11 mq12 mq13 mq14 mq15 mq16 mq17 mq18 mq19 mq20 mq21) ar18 ar31 ar35 ar37 (zS tG adK adV)), (p, e, room_1, s, m, #[Value.ref b], below, meth, c, (fun q => s.heap.size ≤ q), 136, 4810), 4, lw_Z below #[Value.ref b] s, (0, s00)) code 4 RL ret 12 426 :=
    ⟨hx, hb, hml, rfl, hown, hgw, hK, wd_D hD, hr, hlocks, ⟨Nat.le_refl _, Nat.le_refl _, by decide, by decide⟩, hst _ _ _ _ _⟩
  have hz : lawG ((l, D, cA, adF (QF ha aq1 aq2 aq3 aq4 aq5 aq6 aq7 aq8 aq9 aq10 aq11 aq12 aq13 aq14 aq15 aq16 aq17 ar18 aq19 aq20 aq21 aq22 aq23 aq24 aq25 aq26 aq27 aq28 aq29 aq30 ar31 aq32 aq33 aq34 ar35 aq36 ar37 aq38 aq39 hm mq1 mq2 mq3 mq4 mq5 mq6 mq7 mq8 mq9 mq10 mq11 mq12 mq13 mq14 mq15 mq16 mq17 mq18 mq19 mq20 mq21) ar18 ar31 ar35 ar37 (zS tG adK adV)), (p, e, room_1, s, m, #[Value.ref b], below, meth, c, (fun q => s.heap.size ≤ q), 136, 4810), 4, lw_Z below #[Value.ref b] s, (0, s00)) b L xs :=
    ⟨rfl, rfl, rfl, rfl, by decide, by decide, hXs, hbl⟩
  exact law_loop hX2 hz hL hH (some (0, s00)) (L + 1) 0 s00 0 (by omega) (by omega) rfl h0 rfl H locs ls hP hS (lv_sub hl [3, 2, 1, 0] rfl)
