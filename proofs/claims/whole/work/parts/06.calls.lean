/-! ends, contracts, calls -/
def bd (f : Option (Int32 × Hp)) (k : Int32 → Hp → Option (Int32 × Hp)) : Option (Int32 × Hp) := match f with
  | none => none
  | some q => k q.1 q.2
theorem bd_some {f : Option (Int32 × Hp)} {k : Int32 → Hp → Option (Int32 × Hp)} {r : Int32 × Hp} (h : bd f k = some r) : ∃ v s, f = some (v, s) ∧ k v s = some r := by
  cases f with
  | none => cases h
  | some q => exact ⟨q.1, q.2, rfl, h⟩
def isB (v : Int32) : Bool := decide (v = 0 ∨ v = 1)
theorem isB_nar {v : Int32} (h : isB v = true) : narrow .boolean (.int v) = .int v := by
  rcases of_decide_eq_true h with rfl | rfl <;> rfl
def okR (G : Gx) : Prop := match G with
  | (E, (_, _, _, s0, _, args, below, _, _, A, cells, slots), _, Q, r) => A = AW E ∧ Q = MQ below (va_Qi (fun (v : Int32) (u : Hp) => (v, u) = r) (fun u t => va_P E.2.1 classes (wd E u) t.heap) (AW E)) args s0 cells slots (AW E)
def okV (G : Gx) : Prop := match G with
  | (E, (_, _, _, s0, _, args, below, _, _, A, cells, slots), _, Q, r) => A = AW E ∧ Q = MQ below (va_Qv (fun (u : Hp) => (0, u) = r) (fun u t => va_P E.2.1 classes (wd E u) t.heap) (AW E)) args s0 cells slots (AW E)
theorem okE {G : Gx} {cc : ByteArray} {nL : Nat} {own : String} {ret : Option FieldType} {fr lo : Nat} (hX : ok G cc nL own ret fr lo) : va_D (AW G.1) (wd G.1 (fun _ _ => 0)) := by
  obtain ⟨E, ⟨p, e, R, s0, m, args, below, meth, cde, A, cells, slots⟩, nL0, Q, r⟩ := G
  exact AW_D hX.2.2.2.2.2.2.2.1
section TE
variable {G : Gx} {s : Hp} {pc : Nat} {lv : List (Nat × Value)} {st : List Value} {cc : ByteArray} {nL : Nat} {own : String} {ret : Option FieldType} {fr lo : Nat}
theorem tr_iret (hX : ok G cc nL own (some .int) fr lo) (hR : okR G) {v : Int32} (hd : decode cc pc = .ok (.ireturn, 1)) : T G (some (v, s)) s pc lv [.int v] := by
  obtain ⟨E, ⟨p, e, R, s0, m, args, below, meth, cde, A, cells, slots⟩, nL0, Q, r⟩ := G
  obtain ⟨hexec, hb, hml, rfl, hown, hts, hK, hD, hr, hlocks, ⟨hfr, hlo, hc, hs⟩, hst⟩ := hX
  obtain ⟨rfl, rfl⟩ := hR
  intro hx H locs ls hP hS hl
  exact W.iret hexec hb hr (fun t ht hW => ⟨⟨v, s, rfl, Option.some.inj hx, (by show va_P _ _ _ t.heap; rw [ht]; exact hP)⟩, hS.F ht⟩) hS.2.2 hd hlocks
theorem tr_zret (hX : ok G cc nL own (some .boolean) fr lo) (hR : okR G) {v : Int32} (hn : narrow .boolean (.int v) = .int v) (hd : decode cc pc = .ok (.ireturn, 1)) : T G (some (v, s)) s pc lv [.int v] := by
  obtain ⟨E, ⟨p, e, R, s0, m, args, below, meth, cde, A, cells, slots⟩, nL0, Q, r⟩ := G
  obtain ⟨hexec, hb, hml, rfl, hown, hts, hK, hD, hr, hlocks, ⟨hfr, hlo, hc, hs⟩, hst⟩ := hX
  obtain ⟨rfl, rfl⟩ := hR
  intro hx H locs ls hP hS hl
  exact W.zret hexec hb hr hn (fun t ht hW => ⟨⟨v, s, rfl, Option.some.inj hx, (by show va_P _ _ _ t.heap; rw [ht]; exact hP)⟩, hS.F ht⟩) hS.2.2 hd hlocks
theorem tr_zretC (hX : ok G cc nL own (some .boolean) fr lo) (hR : okR G) {v : Int32} (hd : decode cc pc = .ok (.ireturn, 1)) : T G (ck (isB v) (some (v, s))) s pc lv [.int v] := fun hx => tr_zret hX hR (isB_nar (ck_some hx).1) hd (ck_some hx).2
theorem tr_vret (hX : ok G cc nL own none fr lo) (hR : okV G) (hd : decode cc pc = .ok (.return_, 1)) : T G (some (0, s)) s pc lv [] := by
  obtain ⟨E, ⟨p, e, R, s0, m, args, below, meth, cde, A, cells, slots⟩, nL0, Q, r⟩ := G
  obtain ⟨hexec, hb, hml, rfl, hown, hts, hK, hD, hr, hlocks, ⟨hfr, hlo, hc, hs⟩, hst⟩ := hX
  obtain ⟨rfl, rfl⟩ := hR
  intro hx H locs ls hP hS hl
  exact W.vret hexec hb hr (fun t ht hW => ⟨⟨s, rfl, Option.some.inj hx, (by show va_P _ _ _ t.heap; rw [ht]; exact hP)⟩, hS.F ht⟩) hS.2.2 hd hlocks
end TE
def PRE (E : Ex) (s : Hp) (U : State) : Prop := va_P E.2.1 classes (wd E s) U.heap ∧ va_K E.2.1 classes (tysL E.2.2.1) U ∧ stat E (AW E) U U.heap
def CtrI (E : Ex) (y : MethodName) (cc : ByteArray) (nL : Nat) (ret : Option FieldType) (fr lo : Nat) (av : List Value) (s : Hp) (r : Int32 × Hp) : Prop :=
  Met E.1 y (.code y cc nL ret :: gw) { frames := fr, cells := 0, slots := 0, locals := lo } (va_Pc av (PRE E s)) (va_Qi (fun (v : Int32) (u : Hp) => (v, u) = r) (fun u t => va_P E.2.1 classes (wd E u) t.heap) (AW E)) 0 0 (AW E)
def CtrV (E : Ex) (y : MethodName) (cc : ByteArray) (nL : Nat) (ret : Option FieldType) (fr lo : Nat) (av : List Value) (s : Hp) (r : Int32 × Hp) : Prop :=
  Met E.1 y (.code y cc nL ret :: gw) { frames := fr, cells := 0, slots := 0, locals := lo } (va_Pc av (PRE E s)) (va_Qv (fun (u : Hp) => (0, u) = r) (fun u t => va_P E.2.1 classes (wd E u) t.heap) (AW E)) 0 0 (AW E)
theorem ctrI_of {E : Ex} {y : MethodName} {cc : ByteArray} {nL : Nat} {ret : Option FieldType} {fr lo : Nat} {av : List Value} {s : Hp} {r : Int32 × Hp} {x : Option (Int32 × Hp)} (hy : plainFor y = true) (hE : va_D (AW E) (wd E (fun _ _ => 0))) (hlen : (lg_sl av).length ≤ nL) (hx : x = some r)
    (body : ∀ G : Gx, ok G cc nL y.cls ret fr lo → okR G → G.1 = E → T G x s 0 (lv_args 0 av) []) : CtrI E y cc nL ret fr lo av s r := by
  refine va_MetF (cc := cc) (maxL := nL) (ret := ret) hy rfl ?_
  intro p e s0 m args below meth c s₁ B hml hv
  obtain ⟨rfl, hP, hK, hst⟩ := hv
  have hts := atoms_spec (ws := .code y cc nL ret :: gw) B.pre
  have hown : s0.vm.findClass y.cls = some m.cls := findClass_of_methodNamed B.named
  have hl := lv_entry av (n := nL) hlen
  rw [lg_entry_eq]
  exact body (E, (p, e, { frames := fr, cells := 0, slots := 0, locals := lo }, s0, m, av.toArray, below, meth, c, AW E, 0, 0), nL, _, r) ⟨B.exec, B.bytes, hml, rfl, hown, fun w hw => hts w (List.mem_cons_of_mem _ hw), hK, hE, B.returns, B.notSynchronized, ⟨Nat.le_refl _, Nat.le_refl _, Nat.le_refl _, Nat.le_refl _⟩, hst⟩ ⟨rfl, rfl⟩ rfl hx s0.heap [] _ hP va_S.rf hl
theorem ctrV_of {E : Ex} {y : MethodName} {cc : ByteArray} {nL : Nat} {ret : Option FieldType} {fr lo : Nat} {av : List Value} {s : Hp} {r : Int32 × Hp} {x : Option (Int32 × Hp)} (hy : plainFor y = true) (hE : va_D (AW E) (wd E (fun _ _ => 0))) (hlen : (lg_sl av).length ≤ nL) (hx : x = some r)
    (body : ∀ G : Gx, ok G cc nL y.cls ret fr lo → okV G → G.1 = E → T G x s 0 (lv_args 0 av) []) : CtrV E y cc nL ret fr lo av s r := by
  refine va_MetF (cc := cc) (maxL := nL) (ret := ret) hy rfl ?_
  intro p e s0 m args below meth c s₁ B hml hv
  obtain ⟨rfl, hP, hK, hst⟩ := hv
  have hts := atoms_spec (ws := .code y cc nL ret :: gw) B.pre
  have hown : s0.vm.findClass y.cls = some m.cls := findClass_of_methodNamed B.named
  have hl := lv_entry av (n := nL) hlen
  rw [lg_entry_eq]
  exact body (E, (p, e, { frames := fr, cells := 0, slots := 0, locals := lo }, s0, m, av.toArray, below, meth, c, AW E, 0, 0), nL, _, r) ⟨B.exec, B.bytes, hml, rfl, hown, fun w hw => hts w (List.mem_cons_of_mem _ hw), hK, hE, B.returns, B.notSynchronized, ⟨Nat.le_refl _, Nat.le_refl _, Nat.le_refl _, Nat.le_refl _⟩, hst⟩ ⟨rfl, rfl⟩ rfl hx s0.heap [] _ hP va_S.rf hl
theorem stat_warm {E : Ex} {A : Nat → Prop} {s U : State} {H : Heap} (hW : s.WarmedH U.vm) (h : stat E A s H) : stat E A U H :=
  ⟨fun a i b n d h9 hw => va_Nw.warmF hW (h.1 a i b n d h9 hw), h.2.1.moved hW.alike, h.2.2.1.moved hW.alike, h.2.2.2.1.warm hW, h.2.2.2.2.1.warm hW, h.2.2.2.2.2.1.warm hW, h.2.2.2.2.2.2.1.warm hW, h.2.2.2.2.2.2.2.1.moved hW.alike, h.2.2.2.2.2.2.2.2.1.moved hW.alike, h.2.2.2.2.2.2.2.2.2.moved hW.alike⟩
theorem stat_same {E : Ex} {A : Nat → Prop} {u U : State} {H : Heap} (hv : U.vm = u.vm) (h : stat E A u H) : stat E A U H := by
  have ha : u.vm.Alike U.vm := by rw [hv]; exact Vm.Alike.refl u.vm
  exact ⟨fun a i b n d h9 hw => va_Nw.same rfl hv.symm (h.1 a i b n d h9 hw), h.2.1.moved ha, h.2.2.1.moved ha, h.2.2.2.1.same hv, h.2.2.2.2.1.same hv, h.2.2.2.2.2.1.same hv, h.2.2.2.2.2.2.1.same hv, h.2.2.2.2.2.2.2.1.moved ha, h.2.2.2.2.2.2.2.2.1.moved ha, h.2.2.2.2.2.2.2.2.2.moved ha⟩
theorem stat_kept {E : Ex} {A B : Nat → Prop} {U : State} {H H1 : Heap} (h : stat E A U H) (hq : ∀ a : Nat, a < H.size → ¬ A a → H1[a]? = H[a]?) (hB : ∀ q, B q → A q) : stat E B U H1 :=
  ⟨h.1, (h.2.1.kept hq).narrow hB, (h.2.2.1.kept hq).narrow hB, h.2.2.2.1, h.2.2.2.2.1, h.2.2.2.2.2.1, h.2.2.2.2.2.2.1, (h.2.2.2.2.2.2.2.1.kept hq).narrow hB, (h.2.2.2.2.2.2.2.2.1.kept hq).narrow hB, (h.2.2.2.2.2.2.2.2.2.kept hq).narrow hB⟩
theorem PRE_blind {E : Ex} {s : Hp} {av : List Value} : FrameBlind (va_Pc av (PRE E s)) := by
  intro a U g mk h
  obtain ⟨h1, h2, h3, h4⟩ := h
  exact ⟨h1, h2, va_K.moved (u := U) (U := U.calling g mk a) (Vm.Alike.refl U.vm) h3, stat_same (u := U) (U := U.calling g mk a) rfl h4⟩
theorem PRE_at {E : Ex} {A : Nat → Prop} {s : Hp} {s0 U : State} {H : Heap} {locs : List Loc} (hW : s0.WarmedH U.vm) (hU : U.heap = H) (hP : va_P E.2.1 classes (wd E s) H) (hK : va_K E.2.1 classes (tysL E.2.2.1) s0) (hS : va_S A s0.heap H locs) (hD : va_D A (wd E (fun _ _ => 0))) (hst : stat E A s0 s0.heap) : PRE E s U :=
  ⟨by rw [hU]; exact hP, va_K.moved hW.alike hK, stat_warm hW (by rw [hU]; exact stat_kept hst hS.2.1 (fun q h => AW_in hD h))⟩
/-- what the words say of a method that is called on an object, and of a static one -/
def calV (y : MethodName) (cc : ByteArray) (nL : Nat) (ret : Option FieldType) (n : Nat) : Prop := Cond.instanceMethod y ∈ gw ∧ Cond.selects y.cls y y ∈ gw ∧ Cond.initialized y.cls ∈ gw ∧ Cond.code y cc nL ret ∈ gw ∧ (y.cls ≠ "java/lang/invoke/MethodHandle" ∧ y.cls ≠ "java/lang/invoke/VarHandle" ∧ (parseMethodDescriptor y.desc).map (fun d => d.parameters.length) = some n)
def calS (y : MethodName) (cc : ByteArray) (nL : Nat) (ret : Option FieldType) (n : Nat) : Prop := Cond.static y ∈ gw ∧ Cond.initialized y.cls ∈ gw ∧ Cond.code y cc nL ret ∈ gw ∧ (y.cls ≠ "java/lang/invoke/MethodHandle" ∧ y.cls ≠ "java/lang/invoke/VarHandle" ∧ (parseMethodDescriptor y.desc).map (fun d => d.parameters.length) = some n)
theorem gw_wsV {own : String} {i : Nat} {y : MethodName} {cc : ByteArray} {nL n : Nat} {ret : Option FieldType} (hw : Cond.methodLink own i y ∈ gw) (h : calV y cc nL ret n) : GoodIn gw (wsV own i y.cls y (.code y cc nL ret :: gw)) := by
  intro w hw2
  have key : w ∈ gw := by
    unfold wsV at hw2
    rcases List.mem_append.mp hw2 with h2 | h2
    · simp only [List.mem_cons, List.not_mem_nil, or_false] at h2
      rcases h2 with rfl | rfl | rfl | rfl
      · exact hw
      · exact h.1
      · exact h.2.1
      · exact h.2.2.1
    · rcases List.mem_cons.mp h2 with rfl | h2
      · exact h.2.2.2.1
      · exact h2
  exact ⟨key, gw_good key⟩
theorem gw_wsS {own : String} {i : Nat} {y : MethodName} {cc : ByteArray} {nL n : Nat} {ret : Option FieldType} (hw : Cond.methodLink own i y ∈ gw) (h : calS y cc nL ret n) : GoodIn gw (va_wsS own i y (.code y cc nL ret :: gw)) := by
  intro w hw2
  have key : w ∈ gw := by
    unfold va_wsS at hw2
    rcases List.mem_append.mp hw2 with h2 | h2
    · simp only [List.mem_cons, List.not_mem_nil, or_false] at h2
      rcases h2 with rfl | rfl | rfl
      · exact hw
      · exact h.1
      · exact h.2.1
    · rcases List.mem_cons.mp h2 with rfl | h2
      · exact h.2.2.1
      · exact h2
  exact ⟨key, gw_good key⟩
section TC
variable {G : Gx} {s : Hp} {pc : Nat} {lv : List (Nat × Value)} {st rest : List Value} {cc cc2 : ByteArray} {nL nL2 : Nat} {own : String} {ret ret2 : Option FieldType} {fr lo fr2 lo2 i n ci : Nat} {y : MethodName} {f : Option (Int32 × Hp)} {k : Int32 → Hp → Option (Int32 × Hp)}
theorem tr_callV (hX : ok G cc nL own ret fr lo) (c : Nat) (As : List Value) {q : vw_C} {fs : List (Option Nat)} (hm : calV y cc2 nL2 ret2 n) (hw : Cond.methodLink own i y ∈ gw) (hc0 : c < NC) (hs0 : sch c = .inr (.inr (ci, fs))) (hcl : classes[ci]? = some q) (hq : q.1 = y.cls) (hR : fr2 + 1 ≤ fr ∧ 8 + (nL2 + 11) + lo2 ≤ lo) (hn : As.length = n) (hst0 : st = As.reverse ++ rf G.1 c :: rest) (hrm : (rest.map fun v => v.category).sum ≤ 8) (hd : decode cc pc = .ok (.invokevirtual i, 3))
    (hC : ∀ v s2, f = some (v, s2) → CtrI G.1 y cc2 nL2 ret2 fr2 lo2 (rf G.1 c :: As) s (v, s2)) (k0 : ∀ v s2, T G (k v s2) s2 (pc + 3) lv (.int v :: rest)) : T G (bd f k) s pc lv st := by
  obtain ⟨E, ⟨p, e, R, s0, m, args, below, meth, cde, A, cells, slots⟩, nL0, Q, r⟩ := G
  obtain ⟨hexec, hb, hml, rfl, hown, hts, hK, hD, hr, hlocks, ⟨hfr, hlo, hc, hs⟩, hst⟩ := hX
  intro hx H locs ls hP hS hl
  obtain ⟨v, s2, hf, hx⟩ := bd_some hx
  have he : (wd E s)[c]? = some (E.2.2.2 c, .inr (ci, fs.mapIdx (fun k f => fval E s c k f))) := by rw [wd_get E s hc0, hs0]; rfl
  refine va_calli (va_runV (As := As) (rest := rest) (b := E.2.2.2 c) ⟨hexec, hb, hml, hown, hts⟩ (hC v s2 hf) (cwV n hts (gw_wsV hw hm) rfl rfl rfl ⟨rfl, hm.2.2.2.2⟩ ⟨Nat.le_trans hR.1 hfr, Nat.le_trans hR.2 hlo⟩) ⟨PRE_blind, by have h9 := va_recv hK hP hcl he; rw [hq] at h9; exact h9, fun U hU hW => ⟨rfl, PRE_at hW hU hP hK hS hD hst⟩⟩ rfl hn hl.1 hst0 (lv_room hrm) hd ⟨hc, hs⟩) hS (fun q _ h => AW_in hD h) (fun q h => AW_in hD h) (fun v1 u t H1 locs1 ht hvm hw1 hB hz1 hk1 hS1 => ?_)
  cases hw1
  exact k0 v s2 hx H1 locs1 ls (by rw [← ht]; exact hB) hS1 hl
theorem tr_callVv (hX : ok G cc nL own ret fr lo) (c : Nat) (As : List Value) {q : vw_C} {fs : List (Option Nat)} (hm : calV y cc2 nL2 ret2 n) (hw : Cond.methodLink own i y ∈ gw) (hc0 : c < NC) (hs0 : sch c = .inr (.inr (ci, fs))) (hcl : classes[ci]? = some q) (hq : q.1 = y.cls) (hR : fr2 + 1 ≤ fr ∧ 8 + (nL2 + 11) + lo2 ≤ lo) (hn : As.length = n) (hst0 : st = As.reverse ++ rf G.1 c :: rest) (hrm : (rest.map fun v => v.category).sum ≤ 8) (hd : decode cc pc = .ok (.invokevirtual i, 3))
    (hC : ∀ v s2, f = some (v, s2) → CtrV G.1 y cc2 nL2 ret2 fr2 lo2 (rf G.1 c :: As) s (v, s2)) (k0 : ∀ v s2, T G (k v s2) s2 (pc + 3) lv rest) : T G (bd f k) s pc lv st := by
  obtain ⟨E, ⟨p, e, R, s0, m, args, below, meth, cde, A, cells, slots⟩, nL0, Q, r⟩ := G
  obtain ⟨hexec, hb, hml, rfl, hown, hts, hK, hD, hr, hlocks, ⟨hfr, hlo, hc, hs⟩, hst⟩ := hX
  intro hx H locs ls hP hS hl
  obtain ⟨v, s2, hf, hx⟩ := bd_some hx
  have he : (wd E s)[c]? = some (E.2.2.2 c, .inr (ci, fs.mapIdx (fun k f => fval E s c k f))) := by rw [wd_get E s hc0, hs0]; rfl
  refine va_callv (va_runV (As := As) (rest := rest) (b := E.2.2.2 c) ⟨hexec, hb, hml, hown, hts⟩ (hC v s2 hf) (cwV n hts (gw_wsV hw hm) rfl rfl rfl ⟨rfl, hm.2.2.2.2⟩ ⟨Nat.le_trans hR.1 hfr, Nat.le_trans hR.2 hlo⟩) ⟨PRE_blind, by have h9 := va_recv hK hP hcl he; rw [hq] at h9; exact h9, fun U hU hW => ⟨rfl, PRE_at hW hU hP hK hS hD hst⟩⟩ rfl hn hl.1 hst0 (lv_room hrm) hd ⟨hc, hs⟩) hS (fun q _ h => AW_in hD h) (fun q h => AW_in hD h) (fun u t H1 locs1 ht hvm hw1 hB hz1 hk1 hS1 => ?_)
  cases hw1
  exact k0 _ _ hx H1 locs1 ls (by rw [← ht]; exact hB) hS1 hl
theorem tr_callS (hX : ok G cc nL own ret fr lo) (As : List Value) (hm : calS y cc2 nL2 ret2 n) (hw : Cond.methodLink own i y ∈ gw) (hR : fr2 + 1 ≤ fr ∧ 8 + (nL2 + 11) + lo2 ≤ lo) (hn : As.length = n) (hst0 : st = As.reverse ++ rest) (hrm : (rest.map fun v => v.category).sum ≤ 8) (hd : decode cc pc = .ok (.invokestatic i, 3))
    (hC : ∀ v s2, f = some (v, s2) → CtrI G.1 y cc2 nL2 ret2 fr2 lo2 As s (v, s2)) (k0 : ∀ v s2, T G (k v s2) s2 (pc + 3) lv (.int v :: rest)) : T G (bd f k) s pc lv st := by
  obtain ⟨E, ⟨p, e, R, s0, m, args, below, meth, cde, A, cells, slots⟩, nL0, Q, r⟩ := G
  obtain ⟨hexec, hb, hml, rfl, hown, hts, hK, hD, hr, hlocks, ⟨hfr, hlo, hc, hs⟩, hst⟩ := hX
  intro hx H locs ls hP hS hl
  obtain ⟨v, s2, hf, hx⟩ := bd_some hx
  refine va_calli (va_runS (As := As) (rest := rest) ⟨hexec, hb, hml, hown, hts⟩ (hC v s2 hf) (va_cwS n hts (gw_wsS hw hm) rfl rfl rfl hm.2.2.2 ⟨Nat.le_trans hR.1 hfr, Nat.le_trans hR.2 hlo⟩) ⟨PRE_blind, fun U hU hW => ⟨rfl, PRE_at hW hU hP hK hS hD hst⟩⟩ rfl hn hl.1 hst0 (lv_room hrm) hd ⟨hc, hs⟩) hS (fun q _ h => AW_in hD h) (fun q h => AW_in hD h) (fun v1 u t H1 locs1 ht hvm hw1 hB hz1 hk1 hS1 => ?_)
  cases hw1
  exact k0 v s2 hx H1 locs1 ls (by rw [← ht]; exact hB) hS1 hl
end TC
/-- loops -/
def lp {F : Type} (bot : F) (body : F → F) : Nat → F
  | 0 => bot
  | n + 1 => body (lp bot body n)
def sAt (k j : Nat) : Int32 := (sByt.getD k []).getD j 0
