def R_law : String := "AirWatchLaw"
def lw_P (b : Addr) (xs : List Int32) (args : Array Value) (s : State) : Prop := args = #[.ref b] ∧ s.IntsAt b xs ∧ xs.length ≤ 3072 ∧ (Jvm.Cond.and given_1 narrow_1).before args s = true
def lw_Q (_ : Array Value) (s : State) (o : Outcome) (t : State) : Prop := o = .returned (some (.int 1)) ∧ Framed s o t [] 600000 7302250
def lw_Z (below : List Frame) (a : Array Value) (s : State) : State → Prop := fun t => ∃ o, t.status = .running ∧ Ended t below o ∧ lw_Q a s o t
/-- the law's own end, with 1 on the stack, nothing written that was there before, its room as the claim has it -/
theorem lw_ret {p : Program} {l : Launch} {e : Env} {s : State} {m : MethodId} {below : List Frame} {meth : Method} {c : Code} {b : Nat} (hx : p.tables.exec = Jvm.exec) (hb : c.code = code) (hr : meth.sig.returnType = ret) (hlocks : meth.locks = false) {pc : Nat} {H : Heap} {ls : Array Slot} (hdg : decode code pc = .ok (.ireturn, 1)) : W p l e room_1 s m #[Value.ref b] below meth c H [] 600000 7302250 (lw_Z below #[Value.ref b] s) (F0 m pc ls [.int 1]) := by
  intro T hT X
  obtain ⟨fs, hret, hrun, hended, hW, hframe⟩ := X.leave (v := some (.int 1)) (hlocks := hlocks) (fun h => by rw [hr] at h; cases h)
  have hmeth' : T.vm.method? m = some meth := X.method'
  refine ⟨T.setFrames fs, ?_, .returned (some (.int 1)), hrun, hended, rfl, ⟨_, rfl⟩, hW, hframe⟩
  jvm_step X.here [X.here.top, hx, hb, hdg, hmeth', hr, ret, narrow_b1]
  (try refine ⟨rfl, ?_⟩); (try refine ⟨rfl, ?_⟩)
  first | (intro acts; rw [hret _ acts rfl rfl rfl]) | rw [hret _ _ rfl rfl rfl]
  exact Steps.refl _
/-- what holds at the law's entry: the machine, the code, the tables' words (any of lw_tbl by 'hts w (by decide +kernel)'), the script of L ints xs at the cell b, what the Statement gives of the start (any of its parts by flat_of_before) -/
def lw_At (p : Program) (s : State) (m : MethodId) (meth : Method) (c : Code) (b L : Nat) (xs : Nat → Int32) : Prop :=
  p.tables.exec = Jvm.exec ∧ c.code = code ∧ meth.sig.returnType = ret ∧ c.maxLocals = 4 ∧ s.vm.findClass R_law = some m.cls ∧ (∀ w ∈ lw_tbl, w.before #[Value.ref b] s = true) ∧ va_X b L xs s s.heap ∧ b < s.heap.size ∧ meth.locks = false ∧ (Jvm.Cond.and given_1 narrow_1).before #[Value.ref b] s = true

def agr (PS : Hp → Prop) (f g : Hp → Option (Int32 × Hp)) : Prop := ∀ s, PS s → ∃ v s1 s2, f s = some (v, s1) ∧ g s1 = some (v, s2) ∧ PS s2
def ag_post (N : Nat) (PS : Hp → Prop) : Prop := ∀ a1 a2 : Int32, agr PS (fun s => f_X9_post N s a1 a2) (fun s => f_X10_post N s a1 a2)
def ag_listened (N : Nat) (PS : Hp → Prop) : Prop := ∀ a1 a2 a3 a4 : Int32, agr PS (fun s => f_X9_listened N s a1 a2 a3 a4) (fun s => f_X10_listened N s a1 a2 a3 a4)
def ag_mark (N : Nat) (PS : Hp → Prop) : Prop := ∀ a1 a2 a3 a4 a5 : Int32, agr PS (fun s => f_X9_mark N s a1 a2 a3 a4 a5) (fun s => f_X10_mark N s a1 a2 a3 a4 a5)
def ag_wedge (N : Nat) (PS : Hp → Prop) : Prop := ∀ a1 a2 a3 a4 a5 : Int32, agr PS (fun s => f_X9_wedge N s a1 a2 a3 a4 a5) (fun s => f_X10_wedge N s a1 a2 a3 a4 a5)
def ag_joins (N : Nat) (PS : Hp → Prop) : Prop := ∀ a1 a2 : Int32, agr PS (fun s => f_X9_joins N s a1 a2) (fun s => f_X10_joins N s a1 a2)
def ag_senders (N : Nat) (PS : Hp → Prop) : Prop := agr PS (fun s => f_X9_senders N s) (fun s => f_X10_senders N s)
def ag_senderOf (N : Nat) (PS : Hp → Prop) : Prop := ∀ a1 : Int32, agr PS (fun s => f_X9_senderOf N s a1) (fun s => f_X10_senderOf N s a1)
def ag_sender (N : Nat) (PS : Hp → Prop) : Prop := ∀ a1 a2 : Int32, agr PS (fun s => f_X9_sender N s a1 a2) (fun s => f_X10_sender N s a1 a2)
def ag_place (N : Nat) (PS : Hp → Prop) : Prop := ∀ a1 a2 : Int32, agr PS (fun s => f_X9_place N s a1 a2) (fun s => f_X10_place N s a1 a2)
def ag_box (N : Nat) (PS : Hp → Prop) : Prop := ∀ a1 a2 : Int32, agr PS (fun s => f_X9_box N s a1 a2) (fun s => f_X10_box N s a1 a2)
def ag_minutes (N : Nat) (PS : Hp → Prop) : Prop := ∀ a1 a2 a3 a4 : Int32, agr PS (fun s => f_X9_minutes N s a1 a2 a3 a4) (fun s => f_X10_minutes N s a1 a2 a3 a4)
def ag_blind (N : Nat) (PS : Hp → Prop) : Prop := ∀ a1 a2 a3 : Int32, agr PS (fun s => f_X9_blind N s a1 a2 a3) (fun s => f_X10_blind N s a1 a2 a3)
def ag_feed (N : Nat) (PS : Hp → Prop) : Prop := ∀ a1 a2 a3 a4 a5 : Int32, agr PS (fun s => f_X9_feed N s a1 a2 a3 a4 a5) (fun s => f_X10_feed N s a1 a2 a3 a4 a5)
def ag_end (N : Nat) (PS : Hp → Prop) : Prop := ∀ a1 : Int32, agr PS (fun s => f_X9_end N s a1) (fun s => f_X10_end N s a1)
def ag_licence (N : Nat) (PS : Hp → Prop) : Prop := agr PS (fun s => f_X9_licence N s) (fun s => f_X10_licence N s)
def ag_fault (N : Nat) (PS : Hp → Prop) : Prop := ∀ a1 : Int32, agr PS (fun s => f_X9_fault N s a1) (fun s => f_X10_fault N s a1)
def ag_fits (N : Nat) (PS : Hp → Prop) : Prop := ∀ a1 a2 : Int32, agr PS (fun s => f_X9_fits N s a1 a2) (fun s => f_X10_fits N s a1 a2)
def ag_best (N : Nat) (PS : Hp → Prop) : Prop := ∀ a1 a2 : Int32, agr PS (fun s => f_X9_best N s a1 a2) (fun s => f_X10_best N s a1 a2)
def ag_wanderers (N : Nat) (PS : Hp → Prop) : Prop := agr PS (fun s => f_X9_wanderers N s) (fun s => f_X10_wanderers N s)
def ag_sweep (N : Nat) (PS : Hp → Prop) : Prop := ∀ a1 a2 a3 a4 : Int32, agr PS (fun s => f_X9_sweep N s a1 a2 a3 a4) (fun s => f_X10_sweep N s a1 a2 a3 a4)
def ag_slot (N : Nat) (PS : Hp → Prop) : Prop := ∀ a1 : Int32, agr PS (fun s => f_X9_slot N s a1) (fun s => f_X10_slot N s a1)
def ag_about (N : Nat) (PS : Hp → Prop) : Prop := ∀ a1 : Int32, agr PS (fun s => f_X9_about N s a1) (fun s => f_X10_about N s a1)
def StepsOK (N : Nat) (PS : Hp → Prop) : Prop := ag_post N PS ∧ ag_listened N PS ∧ ag_mark N PS ∧ ag_wedge N PS ∧ ag_joins N PS ∧ ag_senders N PS ∧ ag_senderOf N PS ∧ ag_sender N PS ∧ ag_place N PS ∧ ag_box N PS ∧ ag_minutes N PS ∧ ag_blind N PS ∧ ag_feed N PS ∧ ag_end N PS ∧ ag_licence N PS ∧ ag_fault N PS ∧ ag_fits N PS ∧ ag_best N PS ∧ ag_wanderers N PS ∧ ag_sweep N PS ∧ ag_slot N PS ∧ ag_about N PS
def lawG (G : Gx) (b L : Nat) (xs : Nat → Int32) : Prop := match G with
  | (_, (_, _, R, s0, _, args, below, _, _, A, cells, slots), _, Q, _) => R = room_1 ∧ args = #[Value.ref b] ∧ A = (fun q => s0.heap.size ≤ q) ∧ Q = lw_Z below #[Value.ref b] s0 ∧ cells ≤ 600000 ∧ slots ≤ 7302250 ∧ va_X b L xs s0 s0.heap ∧ b < s0.heap.size
section LW
variable {G : Gx} {x : Option (Int32 × Hp)} {s : Hp} {pc : Nat} {lv : List (Nat × Value)} {st rest : List Value} {fr lo b L : Nat} {xs : Nat → Int32}
theorem lr_ret (hX : ok G code 4 RL ret fr lo) (hz : lawG G b L xs) (hd : decode code pc = .ok (.ireturn, 1)) : T G x s pc lv [.int 1] := by
  obtain ⟨E, ⟨p, e, R, s0, m, args, below, meth, cde, A, cells, slots⟩, nL0, Q, r⟩ := G
  obtain ⟨hexec, hb, hml, rfl, hown, hts, hK, hD, hr, hlocks, ⟨hfr, hlo, hc, hs⟩, hst⟩ := hX
  obtain ⟨rfl, rfl, rfl, rfl, hc2, hs2, hx2, hbl⟩ := hz
  intro hx H locs ls hP hS hl
  refine va_forget (fun q hq => hS.2.2 q hq) ?_
  exact W.widen (k := 600000) (n := 7302250) hc2 hs2 (lw_ret hexec hb hr hlocks hd)
theorem lr_aload (hX : ok G code 4 RL ret fr lo) {kk : Fin 4} {i : Nat} (q : Nat) {v : Nat} (hd : decode code pc = .ok (.aload_n kk, 1)) (hi : (kk : Nat) = i) (hq : lv[q]? = some (i, .ref v)) (k : T G x s (pc + 1) lv (.ref v :: st)) : T G x s pc lv st := by
  obtain ⟨E, ⟨p, e, R, s0, m, args, below, meth, cde, A, cells, slots⟩, nL0, Q, r⟩ := G
  obtain ⟨hexec, hb, hml, rfl, hown, hts, hK, hD, hr, hlocks, ⟨hfr, hlo, hc, hs⟩, hst⟩ := hX
  exact fun hx H locs ls hP hS hl => lv_aload_n hexec hb hd hi (lv_at hl q hq) (k hx H locs ls hP hS hl)
theorem lr_len (hX : ok G code 4 RL ret fr lo) (hz : lawG G b L xs) (hd : decode code pc = .ok (.arraylength, 1)) (k : T G x s (pc + 1) lv (.int (nI L) :: st)) : T G x s pc lv (.ref b :: st) := by
  obtain ⟨E, ⟨p, e, R, s0, m, args, below, meth, cde, A, cells, slots⟩, nL0, Q, r⟩ := G
  obtain ⟨hexec, hb, hml, rfl, hown, hts, hK, hD, hr, hlocks, ⟨hfr, hlo, hc, hs⟩, hst⟩ := hX
  obtain ⟨rfl, rfl, rfl, rfl, hc2, hs2, hx2, hbl⟩ := hz
  exact fun hx H locs ls hP hS hl => va_slen hexec hb hx2 hbl (Nat.not_le.mpr hbl) hS hd (k hx H locs ls hP hS hl)
theorem lr_ld (hX : ok G code 4 RL ret fr lo) (hz : lawG G b L xs) {i : Int32} (hin : inR i L = true) (hd : decode code pc = .ok (.iaload, 1)) (k : T G x s (pc + 1) lv (.int (xs (ix i)) :: st)) : T G x s pc lv (.int i :: .ref b :: st) := by
  obtain ⟨E, ⟨p, e, R, s0, m, args, below, meth, cde, A, cells, slots⟩, nL0, Q, r⟩ := G
  obtain ⟨hexec, hb, hml, rfl, hown, hts, hK, hD, hr, hlocks, ⟨hfr, hlo, hc, hs⟩, hst⟩ := hX
  obtain ⟨rfl, rfl, rfl, rfl, hc2, hs2, hx2, hbl⟩ := hz
  exact fun hx H locs ls hP hS hl => va_sld hexec hb hx2 hbl (Nat.not_le.mpr hbl) hS (inR_in hin) hd (k hx H locs ls hP hS hl)
theorem lr_call (hX : ok G code 4 RL ret fr lo) (c : Nat) (As : List Value) {cc2 : ByteArray} {nL2 fr2 lo2 n i ci : Nat} {ret2 : Option FieldType} {y : MethodName} {q : vw_C} {fs : List (Option Nat)} {v : Int32} {s2 : Hp} (hm : calV y cc2 nL2 ret2 n) (hw : Cond.methodLink RL i y ∈ gw) (hc0 : c < NC) (hs0 : sch c = .inr (.inr (ci, fs))) (hcl : classes[ci]? = some q) (hq : q.1 = y.cls) (hR : fr2 + 1 ≤ fr ∧ 8 + (nL2 + 11) + lo2 ≤ lo) (hn : As.length = n) (hst0 : st = As.reverse ++ rf G.1 c :: rest) (hrm : (rest.map fun v => v.category).sum ≤ 8) (hd : decode code pc = .ok (.invokevirtual i, 3)) (hC : CtrI G.1 y cc2 nL2 ret2 fr2 lo2 (rf G.1 c :: As) s (v, s2)) (k0 : T G x s2 (pc + 3) lv (.int v :: rest)) : T G x s pc lv st := by
  obtain ⟨E, ⟨p, e, R, s0, m, args, below, meth, cde, A, cells, slots⟩, nL0, Q, r⟩ := G
  obtain ⟨hexec, hb, hml, rfl, hown, hts, hK, hD, hr, hlocks, ⟨hfr, hlo, hc, hs⟩, hst⟩ := hX
  intro hx H locs ls hP hS hl
  have he : (wd E s)[c]? = some (E.2.2.2 c, .inr (ci, fs.mapIdx (fun k f => fval E s c k f))) := by rw [wd_get E s hc0, hs0]; rfl
  refine va_calli (va_runV (As := As) (rest := rest) (b := E.2.2.2 c) ⟨hexec, hb, hml, hown, hts⟩ hC (cwV n hts (gw_wsV hw hm) rfl rfl rfl ⟨rfl, hm.2.2.2.2⟩ ⟨Nat.le_trans hR.1 hfr, Nat.le_trans hR.2 hlo⟩) ⟨PRE_blind, by have h9 := va_recv hK hP hcl he; rw [hq] at h9; exact h9, fun U hU hW => ⟨rfl, PRE_at hW hU hP hK hS hD hst⟩⟩ rfl hn hl.1 hst0 (lv_room hrm) hd ⟨hc, hs⟩) hS (fun q _ h => AW_in hD h) (fun q h => AW_in hD h) (fun v1 u t H1 locs1 ht hvm hw1 hB hz1 hk1 hS1 => ?_)
  cases hw1
  exact k0 hx H1 locs1 ls (by rw [← ht]; exact hB) hS1 hl
end LW
set_option maxRecDepth 20000 in
set_option maxHeartbeats 2000000 in
theorem lc_post {G : Gx} {N b L : Nat} {xs : Nat → Int32} {PS : Hp → Prop} (hX : ok G code 4 RL ret 12 426) (hz : lawG G b L xs) {x : Option (Int32 × Hp)} {x3 : Int32} (hj : ∀ j : Int32, j = 1 ∨ j = 2 ∨ j = 3 ∨ j = 4 ∨ j = 5 → inR (x3 + j) L = true) (hA : ag_post N PS) (k : ∀ s2, PS s2 → T G x s2 912 [(0, .ref b), (1, rf G.1 0), (2, rf G.1 36), (3, .int x3)] []) (s : Hp) (hs : PS s) : T G x s 136 [(0, .ref b), (1, rf G.1 0), (2, rf G.1 36), (3, .int x3)] [] := by
  obtain ⟨v, s1, s2, h1, h2, h3⟩ := hA (xs (ix (x3 + 1))) (xs (ix (x3 + 2))) s hs
  dsimp only at h1 h2
  refine tr_aload_n hX 1 dL_law_136 rfl rfl ?_
  refine lr_aload hX 0 dL_law_137 rfl rfl ?_
  refine tr_iload_n hX 3 dL_law_138 rfl rfl ?_
  refine tr_iconst (v := 1) hX dL_law_139 rfl ?_
  refine tr_iadd hX dL_law_140 ?_
  refine lr_ld hX hz (hj 1 (by decide)) dL_law_141 ?_
  refine lr_aload hX 0 dL_law_142 rfl rfl ?_
  refine tr_iload_n hX 3 dL_law_143 rfl rfl ?_
  refine tr_iconst (v := 2) hX dL_law_144 rfl ?_
  refine tr_iadd hX dL_law_145 ?_
  refine lr_ld hX hz (hj 2 (by decide)) dL_law_146 ?_
  refine lr_call hX 0 [.int (xs (ix (x3 + 1))), .int (xs (ix (x3 + 2)))] kl_X9_post wd_316 (by decide) rfl rfl rfl (by decide) rfl rfl (Nat.le_of_ble_eq_true rfl) dL_law_147 (c_X9_post G.1 (okE hX) N s _ _ (v, s1) h1) ?_
  refine tr_aload_n hX 2 dL_law_150 rfl rfl ?_
  refine lr_aload hX 0 dL_law_151 rfl rfl ?_
  refine tr_iload_n hX 3 dL_law_152 rfl rfl ?_
  refine tr_iconst (v := 1) hX dL_law_153 rfl ?_
  refine tr_iadd hX dL_law_154 ?_
  refine lr_ld hX hz (hj 1 (by decide)) dL_law_155 ?_
  refine lr_aload hX 0 dL_law_156 rfl rfl ?_
  refine tr_iload_n hX 3 dL_law_157 rfl rfl ?_
  refine tr_iconst (v := 2) hX dL_law_158 rfl ?_
  refine tr_iadd hX dL_law_159 ?_
  refine lr_ld hX hz (hj 2 (by decide)) dL_law_160 ?_
  refine lr_call hX 36 [.int (xs (ix (x3 + 1))), .int (xs (ix (x3 + 2)))] kl_X10_post wd_805 (by decide) rfl rfl rfl (by decide) rfl rfl (Nat.le_of_ble_eq_true rfl) dL_law_161 (c_X10_post G.1 (okE hX) N s1 _ _ (v, s2) h2) ?_
  exact tpos (xb := none) rfl (tr_icmp_eq hX 912 dL_law_164 (by decide) (k s2 h3) T_none)
set_option maxRecDepth 20000 in
set_option maxHeartbeats 2000000 in
theorem lc_listened {G : Gx} {N b L : Nat} {xs : Nat → Int32} {PS : Hp → Prop} (hX : ok G code 4 RL ret 12 426) (hz : lawG G b L xs) {x : Option (Int32 × Hp)} {x3 : Int32} (hj : ∀ j : Int32, j = 1 ∨ j = 2 ∨ j = 3 ∨ j = 4 ∨ j = 5 → inR (x3 + j) L = true) (hA : ag_listened N PS) (k : ∀ s2, PS s2 → T G x s2 912 [(0, .ref b), (1, rf G.1 0), (2, rf G.1 36), (3, .int x3)] []) (s : Hp) (hs : PS s) : T G x s 169 [(0, .ref b), (1, rf G.1 0), (2, rf G.1 36), (3, .int x3)] [] := by
  obtain ⟨v, s1, s2, h1, h2, h3⟩ := hA (xs (ix (x3 + 1))) (xs (ix (x3 + 2))) (xs (ix (x3 + 3))) (xs (ix (x3 + 4))) s hs
  dsimp only at h1 h2
  refine tr_aload_n hX 1 dL_law_169 rfl rfl ?_
  refine lr_aload hX 0 dL_law_170 rfl rfl ?_
  refine tr_iload_n hX 3 dL_law_171 rfl rfl ?_
  refine tr_iconst (v := 1) hX dL_law_172 rfl ?_
  refine tr_iadd hX dL_law_173 ?_
  refine lr_ld hX hz (hj 1 (by decide)) dL_law_174 ?_
  refine lr_aload hX 0 dL_law_175 rfl rfl ?_
  refine tr_iload_n hX 3 dL_law_176 rfl rfl ?_
  refine tr_iconst (v := 2) hX dL_law_177 rfl ?_
  refine tr_iadd hX dL_law_178 ?_
  refine lr_ld hX hz (hj 2 (by decide)) dL_law_179 ?_
  refine lr_aload hX 0 dL_law_180 rfl rfl ?_
  refine tr_iload_n hX 3 dL_law_181 rfl rfl ?_
  refine tr_iconst (v := 3) hX dL_law_182 rfl ?_
  refine tr_iadd hX dL_law_183 ?_
  refine lr_ld hX hz (hj 3 (by decide)) dL_law_184 ?_
  refine lr_aload hX 0 dL_law_185 rfl rfl ?_
  refine tr_iload_n hX 3 dL_law_186 rfl rfl ?_
  refine tr_iconst (v := 4) hX dL_law_187 rfl ?_
  refine tr_iadd hX dL_law_188 ?_
  refine lr_ld hX hz (hj 4 (by decide)) dL_law_189 ?_
  refine lr_call hX 0 [.int (xs (ix (x3 + 1))), .int (xs (ix (x3 + 2))), .int (xs (ix (x3 + 3))), .int (xs (ix (x3 + 4)))] kl_X9_listened wd_327 (by decide) rfl rfl rfl (by decide) rfl rfl (Nat.le_of_ble_eq_true rfl) dL_law_190 (c_X9_listened G.1 (okE hX) N s _ _ _ _ (v, s1) h1) ?_
  refine tr_aload_n hX 2 dL_law_193 rfl rfl ?_
  refine lr_aload hX 0 dL_law_194 rfl rfl ?_
  refine tr_iload_n hX 3 dL_law_195 rfl rfl ?_
  refine tr_iconst (v := 1) hX dL_law_196 rfl ?_
  refine tr_iadd hX dL_law_197 ?_
  refine lr_ld hX hz (hj 1 (by decide)) dL_law_198 ?_
  refine lr_aload hX 0 dL_law_199 rfl rfl ?_
  refine tr_iload_n hX 3 dL_law_200 rfl rfl ?_
  refine tr_iconst (v := 2) hX dL_law_201 rfl ?_
  refine tr_iadd hX dL_law_202 ?_
  refine lr_ld hX hz (hj 2 (by decide)) dL_law_203 ?_
  refine lr_aload hX 0 dL_law_204 rfl rfl ?_
  refine tr_iload_n hX 3 dL_law_205 rfl rfl ?_
  refine tr_iconst (v := 3) hX dL_law_206 rfl ?_
  refine tr_iadd hX dL_law_207 ?_
  refine lr_ld hX hz (hj 3 (by decide)) dL_law_208 ?_
  refine lr_aload hX 0 dL_law_209 rfl rfl ?_
  refine tr_iload_n hX 3 dL_law_210 rfl rfl ?_
  refine tr_iconst (v := 4) hX dL_law_211 rfl ?_
  refine tr_iadd hX dL_law_212 ?_
  refine lr_ld hX hz (hj 4 (by decide)) dL_law_213 ?_
  refine lr_call hX 36 [.int (xs (ix (x3 + 1))), .int (xs (ix (x3 + 2))), .int (xs (ix (x3 + 3))), .int (xs (ix (x3 + 4)))] kl_X10_listened wd_812 (by decide) rfl rfl rfl (by decide) rfl rfl (Nat.le_of_ble_eq_true rfl) dL_law_214 (c_X10_listened G.1 (okE hX) N s1 _ _ _ _ (v, s2) h2) ?_
  exact tpos (xb := none) rfl (tr_icmp_eq hX 912 dL_law_217 (by decide) (k s2 h3) T_none)
set_option maxRecDepth 20000 in
set_option maxHeartbeats 2000000 in
theorem lc_mark {G : Gx} {N b L : Nat} {xs : Nat → Int32} {PS : Hp → Prop} (hX : ok G code 4 RL ret 12 426) (hz : lawG G b L xs) {x : Option (Int32 × Hp)} {x3 : Int32} (hj : ∀ j : Int32, j = 1 ∨ j = 2 ∨ j = 3 ∨ j = 4 ∨ j = 5 → inR (x3 + j) L = true) (hA : ag_mark N PS) (k : ∀ s2, PS s2 → T G x s2 912 [(0, .ref b), (1, rf G.1 0), (2, rf G.1 36), (3, .int x3)] []) (s : Hp) (hs : PS s) : T G x s 222 [(0, .ref b), (1, rf G.1 0), (2, rf G.1 36), (3, .int x3)] [] := by
  obtain ⟨v, s1, s2, h1, h2, h3⟩ := hA (xs (ix (x3 + 1))) (xs (ix (x3 + 2))) (xs (ix (x3 + 3))) (xs (ix (x3 + 4))) (xs (ix (x3 + 5))) s hs
  dsimp only at h1 h2
  refine tr_aload_n hX 1 dL_law_222 rfl rfl ?_
  refine lr_aload hX 0 dL_law_223 rfl rfl ?_
  refine tr_iload_n hX 3 dL_law_224 rfl rfl ?_
  refine tr_iconst (v := 1) hX dL_law_225 rfl ?_
  refine tr_iadd hX dL_law_226 ?_
  refine lr_ld hX hz (hj 1 (by decide)) dL_law_227 ?_
  refine lr_aload hX 0 dL_law_228 rfl rfl ?_
  refine tr_iload_n hX 3 dL_law_229 rfl rfl ?_
  refine tr_iconst (v := 2) hX dL_law_230 rfl ?_
  refine tr_iadd hX dL_law_231 ?_
  refine lr_ld hX hz (hj 2 (by decide)) dL_law_232 ?_
  refine lr_aload hX 0 dL_law_233 rfl rfl ?_
  refine tr_iload_n hX 3 dL_law_234 rfl rfl ?_
  refine tr_iconst (v := 3) hX dL_law_235 rfl ?_
  refine tr_iadd hX dL_law_236 ?_
  refine lr_ld hX hz (hj 3 (by decide)) dL_law_237 ?_
  refine lr_aload hX 0 dL_law_238 rfl rfl ?_
  refine tr_iload_n hX 3 dL_law_239 rfl rfl ?_
  refine tr_iconst (v := 4) hX dL_law_240 rfl ?_
  refine tr_iadd hX dL_law_241 ?_
  refine lr_ld hX hz (hj 4 (by decide)) dL_law_242 ?_
  refine lr_aload hX 0 dL_law_243 rfl rfl ?_
  refine tr_iload_n hX 3 dL_law_244 rfl rfl ?_
  refine tr_iconst (v := 5) hX dL_law_245 rfl ?_
  refine tr_iadd hX dL_law_246 ?_
  refine lr_ld hX hz (hj 5 (by decide)) dL_law_247 ?_
  refine lr_call hX 0 [.int (xs (ix (x3 + 1))), .int (xs (ix (x3 + 2))), .int (xs (ix (x3 + 3))), .int (xs (ix (x3 + 4))), .int (xs (ix (x3 + 5)))] kl_X9_mark wd_342 (by decide) rfl rfl rfl (by decide) rfl rfl (Nat.le_of_ble_eq_true rfl) dL_law_248 (c_X9_mark G.1 (okE hX) N s _ _ _ _ _ (v, s1) h1) ?_
  refine tr_aload_n hX 2 dL_law_251 rfl rfl ?_
  refine lr_aload hX 0 dL_law_252 rfl rfl ?_
  refine tr_iload_n hX 3 dL_law_253 rfl rfl ?_
  refine tr_iconst (v := 1) hX dL_law_254 rfl ?_
  refine tr_iadd hX dL_law_255 ?_
  refine lr_ld hX hz (hj 1 (by decide)) dL_law_256 ?_
  refine lr_aload hX 0 dL_law_257 rfl rfl ?_
  refine tr_iload_n hX 3 dL_law_258 rfl rfl ?_
  refine tr_iconst (v := 2) hX dL_law_259 rfl ?_
  refine tr_iadd hX dL_law_260 ?_
  refine lr_ld hX hz (hj 2 (by decide)) dL_law_261 ?_
  refine lr_aload hX 0 dL_law_262 rfl rfl ?_
  refine tr_iload_n hX 3 dL_law_263 rfl rfl ?_
  refine tr_iconst (v := 3) hX dL_law_264 rfl ?_
  refine tr_iadd hX dL_law_265 ?_
  refine lr_ld hX hz (hj 3 (by decide)) dL_law_266 ?_
  refine lr_aload hX 0 dL_law_267 rfl rfl ?_
  refine tr_iload_n hX 3 dL_law_268 rfl rfl ?_
  refine tr_iconst (v := 4) hX dL_law_269 rfl ?_
  refine tr_iadd hX dL_law_270 ?_
  refine lr_ld hX hz (hj 4 (by decide)) dL_law_271 ?_
  refine lr_aload hX 0 dL_law_272 rfl rfl ?_
  refine tr_iload_n hX 3 dL_law_273 rfl rfl ?_
  refine tr_iconst (v := 5) hX dL_law_274 rfl ?_
  refine tr_iadd hX dL_law_275 ?_
  refine lr_ld hX hz (hj 5 (by decide)) dL_law_276 ?_
  refine lr_call hX 36 [.int (xs (ix (x3 + 1))), .int (xs (ix (x3 + 2))), .int (xs (ix (x3 + 3))), .int (xs (ix (x3 + 4))), .int (xs (ix (x3 + 5)))] kl_X10_mark wd_823 (by decide) rfl rfl rfl (by decide) rfl rfl (Nat.le_of_ble_eq_true rfl) dL_law_277 (c_X10_mark G.1 (okE hX) N s1 _ _ _ _ _ (v, s2) h2) ?_
  exact tpos (xb := none) rfl (tr_icmp_eq hX 912 dL_law_280 (by decide) (k s2 h3) T_none)
set_option maxRecDepth 20000 in
set_option maxHeartbeats 2000000 in
theorem lc_wedge {G : Gx} {N b L : Nat} {xs : Nat → Int32} {PS : Hp → Prop} (hX : ok G code 4 RL ret 12 426) (hz : lawG G b L xs) {x : Option (Int32 × Hp)} {x3 : Int32} (hj : ∀ j : Int32, j = 1 ∨ j = 2 ∨ j = 3 ∨ j = 4 ∨ j = 5 → inR (x3 + j) L = true) (hA : ag_wedge N PS) (k : ∀ s2, PS s2 → T G x s2 912 [(0, .ref b), (1, rf G.1 0), (2, rf G.1 36), (3, .int x3)] []) (s : Hp) (hs : PS s) : T G x s 285 [(0, .ref b), (1, rf G.1 0), (2, rf G.1 36), (3, .int x3)] [] := by
  obtain ⟨v, s1, s2, h1, h2, h3⟩ := hA (xs (ix (x3 + 1))) (xs (ix (x3 + 2))) (xs (ix (x3 + 3))) (xs (ix (x3 + 4))) (xs (ix (x3 + 5))) s hs
  dsimp only at h1 h2
  refine tr_aload_n hX 1 dL_law_285 rfl rfl ?_
  refine lr_aload hX 0 dL_law_286 rfl rfl ?_
  refine tr_iload_n hX 3 dL_law_287 rfl rfl ?_
  refine tr_iconst (v := 1) hX dL_law_288 rfl ?_
  refine tr_iadd hX dL_law_289 ?_
  refine lr_ld hX hz (hj 1 (by decide)) dL_law_290 ?_
  refine lr_aload hX 0 dL_law_291 rfl rfl ?_
  refine tr_iload_n hX 3 dL_law_292 rfl rfl ?_
  refine tr_iconst (v := 2) hX dL_law_293 rfl ?_
  refine tr_iadd hX dL_law_294 ?_
  refine lr_ld hX hz (hj 2 (by decide)) dL_law_295 ?_
  refine lr_aload hX 0 dL_law_296 rfl rfl ?_
  refine tr_iload_n hX 3 dL_law_297 rfl rfl ?_
  refine tr_iconst (v := 3) hX dL_law_298 rfl ?_
  refine tr_iadd hX dL_law_299 ?_
  refine lr_ld hX hz (hj 3 (by decide)) dL_law_300 ?_
  refine lr_aload hX 0 dL_law_301 rfl rfl ?_
  refine tr_iload_n hX 3 dL_law_302 rfl rfl ?_
  refine tr_iconst (v := 4) hX dL_law_303 rfl ?_
  refine tr_iadd hX dL_law_304 ?_
  refine lr_ld hX hz (hj 4 (by decide)) dL_law_305 ?_
  refine lr_aload hX 0 dL_law_306 rfl rfl ?_
  refine tr_iload_n hX 3 dL_law_307 rfl rfl ?_
  refine tr_iconst (v := 5) hX dL_law_308 rfl ?_
  refine tr_iadd hX dL_law_309 ?_
  refine lr_ld hX hz (hj 5 (by decide)) dL_law_310 ?_
  refine lr_call hX 0 [.int (xs (ix (x3 + 1))), .int (xs (ix (x3 + 2))), .int (xs (ix (x3 + 3))), .int (xs (ix (x3 + 4))), .int (xs (ix (x3 + 5)))] kl_X9_wedge wd_382 (by decide) rfl rfl rfl (by decide) rfl rfl (Nat.le_of_ble_eq_true rfl) dL_law_311 (c_X9_wedge G.1 (okE hX) N s _ _ _ _ _ (v, s1) h1) ?_
  refine tr_aload_n hX 2 dL_law_314 rfl rfl ?_
  refine lr_aload hX 0 dL_law_315 rfl rfl ?_
  refine tr_iload_n hX 3 dL_law_316 rfl rfl ?_
  refine tr_iconst (v := 1) hX dL_law_317 rfl ?_
  refine tr_iadd hX dL_law_318 ?_
  refine lr_ld hX hz (hj 1 (by decide)) dL_law_319 ?_
  refine lr_aload hX 0 dL_law_320 rfl rfl ?_
  refine tr_iload_n hX 3 dL_law_321 rfl rfl ?_
  refine tr_iconst (v := 2) hX dL_law_322 rfl ?_
  refine tr_iadd hX dL_law_323 ?_
  refine lr_ld hX hz (hj 2 (by decide)) dL_law_324 ?_
  refine lr_aload hX 0 dL_law_325 rfl rfl ?_
  refine tr_iload_n hX 3 dL_law_326 rfl rfl ?_
  refine tr_iconst (v := 3) hX dL_law_327 rfl ?_
  refine tr_iadd hX dL_law_328 ?_
  refine lr_ld hX hz (hj 3 (by decide)) dL_law_329 ?_
  refine lr_aload hX 0 dL_law_330 rfl rfl ?_
  refine tr_iload_n hX 3 dL_law_331 rfl rfl ?_
  refine tr_iconst (v := 4) hX dL_law_332 rfl ?_
  refine tr_iadd hX dL_law_333 ?_
  refine lr_ld hX hz (hj 4 (by decide)) dL_law_334 ?_
  refine lr_aload hX 0 dL_law_335 rfl rfl ?_
  refine tr_iload_n hX 3 dL_law_336 rfl rfl ?_
  refine tr_iconst (v := 5) hX dL_law_337 rfl ?_
  refine tr_iadd hX dL_law_338 ?_
  refine lr_ld hX hz (hj 5 (by decide)) dL_law_339 ?_
  refine lr_call hX 36 [.int (xs (ix (x3 + 1))), .int (xs (ix (x3 + 2))), .int (xs (ix (x3 + 3))), .int (xs (ix (x3 + 4))), .int (xs (ix (x3 + 5)))] kl_X10_wedge wd_831 (by decide) rfl rfl rfl (by decide) rfl rfl (Nat.le_of_ble_eq_true rfl) dL_law_340 (c_X10_wedge G.1 (okE hX) N s1 _ _ _ _ _ (v, s2) h2) ?_
  exact tpos (xb := none) rfl (tr_icmp_eq hX 912 dL_law_343 (by decide) (k s2 h3) T_none)
set_option maxRecDepth 20000 in
set_option maxHeartbeats 2000000 in
theorem lc_joins {G : Gx} {N b L : Nat} {xs : Nat → Int32} {PS : Hp → Prop} (hX : ok G code 4 RL ret 12 426) (hz : lawG G b L xs) {x : Option (Int32 × Hp)} {x3 : Int32} (hj : ∀ j : Int32, j = 1 ∨ j = 2 ∨ j = 3 ∨ j = 4 ∨ j = 5 → inR (x3 + j) L = true) (hA : ag_joins N PS) (k : ∀ s2, PS s2 → T G x s2 912 [(0, .ref b), (1, rf G.1 0), (2, rf G.1 36), (3, .int x3)] []) (s : Hp) (hs : PS s) : T G x s 348 [(0, .ref b), (1, rf G.1 0), (2, rf G.1 36), (3, .int x3)] [] := by
  obtain ⟨v, s1, s2, h1, h2, h3⟩ := hA (xs (ix (x3 + 1))) (xs (ix (x3 + 2))) s hs
  dsimp only at h1 h2
  refine tr_aload_n hX 1 dL_law_348 rfl rfl ?_
  refine lr_aload hX 0 dL_law_349 rfl rfl ?_
  refine tr_iload_n hX 3 dL_law_350 rfl rfl ?_
  refine tr_iconst (v := 1) hX dL_law_351 rfl ?_
  refine tr_iadd hX dL_law_352 ?_
  refine lr_ld hX hz (hj 1 (by decide)) dL_law_353 ?_
  refine lr_aload hX 0 dL_law_354 rfl rfl ?_
  refine tr_iload_n hX 3 dL_law_355 rfl rfl ?_
  refine tr_iconst (v := 2) hX dL_law_356 rfl ?_
  refine tr_iadd hX dL_law_357 ?_
  refine lr_ld hX hz (hj 2 (by decide)) dL_law_358 ?_
  refine lr_call hX 0 [.int (xs (ix (x3 + 1))), .int (xs (ix (x3 + 2)))] kl_X9_joins wd_397 (by decide) rfl rfl rfl (by decide) rfl rfl (Nat.le_of_ble_eq_true rfl) dL_law_359 (c_X9_joins G.1 (okE hX) N s _ _ (v, s1) h1) ?_
  refine tr_aload_n hX 2 dL_law_362 rfl rfl ?_
  refine lr_aload hX 0 dL_law_363 rfl rfl ?_
  refine tr_iload_n hX 3 dL_law_364 rfl rfl ?_
  refine tr_iconst (v := 1) hX dL_law_365 rfl ?_
  refine tr_iadd hX dL_law_366 ?_
  refine lr_ld hX hz (hj 1 (by decide)) dL_law_367 ?_
  refine lr_aload hX 0 dL_law_368 rfl rfl ?_
  refine tr_iload_n hX 3 dL_law_369 rfl rfl ?_
  refine tr_iconst (v := 2) hX dL_law_370 rfl ?_
  refine tr_iadd hX dL_law_371 ?_
  refine lr_ld hX hz (hj 2 (by decide)) dL_law_372 ?_
  refine lr_call hX 36 [.int (xs (ix (x3 + 1))), .int (xs (ix (x3 + 2)))] kl_X10_joins wd_838 (by decide) rfl rfl rfl (by decide) rfl rfl (Nat.le_of_ble_eq_true rfl) dL_law_373 (c_X10_joins G.1 (okE hX) N s1 _ _ (v, s2) h2) ?_
  exact tpos (xb := none) rfl (tr_icmp_eq hX 912 dL_law_376 (by decide) (k s2 h3) T_none)
set_option maxRecDepth 20000 in
set_option maxHeartbeats 2000000 in
theorem lc_senders {G : Gx} {N b L : Nat} {xs : Nat → Int32} {PS : Hp → Prop} (hX : ok G code 4 RL ret 12 426) (hz : lawG G b L xs) {x : Option (Int32 × Hp)} {x3 : Int32} (hj : ∀ j : Int32, j = 1 ∨ j = 2 ∨ j = 3 ∨ j = 4 ∨ j = 5 → inR (x3 + j) L = true) (hA : ag_senders N PS) (k : ∀ s2, PS s2 → T G x s2 912 [(0, .ref b), (1, rf G.1 0), (2, rf G.1 36), (3, .int x3)] []) (s : Hp) (hs : PS s) : T G x s 381 [(0, .ref b), (1, rf G.1 0), (2, rf G.1 36), (3, .int x3)] [] := by
  obtain ⟨v, s1, s2, h1, h2, h3⟩ := hA s hs
  dsimp only at h1 h2
  refine tr_aload_n hX 1 dL_law_381 rfl rfl ?_
  refine lr_call hX 0 [] kl_X9_senders wd_401 (by decide) rfl rfl rfl (by decide) rfl rfl (Nat.le_of_ble_eq_true rfl) dL_law_382 (c_X9_senders G.1 (okE hX) N s (v, s1) h1) ?_
  refine tr_aload_n hX 2 dL_law_385 rfl rfl ?_
  refine lr_call hX 36 [] kl_X10_senders wd_842 (by decide) rfl rfl rfl (by decide) rfl rfl (Nat.le_of_ble_eq_true rfl) dL_law_386 (c_X10_senders G.1 (okE hX) N s1 (v, s2) h2) ?_
  exact tpos (xb := none) rfl (tr_icmp_eq hX 912 dL_law_389 (by decide) (k s2 h3) T_none)
set_option maxRecDepth 20000 in
set_option maxHeartbeats 2000000 in
theorem lc_senderOf {G : Gx} {N b L : Nat} {xs : Nat → Int32} {PS : Hp → Prop} (hX : ok G code 4 RL ret 12 426) (hz : lawG G b L xs) {x : Option (Int32 × Hp)} {x3 : Int32} (hj : ∀ j : Int32, j = 1 ∨ j = 2 ∨ j = 3 ∨ j = 4 ∨ j = 5 → inR (x3 + j) L = true) (hA : ag_senderOf N PS) (k : ∀ s2, PS s2 → T G x s2 912 [(0, .ref b), (1, rf G.1 0), (2, rf G.1 36), (3, .int x3)] []) (s : Hp) (hs : PS s) : T G x s 394 [(0, .ref b), (1, rf G.1 0), (2, rf G.1 36), (3, .int x3)] [] := by
  obtain ⟨v, s1, s2, h1, h2, h3⟩ := hA (xs (ix (x3 + 1))) s hs
  dsimp only at h1 h2
  refine tr_aload_n hX 1 dL_law_394 rfl rfl ?_
  refine lr_aload hX 0 dL_law_395 rfl rfl ?_
  refine tr_iload_n hX 3 dL_law_396 rfl rfl ?_
  refine tr_iconst (v := 1) hX dL_law_397 rfl ?_
  refine tr_iadd hX dL_law_398 ?_
  refine lr_ld hX hz (hj 1 (by decide)) dL_law_399 ?_
  refine lr_call hX 0 [.int (xs (ix (x3 + 1)))] kl_X9_senderOf wd_405 (by decide) rfl rfl rfl (by decide) rfl rfl (Nat.le_of_ble_eq_true rfl) dL_law_400 (c_X9_senderOf G.1 (okE hX) N s _ (v, s1) h1) ?_
  refine tr_aload_n hX 2 dL_law_403 rfl rfl ?_
  refine lr_aload hX 0 dL_law_404 rfl rfl ?_
  refine tr_iload_n hX 3 dL_law_405 rfl rfl ?_
  refine tr_iconst (v := 1) hX dL_law_406 rfl ?_
  refine tr_iadd hX dL_law_407 ?_
  refine lr_ld hX hz (hj 1 (by decide)) dL_law_408 ?_
  refine lr_call hX 36 [.int (xs (ix (x3 + 1)))] kl_X10_senderOf wd_858 (by decide) rfl rfl rfl (by decide) rfl rfl (Nat.le_of_ble_eq_true rfl) dL_law_409 (c_X10_senderOf G.1 (okE hX) N s1 _ (v, s2) h2) ?_
  exact tpos (xb := none) rfl (tr_icmp_eq hX 912 dL_law_412 (by decide) (k s2 h3) T_none)
set_option maxRecDepth 20000 in
set_option maxHeartbeats 2000000 in
theorem lc_sender {G : Gx} {N b L : Nat} {xs : Nat → Int32} {PS : Hp → Prop} (hX : ok G code 4 RL ret 12 426) (hz : lawG G b L xs) {x : Option (Int32 × Hp)} {x3 : Int32} (hj : ∀ j : Int32, j = 1 ∨ j = 2 ∨ j = 3 ∨ j = 4 ∨ j = 5 → inR (x3 + j) L = true) (hA : ag_sender N PS) (k : ∀ s2, PS s2 → T G x s2 912 [(0, .ref b), (1, rf G.1 0), (2, rf G.1 36), (3, .int x3)] []) (s : Hp) (hs : PS s) : T G x s 417 [(0, .ref b), (1, rf G.1 0), (2, rf G.1 36), (3, .int x3)] [] := by
  obtain ⟨v, s1, s2, h1, h2, h3⟩ := hA (xs (ix (x3 + 1))) (xs (ix (x3 + 2))) s hs
  dsimp only at h1 h2
  refine tr_aload_n hX 1 dL_law_417 rfl rfl ?_
  refine lr_aload hX 0 dL_law_418 rfl rfl ?_
  refine tr_iload_n hX 3 dL_law_419 rfl rfl ?_
  refine tr_iconst (v := 1) hX dL_law_420 rfl ?_
  refine tr_iadd hX dL_law_421 ?_
  refine lr_ld hX hz (hj 1 (by decide)) dL_law_422 ?_
  refine lr_aload hX 0 dL_law_423 rfl rfl ?_
  refine tr_iload_n hX 3 dL_law_424 rfl rfl ?_
  refine tr_iconst (v := 2) hX dL_law_425 rfl ?_
  refine tr_iadd hX dL_law_426 ?_
  refine lr_ld hX hz (hj 2 (by decide)) dL_law_427 ?_
  refine lr_call hX 0 [.int (xs (ix (x3 + 1))), .int (xs (ix (x3 + 2)))] kl_X9_sender wd_409 (by decide) rfl rfl rfl (by decide) rfl rfl (Nat.le_of_ble_eq_true rfl) dL_law_428 (c_X9_sender G.1 (okE hX) N s _ _ (v, s1) h1) ?_
  refine tr_aload_n hX 2 dL_law_431 rfl rfl ?_
  refine lr_aload hX 0 dL_law_432 rfl rfl ?_
  refine tr_iload_n hX 3 dL_law_433 rfl rfl ?_
  refine tr_iconst (v := 1) hX dL_law_434 rfl ?_
  refine tr_iadd hX dL_law_435 ?_
  refine lr_ld hX hz (hj 1 (by decide)) dL_law_436 ?_
  refine lr_aload hX 0 dL_law_437 rfl rfl ?_
  refine tr_iload_n hX 3 dL_law_438 rfl rfl ?_
  refine tr_iconst (v := 2) hX dL_law_439 rfl ?_
  refine tr_iadd hX dL_law_440 ?_
  refine lr_ld hX hz (hj 2 (by decide)) dL_law_441 ?_
  refine lr_call hX 36 [.int (xs (ix (x3 + 1))), .int (xs (ix (x3 + 2)))] kl_X10_sender wd_862 (by decide) rfl rfl rfl (by decide) rfl rfl (Nat.le_of_ble_eq_true rfl) dL_law_442 (c_X10_sender G.1 (okE hX) N s1 _ _ (v, s2) h2) ?_
  exact tpos (xb := none) rfl (tr_icmp_eq hX 912 dL_law_445 (by decide) (k s2 h3) T_none)
set_option maxRecDepth 20000 in
set_option maxHeartbeats 2000000 in
theorem lc_place {G : Gx} {N b L : Nat} {xs : Nat → Int32} {PS : Hp → Prop} (hX : ok G code 4 RL ret 12 426) (hz : lawG G b L xs) {x : Option (Int32 × Hp)} {x3 : Int32} (hj : ∀ j : Int32, j = 1 ∨ j = 2 ∨ j = 3 ∨ j = 4 ∨ j = 5 → inR (x3 + j) L = true) (hA : ag_place N PS) (k : ∀ s2, PS s2 → T G x s2 912 [(0, .ref b), (1, rf G.1 0), (2, rf G.1 36), (3, .int x3)] []) (s : Hp) (hs : PS s) : T G x s 450 [(0, .ref b), (1, rf G.1 0), (2, rf G.1 36), (3, .int x3)] [] := by
  obtain ⟨v, s1, s2, h1, h2, h3⟩ := hA (xs (ix (x3 + 1))) (xs (ix (x3 + 2))) s hs
  dsimp only at h1 h2
  refine tr_aload_n hX 1 dL_law_450 rfl rfl ?_
  refine lr_aload hX 0 dL_law_451 rfl rfl ?_
  refine tr_iload_n hX 3 dL_law_452 rfl rfl ?_
  refine tr_iconst (v := 1) hX dL_law_453 rfl ?_
  refine tr_iadd hX dL_law_454 ?_
  refine lr_ld hX hz (hj 1 (by decide)) dL_law_455 ?_
  refine lr_aload hX 0 dL_law_456 rfl rfl ?_
  refine tr_iload_n hX 3 dL_law_457 rfl rfl ?_
  refine tr_iconst (v := 2) hX dL_law_458 rfl ?_
  refine tr_iadd hX dL_law_459 ?_
  refine lr_ld hX hz (hj 2 (by decide)) dL_law_460 ?_
  refine lr_call hX 0 [.int (xs (ix (x3 + 1))), .int (xs (ix (x3 + 2)))] kl_X9_place wd_434 (by decide) rfl rfl rfl (by decide) rfl rfl (Nat.le_of_ble_eq_true rfl) dL_law_461 (c_X9_place G.1 (okE hX) N s _ _ (v, s1) h1) ?_
  refine tr_aload_n hX 2 dL_law_464 rfl rfl ?_
  refine lr_aload hX 0 dL_law_465 rfl rfl ?_
  refine tr_iload_n hX 3 dL_law_466 rfl rfl ?_
  refine tr_iconst (v := 1) hX dL_law_467 rfl ?_
  refine tr_iadd hX dL_law_468 ?_
  refine lr_ld hX hz (hj 1 (by decide)) dL_law_469 ?_
  refine lr_aload hX 0 dL_law_470 rfl rfl ?_
  refine tr_iload_n hX 3 dL_law_471 rfl rfl ?_
  refine tr_iconst (v := 2) hX dL_law_472 rfl ?_
  refine tr_iadd hX dL_law_473 ?_
  refine lr_ld hX hz (hj 2 (by decide)) dL_law_474 ?_
  refine lr_call hX 36 [.int (xs (ix (x3 + 1))), .int (xs (ix (x3 + 2)))] kl_X10_place wd_878 (by decide) rfl rfl rfl (by decide) rfl rfl (Nat.le_of_ble_eq_true rfl) dL_law_475 (c_X10_place G.1 (okE hX) N s1 _ _ (v, s2) h2) ?_
  exact tpos (xb := none) rfl (tr_icmp_eq hX 912 dL_law_478 (by decide) (k s2 h3) T_none)
set_option maxRecDepth 20000 in
set_option maxHeartbeats 2000000 in
theorem lc_box {G : Gx} {N b L : Nat} {xs : Nat → Int32} {PS : Hp → Prop} (hX : ok G code 4 RL ret 12 426) (hz : lawG G b L xs) {x : Option (Int32 × Hp)} {x3 : Int32} (hj : ∀ j : Int32, j = 1 ∨ j = 2 ∨ j = 3 ∨ j = 4 ∨ j = 5 → inR (x3 + j) L = true) (hA : ag_box N PS) (k : ∀ s2, PS s2 → T G x s2 912 [(0, .ref b), (1, rf G.1 0), (2, rf G.1 36), (3, .int x3)] []) (s : Hp) (hs : PS s) : T G x s 483 [(0, .ref b), (1, rf G.1 0), (2, rf G.1 36), (3, .int x3)] [] := by
  obtain ⟨v, s1, s2, h1, h2, h3⟩ := hA (xs (ix (x3 + 1))) (xs (ix (x3 + 2))) s hs
  dsimp only at h1 h2
  refine tr_aload_n hX 1 dL_law_483 rfl rfl ?_
  refine lr_aload hX 0 dL_law_484 rfl rfl ?_
  refine tr_iload_n hX 3 dL_law_485 rfl rfl ?_
  refine tr_iconst (v := 1) hX dL_law_486 rfl ?_
  refine tr_iadd hX dL_law_487 ?_
  refine lr_ld hX hz (hj 1 (by decide)) dL_law_488 ?_
  refine lr_aload hX 0 dL_law_489 rfl rfl ?_
  refine tr_iload_n hX 3 dL_law_490 rfl rfl ?_
  refine tr_iconst (v := 2) hX dL_law_491 rfl ?_
  refine tr_iadd hX dL_law_492 ?_
  refine lr_ld hX hz (hj 2 (by decide)) dL_law_493 ?_
  refine lr_call hX 0 [.int (xs (ix (x3 + 1))), .int (xs (ix (x3 + 2)))] kl_X9_box wd_446 (by decide) rfl rfl rfl (by decide) rfl rfl (Nat.le_of_ble_eq_true rfl) dL_law_494 (c_X9_box G.1 (okE hX) N s _ _ (v, s1) h1) ?_
  refine tr_aload_n hX 2 dL_law_497 rfl rfl ?_
  refine lr_aload hX 0 dL_law_498 rfl rfl ?_
  refine tr_iload_n hX 3 dL_law_499 rfl rfl ?_
  refine tr_iconst (v := 1) hX dL_law_500 rfl ?_
  refine tr_iadd hX dL_law_501 ?_
  refine lr_ld hX hz (hj 1 (by decide)) dL_law_502 ?_
  refine lr_aload hX 0 dL_law_503 rfl rfl ?_
  refine tr_iload_n hX 3 dL_law_504 rfl rfl ?_
  refine tr_iconst (v := 2) hX dL_law_505 rfl ?_
  refine tr_iadd hX dL_law_506 ?_
  refine lr_ld hX hz (hj 2 (by decide)) dL_law_507 ?_
  refine lr_call hX 36 [.int (xs (ix (x3 + 1))), .int (xs (ix (x3 + 2)))] kl_X10_box wd_882 (by decide) rfl rfl rfl (by decide) rfl rfl (Nat.le_of_ble_eq_true rfl) dL_law_508 (c_X10_box G.1 (okE hX) N s1 _ _ (v, s2) h2) ?_
  exact tpos (xb := none) rfl (tr_icmp_eq hX 912 dL_law_511 (by decide) (k s2 h3) T_none)
set_option maxRecDepth 20000 in
set_option maxHeartbeats 2000000 in
theorem lc_minutes {G : Gx} {N b L : Nat} {xs : Nat → Int32} {PS : Hp → Prop} (hX : ok G code 4 RL ret 12 426) (hz : lawG G b L xs) {x : Option (Int32 × Hp)} {x3 : Int32} (hj : ∀ j : Int32, j = 1 ∨ j = 2 ∨ j = 3 ∨ j = 4 ∨ j = 5 → inR (x3 + j) L = true) (hA : ag_minutes N PS) (k : ∀ s2, PS s2 → T G x s2 912 [(0, .ref b), (1, rf G.1 0), (2, rf G.1 36), (3, .int x3)] []) (s : Hp) (hs : PS s) : T G x s 516 [(0, .ref b), (1, rf G.1 0), (2, rf G.1 36), (3, .int x3)] [] := by
  obtain ⟨v, s1, s2, h1, h2, h3⟩ := hA (xs (ix (x3 + 1))) (xs (ix (x3 + 2))) (xs (ix (x3 + 3))) (xs (ix (x3 + 4))) s hs
  dsimp only at h1 h2
  refine tr_aload_n hX 1 dL_law_516 rfl rfl ?_
  refine lr_aload hX 0 dL_law_517 rfl rfl ?_
  refine tr_iload_n hX 3 dL_law_518 rfl rfl ?_
  refine tr_iconst (v := 1) hX dL_law_519 rfl ?_
  refine tr_iadd hX dL_law_520 ?_
  refine lr_ld hX hz (hj 1 (by decide)) dL_law_521 ?_
  refine lr_aload hX 0 dL_law_522 rfl rfl ?_
  refine tr_iload_n hX 3 dL_law_523 rfl rfl ?_
  refine tr_iconst (v := 2) hX dL_law_524 rfl ?_
  refine tr_iadd hX dL_law_525 ?_
  refine lr_ld hX hz (hj 2 (by decide)) dL_law_526 ?_
  refine lr_aload hX 0 dL_law_527 rfl rfl ?_
  refine tr_iload_n hX 3 dL_law_528 rfl rfl ?_
  refine tr_iconst (v := 3) hX dL_law_529 rfl ?_
  refine tr_iadd hX dL_law_530 ?_
  refine lr_ld hX hz (hj 3 (by decide)) dL_law_531 ?_
  refine lr_aload hX 0 dL_law_532 rfl rfl ?_
  refine tr_iload_n hX 3 dL_law_533 rfl rfl ?_
  refine tr_iconst (v := 4) hX dL_law_534 rfl ?_
  refine tr_iadd hX dL_law_535 ?_
  refine lr_ld hX hz (hj 4 (by decide)) dL_law_536 ?_
  refine lr_call hX 0 [.int (xs (ix (x3 + 1))), .int (xs (ix (x3 + 2))), .int (xs (ix (x3 + 3))), .int (xs (ix (x3 + 4)))] kl_X9_minutes wd_454 (by decide) rfl rfl rfl (by decide) rfl rfl (Nat.le_of_ble_eq_true rfl) dL_law_537 (c_X9_minutes G.1 (okE hX) N s _ _ _ _ (v, s1) h1) ?_
  refine tr_aload_n hX 2 dL_law_540 rfl rfl ?_
  refine lr_aload hX 0 dL_law_541 rfl rfl ?_
  refine tr_iload_n hX 3 dL_law_542 rfl rfl ?_
  refine tr_iconst (v := 1) hX dL_law_543 rfl ?_
  refine tr_iadd hX dL_law_544 ?_
  refine lr_ld hX hz (hj 1 (by decide)) dL_law_545 ?_
  refine lr_aload hX 0 dL_law_546 rfl rfl ?_
  refine tr_iload_n hX 3 dL_law_547 rfl rfl ?_
  refine tr_iconst (v := 2) hX dL_law_548 rfl ?_
  refine tr_iadd hX dL_law_549 ?_
  refine lr_ld hX hz (hj 2 (by decide)) dL_law_550 ?_
  refine lr_aload hX 0 dL_law_551 rfl rfl ?_
  refine tr_iload_n hX 3 dL_law_552 rfl rfl ?_
  refine tr_iconst (v := 3) hX dL_law_553 rfl ?_
  refine tr_iadd hX dL_law_554 ?_
  refine lr_ld hX hz (hj 3 (by decide)) dL_law_555 ?_
  refine lr_aload hX 0 dL_law_556 rfl rfl ?_
  refine tr_iload_n hX 3 dL_law_557 rfl rfl ?_
  refine tr_iconst (v := 4) hX dL_law_558 rfl ?_
  refine tr_iadd hX dL_law_559 ?_
  refine lr_ld hX hz (hj 4 (by decide)) dL_law_560 ?_
  refine lr_call hX 36 [.int (xs (ix (x3 + 1))), .int (xs (ix (x3 + 2))), .int (xs (ix (x3 + 3))), .int (xs (ix (x3 + 4)))] kl_X10_minutes wd_886 (by decide) rfl rfl rfl (by decide) rfl rfl (Nat.le_of_ble_eq_true rfl) dL_law_561 (c_X10_minutes G.1 (okE hX) N s1 _ _ _ _ (v, s2) h2) ?_
  exact tpos (xb := none) rfl (tr_icmp_eq hX 912 dL_law_564 (by decide) (k s2 h3) T_none)
set_option maxRecDepth 20000 in
set_option maxHeartbeats 2000000 in
theorem lc_blind {G : Gx} {N b L : Nat} {xs : Nat → Int32} {PS : Hp → Prop} (hX : ok G code 4 RL ret 12 426) (hz : lawG G b L xs) {x : Option (Int32 × Hp)} {x3 : Int32} (hj : ∀ j : Int32, j = 1 ∨ j = 2 ∨ j = 3 ∨ j = 4 ∨ j = 5 → inR (x3 + j) L = true) (hA : ag_blind N PS) (k : ∀ s2, PS s2 → T G x s2 912 [(0, .ref b), (1, rf G.1 0), (2, rf G.1 36), (3, .int x3)] []) (s : Hp) (hs : PS s) : T G x s 569 [(0, .ref b), (1, rf G.1 0), (2, rf G.1 36), (3, .int x3)] [] := by
  obtain ⟨v, s1, s2, h1, h2, h3⟩ := hA (xs (ix (x3 + 1))) (xs (ix (x3 + 2))) (xs (ix (x3 + 3))) s hs
  dsimp only at h1 h2
  refine tr_aload_n hX 1 dL_law_569 rfl rfl ?_
  refine lr_aload hX 0 dL_law_570 rfl rfl ?_
  refine tr_iload_n hX 3 dL_law_571 rfl rfl ?_
  refine tr_iconst (v := 1) hX dL_law_572 rfl ?_
  refine tr_iadd hX dL_law_573 ?_
  refine lr_ld hX hz (hj 1 (by decide)) dL_law_574 ?_
  refine lr_aload hX 0 dL_law_575 rfl rfl ?_
  refine tr_iload_n hX 3 dL_law_576 rfl rfl ?_
  refine tr_iconst (v := 2) hX dL_law_577 rfl ?_
  refine tr_iadd hX dL_law_578 ?_
  refine lr_ld hX hz (hj 2 (by decide)) dL_law_579 ?_
  refine lr_aload hX 0 dL_law_580 rfl rfl ?_
  refine tr_iload_n hX 3 dL_law_581 rfl rfl ?_
  refine tr_iconst (v := 3) hX dL_law_582 rfl ?_
  refine tr_iadd hX dL_law_583 ?_
  refine lr_ld hX hz (hj 3 (by decide)) dL_law_584 ?_
  refine lr_call hX 0 [.int (xs (ix (x3 + 1))), .int (xs (ix (x3 + 2))), .int (xs (ix (x3 + 3)))] kl_X9_blind wd_476 (by decide) rfl rfl rfl (by decide) rfl rfl (Nat.le_of_ble_eq_true rfl) dL_law_585 (c_X9_blind G.1 (okE hX) N s _ _ _ (v, s1) h1) ?_
  refine tr_aload_n hX 2 dL_law_588 rfl rfl ?_
  refine lr_aload hX 0 dL_law_589 rfl rfl ?_
  refine tr_iload_n hX 3 dL_law_590 rfl rfl ?_
  refine tr_iconst (v := 1) hX dL_law_591 rfl ?_
  refine tr_iadd hX dL_law_592 ?_
  refine lr_ld hX hz (hj 1 (by decide)) dL_law_593 ?_
  refine lr_aload hX 0 dL_law_594 rfl rfl ?_
  refine tr_iload_n hX 3 dL_law_595 rfl rfl ?_
  refine tr_iconst (v := 2) hX dL_law_596 rfl ?_
  refine tr_iadd hX dL_law_597 ?_
  refine lr_ld hX hz (hj 2 (by decide)) dL_law_598 ?_
  refine lr_aload hX 0 dL_law_599 rfl rfl ?_
  refine tr_iload_n hX 3 dL_law_600 rfl rfl ?_
  refine tr_iconst (v := 3) hX dL_law_601 rfl ?_
  refine tr_iadd hX dL_law_602 ?_
  refine lr_ld hX hz (hj 3 (by decide)) dL_law_603 ?_
  refine lr_call hX 36 [.int (xs (ix (x3 + 1))), .int (xs (ix (x3 + 2))), .int (xs (ix (x3 + 3)))] kl_X10_blind wd_894 (by decide) rfl rfl rfl (by decide) rfl rfl (Nat.le_of_ble_eq_true rfl) dL_law_604 (c_X10_blind G.1 (okE hX) N s1 _ _ _ (v, s2) h2) ?_
  exact tpos (xb := none) rfl (tr_icmp_eq hX 912 dL_law_607 (by decide) (k s2 h3) T_none)
set_option maxRecDepth 20000 in
set_option maxHeartbeats 2000000 in
theorem lc_feed {G : Gx} {N b L : Nat} {xs : Nat → Int32} {PS : Hp → Prop} (hX : ok G code 4 RL ret 12 426) (hz : lawG G b L xs) {x : Option (Int32 × Hp)} {x3 : Int32} (hj : ∀ j : Int32, j = 1 ∨ j = 2 ∨ j = 3 ∨ j = 4 ∨ j = 5 → inR (x3 + j) L = true) (hA : ag_feed N PS) (k : ∀ s2, PS s2 → T G x s2 912 [(0, .ref b), (1, rf G.1 0), (2, rf G.1 36), (3, .int x3)] []) (s : Hp) (hs : PS s) : T G x s 612 [(0, .ref b), (1, rf G.1 0), (2, rf G.1 36), (3, .int x3)] [] := by
  obtain ⟨v, s1, s2, h1, h2, h3⟩ := hA (xs (ix (x3 + 1))) (xs (ix (x3 + 2))) (xs (ix (x3 + 3))) (xs (ix (x3 + 4))) (xs (ix (x3 + 5))) s hs
  dsimp only at h1 h2
  refine tr_aload_n hX 1 dL_law_612 rfl rfl ?_
  refine lr_aload hX 0 dL_law_613 rfl rfl ?_
  refine tr_iload_n hX 3 dL_law_614 rfl rfl ?_
  refine tr_iconst (v := 1) hX dL_law_615 rfl ?_
  refine tr_iadd hX dL_law_616 ?_
  refine lr_ld hX hz (hj 1 (by decide)) dL_law_617 ?_
  refine lr_aload hX 0 dL_law_618 rfl rfl ?_
  refine tr_iload_n hX 3 dL_law_619 rfl rfl ?_
  refine tr_iconst (v := 2) hX dL_law_620 rfl ?_
  refine tr_iadd hX dL_law_621 ?_
  refine lr_ld hX hz (hj 2 (by decide)) dL_law_622 ?_
  refine lr_aload hX 0 dL_law_623 rfl rfl ?_
  refine tr_iload_n hX 3 dL_law_624 rfl rfl ?_
  refine tr_iconst (v := 3) hX dL_law_625 rfl ?_
  refine tr_iadd hX dL_law_626 ?_
  refine lr_ld hX hz (hj 3 (by decide)) dL_law_627 ?_
  refine lr_aload hX 0 dL_law_628 rfl rfl ?_
  refine tr_iload_n hX 3 dL_law_629 rfl rfl ?_
  refine tr_iconst (v := 4) hX dL_law_630 rfl ?_
  refine tr_iadd hX dL_law_631 ?_
  refine lr_ld hX hz (hj 4 (by decide)) dL_law_632 ?_
  refine lr_aload hX 0 dL_law_633 rfl rfl ?_
  refine tr_iload_n hX 3 dL_law_634 rfl rfl ?_
  refine tr_iconst (v := 5) hX dL_law_635 rfl ?_
  refine tr_iadd hX dL_law_636 ?_
  refine lr_ld hX hz (hj 5 (by decide)) dL_law_637 ?_
  refine lr_call hX 0 [.int (xs (ix (x3 + 1))), .int (xs (ix (x3 + 2))), .int (xs (ix (x3 + 3))), .int (xs (ix (x3 + 4))), .int (xs (ix (x3 + 5)))] kl_X9_feed wd_480 (by decide) rfl rfl rfl (by decide) rfl rfl (Nat.le_of_ble_eq_true rfl) dL_law_638 (c_X9_feed G.1 (okE hX) N s _ _ _ _ _ (v, s1) h1) ?_
  refine tr_aload_n hX 2 dL_law_641 rfl rfl ?_
  refine lr_aload hX 0 dL_law_642 rfl rfl ?_
  refine tr_iload_n hX 3 dL_law_643 rfl rfl ?_
  refine tr_iconst (v := 1) hX dL_law_644 rfl ?_
  refine tr_iadd hX dL_law_645 ?_
  refine lr_ld hX hz (hj 1 (by decide)) dL_law_646 ?_
  refine lr_aload hX 0 dL_law_647 rfl rfl ?_
  refine tr_iload_n hX 3 dL_law_648 rfl rfl ?_
  refine tr_iconst (v := 2) hX dL_law_649 rfl ?_
  refine tr_iadd hX dL_law_650 ?_
  refine lr_ld hX hz (hj 2 (by decide)) dL_law_651 ?_
  refine lr_aload hX 0 dL_law_652 rfl rfl ?_
  refine tr_iload_n hX 3 dL_law_653 rfl rfl ?_
  refine tr_iconst (v := 3) hX dL_law_654 rfl ?_
  refine tr_iadd hX dL_law_655 ?_
  refine lr_ld hX hz (hj 3 (by decide)) dL_law_656 ?_
  refine lr_aload hX 0 dL_law_657 rfl rfl ?_
  refine tr_iload_n hX 3 dL_law_658 rfl rfl ?_
  refine tr_iconst (v := 4) hX dL_law_659 rfl ?_
  refine tr_iadd hX dL_law_660 ?_
  refine lr_ld hX hz (hj 4 (by decide)) dL_law_661 ?_
  refine lr_aload hX 0 dL_law_662 rfl rfl ?_
  refine tr_iload_n hX 3 dL_law_663 rfl rfl ?_
  refine tr_iconst (v := 5) hX dL_law_664 rfl ?_
  refine tr_iadd hX dL_law_665 ?_
  refine lr_ld hX hz (hj 5 (by decide)) dL_law_666 ?_
  refine lr_call hX 36 [.int (xs (ix (x3 + 1))), .int (xs (ix (x3 + 2))), .int (xs (ix (x3 + 3))), .int (xs (ix (x3 + 4))), .int (xs (ix (x3 + 5)))] kl_X10_feed wd_898 (by decide) rfl rfl rfl (by decide) rfl rfl (Nat.le_of_ble_eq_true rfl) dL_law_667 (c_X10_feed G.1 (okE hX) N s1 _ _ _ _ _ (v, s2) h2) ?_
  exact tpos (xb := none) rfl (tr_icmp_eq hX 912 dL_law_670 (by decide) (k s2 h3) T_none)
set_option maxRecDepth 20000 in
set_option maxHeartbeats 2000000 in
theorem lc_end {G : Gx} {N b L : Nat} {xs : Nat → Int32} {PS : Hp → Prop} (hX : ok G code 4 RL ret 12 426) (hz : lawG G b L xs) {x : Option (Int32 × Hp)} {x3 : Int32} (hj : ∀ j : Int32, j = 1 ∨ j = 2 ∨ j = 3 ∨ j = 4 ∨ j = 5 → inR (x3 + j) L = true) (hA : ag_end N PS) (k : ∀ s2, PS s2 → T G x s2 912 [(0, .ref b), (1, rf G.1 0), (2, rf G.1 36), (3, .int x3)] []) (s : Hp) (hs : PS s) : T G x s 675 [(0, .ref b), (1, rf G.1 0), (2, rf G.1 36), (3, .int x3)] [] := by
  obtain ⟨v, s1, s2, h1, h2, h3⟩ := hA (xs (ix (x3 + 1))) s hs
  dsimp only at h1 h2
  refine tr_aload_n hX 1 dL_law_675 rfl rfl ?_
  refine lr_aload hX 0 dL_law_676 rfl rfl ?_
  refine tr_iload_n hX 3 dL_law_677 rfl rfl ?_
  refine tr_iconst (v := 1) hX dL_law_678 rfl ?_
  refine tr_iadd hX dL_law_679 ?_
  refine lr_ld hX hz (hj 1 (by decide)) dL_law_680 ?_
  refine lr_call hX 0 [.int (xs (ix (x3 + 1)))] kl_X9_end wd_488 (by decide) rfl rfl rfl (by decide) rfl rfl (Nat.le_of_ble_eq_true rfl) dL_law_681 (c_X9_end G.1 (okE hX) N s _ (v, s1) h1) ?_
  refine tr_aload_n hX 2 dL_law_684 rfl rfl ?_
  refine lr_aload hX 0 dL_law_685 rfl rfl ?_
  refine tr_iload_n hX 3 dL_law_686 rfl rfl ?_
  refine tr_iconst (v := 1) hX dL_law_687 rfl ?_
  refine tr_iadd hX dL_law_688 ?_
  refine lr_ld hX hz (hj 1 (by decide)) dL_law_689 ?_
  refine lr_call hX 36 [.int (xs (ix (x3 + 1)))] kl_X10_end wd_906 (by decide) rfl rfl rfl (by decide) rfl rfl (Nat.le_of_ble_eq_true rfl) dL_law_690 (c_X10_end G.1 (okE hX) N s1 _ (v, s2) h2) ?_
  exact tpos (xb := none) rfl (tr_icmp_eq hX 912 dL_law_693 (by decide) (k s2 h3) T_none)
set_option maxRecDepth 20000 in
set_option maxHeartbeats 2000000 in
theorem lc_licence {G : Gx} {N b L : Nat} {xs : Nat → Int32} {PS : Hp → Prop} (hX : ok G code 4 RL ret 12 426) (hz : lawG G b L xs) {x : Option (Int32 × Hp)} {x3 : Int32} (hj : ∀ j : Int32, j = 1 ∨ j = 2 ∨ j = 3 ∨ j = 4 ∨ j = 5 → inR (x3 + j) L = true) (hA : ag_licence N PS) (k : ∀ s2, PS s2 → T G x s2 912 [(0, .ref b), (1, rf G.1 0), (2, rf G.1 36), (3, .int x3)] []) (s : Hp) (hs : PS s) : T G x s 698 [(0, .ref b), (1, rf G.1 0), (2, rf G.1 36), (3, .int x3)] [] := by
  obtain ⟨v, s1, s2, h1, h2, h3⟩ := hA s hs
  dsimp only at h1 h2
  refine tr_aload_n hX 1 dL_law_698 rfl rfl ?_
  refine lr_call hX 0 [] kl_X9_licence wd_492 (by decide) rfl rfl rfl (by decide) rfl rfl (Nat.le_of_ble_eq_true rfl) dL_law_699 (c_X9_licence G.1 (okE hX) N s (v, s1) h1) ?_
  refine tr_aload_n hX 2 dL_law_702 rfl rfl ?_
  refine lr_call hX 36 [] kl_X10_licence wd_910 (by decide) rfl rfl rfl (by decide) rfl rfl (Nat.le_of_ble_eq_true rfl) dL_law_703 (c_X10_licence G.1 (okE hX) N s1 (v, s2) h2) ?_
  exact tpos (xb := none) rfl (tr_icmp_eq hX 912 dL_law_706 (by decide) (k s2 h3) T_none)
set_option maxRecDepth 20000 in
set_option maxHeartbeats 2000000 in
theorem lc_fault {G : Gx} {N b L : Nat} {xs : Nat → Int32} {PS : Hp → Prop} (hX : ok G code 4 RL ret 12 426) (hz : lawG G b L xs) {x : Option (Int32 × Hp)} {x3 : Int32} (hj : ∀ j : Int32, j = 1 ∨ j = 2 ∨ j = 3 ∨ j = 4 ∨ j = 5 → inR (x3 + j) L = true) (hA : ag_fault N PS) (k : ∀ s2, PS s2 → T G x s2 912 [(0, .ref b), (1, rf G.1 0), (2, rf G.1 36), (3, .int x3)] []) (s : Hp) (hs : PS s) : T G x s 711 [(0, .ref b), (1, rf G.1 0), (2, rf G.1 36), (3, .int x3)] [] := by
  obtain ⟨v, s1, s2, h1, h2, h3⟩ := hA (xs (ix (x3 + 1))) s hs
  dsimp only at h1 h2
  refine tr_aload_n hX 1 dL_law_711 rfl rfl ?_
  refine lr_aload hX 0 dL_law_712 rfl rfl ?_
  refine tr_iload_n hX 3 dL_law_713 rfl rfl ?_
  refine tr_iconst (v := 1) hX dL_law_714 rfl ?_
  refine tr_iadd hX dL_law_715 ?_
  refine lr_ld hX hz (hj 1 (by decide)) dL_law_716 ?_
  refine lr_call hX 0 [.int (xs (ix (x3 + 1)))] kl_X9_fault wd_603 (by decide) rfl rfl rfl (by decide) rfl rfl (Nat.le_of_ble_eq_true rfl) dL_law_717 (c_X9_fault G.1 (okE hX) N s _ (v, s1) h1) ?_
  refine tr_aload_n hX 2 dL_law_720 rfl rfl ?_
  refine lr_aload hX 0 dL_law_721 rfl rfl ?_
  refine tr_iload_n hX 3 dL_law_722 rfl rfl ?_
  refine tr_iconst (v := 1) hX dL_law_723 rfl ?_
  refine tr_iadd hX dL_law_724 ?_
  refine lr_ld hX hz (hj 1 (by decide)) dL_law_725 ?_
  refine lr_call hX 36 [.int (xs (ix (x3 + 1)))] kl_X10_fault wd_947 (by decide) rfl rfl rfl (by decide) rfl rfl (Nat.le_of_ble_eq_true rfl) dL_law_726 (c_X10_fault G.1 (okE hX) N s1 _ (v, s2) h2) ?_
  exact tpos (xb := none) rfl (tr_icmp_eq hX 912 dL_law_729 (by decide) (k s2 h3) T_none)
set_option maxRecDepth 20000 in
set_option maxHeartbeats 2000000 in
theorem lc_fits {G : Gx} {N b L : Nat} {xs : Nat → Int32} {PS : Hp → Prop} (hX : ok G code 4 RL ret 12 426) (hz : lawG G b L xs) {x : Option (Int32 × Hp)} {x3 : Int32} (hj : ∀ j : Int32, j = 1 ∨ j = 2 ∨ j = 3 ∨ j = 4 ∨ j = 5 → inR (x3 + j) L = true) (hA : ag_fits N PS) (k : ∀ s2, PS s2 → T G x s2 912 [(0, .ref b), (1, rf G.1 0), (2, rf G.1 36), (3, .int x3)] []) (s : Hp) (hs : PS s) : T G x s 734 [(0, .ref b), (1, rf G.1 0), (2, rf G.1 36), (3, .int x3)] [] := by
  obtain ⟨v, s1, s2, h1, h2, h3⟩ := hA (xs (ix (x3 + 1))) (xs (ix (x3 + 2))) s hs
  dsimp only at h1 h2
  refine tr_aload_n hX 1 dL_law_734 rfl rfl ?_
  refine lr_aload hX 0 dL_law_735 rfl rfl ?_
  refine tr_iload_n hX 3 dL_law_736 rfl rfl ?_
  refine tr_iconst (v := 1) hX dL_law_737 rfl ?_
  refine tr_iadd hX dL_law_738 ?_
  refine lr_ld hX hz (hj 1 (by decide)) dL_law_739 ?_
  refine lr_aload hX 0 dL_law_740 rfl rfl ?_
  refine tr_iload_n hX 3 dL_law_741 rfl rfl ?_
  refine tr_iconst (v := 2) hX dL_law_742 rfl ?_
  refine tr_iadd hX dL_law_743 ?_
  refine lr_ld hX hz (hj 2 (by decide)) dL_law_744 ?_
  refine lr_call hX 0 [.int (xs (ix (x3 + 1))), .int (xs (ix (x3 + 2)))] kl_X9_fits wd_607 (by decide) rfl rfl rfl (by decide) rfl rfl (Nat.le_of_ble_eq_true rfl) dL_law_745 (c_X9_fits G.1 (okE hX) N s _ _ (v, s1) h1) ?_
  refine tr_aload_n hX 2 dL_law_748 rfl rfl ?_
  refine lr_aload hX 0 dL_law_749 rfl rfl ?_
  refine tr_iload_n hX 3 dL_law_750 rfl rfl ?_
  refine tr_iconst (v := 1) hX dL_law_751 rfl ?_
  refine tr_iadd hX dL_law_752 ?_
  refine lr_ld hX hz (hj 1 (by decide)) dL_law_753 ?_
  refine lr_aload hX 0 dL_law_754 rfl rfl ?_
  refine tr_iload_n hX 3 dL_law_755 rfl rfl ?_
  refine tr_iconst (v := 2) hX dL_law_756 rfl ?_
  refine tr_iadd hX dL_law_757 ?_
  refine lr_ld hX hz (hj 2 (by decide)) dL_law_758 ?_
  refine lr_call hX 36 [.int (xs (ix (x3 + 1))), .int (xs (ix (x3 + 2)))] kl_X10_fits wd_951 (by decide) rfl rfl rfl (by decide) rfl rfl (Nat.le_of_ble_eq_true rfl) dL_law_759 (c_X10_fits G.1 (okE hX) N s1 _ _ (v, s2) h2) ?_
  exact tpos (xb := none) rfl (tr_icmp_eq hX 912 dL_law_762 (by decide) (k s2 h3) T_none)
set_option maxRecDepth 20000 in
set_option maxHeartbeats 2000000 in
theorem lc_best {G : Gx} {N b L : Nat} {xs : Nat → Int32} {PS : Hp → Prop} (hX : ok G code 4 RL ret 12 426) (hz : lawG G b L xs) {x : Option (Int32 × Hp)} {x3 : Int32} (hj : ∀ j : Int32, j = 1 ∨ j = 2 ∨ j = 3 ∨ j = 4 ∨ j = 5 → inR (x3 + j) L = true) (hA : ag_best N PS) (k : ∀ s2, PS s2 → T G x s2 912 [(0, .ref b), (1, rf G.1 0), (2, rf G.1 36), (3, .int x3)] []) (s : Hp) (hs : PS s) : T G x s 767 [(0, .ref b), (1, rf G.1 0), (2, rf G.1 36), (3, .int x3)] [] := by
  obtain ⟨v, s1, s2, h1, h2, h3⟩ := hA (xs (ix (x3 + 1))) (xs (ix (x3 + 2))) s hs
  dsimp only at h1 h2
  refine tr_aload_n hX 1 dL_law_767 rfl rfl ?_
  refine lr_aload hX 0 dL_law_768 rfl rfl ?_
  refine tr_iload_n hX 3 dL_law_769 rfl rfl ?_
  refine tr_iconst (v := 1) hX dL_law_770 rfl ?_
  refine tr_iadd hX dL_law_771 ?_
  refine lr_ld hX hz (hj 1 (by decide)) dL_law_772 ?_
  refine lr_aload hX 0 dL_law_773 rfl rfl ?_
  refine tr_iload_n hX 3 dL_law_774 rfl rfl ?_
  refine tr_iconst (v := 2) hX dL_law_775 rfl ?_
  refine tr_iadd hX dL_law_776 ?_
  refine lr_ld hX hz (hj 2 (by decide)) dL_law_777 ?_
  refine lr_call hX 0 [.int (xs (ix (x3 + 1))), .int (xs (ix (x3 + 2)))] kl_X9_best wd_630 (by decide) rfl rfl rfl (by decide) rfl rfl (Nat.le_of_ble_eq_true rfl) dL_law_778 (c_X9_best G.1 (okE hX) N s _ _ (v, s1) h1) ?_
  refine tr_aload_n hX 2 dL_law_781 rfl rfl ?_
  refine lr_aload hX 0 dL_law_782 rfl rfl ?_
  refine tr_iload_n hX 3 dL_law_783 rfl rfl ?_
  refine tr_iconst (v := 1) hX dL_law_784 rfl ?_
  refine tr_iadd hX dL_law_785 ?_
  refine lr_ld hX hz (hj 1 (by decide)) dL_law_786 ?_
  refine lr_aload hX 0 dL_law_787 rfl rfl ?_
  refine tr_iload_n hX 3 dL_law_788 rfl rfl ?_
  refine tr_iconst (v := 2) hX dL_law_789 rfl ?_
  refine tr_iadd hX dL_law_790 ?_
  refine lr_ld hX hz (hj 2 (by decide)) dL_law_791 ?_
  refine lr_call hX 36 [.int (xs (ix (x3 + 1))), .int (xs (ix (x3 + 2)))] kl_X10_best wd_963 (by decide) rfl rfl rfl (by decide) rfl rfl (Nat.le_of_ble_eq_true rfl) dL_law_792 (c_X10_best G.1 (okE hX) N s1 _ _ (v, s2) h2) ?_
  exact tpos (xb := none) rfl (tr_icmp_eq hX 912 dL_law_795 (by decide) (k s2 h3) T_none)
set_option maxRecDepth 20000 in
set_option maxHeartbeats 2000000 in
theorem lc_wanderers {G : Gx} {N b L : Nat} {xs : Nat → Int32} {PS : Hp → Prop} (hX : ok G code 4 RL ret 12 426) (hz : lawG G b L xs) {x : Option (Int32 × Hp)} {x3 : Int32} (hj : ∀ j : Int32, j = 1 ∨ j = 2 ∨ j = 3 ∨ j = 4 ∨ j = 5 → inR (x3 + j) L = true) (hA : ag_wanderers N PS) (k : ∀ s2, PS s2 → T G x s2 912 [(0, .ref b), (1, rf G.1 0), (2, rf G.1 36), (3, .int x3)] []) (s : Hp) (hs : PS s) : T G x s 800 [(0, .ref b), (1, rf G.1 0), (2, rf G.1 36), (3, .int x3)] [] := by
  obtain ⟨v, s1, s2, h1, h2, h3⟩ := hA s hs
  dsimp only at h1 h2
  refine tr_aload_n hX 1 dL_law_800 rfl rfl ?_
  refine lr_call hX 0 [] kl_X9_wanderers wd_639 (by decide) rfl rfl rfl (by decide) rfl rfl (Nat.le_of_ble_eq_true rfl) dL_law_801 (c_X9_wanderers G.1 (okE hX) N s (v, s1) h1) ?_
  refine tr_aload_n hX 2 dL_law_804 rfl rfl ?_
  refine lr_call hX 36 [] kl_X10_wanderers wd_974 (by decide) rfl rfl rfl (by decide) rfl rfl (Nat.le_of_ble_eq_true rfl) dL_law_805 (c_X10_wanderers G.1 (okE hX) N s1 (v, s2) h2) ?_
  exact tpos (xb := none) rfl (tr_icmp_eq hX 912 dL_law_808 (by decide) (k s2 h3) T_none)
set_option maxRecDepth 20000 in
set_option maxHeartbeats 2000000 in
theorem lc_sweep {G : Gx} {N b L : Nat} {xs : Nat → Int32} {PS : Hp → Prop} (hX : ok G code 4 RL ret 12 426) (hz : lawG G b L xs) {x : Option (Int32 × Hp)} {x3 : Int32} (hj : ∀ j : Int32, j = 1 ∨ j = 2 ∨ j = 3 ∨ j = 4 ∨ j = 5 → inR (x3 + j) L = true) (hA : ag_sweep N PS) (k : ∀ s2, PS s2 → T G x s2 912 [(0, .ref b), (1, rf G.1 0), (2, rf G.1 36), (3, .int x3)] []) (s : Hp) (hs : PS s) : T G x s 813 [(0, .ref b), (1, rf G.1 0), (2, rf G.1 36), (3, .int x3)] [] := by
  obtain ⟨v, s1, s2, h1, h2, h3⟩ := hA (xs (ix (x3 + 1))) (xs (ix (x3 + 2))) (xs (ix (x3 + 3))) (xs (ix (x3 + 4))) s hs
  dsimp only at h1 h2
  refine tr_aload_n hX 1 dL_law_813 rfl rfl ?_
  refine lr_aload hX 0 dL_law_814 rfl rfl ?_
  refine tr_iload_n hX 3 dL_law_815 rfl rfl ?_
  refine tr_iconst (v := 1) hX dL_law_816 rfl ?_
  refine tr_iadd hX dL_law_817 ?_
  refine lr_ld hX hz (hj 1 (by decide)) dL_law_818 ?_
  refine lr_aload hX 0 dL_law_819 rfl rfl ?_
  refine tr_iload_n hX 3 dL_law_820 rfl rfl ?_
  refine tr_iconst (v := 2) hX dL_law_821 rfl ?_
  refine tr_iadd hX dL_law_822 ?_
  refine lr_ld hX hz (hj 2 (by decide)) dL_law_823 ?_
  refine lr_aload hX 0 dL_law_824 rfl rfl ?_
  refine tr_iload_n hX 3 dL_law_825 rfl rfl ?_
  refine tr_iconst (v := 3) hX dL_law_826 rfl ?_
  refine tr_iadd hX dL_law_827 ?_
  refine lr_ld hX hz (hj 3 (by decide)) dL_law_828 ?_
  refine lr_aload hX 0 dL_law_829 rfl rfl ?_
  refine tr_iload_n hX 3 dL_law_830 rfl rfl ?_
  refine tr_iconst (v := 4) hX dL_law_831 rfl ?_
  refine tr_iadd hX dL_law_832 ?_
  refine lr_ld hX hz (hj 4 (by decide)) dL_law_833 ?_
  refine lr_call hX 0 [.int (xs (ix (x3 + 1))), .int (xs (ix (x3 + 2))), .int (xs (ix (x3 + 3))), .int (xs (ix (x3 + 4)))] kl_X9_sweep wd_643 (by decide) rfl rfl rfl (by decide) rfl rfl (Nat.le_of_ble_eq_true rfl) dL_law_834 (c_X9_sweep G.1 (okE hX) N s _ _ _ _ (v, s1) h1) ?_
  refine tr_aload_n hX 2 dL_law_837 rfl rfl ?_
  refine lr_aload hX 0 dL_law_838 rfl rfl ?_
  refine tr_iload_n hX 3 dL_law_839 rfl rfl ?_
  refine tr_iconst (v := 1) hX dL_law_840 rfl ?_
  refine tr_iadd hX dL_law_841 ?_
  refine lr_ld hX hz (hj 1 (by decide)) dL_law_842 ?_
  refine lr_aload hX 0 dL_law_843 rfl rfl ?_
  refine tr_iload_n hX 3 dL_law_844 rfl rfl ?_
  refine tr_iconst (v := 2) hX dL_law_845 rfl ?_
  refine tr_iadd hX dL_law_846 ?_
  refine lr_ld hX hz (hj 2 (by decide)) dL_law_847 ?_
  refine lr_aload hX 0 dL_law_848 rfl rfl ?_
  refine tr_iload_n hX 3 dL_law_849 rfl rfl ?_
  refine tr_iconst (v := 3) hX dL_law_850 rfl ?_
  refine tr_iadd hX dL_law_851 ?_
  refine lr_ld hX hz (hj 3 (by decide)) dL_law_852 ?_
  refine lr_aload hX 0 dL_law_853 rfl rfl ?_
  refine tr_iload_n hX 3 dL_law_854 rfl rfl ?_
  refine tr_iconst (v := 4) hX dL_law_855 rfl ?_
  refine tr_iadd hX dL_law_856 ?_
  refine lr_ld hX hz (hj 4 (by decide)) dL_law_857 ?_
  refine lr_call hX 36 [.int (xs (ix (x3 + 1))), .int (xs (ix (x3 + 2))), .int (xs (ix (x3 + 3))), .int (xs (ix (x3 + 4)))] kl_X10_sweep wd_978 (by decide) rfl rfl rfl (by decide) rfl rfl (Nat.le_of_ble_eq_true rfl) dL_law_858 (c_X10_sweep G.1 (okE hX) N s1 _ _ _ _ (v, s2) h2) ?_
  exact tpos (xb := none) rfl (tr_icmp_eq hX 912 dL_law_861 (by decide) (k s2 h3) T_none)
set_option maxRecDepth 20000 in
set_option maxHeartbeats 2000000 in
theorem lc_slot {G : Gx} {N b L : Nat} {xs : Nat → Int32} {PS : Hp → Prop} (hX : ok G code 4 RL ret 12 426) (hz : lawG G b L xs) {x : Option (Int32 × Hp)} {x3 : Int32} (hj : ∀ j : Int32, j = 1 ∨ j = 2 ∨ j = 3 ∨ j = 4 ∨ j = 5 → inR (x3 + j) L = true) (hA : ag_slot N PS) (k : ∀ s2, PS s2 → T G x s2 912 [(0, .ref b), (1, rf G.1 0), (2, rf G.1 36), (3, .int x3)] []) (s : Hp) (hs : PS s) : T G x s 866 [(0, .ref b), (1, rf G.1 0), (2, rf G.1 36), (3, .int x3)] [] := by
  obtain ⟨v, s1, s2, h1, h2, h3⟩ := hA (xs (ix (x3 + 1))) s hs
  dsimp only at h1 h2
  refine tr_aload_n hX 1 dL_law_866 rfl rfl ?_
  refine lr_aload hX 0 dL_law_867 rfl rfl ?_
  refine tr_iload_n hX 3 dL_law_868 rfl rfl ?_
  refine tr_iconst (v := 1) hX dL_law_869 rfl ?_
  refine tr_iadd hX dL_law_870 ?_
  refine lr_ld hX hz (hj 1 (by decide)) dL_law_871 ?_
  refine lr_call hX 0 [.int (xs (ix (x3 + 1)))] kl_X9_slot wd_682 (by decide) rfl rfl rfl (by decide) rfl rfl (Nat.le_of_ble_eq_true rfl) dL_law_872 (c_X9_slot G.1 (okE hX) N s _ (v, s1) h1) ?_
  refine tr_aload_n hX 2 dL_law_875 rfl rfl ?_
  refine lr_aload hX 0 dL_law_876 rfl rfl ?_
  refine tr_iload_n hX 3 dL_law_877 rfl rfl ?_
  refine tr_iconst (v := 1) hX dL_law_878 rfl ?_
  refine tr_iadd hX dL_law_879 ?_
  refine lr_ld hX hz (hj 1 (by decide)) dL_law_880 ?_
  refine lr_call hX 36 [.int (xs (ix (x3 + 1)))] kl_X10_slot wd_991 (by decide) rfl rfl rfl (by decide) rfl rfl (Nat.le_of_ble_eq_true rfl) dL_law_881 (c_X10_slot G.1 (okE hX) N s1 _ (v, s2) h2) ?_
  exact tpos (xb := none) rfl (tr_icmp_eq hX 912 dL_law_884 (by decide) (k s2 h3) T_none)
set_option maxRecDepth 20000 in
set_option maxHeartbeats 2000000 in
theorem lc_about {G : Gx} {N b L : Nat} {xs : Nat → Int32} {PS : Hp → Prop} (hX : ok G code 4 RL ret 12 426) (hz : lawG G b L xs) {x : Option (Int32 × Hp)} {x3 : Int32} (hj : ∀ j : Int32, j = 1 ∨ j = 2 ∨ j = 3 ∨ j = 4 ∨ j = 5 → inR (x3 + j) L = true) (hA : ag_about N PS) (k : ∀ s2, PS s2 → T G x s2 912 [(0, .ref b), (1, rf G.1 0), (2, rf G.1 36), (3, .int x3)] []) (s : Hp) (hs : PS s) : T G x s 889 [(0, .ref b), (1, rf G.1 0), (2, rf G.1 36), (3, .int x3)] [] := by
  obtain ⟨v, s1, s2, h1, h2, h3⟩ := hA (xs (ix (x3 + 1))) s hs
  dsimp only at h1 h2
  refine tr_aload_n hX 1 dL_law_889 rfl rfl ?_
  refine lr_aload hX 0 dL_law_890 rfl rfl ?_
  refine tr_iload_n hX 3 dL_law_891 rfl rfl ?_
  refine tr_iconst (v := 1) hX dL_law_892 rfl ?_
  refine tr_iadd hX dL_law_893 ?_
  refine lr_ld hX hz (hj 1 (by decide)) dL_law_894 ?_
  refine lr_call hX 0 [.int (xs (ix (x3 + 1)))] kl_X9_about wd_686 (by decide) rfl rfl rfl (by decide) rfl rfl (Nat.le_of_ble_eq_true rfl) dL_law_895 (c_X9_about G.1 (okE hX) N s _ (v, s1) h1) ?_
  refine tr_aload_n hX 2 dL_law_898 rfl rfl ?_
  refine lr_aload hX 0 dL_law_899 rfl rfl ?_
  refine tr_iload_n hX 3 dL_law_900 rfl rfl ?_
  refine tr_iconst (v := 1) hX dL_law_901 rfl ?_
  refine tr_iadd hX dL_law_902 ?_
  refine lr_ld hX hz (hj 1 (by decide)) dL_law_903 ?_
  refine lr_call hX 36 [.int (xs (ix (x3 + 1)))] kl_X10_about wd_995 (by decide) rfl rfl rfl (by decide) rfl rfl (Nat.le_of_ble_eq_true rfl) dL_law_904 (c_X10_about G.1 (okE hX) N s1 _ (v, s2) h2) ?_
  exact tpos (xb := none) rfl (tr_icmp_eq hX 912 dL_law_907 (by decide) (k s2 h3) T_none)
theorem add6 {i j : Nat} : nI i + nI j = nI (i + j) := nI_add i j
set_option maxRecDepth 20000 in
set_option maxHeartbeats 4000000 in
theorem law_loop {G : Gx} {N b L : Nat} {xs : Nat → Int32} {PS : Hp → Prop} (hX : ok G code 4 RL ret 12 426) (hz : lawG G b L xs) (hL : L ≤ 3072) (hH : StepsOK N PS) (x : Option (Int32 × Hp)) : ∀ (n i : Nat) (s : Hp) (x3 : Int32), L + 1 ≤ i + n → i ≤ 3100 → x3 = nI i → PS s → T G x s 18 [(0, .ref b), (1, rf G.1 0), (2, rf G.1 36), (3, .int x3)] [] := by
  intro n
  induction n with
  | zero =>
    intro i s x3 hn hi ex hs
    have hc : nI L - 6 < x3 := by
      rw [ex, Int32.lt_iff_toInt_lt, show (6 : Int32) = nI 6 from rfl, pk_sub_toInt (by omega) (by omega), nI_toInt (by omega)]
      omega
    refine tr_iload_n hX 3 dL_law_18 rfl rfl ?_
    refine lr_aload hX 0 dL_law_19 rfl rfl ?_
    refine lr_len hX hz dL_law_20 ?_
    refine tr_bipush (v := 6) hX dL_law_21 rfl ?_
    refine tr_isub hX dL_law_23 ?_
    refine tpos (xb := none) hc (tr_icmp_gt hX 918 dL_law_24 (by decide) ?_ T_none)
    refine tr_iconst (v := 1) hX dL_law_918 rfl ?_
    exact lr_ret hX hz dL_law_919
  | succ n ih =>
    intro i s x3 hn hi ex hs
    refine tr_iload_n hX 3 dL_law_18 rfl rfl ?_
    refine lr_aload hX 0 dL_law_19 rfl rfl ?_
    refine lr_len hX hz dL_law_20 ?_
    refine tr_bipush (v := 6) hX dL_law_21 rfl ?_
    refine tr_isub hX dL_law_23 ?_
    by_cases hc : nI L - 6 < x3
    · refine tpos (xb := none) hc (tr_icmp_gt hX 918 dL_law_24 (by decide) ?_ T_none)
      refine tr_iconst (v := 1) hX dL_law_918 rfl ?_
      exact lr_ret hX hz dL_law_919
    · refine tneg (xa := none) hc (tr_icmp_gt hX 918 dL_law_24 (by decide) T_none ?_)
      have hiL : i + 6 ≤ L := by
        rw [ex, Int32.lt_iff_toInt_lt, show (6 : Int32) = nI 6 from rfl, pk_sub_toInt (by omega) (by omega), nI_toInt (by omega)] at hc
        omega
      have h0 : inR x3 L = true := by
        rw [ex]
        exact decide_eq_true (nI_in (show i < L by omega) (by omega))
      have hj : ∀ j : Int32, j = 1 ∨ j = 2 ∨ j = 3 ∨ j = 4 ∨ j = 5 → inR (x3 + j) L = true := by
        intro j hj
        have key : ∀ k : Nat, k ≤ 5 → inR (x3 + nI k) L = true := fun k hk => by
          rw [ex, nI_add]
          exact decide_eq_true (nI_in (show i + k < L by omega) (by omega))
        rcases hj with rfl | rfl | rfl | rfl | rfl
        · exact key 1 (by omega)
        · exact key 2 (by omega)
        · exact key 3 (by omega)
        · exact key 4 (by omega)
        · exact key 5 (by omega)
      refine lr_aload hX 0 dL_law_27 rfl rfl ?_
      refine tr_iload_n hX 3 dL_law_28 rfl rfl ?_
      refine lr_ld hX hz h0 dL_law_29 ?_
      refine tr_bipush (v := 31) hX dL_law_30 rfl ?_
      refine tr_iand hX dL_law_32 ?_
      have back : ∀ s2, PS s2 → T G x s2 912 [(0, .ref b), (1, rf G.1 0), (2, rf G.1 36), (3, .int x3)] [] := by
        intro s2 hs2
        refine tr_iinc (v2 := x3 + 6) (lv2 := [(3, .int (x3 + 6)), (0, .ref b), (1, rf G.1 0), (2, rf G.1 36)]) hX 3 dL_law_912 rfl rfl (by decide) rfl ?_
        refine tr_goto hX 18 dL_law_915 (by decide) ?_
        refine tr_lv (lv2 := [(0, .ref b), (1, rf G.1 0), (2, rf G.1 36), (3, .int (x3 + 6))]) [1, 2, 3, 0] rfl ?_
        exact ih (i + 6) s2 (x3 + 6) (by omega) (by omega) (by rw [ex]; exact nI_add i 6) hs2
      by_cases hc0 : xs (ix x3) &&& 31 = 0
      · refine tr_tab hX 136 hc0 dL_law_33 (by decide) (by decide) rfl (by decide) ?_
        exact lc_post hX hz hj hH.1 back s hs
      by_cases hc1 : xs (ix x3) &&& 31 = 1
      · refine tr_tab hX 169 hc1 dL_law_33 (by decide) (by decide) rfl (by decide) ?_
        exact lc_listened hX hz hj hH.2.1 back s hs
      by_cases hc2 : xs (ix x3) &&& 31 = 2
      · refine tr_tab hX 222 hc2 dL_law_33 (by decide) (by decide) rfl (by decide) ?_
        exact lc_mark hX hz hj hH.2.2.1 back s hs
      by_cases hc3 : xs (ix x3) &&& 31 = 3
      · refine tr_tab hX 285 hc3 dL_law_33 (by decide) (by decide) rfl (by decide) ?_
        exact lc_wedge hX hz hj hH.2.2.2.1 back s hs
      by_cases hc4 : xs (ix x3) &&& 31 = 4
      · refine tr_tab hX 348 hc4 dL_law_33 (by decide) (by decide) rfl (by decide) ?_
        exact lc_joins hX hz hj hH.2.2.2.2.1 back s hs
      by_cases hc5 : xs (ix x3) &&& 31 = 5
      · refine tr_tab hX 381 hc5 dL_law_33 (by decide) (by decide) rfl (by decide) ?_
        exact lc_senders hX hz hj hH.2.2.2.2.2.1 back s hs
      by_cases hc6 : xs (ix x3) &&& 31 = 6
      · refine tr_tab hX 394 hc6 dL_law_33 (by decide) (by decide) rfl (by decide) ?_
        exact lc_senderOf hX hz hj hH.2.2.2.2.2.2.1 back s hs
      by_cases hc7 : xs (ix x3) &&& 31 = 7
      · refine tr_tab hX 417 hc7 dL_law_33 (by decide) (by decide) rfl (by decide) ?_
        exact lc_sender hX hz hj hH.2.2.2.2.2.2.2.1 back s hs
      by_cases hc8 : xs (ix x3) &&& 31 = 8
      · refine tr_tab hX 450 hc8 dL_law_33 (by decide) (by decide) rfl (by decide) ?_
        exact lc_place hX hz hj hH.2.2.2.2.2.2.2.2.1 back s hs
      by_cases hc9 : xs (ix x3) &&& 31 = 9
      · refine tr_tab hX 483 hc9 dL_law_33 (by decide) (by decide) rfl (by decide) ?_
        exact lc_box hX hz hj hH.2.2.2.2.2.2.2.2.2.1 back s hs
      by_cases hc10 : xs (ix x3) &&& 31 = 10
      · refine tr_tab hX 516 hc10 dL_law_33 (by decide) (by decide) rfl (by decide) ?_
        exact lc_minutes hX hz hj hH.2.2.2.2.2.2.2.2.2.2.1 back s hs
      by_cases hc11 : xs (ix x3) &&& 31 = 11
      · refine tr_tab hX 569 hc11 dL_law_33 (by decide) (by decide) rfl (by decide) ?_
        exact lc_blind hX hz hj hH.2.2.2.2.2.2.2.2.2.2.2.1 back s hs
      by_cases hc12 : xs (ix x3) &&& 31 = 12
      · refine tr_tab hX 612 hc12 dL_law_33 (by decide) (by decide) rfl (by decide) ?_
        exact lc_feed hX hz hj hH.2.2.2.2.2.2.2.2.2.2.2.2.1 back s hs
      by_cases hc13 : xs (ix x3) &&& 31 = 13
      · refine tr_tab hX 675 hc13 dL_law_33 (by decide) (by decide) rfl (by decide) ?_
        exact lc_end hX hz hj hH.2.2.2.2.2.2.2.2.2.2.2.2.2.1 back s hs
      by_cases hc14 : xs (ix x3) &&& 31 = 14
      · refine tr_tab hX 698 hc14 dL_law_33 (by decide) (by decide) rfl (by decide) ?_
        exact lc_licence hX hz hj hH.2.2.2.2.2.2.2.2.2.2.2.2.2.2.1 back s hs
      by_cases hc15 : xs (ix x3) &&& 31 = 15
      · refine tr_tab hX 711 hc15 dL_law_33 (by decide) (by decide) rfl (by decide) ?_
        exact lc_fault hX hz hj hH.2.2.2.2.2.2.2.2.2.2.2.2.2.2.2.1 back s hs
      by_cases hc16 : xs (ix x3) &&& 31 = 16
      · refine tr_tab hX 734 hc16 dL_law_33 (by decide) (by decide) rfl (by decide) ?_
        exact lc_fits hX hz hj hH.2.2.2.2.2.2.2.2.2.2.2.2.2.2.2.2.1 back s hs
      by_cases hc17 : xs (ix x3) &&& 31 = 17
      · refine tr_tab hX 767 hc17 dL_law_33 (by decide) (by decide) rfl (by decide) ?_
        exact lc_best hX hz hj hH.2.2.2.2.2.2.2.2.2.2.2.2.2.2.2.2.2.1 back s hs
      by_cases hc18 : xs (ix x3) &&& 31 = 18
      · refine tr_tab hX 800 hc18 dL_law_33 (by decide) (by decide) rfl (by decide) ?_
        exact lc_wanderers hX hz hj hH.2.2.2.2.2.2.2.2.2.2.2.2.2.2.2.2.2.2.1 back s hs
      by_cases hc19 : xs (ix x3) &&& 31 = 19
      · refine tr_tab hX 813 hc19 dL_law_33 (by decide) (by decide) rfl (by decide) ?_
        exact lc_sweep hX hz hj hH.2.2.2.2.2.2.2.2.2.2.2.2.2.2.2.2.2.2.2.1 back s hs
      by_cases hc20 : xs (ix x3) &&& 31 = 20
      · refine tr_tab hX 866 hc20 dL_law_33 (by decide) (by decide) rfl (by decide) ?_
        exact lc_slot hX hz hj hH.2.2.2.2.2.2.2.2.2.2.2.2.2.2.2.2.2.2.2.2.1 back s hs
      by_cases hc21 : xs (ix x3) &&& 31 = 21
      · refine tr_tab hX 889 hc21 dL_law_33 (by decide) (by decide) rfl (by decide) ?_
        exact lc_about hX hz hj hH.2.2.2.2.2.2.2.2.2.2.2.2.2.2.2.2.2.2.2.2.2 back s hs
      refine tr_tabO hX 912 dL_law_33 (by have q0 := lv_neT (a := 0) hc0 rfl; have q1 := lv_neT (a := 1) hc1 rfl; have q2 := lv_neT (a := 2) hc2 rfl; have q3 := lv_neT (a := 3) hc3 rfl; have q4 := lv_neT (a := 4) hc4 rfl; have q5 := lv_neT (a := 5) hc5 rfl; have q6 := lv_neT (a := 6) hc6 rfl; have q7 := lv_neT (a := 7) hc7 rfl; have q8 := lv_neT (a := 8) hc8 rfl; have q9 := lv_neT (a := 9) hc9 rfl; have q10 := lv_neT (a := 10) hc10 rfl; have q11 := lv_neT (a := 11) hc11 rfl; have q12 := lv_neT (a := 12) hc12 rfl; have q13 := lv_neT (a := 13) hc13 rfl; have q14 := lv_neT (a := 14) hc14 rfl; have q15 := lv_neT (a := 15) hc15 rfl; have q16 := lv_neT (a := 16) hc16 rfl; have q17 := lv_neT (a := 17) hc17 rfl; have q18 := lv_neT (a := 18) hc18 rfl; have q19 := lv_neT (a := 19) hc19 rfl; have q20 := lv_neT (a := 20) hc20 rfl; have q21 := lv_neT (a := 21) hc21 rfl; omega) (by decide) ?_
      exact back s hs
