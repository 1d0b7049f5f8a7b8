def vb (a : Int32) (k : Int32 → Option (Int32 × Hp)) : Option (Int32 × Hp) := k a
def sb (s : Hp) (k : Hp → Option (Int32 × Hp)) : Option (Int32 × Hp) := k s
def imax (a b : Int32) : Int32 := if a < b then b else a
def imin (a b : Int32) : Int32 := if b < a then b else a
def iabs (a : Int32) : Int32 := if 0 ≤ a then a else 0 - a
section TR
variable {G : Gx} {x xa xb : Option (Int32 × Hp)} {s : Hp} {pc : Nat} {lv : List (Nat × Value)} {st : List Value} {cc : ByteArray} {nL : Nat} {own : String} {ret : Option FieldType} {fr lo : Nat}
theorem tr_iconst (hX : ok G cc nL own ret fr lo) {n : Int} {v : Int32} (hd : decode cc pc = .ok (.iconst n, 1)) (hv : Int32.ofInt n = v) (k : T G x s (pc + 1) lv (.int v :: st)) : T G x s pc lv (st) := by
  obtain ⟨E, ⟨p, e, R, s0, m, args, below, meth, cde, A, cells, slots⟩, nL0, Q, r⟩ := G
  obtain ⟨hexec, hb, hml, rfl, hown, hts, hK, hD, hr, hlocks, ⟨hfr, hlo, hc, hs⟩, hst⟩ := hX
  exact fun hx H locs ls hP hS hl => lv_iconst hexec hb hd hv (k hx H locs ls hP hS hl)
theorem tr_bipush (hX : ok G cc nL own ret fr lo) {n : Int} {v : Int32} (hd : decode cc pc = .ok (.bipush n, 2)) (hv : (Int8.ofInt n).toInt32 = v) (k : T G x s (pc + 2) lv (.int v :: st)) : T G x s pc lv (st) := by
  obtain ⟨E, ⟨p, e, R, s0, m, args, below, meth, cde, A, cells, slots⟩, nL0, Q, r⟩ := G
  obtain ⟨hexec, hb, hml, rfl, hown, hts, hK, hD, hr, hlocks, ⟨hfr, hlo, hc, hs⟩, hst⟩ := hX
  exact fun hx H locs ls hP hS hl => lv_bipush hexec hb hd hv (k hx H locs ls hP hS hl)
theorem tr_sipush (hX : ok G cc nL own ret fr lo) {n : Int} {v : Int32} (hd : decode cc pc = .ok (.sipush n, 3)) (hv : (Int16.ofInt n).toInt32 = v) (k : T G x s (pc + 3) lv (.int v :: st)) : T G x s pc lv (st) := by
  obtain ⟨E, ⟨p, e, R, s0, m, args, below, meth, cde, A, cells, slots⟩, nL0, Q, r⟩ := G
  obtain ⟨hexec, hb, hml, rfl, hown, hts, hK, hD, hr, hlocks, ⟨hfr, hlo, hc, hs⟩, hst⟩ := hX
  exact fun hx H locs ls hP hS hl => lv_sipush hexec hb hd hv (k hx H locs ls hP hS hl)
theorem tr_ldc (hX : ok G cc nL own ret fr lo) {i : Nat} {v : Int32} (hw : Cond.constant own i v ∈ gw) (hd : decode cc pc = .ok (.ldc i, 2)) (k : T G x s (pc + 2) lv (.int v :: st)) : T G x s pc lv (st) := by
  obtain ⟨E, ⟨p, e, R, s0, m, args, below, meth, cde, A, cells, slots⟩, nL0, Q, r⟩ := G
  obtain ⟨hexec, hb, hml, rfl, hown, hts, hK, hD, hr, hlocks, ⟨hfr, hlo, hc, hs⟩, hst⟩ := hX
  exact fun hx H locs ls hP hS hl => lv_ldc hexec hb hown (hts _ hw) hd (k hx H locs ls hP hS hl)
theorem tr_ldcw (hX : ok G cc nL own ret fr lo) {i : Nat} {v : Int32} (hw : Cond.constant own i v ∈ gw) (hd : decode cc pc = .ok (.ldc_w i, 3)) (k : T G x s (pc + 3) lv (.int v :: st)) : T G x s pc lv (st) := by
  obtain ⟨E, ⟨p, e, R, s0, m, args, below, meth, cde, A, cells, slots⟩, nL0, Q, r⟩ := G
  obtain ⟨hexec, hb, hml, rfl, hown, hts, hK, hD, hr, hlocks, ⟨hfr, hlo, hc, hs⟩, hst⟩ := hX
  exact fun hx H locs ls hP hS hl => lv_ldcw hexec hb hown (hts _ hw) hd (k hx H locs ls hP hS hl)
theorem tr_iload_n (hX : ok G cc nL own ret fr lo) {kk : Fin 4} {i : Nat} (q : Nat) {v : Int32} (hd : decode cc pc = .ok (.iload_n kk, 1)) (hi : (kk : Nat) = i) (hq : lv[q]? = some (i, .int v)) (k : T G x s (pc + 1) lv (.int v :: st)) : T G x s pc lv (st) := by
  obtain ⟨E, ⟨p, e, R, s0, m, args, below, meth, cde, A, cells, slots⟩, nL0, Q, r⟩ := G
  obtain ⟨hexec, hb, hml, rfl, hown, hts, hK, hD, hr, hlocks, ⟨hfr, hlo, hc, hs⟩, hst⟩ := hX
  exact fun hx H locs ls hP hS hl => lv_iload_n hexec hb hd hi (lv_at hl q hq) (k hx H locs ls hP hS hl)
theorem tr_iload (hX : ok G cc nL own ret fr lo) {i : Nat} (q : Nat) {v : Int32} (hd : decode cc pc = .ok (.iload i, 2)) (hq : lv[q]? = some (i, .int v)) (k : T G x s (pc + 2) lv (.int v :: st)) : T G x s pc lv (st) := by
  obtain ⟨E, ⟨p, e, R, s0, m, args, below, meth, cde, A, cells, slots⟩, nL0, Q, r⟩ := G
  obtain ⟨hexec, hb, hml, rfl, hown, hts, hK, hD, hr, hlocks, ⟨hfr, hlo, hc, hs⟩, hst⟩ := hX
  exact fun hx H locs ls hP hS hl => lv_iload hexec hb hd (lv_at hl q hq) (k hx H locs ls hP hS hl)
theorem tr_aload_n (hX : ok G cc nL own ret fr lo) {kk : Fin 4} {i : Nat} (q : Nat) {v : Nat} (hd : decode cc pc = .ok (.aload_n kk, 1)) (hi : (kk : Nat) = i) (hq : lv[q]? = some (i, rf G.1 v)) (k : T G x s (pc + 1) lv (rf G.1 v :: st)) : T G x s pc lv (st) := by
  obtain ⟨E, ⟨p, e, R, s0, m, args, below, meth, cde, A, cells, slots⟩, nL0, Q, r⟩ := G
  obtain ⟨hexec, hb, hml, rfl, hown, hts, hK, hD, hr, hlocks, ⟨hfr, hlo, hc, hs⟩, hst⟩ := hX
  exact fun hx H locs ls hP hS hl => lv_aload_n hexec hb hd hi (lv_at hl q hq) (k hx H locs ls hP hS hl)
theorem tr_aload (hX : ok G cc nL own ret fr lo) {i : Nat} (q : Nat) {v : Nat} (hd : decode cc pc = .ok (.aload i, 2)) (hq : lv[q]? = some (i, rf G.1 v)) (k : T G x s (pc + 2) lv (rf G.1 v :: st)) : T G x s pc lv (st) := by
  obtain ⟨E, ⟨p, e, R, s0, m, args, below, meth, cde, A, cells, slots⟩, nL0, Q, r⟩ := G
  obtain ⟨hexec, hb, hml, rfl, hown, hts, hK, hD, hr, hlocks, ⟨hfr, hlo, hc, hs⟩, hst⟩ := hX
  exact fun hx H locs ls hP hS hl => lv_aload hexec hb hd (lv_at hl q hq) (k hx H locs ls hP hS hl)
theorem tr_istore_n (hX : ok G cc nL own ret fr lo) {kk : Fin 4} {i : Nat} {v : Int32} {lv2 : List (Nat × Value)} (hd : decode cc pc = .ok (.istore_n kk, 1)) (hi : (kk : Nat) = i) (hn : i < nL) (hl2 : (i, Value.int v) :: lv.filter (fun q => !(q.1 == i) && !(q.1 + 1 == i && q.2.category == 2)) = lv2) (k : T G x s (pc + 1) lv2 st) : T G x s pc lv (.int v :: st) := by
  obtain ⟨E, ⟨p, e, R, s0, m, args, below, meth, cde, A, cells, slots⟩, nL0, Q, r⟩ := G
  obtain ⟨hexec, hb, hml, rfl, hown, hts, hK, hD, hr, hlocks, ⟨hfr, hlo, hc, hs⟩, hst⟩ := hX
  exact fun hx H locs ls hP hS hl => lv_istore_n hexec hb hd hi hl hn hl2 (fun ls2 hl3 => k hx H locs ls2 hP hS hl3)
theorem tr_istore (hX : ok G cc nL own ret fr lo) {i : Nat} {v : Int32} {lv2 : List (Nat × Value)} (hd : decode cc pc = .ok (.istore i, 2)) (hn : i < nL) (hl2 : (i, Value.int v) :: lv.filter (fun q => !(q.1 == i) && !(q.1 + 1 == i && q.2.category == 2)) = lv2) (k : T G x s (pc + 2) lv2 st) : T G x s pc lv (.int v :: st) := by
  obtain ⟨E, ⟨p, e, R, s0, m, args, below, meth, cde, A, cells, slots⟩, nL0, Q, r⟩ := G
  obtain ⟨hexec, hb, hml, rfl, hown, hts, hK, hD, hr, hlocks, ⟨hfr, hlo, hc, hs⟩, hst⟩ := hX
  exact fun hx H locs ls hP hS hl => lv_istore hexec hb hd hl hn hl2 (fun ls2 hl3 => k hx H locs ls2 hP hS hl3)
theorem tr_iinc (hX : ok G cc nL own ret fr lo) {i : Nat} (q : Nat) {n : Int} {v v2 : Int32} {lv2 : List (Nat × Value)} (hd : decode cc pc = .ok (.iinc i n, 3)) (hq : lv[q]? = some (i, .int v)) (hv : v + Int32.ofInt n = v2) (hn : i < nL) (hl2 : (i, Value.int v2) :: lv.filter (fun q => !(q.1 == i) && !(q.1 + 1 == i && q.2.category == 2)) = lv2) (k : T G x s (pc + 3) lv2 st) : T G x s pc lv st := by
  obtain ⟨E, ⟨p, e, R, s0, m, args, below, meth, cde, A, cells, slots⟩, nL0, Q, r⟩ := G
  obtain ⟨hexec, hb, hml, rfl, hown, hts, hK, hD, hr, hlocks, ⟨hfr, hlo, hc, hs⟩, hst⟩ := hX
  exact fun hx H locs ls hP hS hl => lv_iinc hexec hb hd hl hq hv hn hl2 (fun ls2 hl3 => k hx H locs ls2 hP hS hl3)
theorem tr_lv (ks : List Nat) {lv2 : List (Nat × Value)} (h : lv_pick lv ks = lv2) (k : T G x s pc lv2 st) : T G x s pc lv st := by
  obtain ⟨E, ⟨p, e, R, s0, m, args, below, meth, cde, A, cells, slots⟩, nL0, Q, r⟩ := G
  exact fun hx H locs ls hP hS hl => k hx H locs ls hP hS (lv_sub hl ks h)
theorem tr_iadd (hX : ok G cc nL own ret fr lo) {a b : Int32} (hd : decode cc pc = .ok (.iadd, 1)) (k : T G x s (pc + 1) lv (.int (a + b) :: st)) : T G x s pc lv (.int b :: .int a :: st) := by
  obtain ⟨E, ⟨p, e, R, s0, m, args, below, meth, cde, A, cells, slots⟩, nL0, Q, r⟩ := G
  obtain ⟨hexec, hb, hml, rfl, hown, hts, hK, hD, hr, hlocks, ⟨hfr, hlo, hc, hs⟩, hst⟩ := hX
  exact fun hx H locs ls hP hS hl => lv_iadd hexec hb hd (k hx H locs ls hP hS hl)
theorem tr_isub (hX : ok G cc nL own ret fr lo) {a b : Int32} (hd : decode cc pc = .ok (.isub, 1)) (k : T G x s (pc + 1) lv (.int (a - b) :: st)) : T G x s pc lv (.int b :: .int a :: st) := by
  obtain ⟨E, ⟨p, e, R, s0, m, args, below, meth, cde, A, cells, slots⟩, nL0, Q, r⟩ := G
  obtain ⟨hexec, hb, hml, rfl, hown, hts, hK, hD, hr, hlocks, ⟨hfr, hlo, hc, hs⟩, hst⟩ := hX
  exact fun hx H locs ls hP hS hl => lv_isub hexec hb hd (k hx H locs ls hP hS hl)
theorem tr_imul (hX : ok G cc nL own ret fr lo) {a b : Int32} (hd : decode cc pc = .ok (.imul, 1)) (k : T G x s (pc + 1) lv (.int (a * b) :: st)) : T G x s pc lv (.int b :: .int a :: st) := by
  obtain ⟨E, ⟨p, e, R, s0, m, args, below, meth, cde, A, cells, slots⟩, nL0, Q, r⟩ := G
  obtain ⟨hexec, hb, hml, rfl, hown, hts, hK, hD, hr, hlocks, ⟨hfr, hlo, hc, hs⟩, hst⟩ := hX
  exact fun hx H locs ls hP hS hl => lv_imul hexec hb hd (k hx H locs ls hP hS hl)
theorem tr_iand (hX : ok G cc nL own ret fr lo) {a b : Int32} (hd : decode cc pc = .ok (.iand, 1)) (k : T G x s (pc + 1) lv (.int (a &&& b) :: st)) : T G x s pc lv (.int b :: .int a :: st) := by
  obtain ⟨E, ⟨p, e, R, s0, m, args, below, meth, cde, A, cells, slots⟩, nL0, Q, r⟩ := G
  obtain ⟨hexec, hb, hml, rfl, hown, hts, hK, hD, hr, hlocks, ⟨hfr, hlo, hc, hs⟩, hst⟩ := hX
  exact fun hx H locs ls hP hS hl => lv_iand hexec hb hd (k hx H locs ls hP hS hl)
theorem tr_ior (hX : ok G cc nL own ret fr lo) {a b : Int32} (hd : decode cc pc = .ok (.ior, 1)) (k : T G x s (pc + 1) lv (.int (a ||| b) :: st)) : T G x s pc lv (.int b :: .int a :: st) := by
  obtain ⟨E, ⟨p, e, R, s0, m, args, below, meth, cde, A, cells, slots⟩, nL0, Q, r⟩ := G
  obtain ⟨hexec, hb, hml, rfl, hown, hts, hK, hD, hr, hlocks, ⟨hfr, hlo, hc, hs⟩, hst⟩ := hX
  exact fun hx H locs ls hP hS hl => lv_ior hexec hb hd (k hx H locs ls hP hS hl)
theorem tr_ixor (hX : ok G cc nL own ret fr lo) {a b : Int32} (hd : decode cc pc = .ok (.ixor, 1)) (k : T G x s (pc + 1) lv (.int (a ^^^ b) :: st)) : T G x s pc lv (.int b :: .int a :: st) := by
  obtain ⟨E, ⟨p, e, R, s0, m, args, below, meth, cde, A, cells, slots⟩, nL0, Q, r⟩ := G
  obtain ⟨hexec, hb, hml, rfl, hown, hts, hK, hD, hr, hlocks, ⟨hfr, hlo, hc, hs⟩, hst⟩ := hX
  exact fun hx H locs ls hP hS hl => lv_ixor hexec hb hd (k hx H locs ls hP hS hl)
theorem tr_ishl (hX : ok G cc nL own ret fr lo) {a b : Int32} (hd : decode cc pc = .ok (.ishl, 1)) (k : T G x s (pc + 1) lv (.int (a <<< (b &&& 31)) :: st)) : T G x s pc lv (.int b :: .int a :: st) := by
  obtain ⟨E, ⟨p, e, R, s0, m, args, below, meth, cde, A, cells, slots⟩, nL0, Q, r⟩ := G
  obtain ⟨hexec, hb, hml, rfl, hown, hts, hK, hD, hr, hlocks, ⟨hfr, hlo, hc, hs⟩, hst⟩ := hX
  exact fun hx H locs ls hP hS hl => lv_ishl hexec hb hd (k hx H locs ls hP hS hl)
theorem tr_ishr (hX : ok G cc nL own ret fr lo) {a b : Int32} (hd : decode cc pc = .ok (.ishr, 1)) (k : T G x s (pc + 1) lv (.int (a >>> (b &&& 31)) :: st)) : T G x s pc lv (.int b :: .int a :: st) := by
  obtain ⟨E, ⟨p, e, R, s0, m, args, below, meth, cde, A, cells, slots⟩, nL0, Q, r⟩ := G
  obtain ⟨hexec, hb, hml, rfl, hown, hts, hK, hD, hr, hlocks, ⟨hfr, hlo, hc, hs⟩, hst⟩ := hX
  exact fun hx H locs ls hP hS hl => lv_ishr hexec hb hd (k hx H locs ls hP hS hl)
theorem tr_ineg (hX : ok G cc nL own ret fr lo) {a : Int32} (hd : decode cc pc = .ok (.ineg, 1)) (k : T G x s (pc + 1) lv (.int (-a) :: st)) : T G x s pc lv (.int a :: st) := by
  obtain ⟨E, ⟨p, e, R, s0, m, args, below, meth, cde, A, cells, slots⟩, nL0, Q, r⟩ := G
  obtain ⟨hexec, hb, hml, rfl, hown, hts, hK, hD, hr, hlocks, ⟨hfr, hlo, hc, hs⟩, hst⟩ := hX
  exact fun hx H locs ls hP hS hl => lv_ineg hexec hb hd (k hx H locs ls hP hS hl)
def ushr (a b : Int32) : Int32 := (a.toUInt32 >>> (b.toUInt32 &&& Int32.toUInt32 31)).toInt32
theorem tr_iushr (hX : ok G cc nL own ret fr lo) {a b : Int32} (hd : decode cc pc = .ok (.iushr, 1)) (k : T G x s (pc + 1) lv (.int (ushr a b) :: st)) : T G x s pc lv (.int b :: .int a :: st) := by
  obtain ⟨E, ⟨p, e, R, s0, m, args, below, meth, cde, A, cells, slots⟩, nL0, Q, r⟩ := G
  obtain ⟨hexec, hb, hml, rfl, hown, hts, hK, hD, hr, hlocks, ⟨hfr, hlo, hc, hs⟩, hst⟩ := hX
  exact fun hx H locs ls hP hS hl => lv_iushr hexec hb hd rfl (k hx H locs ls hP hS hl)
def irm (a b : Int32) : Int32 := a - a / b * b
def ck (b : Bool) (x : Option (Int32 × Hp)) : Option (Int32 × Hp) := if b = true then x else none
theorem ck_some {b : Bool} {x : Option (Int32 × Hp)} {r : Int32 × Hp} (h : ck b x = some r) : b = true ∧ x = some r := by
  unfold ck at h
  split at h
  · exact ⟨by assumption, h⟩
  · cases h
def inR (i : Int32) (n : Nat) : Bool := decide (¬ (i < 0 ∨ n ≤ i.toNatClampNeg))
theorem inR_in {i : Int32} {n : Nat} (h : inR i n = true) : vp_in i n := by
  unfold vp_in
  exact of_decide_eq_true h
def ne0 (i : Int32) : Bool := decide (¬ i = 0)
def ix (i : Int32) : Nat := i.toNatClampNeg
theorem tr_idiv (hX : ok G cc nL own ret fr lo) {a b : Int32} (hd : decode cc pc = .ok (.idiv, 1)) (k : T G x s (pc + 1) lv (.int (a / b) :: st)) : T G (ck (ne0 b) x) s pc lv (.int b :: .int a :: st) := by
  obtain ⟨E, ⟨p, e, R, s0, m, args, below, meth, cde, A, cells, slots⟩, nL0, Q, r⟩ := G
  obtain ⟨hexec, hb, hml, rfl, hown, hts, hK, hD, hr, hlocks, ⟨hfr, hlo, hc, hs⟩, hst⟩ := hX
  exact fun hx H locs ls hP hS hl => lv_idiv hexec hb hd (of_decide_eq_true (ck_some hx).1) (k (ck_some hx).2 H locs ls hP hS hl)
theorem tr_idivC (hX : ok G cc nL own ret fr lo) {a b : Int32} (hd : decode cc pc = .ok (.idiv, 1)) (hn : ¬ b = 0) (k : T G x s (pc + 1) lv (.int (a / b) :: st)) : T G x s pc lv (.int b :: .int a :: st) := by
  obtain ⟨E, ⟨p, e, R, s0, m, args, below, meth, cde, A, cells, slots⟩, nL0, Q, r⟩ := G
  obtain ⟨hexec, hb, hml, rfl, hown, hts, hK, hD, hr, hlocks, ⟨hfr, hlo, hc, hs⟩, hst⟩ := hX
  exact fun hx H locs ls hP hS hl => lv_idiv hexec hb hd hn (k hx H locs ls hP hS hl)
theorem tr_irem (hX : ok G cc nL own ret fr lo) {a b : Int32} (hd : decode cc pc = .ok (.irem, 1)) (k : T G x s (pc + 1) lv (.int (irm a b) :: st)) : T G (ck (ne0 b) x) s pc lv (.int b :: .int a :: st) := by
  obtain ⟨E, ⟨p, e, R, s0, m, args, below, meth, cde, A, cells, slots⟩, nL0, Q, r⟩ := G
  obtain ⟨hexec, hb, hml, rfl, hown, hts, hK, hD, hr, hlocks, ⟨hfr, hlo, hc, hs⟩, hst⟩ := hX
  exact fun hx H locs ls hP hS hl => lv_irem hexec hb hd (of_decide_eq_true (ck_some hx).1) (k (ck_some hx).2 H locs ls hP hS hl)
theorem tr_iremC (hX : ok G cc nL own ret fr lo) {a b : Int32} (hd : decode cc pc = .ok (.irem, 1)) (hn : ¬ b = 0) (k : T G x s (pc + 1) lv (.int (irm a b) :: st)) : T G x s pc lv (.int b :: .int a :: st) := by
  obtain ⟨E, ⟨p, e, R, s0, m, args, below, meth, cde, A, cells, slots⟩, nL0, Q, r⟩ := G
  obtain ⟨hexec, hb, hml, rfl, hown, hts, hK, hD, hr, hlocks, ⟨hfr, hlo, hc, hs⟩, hst⟩ := hX
  exact fun hx H locs ls hP hS hl => lv_irem hexec hb hd hn (k hx H locs ls hP hS hl)
theorem tr_dup (hX : ok G cc nL own ret fr lo) {v : Value} (hd : decode cc pc = .ok (.dup, 1)) (hv : v.category = 1) (k : T G x s (pc + 1) lv (v :: v :: st)) : T G x s pc lv (v :: st) := by
  obtain ⟨E, ⟨p, e, R, s0, m, args, below, meth, cde, A, cells, slots⟩, nL0, Q, r⟩ := G
  obtain ⟨hexec, hb, hml, rfl, hown, hts, hK, hD, hr, hlocks, ⟨hfr, hlo, hc, hs⟩, hst⟩ := hX
  exact fun hx H locs ls hP hS hl => lv_dup hexec hb hd hv (k hx H locs ls hP hS hl)
theorem tr_dup2 (hX : ok G cc nL own ret fr lo) {v u : Value} (hd : decode cc pc = .ok (.dup2, 1)) (hv : v.category = 1) (hu : u.category = 1) (k : T G x s (pc + 1) lv (v :: u :: v :: u :: st)) : T G x s pc lv (v :: u :: st) := by
  obtain ⟨E, ⟨p, e, R, s0, m, args, below, meth, cde, A, cells, slots⟩, nL0, Q, r⟩ := G
  obtain ⟨hexec, hb, hml, rfl, hown, hts, hK, hD, hr, hlocks, ⟨hfr, hlo, hc, hs⟩, hst⟩ := hX
  exact fun hx H locs ls hP hS hl => lv_dup2_11 hexec hb hd hv hu (k hx H locs ls hP hS hl)
theorem tr_if_eq (hX : ok G cc nL own ret fr lo) {a : Int32} {off : Int} (tgt : Nat) (hd : decode cc pc = .ok (.ifCond .eq off, 3)) (ht : (pc : Int) + off = (tgt : Int)) (ka : T G xa s tgt lv st) (kb : T G xb s (pc + 3) lv st) : T G (if a = 0 then xa else xb) s pc lv (.int a :: st) := by
  obtain ⟨E, ⟨p, e, R, s0, m, args, below, meth, cde, A, cells, slots⟩, nL0, Q, r⟩ := G
  obtain ⟨hexec, hb, hml, rfl, hown, hts, hK, hD, hr, hlocks, ⟨hfr, hlo, hc, hs⟩, hst⟩ := hX
  exact fun hx H locs ls hP hS hl => lv_if_eq hexec hb hd ht (fun hc => ka (by rw [if_pos hc] at hx; exact hx) H locs ls hP hS hl) (fun hc => kb (by rw [if_neg hc] at hx; exact hx) H locs ls hP hS hl)
theorem tr_if_ne (hX : ok G cc nL own ret fr lo) {a : Int32} {off : Int} (tgt : Nat) (hd : decode cc pc = .ok (.ifCond .ne off, 3)) (ht : (pc : Int) + off = (tgt : Int)) (ka : T G xa s tgt lv st) (kb : T G xb s (pc + 3) lv st) : T G (if a = 0 then xb else xa) s pc lv (.int a :: st) := by
  obtain ⟨E, ⟨p, e, R, s0, m, args, below, meth, cde, A, cells, slots⟩, nL0, Q, r⟩ := G
  obtain ⟨hexec, hb, hml, rfl, hown, hts, hK, hD, hr, hlocks, ⟨hfr, hlo, hc, hs⟩, hst⟩ := hX
  exact fun hx H locs ls hP hS hl => lv_if_ne hexec hb hd ht (fun hc => ka (by rw [if_neg hc] at hx; exact hx) H locs ls hP hS hl) (fun hc => kb (by rw [if_pos hc] at hx; exact hx) H locs ls hP hS hl)
theorem tr_if_lt (hX : ok G cc nL own ret fr lo) {a : Int32} {off : Int} (tgt : Nat) (hd : decode cc pc = .ok (.ifCond .lt off, 3)) (ht : (pc : Int) + off = (tgt : Int)) (ka : T G xa s tgt lv st) (kb : T G xb s (pc + 3) lv st) : T G (if a < 0 then xa else xb) s pc lv (.int a :: st) := by
  obtain ⟨E, ⟨p, e, R, s0, m, args, below, meth, cde, A, cells, slots⟩, nL0, Q, r⟩ := G
  obtain ⟨hexec, hb, hml, rfl, hown, hts, hK, hD, hr, hlocks, ⟨hfr, hlo, hc, hs⟩, hst⟩ := hX
  exact fun hx H locs ls hP hS hl => lv_if_lt hexec hb hd ht (fun hc => ka (by rw [if_pos hc] at hx; exact hx) H locs ls hP hS hl) (fun hc => kb (by rw [if_neg hc] at hx; exact hx) H locs ls hP hS hl)
theorem tr_if_ge (hX : ok G cc nL own ret fr lo) {a : Int32} {off : Int} (tgt : Nat) (hd : decode cc pc = .ok (.ifCond .ge off, 3)) (ht : (pc : Int) + off = (tgt : Int)) (ka : T G xa s tgt lv st) (kb : T G xb s (pc + 3) lv st) : T G (if 0 ≤ a then xa else xb) s pc lv (.int a :: st) := by
  obtain ⟨E, ⟨p, e, R, s0, m, args, below, meth, cde, A, cells, slots⟩, nL0, Q, r⟩ := G
  obtain ⟨hexec, hb, hml, rfl, hown, hts, hK, hD, hr, hlocks, ⟨hfr, hlo, hc, hs⟩, hst⟩ := hX
  exact fun hx H locs ls hP hS hl => lv_if_ge hexec hb hd ht (fun hc => ka (by rw [if_pos hc] at hx; exact hx) H locs ls hP hS hl) (fun hc => kb (by rw [if_neg hc] at hx; exact hx) H locs ls hP hS hl)
theorem tr_if_gt (hX : ok G cc nL own ret fr lo) {a : Int32} {off : Int} (tgt : Nat) (hd : decode cc pc = .ok (.ifCond .gt off, 3)) (ht : (pc : Int) + off = (tgt : Int)) (ka : T G xa s tgt lv st) (kb : T G xb s (pc + 3) lv st) : T G (if 0 < a then xa else xb) s pc lv (.int a :: st) := by
  obtain ⟨E, ⟨p, e, R, s0, m, args, below, meth, cde, A, cells, slots⟩, nL0, Q, r⟩ := G
  obtain ⟨hexec, hb, hml, rfl, hown, hts, hK, hD, hr, hlocks, ⟨hfr, hlo, hc, hs⟩, hst⟩ := hX
  exact fun hx H locs ls hP hS hl => lv_if_gt hexec hb hd ht (fun hc => ka (by rw [if_pos hc] at hx; exact hx) H locs ls hP hS hl) (fun hc => kb (by rw [if_neg hc] at hx; exact hx) H locs ls hP hS hl)
theorem tr_if_le (hX : ok G cc nL own ret fr lo) {a : Int32} {off : Int} (tgt : Nat) (hd : decode cc pc = .ok (.ifCond .le off, 3)) (ht : (pc : Int) + off = (tgt : Int)) (ka : T G xa s tgt lv st) (kb : T G xb s (pc + 3) lv st) : T G (if a ≤ 0 then xa else xb) s pc lv (.int a :: st) := by
  obtain ⟨E, ⟨p, e, R, s0, m, args, below, meth, cde, A, cells, slots⟩, nL0, Q, r⟩ := G
  obtain ⟨hexec, hb, hml, rfl, hown, hts, hK, hD, hr, hlocks, ⟨hfr, hlo, hc, hs⟩, hst⟩ := hX
  exact fun hx H locs ls hP hS hl => lv_if_le hexec hb hd ht (fun hc => ka (by rw [if_pos hc] at hx; exact hx) H locs ls hP hS hl) (fun hc => kb (by rw [if_neg hc] at hx; exact hx) H locs ls hP hS hl)
theorem tr_icmp_eq (hX : ok G cc nL own ret fr lo) {a b : Int32} {off : Int} (tgt : Nat) (hd : decode cc pc = .ok (.if_icmp .eq off, 3)) (ht : (pc : Int) + off = (tgt : Int)) (ka : T G xa s tgt lv st) (kb : T G xb s (pc + 3) lv st) : T G (if a = b then xa else xb) s pc lv (.int b :: .int a :: st) := by
  obtain ⟨E, ⟨p, e, R, s0, m, args, below, meth, cde, A, cells, slots⟩, nL0, Q, r⟩ := G
  obtain ⟨hexec, hb, hml, rfl, hown, hts, hK, hD, hr, hlocks, ⟨hfr, hlo, hc, hs⟩, hst⟩ := hX
  exact fun hx H locs ls hP hS hl => lv_icmp_eq hexec hb hd ht (fun hc => ka (by rw [if_pos hc] at hx; exact hx) H locs ls hP hS hl) (fun hc => kb (by rw [if_neg hc] at hx; exact hx) H locs ls hP hS hl)
theorem tr_icmp_ne (hX : ok G cc nL own ret fr lo) {a b : Int32} {off : Int} (tgt : Nat) (hd : decode cc pc = .ok (.if_icmp .ne off, 3)) (ht : (pc : Int) + off = (tgt : Int)) (ka : T G xa s tgt lv st) (kb : T G xb s (pc + 3) lv st) : T G (if a = b then xb else xa) s pc lv (.int b :: .int a :: st) := by
  obtain ⟨E, ⟨p, e, R, s0, m, args, below, meth, cde, A, cells, slots⟩, nL0, Q, r⟩ := G
  obtain ⟨hexec, hb, hml, rfl, hown, hts, hK, hD, hr, hlocks, ⟨hfr, hlo, hc, hs⟩, hst⟩ := hX
  exact fun hx H locs ls hP hS hl => lv_icmp_ne hexec hb hd ht (fun hc => ka (by rw [if_neg hc] at hx; exact hx) H locs ls hP hS hl) (fun hc => kb (by rw [if_pos hc] at hx; exact hx) H locs ls hP hS hl)
theorem tr_icmp_lt (hX : ok G cc nL own ret fr lo) {a b : Int32} {off : Int} (tgt : Nat) (hd : decode cc pc = .ok (.if_icmp .lt off, 3)) (ht : (pc : Int) + off = (tgt : Int)) (ka : T G xa s tgt lv st) (kb : T G xb s (pc + 3) lv st) : T G (if a < b then xa else xb) s pc lv (.int b :: .int a :: st) := by
  obtain ⟨E, ⟨p, e, R, s0, m, args, below, meth, cde, A, cells, slots⟩, nL0, Q, r⟩ := G
  obtain ⟨hexec, hb, hml, rfl, hown, hts, hK, hD, hr, hlocks, ⟨hfr, hlo, hc, hs⟩, hst⟩ := hX
  exact fun hx H locs ls hP hS hl => lv_icmp_lt hexec hb hd ht (fun hc => ka (by rw [if_pos hc] at hx; exact hx) H locs ls hP hS hl) (fun hc => kb (by rw [if_neg hc] at hx; exact hx) H locs ls hP hS hl)
theorem tr_icmp_ge (hX : ok G cc nL own ret fr lo) {a b : Int32} {off : Int} (tgt : Nat) (hd : decode cc pc = .ok (.if_icmp .ge off, 3)) (ht : (pc : Int) + off = (tgt : Int)) (ka : T G xa s tgt lv st) (kb : T G xb s (pc + 3) lv st) : T G (if b ≤ a then xa else xb) s pc lv (.int b :: .int a :: st) := by
  obtain ⟨E, ⟨p, e, R, s0, m, args, below, meth, cde, A, cells, slots⟩, nL0, Q, r⟩ := G
  obtain ⟨hexec, hb, hml, rfl, hown, hts, hK, hD, hr, hlocks, ⟨hfr, hlo, hc, hs⟩, hst⟩ := hX
  exact fun hx H locs ls hP hS hl => lv_icmp_ge hexec hb hd ht (fun hc => ka (by rw [if_pos hc] at hx; exact hx) H locs ls hP hS hl) (fun hc => kb (by rw [if_neg hc] at hx; exact hx) H locs ls hP hS hl)
theorem tr_icmp_gt (hX : ok G cc nL own ret fr lo) {a b : Int32} {off : Int} (tgt : Nat) (hd : decode cc pc = .ok (.if_icmp .gt off, 3)) (ht : (pc : Int) + off = (tgt : Int)) (ka : T G xa s tgt lv st) (kb : T G xb s (pc + 3) lv st) : T G (if b < a then xa else xb) s pc lv (.int b :: .int a :: st) := by
  obtain ⟨E, ⟨p, e, R, s0, m, args, below, meth, cde, A, cells, slots⟩, nL0, Q, r⟩ := G
  obtain ⟨hexec, hb, hml, rfl, hown, hts, hK, hD, hr, hlocks, ⟨hfr, hlo, hc, hs⟩, hst⟩ := hX
  exact fun hx H locs ls hP hS hl => lv_icmp_gt hexec hb hd ht (fun hc => ka (by rw [if_pos hc] at hx; exact hx) H locs ls hP hS hl) (fun hc => kb (by rw [if_neg hc] at hx; exact hx) H locs ls hP hS hl)
theorem tr_icmp_le (hX : ok G cc nL own ret fr lo) {a b : Int32} {off : Int} (tgt : Nat) (hd : decode cc pc = .ok (.if_icmp .le off, 3)) (ht : (pc : Int) + off = (tgt : Int)) (ka : T G xa s tgt lv st) (kb : T G xb s (pc + 3) lv st) : T G (if a ≤ b then xa else xb) s pc lv (.int b :: .int a :: st) := by
  obtain ⟨E, ⟨p, e, R, s0, m, args, below, meth, cde, A, cells, slots⟩, nL0, Q, r⟩ := G
  obtain ⟨hexec, hb, hml, rfl, hown, hts, hK, hD, hr, hlocks, ⟨hfr, hlo, hc, hs⟩, hst⟩ := hX
  exact fun hx H locs ls hP hS hl => lv_icmp_le hexec hb hd ht (fun hc => ka (by rw [if_pos hc] at hx; exact hx) H locs ls hP hS hl) (fun hc => kb (by rw [if_neg hc] at hx; exact hx) H locs ls hP hS hl)
theorem tr_goto (hX : ok G cc nL own ret fr lo) {off : Int} (tgt : Nat) (hd : decode cc pc = .ok (.goto off, 3)) (ht : (pc : Int) + off = (tgt : Int)) (k : T G x s tgt lv st) : T G x s pc lv st := by
  obtain ⟨E, ⟨p, e, R, s0, m, args, below, meth, cde, A, cells, slots⟩, nL0, Q, r⟩ := G
  obtain ⟨hexec, hb, hml, rfl, hown, hts, hK, hD, hr, hlocks, ⟨hfr, hlo, hc, hs⟩, hst⟩ := hX
  exact fun hx H locs ls hP hS hl => lv_goto hexec hb hd ht (k hx H locs ls hP hS hl)
theorem tr_getI (hX : ok G cc nL own ret fr lo) {ci N i : Nat} {C : String} {Tb : u_T} (c k : Nat) {fs : List (Option Nat)} (hc0 : c < NC) (hs0 : sch c = .inr (.inr (ci, fs))) (hk0 : fs[k]? = some (none)) (hcl : classes[ci]? = some (C, Tb, N)) (hkN : k < N) (hin : ∀ w ∈ u_ws C Tb N, w ∈ gw) (hw : Cond.fieldLink own i (Tb k).1 (Tb k).2.1 (Tb k).2.2.1 ∈ gw) (hd : decode cc pc = .ok (.getfield i, 3)) (k0 : T G x s (pc + 3) lv (.int (s c k) :: st)) : T G x s pc lv (rf G.1 c :: st) := by
  obtain ⟨E, ⟨p, e, R, s0, m, args, below, meth, cde, A, cells, slots⟩, nL0, Q, r⟩ := G
  obtain ⟨hexec, hb, hml, rfl, hown, hts, hK, hD, hr, hlocks, ⟨hfr, hlo, hc, hs⟩, hst⟩ := hX
  have hv : (fs.mapIdx (fun k f => fval E s c k f))[k]? = some (fval E s c k (none)) := by rw [List.getElem?_mapIdx, hk0]; rfl
  exact fun hx H locs ls hP hS hl => va_get (C := C) (T := Tb) (N := N) (ci := ci) hexec hb hts hin hown hK hP c (by rw [wd_get E s hc0, hs0]; rfl) hcl k hkN (hts _ hw) (fun _ h9 => h9) hv hd (k0 hx H locs ls hP hS hl)
theorem tr_getR (hX : ok G cc nL own ret fr lo) {ci N i : Nat} {C : String} {Tb : u_T} (c k : Nat) {d : Nat} {fs : List (Option Nat)} (hc0 : c < NC) (hs0 : sch c = .inr (.inr (ci, fs))) (hk0 : fs[k]? = some (some d)) (hcl : classes[ci]? = some (C, Tb, N)) (hkN : k < N) (hin : ∀ w ∈ u_ws C Tb N, w ∈ gw) (hw : Cond.fieldLink own i (Tb k).1 (Tb k).2.1 (Tb k).2.2.1 ∈ gw) (hd : decode cc pc = .ok (.getfield i, 3)) (k0 : T G x s (pc + 3) lv (rf G.1 d :: st)) : T G x s pc lv (rf G.1 c :: st) := by
  obtain ⟨E, ⟨p, e, R, s0, m, args, below, meth, cde, A, cells, slots⟩, nL0, Q, r⟩ := G
  obtain ⟨hexec, hb, hml, rfl, hown, hts, hK, hD, hr, hlocks, ⟨hfr, hlo, hc, hs⟩, hst⟩ := hX
  have hv : (fs.mapIdx (fun k f => fval E s c k f))[k]? = some (fval E s c k (some d)) := by rw [List.getElem?_mapIdx, hk0]; rfl
  exact fun hx H locs ls hP hS hl => va_get (C := C) (T := Tb) (N := N) (ci := ci) hexec hb hts hin hown hK hP c (by rw [wd_get E s hc0, hs0]; rfl) hcl k hkN (hts _ hw) (fun _ h9 => h9) hv hd (k0 hx H locs ls hP hS hl)
theorem tr_getNI (hX : ok G cc nL own ret fr lo) {ci N i : Nat} {C : String} {Tb : u_T} {h : String} (c k : Nat) {fs : List (Option Nat)} (hc0 : c < NC) (hs0 : sch c = .inr (.inr (ci, fs))) (hk0 : fs[k]? = some (none)) (hcl : classes[ci]? = some (C, Tb, N)) (hkN : k < N) (hin : ∀ w ∈ u_ws C Tb N, w ∈ gw) (hw : Cond.fieldLinkNest own i (Tb k).1 (Tb k).2.1 (Tb k).2.2.1 h ∈ lw_tbl) (hd : decode cc pc = .ok (.getfield i, 3)) (k0 : T G x s (pc + 3) lv (.int (s c k) :: st)) : T G x s pc lv (rf G.1 c :: st) := by
  obtain ⟨E, ⟨p, e, R, s0, m, args, below, meth, cde, A, cells, slots⟩, nL0, Q, r⟩ := G
  obtain ⟨hexec, hb, hml, rfl, hown, hts, hK, hD, hr, hlocks, ⟨hfr, hlo, hc, hs⟩, hst⟩ := hX
  have hv : (fs.mapIdx (fun k f => fval E s c k f))[k]? = some (fval E s c k (none)) := by rw [List.getElem?_mapIdx, hk0]; rfl
  exact fun hx H locs ls hP hS hl => va_getN (C := C) (T := Tb) (N := N) (ci := ci) hexec hb hts hin hown hK hP c (by rw [wd_get E s hc0, hs0]; rfl) hcl k hkN (va_Nw.use (A := args) rfl (hst.1 _ _ _ _ _ _ hw)) (fun _ h9 => h9) hv hd (k0 hx H locs ls hP hS hl)
theorem tr_getNR (hX : ok G cc nL own ret fr lo) {ci N i : Nat} {C : String} {Tb : u_T} {h : String} (c k : Nat) {d : Nat} {fs : List (Option Nat)} (hc0 : c < NC) (hs0 : sch c = .inr (.inr (ci, fs))) (hk0 : fs[k]? = some (some d)) (hcl : classes[ci]? = some (C, Tb, N)) (hkN : k < N) (hin : ∀ w ∈ u_ws C Tb N, w ∈ gw) (hw : Cond.fieldLinkNest own i (Tb k).1 (Tb k).2.1 (Tb k).2.2.1 h ∈ lw_tbl) (hd : decode cc pc = .ok (.getfield i, 3)) (k0 : T G x s (pc + 3) lv (rf G.1 d :: st)) : T G x s pc lv (rf G.1 c :: st) := by
  obtain ⟨E, ⟨p, e, R, s0, m, args, below, meth, cde, A, cells, slots⟩, nL0, Q, r⟩ := G
  obtain ⟨hexec, hb, hml, rfl, hown, hts, hK, hD, hr, hlocks, ⟨hfr, hlo, hc, hs⟩, hst⟩ := hX
  have hv : (fs.mapIdx (fun k f => fval E s c k f))[k]? = some (fval E s c k (some d)) := by rw [List.getElem?_mapIdx, hk0]; rfl
  exact fun hx H locs ls hP hS hl => va_getN (C := C) (T := Tb) (N := N) (ci := ci) hexec hb hts hin hown hK hP c (by rw [wd_get E s hc0, hs0]; rfl) hcl k hkN (va_Nw.use (A := args) rfl (hst.1 _ _ _ _ _ _ hw)) (fun _ h9 => h9) hv hd (k0 hx H locs ls hP hS hl)
theorem tr_putI (hX : ok G cc nL own ret fr lo) {ci N i : Nat} {C : String} {Tb : u_T} (c k : Nat) {v : Int32} {fs : List (Option Nat)} (ty0 : Nat → FieldType) (hty : ∀ k, k < N → parseFieldDescriptor (Tb k).2.2.1 = some (ty0 k)) (hnm : ∀ a, a < N → ∀ b, b < N → a ≠ b → (Tb a).2.1 ≠ (Tb b).2.1) (hc0 : c < NC) (hs0 : sch c = .inr (.inr (ci, fs))) (hk0 : fs[k]? = some none) (hcl : classes[ci]? = some (C, Tb, N)) (hkN : k < N) (hin : ∀ w ∈ u_ws C Tb N, w ∈ gw) (hw : Cond.fieldLink own i (Tb k).1 (Tb k).2.1 (Tb k).2.2.1 ∈ gw) (hfin : (Tb k).2.2.2 = false) (hdsc : parseFieldDescriptor (Tb k).2.2.1 = some .int) (hd : decode cc pc = .ok (.putfield i, 3)) {kf : Hp → Option (Int32 × Hp)} (k0 : ∀ s2 : Hp, T G (kf s2) s2 (pc + 3) lv st) : T G (sb (hset s c k v) kf) s pc lv (.int v :: rf G.1 c :: st) := by
  obtain ⟨E, ⟨p, e, R, s0, m, args, below, meth, cde, A, cells, slots⟩, nL0, Q, r⟩ := G
  obtain ⟨hexec, hb, hml, rfl, hown, hts, hK, hD, hr, hlocks, ⟨hfr, hlo, hc, hs⟩, hst⟩ := hX
  have hlen : k < (fs.mapIdx (fun k f => fval E s c k f)).length := by rw [List.length_mapIdx]; exact (List.getElem?_eq_some_iff.mp hk0).1
  exact fun hx H locs ls hP hS hl => va_put (C := C) (T := Tb) (N := N) (ci := ci) (ty := .int) hexec hb hts hin ty0 hty hnm hown hK hP (wd_D hD) hS c (by rw [wd_get E s hc0, hs0]; rfl) hcl k hkN (hts _ hw) (fun _ h9 => h9) hfin hdsc (vp_nar_int v) rfl hlen hd (fun H1 locs1 hP1 hD1 hS1 => k0 _ hx H1 locs1 ls (by rw [← wd_obj hc0 hs0 hk0]; exact hP1) hS1 hl)
theorem tr_putNI (hX : ok G cc nL own ret fr lo) {ci N i : Nat} {C : String} {Tb : u_T} {h : String} (c k : Nat) {v : Int32} {fs : List (Option Nat)} (ty0 : Nat → FieldType) (hty : ∀ k, k < N → parseFieldDescriptor (Tb k).2.2.1 = some (ty0 k)) (hnm : ∀ a, a < N → ∀ b, b < N → a ≠ b → (Tb a).2.1 ≠ (Tb b).2.1) (hc0 : c < NC) (hs0 : sch c = .inr (.inr (ci, fs))) (hk0 : fs[k]? = some none) (hcl : classes[ci]? = some (C, Tb, N)) (hkN : k < N) (hin : ∀ w ∈ u_ws C Tb N, w ∈ gw) (hw : Cond.fieldLinkNest own i (Tb k).1 (Tb k).2.1 (Tb k).2.2.1 h ∈ lw_tbl) (hfin : (Tb k).2.2.2 = false) (hdsc : parseFieldDescriptor (Tb k).2.2.1 = some .int) (hd : decode cc pc = .ok (.putfield i, 3)) {kf : Hp → Option (Int32 × Hp)} (k0 : ∀ s2 : Hp, T G (kf s2) s2 (pc + 3) lv st) : T G (sb (hset s c k v) kf) s pc lv (.int v :: rf G.1 c :: st) := by
  obtain ⟨E, ⟨p, e, R, s0, m, args, below, meth, cde, A, cells, slots⟩, nL0, Q, r⟩ := G
  obtain ⟨hexec, hb, hml, rfl, hown, hts, hK, hD, hr, hlocks, ⟨hfr, hlo, hc, hs⟩, hst⟩ := hX
  have hlen : k < (fs.mapIdx (fun k f => fval E s c k f)).length := by rw [List.length_mapIdx]; exact (List.getElem?_eq_some_iff.mp hk0).1
  exact fun hx H locs ls hP hS hl => va_putN (C := C) (T := Tb) (N := N) (ci := ci) (ty := .int) hexec hb hts hin ty0 hty hnm hown hK hP (wd_D hD) hS c (by rw [wd_get E s hc0, hs0]; rfl) hcl k hkN (va_Nw.use (A := args) rfl (hst.1 _ _ _ _ _ _ hw)) (fun _ h9 => h9) hfin hdsc (vp_nar_int v) rfl hlen hd (fun H1 locs1 hP1 hD1 hS1 => k0 _ hx H1 locs1 ls (by rw [← wd_obj hc0 hs0 hk0]; exact hP1) hS1 hl)
theorem tr_iald (hX : ok G cc nL own ret fr lo) (c : Nat) {n : Nat} {i : Int32} (hc0 : c < NC) (hs0 : sch c = .inl (0, n)) (hd : decode cc pc = .ok (.iaload, 1)) (k0 : T G x s (pc + 1) lv (.int (s c (ix i)) :: st)) : T G (ck (inR i n) x) s pc lv (.int i :: rf G.1 c :: st) := by
  obtain ⟨E, ⟨p, e, R, s0, m, args, below, meth, cde, A, cells, slots⟩, nL0, Q, r⟩ := G
  obtain ⟨hexec, hb, hml, rfl, hown, hts, hK, hD, hr, hlocks, ⟨hfr, hlo, hc, hs⟩, hst⟩ := hX
  exact fun hx H locs ls hP hS hl => va_iald hexec hb hK hP c 0 (cA := E.2.2.1 0) (n := n) (f := s c) (by rw [wd_get E s hc0, hs0]; rfl) rfl (inR_in (ck_some hx).1) hd (k0 (ck_some hx).2 H locs ls hP hS hl)
theorem tr_zald (hX : ok G cc nL own ret fr lo) (c : Nat) {n : Nat} {i : Int32} (hc0 : c < NC) (hs0 : sch c = .inl (1, n)) (hd : decode cc pc = .ok (.baload, 1)) (k0 : T G x s (pc + 1) lv (.int (s c (ix i)) :: st)) : T G (ck (inR i n) x) s pc lv (.int i :: rf G.1 c :: st) := by
  obtain ⟨E, ⟨p, e, R, s0, m, args, below, meth, cde, A, cells, slots⟩, nL0, Q, r⟩ := G
  obtain ⟨hexec, hb, hml, rfl, hown, hts, hK, hD, hr, hlocks, ⟨hfr, hlo, hc, hs⟩, hst⟩ := hX
  exact fun hx H locs ls hP hS hl => va_zald hexec hb hK hP c 1 (cA := E.2.2.1 1) (n := n) (f := s c) (by rw [wd_get E s hc0, hs0]; rfl) rfl (inR_in (ck_some hx).1) hd (k0 (ck_some hx).2 H locs ls hP hS hl)
theorem tr_iast (hX : ok G cc nL own ret fr lo) (c : Nat) {n : Nat} {i v : Int32} (hc0 : c < NC) (hs0 : sch c = .inl (0, n)) (hd : decode cc pc = .ok (.iastore, 1)) {kf : Hp → Option (Int32 × Hp)} (k0 : ∀ s2 : Hp, T G (kf s2) s2 (pc + 1) lv st) : T G (ck (inR i n) (sb (hset s c (ix i) v) kf)) s pc lv (.int v :: .int i :: rf G.1 c :: st) := by
  obtain ⟨E, ⟨p, e, R, s0, m, args, below, meth, cde, A, cells, slots⟩, nL0, Q, r⟩ := G
  obtain ⟨hexec, hb, hml, rfl, hown, hts, hK, hD, hr, hlocks, ⟨hfr, hlo, hc, hs⟩, hst⟩ := hX
  exact fun hx H locs ls hP hS hl => va_iast hexec hb hK hP (wd_D hD) hS c 0 (cA := E.2.2.1 0) (n := n) (f := s c) (by rw [wd_get E s hc0, hs0]; rfl) rfl (inR_in (ck_some hx).1) hd (fun H1 locs1 hP1 hD1 hS1 => k0 _ (ck_some hx).2 H1 locs1 ls (by rw [← wd_arr hc0 hs0]; exact hP1) hS1 hl)
theorem tr_zast (hX : ok G cc nL own ret fr lo) (c : Nat) {n : Nat} {i v : Int32} (hc0 : c < NC) (hs0 : sch c = .inl (1, n)) (hv : vp_nar .boolean v = v) (hd : decode cc pc = .ok (.bastore, 1)) {kf : Hp → Option (Int32 × Hp)} (k0 : ∀ s2 : Hp, T G (kf s2) s2 (pc + 1) lv st) : T G (ck (inR i n) (sb (hset s c (ix i) v) kf)) s pc lv (.int v :: .int i :: rf G.1 c :: st) := by
  obtain ⟨E, ⟨p, e, R, s0, m, args, below, meth, cde, A, cells, slots⟩, nL0, Q, r⟩ := G
  obtain ⟨hexec, hb, hml, rfl, hown, hts, hK, hD, hr, hlocks, ⟨hfr, hlo, hc, hs⟩, hst⟩ := hX
  exact fun hx H locs ls hP hS hl => va_zast hexec hb hK hP (wd_D hD) hS c 1 (cA := E.2.2.1 1) (n := n) (f := s c) (by rw [wd_get E s hc0, hs0]; rfl) rfl (inR_in (ck_some hx).1) hd (fun H1 locs1 hP1 hD1 hS1 => k0 _ (ck_some hx).2 H1 locs1 ls (by rw [hv] at hP1; rw [← wd_arr hc0 hs0]; exact hP1) hS1 hl)
theorem tr_aald (hX : ok G cc nL own ret fr lo) (c : Nat) {n b : Nat} {i : Int32} (hc0 : c < NC) (hs0 : sch c = .inr (.inl (n, b))) (hd : decode cc pc = .ok (.aaload, 1)) (k0 : inR i n = true → T G x s (pc + 1) lv (rf G.1 (b + ix i) :: st)) : T G (ck (inR i n) x) s pc lv (.int i :: rf G.1 c :: st) := by
  obtain ⟨E, ⟨p, e, R, s0, m, args, below, meth, cde, A, cells, slots⟩, nL0, Q, r⟩ := G
  obtain ⟨hexec, hb, hml, rfl, hown, hts, hK, hD, hr, hlocks, ⟨hfr, hlo, hc, hs⟩, hst⟩ := hX
  intro hx H locs ls hP hS hl
  have hin : vp_in i n := inR_in (ck_some hx).1
  have hlt : i.toNatClampNeg < n := Nat.not_le.mp fun q => hin (Or.inr q)
  have he : (wd E s)[c]? = some (E.2.2.2 c, .inl (E.2.2.1 2, n, .inr (.inr (.inr (.inr (fun i => if i < n then some (E.2.2.2 (b + i)) else none)))))) := by rw [wd_get E s hc0, hs0]; rfl
  exact W.aald (v := rf E (b + ix i)) (ty := .array .int) hexec hb (hP c _ he) ((hK.2 2 _ rfl).1 n (fun j => va_rf (if j < n then some (E.2.2.2 (b + j)) else none))) rfl (fun q => by cases q) (by show ¬ (i < 0 ∨ (arrV _ _ _).slots.size ≤ _); rw [arrV_size]; exact hin) (by show (arrV _ _ _).slots[_]? = _; rw [arrV_read _ _ hlt]; show some (va_rf (if i.toNatClampNeg < n then some (E.2.2.2 (b + i.toNatClampNeg)) else none)) = _; rw [if_pos hlt]; rfl) rfl rfl hd (k0 (ck_some hx).1 (ck_some hx).2 H locs ls hP hS hl)
theorem tr_alen (hX : ok G cc nL own ret fr lo) (c : Nat) {n : Nat} {v : Int32} (hc0 : c < NC) (hs0 : sch c = .inl (0, n)) (hv : Int32.ofNat n = v) (hd : decode cc pc = .ok (.arraylength, 1)) (k0 : T G x s (pc + 1) lv (.int v :: st)) : T G x s pc lv (rf G.1 c :: st) := by
  obtain ⟨E, ⟨p, e, R, s0, m, args, below, meth, cde, A, cells, slots⟩, nL0, Q, r⟩ := G
  obtain ⟨hexec, hb, hml, rfl, hown, hts, hK, hD, hr, hlocks, ⟨hfr, hlo, hc, hs⟩, hst⟩ := hX
  exact fun hx H locs ls hP hS hl => va_alen hexec hb hK hP c 0 (cA := E.2.2.1 0) (x := (n, .inl (s c))) (by rw [wd_get E s hc0, hs0]; rfl) rfl hv hd (k0 hx H locs ls hP hS hl)
theorem tr_gets (hX : ok G cc nL own ret fr lo) {i : Nat} (hw : Cond.fieldLink own i "AirWatch" "GREATEST" "[I" ∈ gw) (hd : decode cc pc = .ok (.getstatic i, 3)) (k0 : T G x s (pc + 3) lv (rf G.1 136 :: st)) : T G x s pc lv st := by
  obtain ⟨E, ⟨p, e, R, s0, m, args, below, meth, cde, A, cells, slots⟩, nL0, Q, r⟩ := G
  obtain ⟨hexec, hb, hml, rfl, hown, hts, hK, hD, hr, hlocks, ⟨hfr, hlo, hc, hs⟩, hst⟩ := hX
  exact fun hx H locs ls hP hS hl => va_gets hexec hb hst.2.1 hS hown (hts _ hw) (fun _ h => h) hd (k0 hx H locs ls hP hS hl)
theorem tr_gald (hX : ok G cc nL own ret fr lo) {i : Int32} (hd : decode cc pc = .ok (.iaload, 1)) (k0 : T G x s (pc + 1) lv (.int (gG (ix i)) :: st)) : T G (ck (inR i 5) x) s pc lv (.int i :: rf G.1 136 :: st) := by
  obtain ⟨E, ⟨p, e, R, s0, m, args, below, meth, cde, A, cells, slots⟩, nL0, Q, r⟩ := G
  obtain ⟨hexec, hb, hml, rfl, hown, hts, hK, hD, hr, hlocks, ⟨hfr, hlo, hc, hs⟩, hst⟩ := hX
  exact fun hx H locs ls hP hS hl => va_ti hexec hb hst.2.2.1 hS (inR_in (ck_some hx).1) rfl hd (k0 (ck_some hx).2 H locs ls hP hS hl)
theorem tr_max (hX : ok G cc nL own ret fr lo) {a b : Int32} {i : Nat} (hw : Cond.methodLink own i Lib.Math.max.name ∈ gw) (hw2 : Cond.static Lib.Math.max.name ∈ gw) (hw3 : Cond.initialized "java/lang/Math" ∈ gw) (hw4 : Cond.code Lib.Math.max.name Lib.Math.max.code 2 (some .int) ∈ gw) (hfr2 : 1 ≤ fr) (hlo2 : (st.map fun v => v.category).sum + 13 ≤ lo) (hd : decode cc pc = .ok (.invokestatic i, 3)) (k0 : T G x s (pc + 3) lv (.int (imax a b) :: st)) : T G x s pc lv (.int b :: .int a :: st) := by
  obtain ⟨E, ⟨p, e, R, s0, m, args, below, meth, cde, A, cells, slots⟩, nL0, Q, r⟩ := G
  obtain ⟨hexec, hb, hml, rfl, hown, hts, hK, hD, hr, hlocks, ⟨hfr, hlo, hc, hs⟩, hst⟩ := hX
  exact fun hx H locs ls hP hS hl => va_mmax hexec hb (by rw [hml]; exact hl.1.symm) hown (hts _ hw) (hts _ hw2) (hts _ hw3) (hts _ hw4) (Nat.le_trans hfr2 hfr) (Nat.le_trans hlo2 hlo) hc hs hd (k0 hx H locs ls hP hS hl)
theorem tr_min (hX : ok G cc nL own ret fr lo) {a b : Int32} {i : Nat} (hw : Cond.methodLink own i Lib.Math.min.name ∈ gw) (hw2 : Cond.static Lib.Math.min.name ∈ gw) (hw3 : Cond.initialized "java/lang/Math" ∈ gw) (hw4 : Cond.code Lib.Math.min.name Lib.Math.min.code 2 (some .int) ∈ gw) (hfr2 : 1 ≤ fr) (hlo2 : (st.map fun v => v.category).sum + 13 ≤ lo) (hd : decode cc pc = .ok (.invokestatic i, 3)) (k0 : T G x s (pc + 3) lv (.int (imin a b) :: st)) : T G x s pc lv (.int b :: .int a :: st) := by
  obtain ⟨E, ⟨p, e, R, s0, m, args, below, meth, cde, A, cells, slots⟩, nL0, Q, r⟩ := G
  obtain ⟨hexec, hb, hml, rfl, hown, hts, hK, hD, hr, hlocks, ⟨hfr, hlo, hc, hs⟩, hst⟩ := hX
  exact fun hx H locs ls hP hS hl => va_mmin hexec hb (by rw [hml]; exact hl.1.symm) hown (hts _ hw) (hts _ hw2) (hts _ hw3) (hts _ hw4) (Nat.le_trans hfr2 hfr) (Nat.le_trans hlo2 hlo) hc hs hd (k0 hx H locs ls hP hS hl)
theorem tr_abs (hX : ok G cc nL own ret fr lo) {a : Int32} {i : Nat} (hw : Cond.methodLink own i Lib.Math.abs.name ∈ gw) (hw2 : Cond.static Lib.Math.abs.name ∈ gw) (hw3 : Cond.initialized "java/lang/Math" ∈ gw) (hw4 : Cond.code Lib.Math.abs.name Lib.Math.abs.code 1 (some .int) ∈ gw) (hfr2 : 1 ≤ fr) (hlo2 : (st.map fun v => v.category).sum + 13 ≤ lo) (hd : decode cc pc = .ok (.invokestatic i, 3)) (k0 : T G x s (pc + 3) lv (.int (iabs a) :: st)) : T G x s pc lv (.int a :: st) := by
  obtain ⟨E, ⟨p, e, R, s0, m, args, below, meth, cde, A, cells, slots⟩, nL0, Q, r⟩ := G
  obtain ⟨hexec, hb, hml, rfl, hown, hts, hK, hD, hr, hlocks, ⟨hfr, hlo, hc, hs⟩, hst⟩ := hX
  exact fun hx H locs ls hP hS hl => va_mabs hexec hb (by rw [hml]; exact hl.1.symm) hown (hts _ hw) (hts _ hw2) (hts _ hw3) (hts _ hw4) (Nat.le_trans hfr2 hfr) (Nat.le_trans hlo2 hlo) hc hs hd (k0 hx H locs ls hP hS hl)
theorem tr_istore_nB (hX : ok G cc nL own ret fr lo) {kk : Fin 4} {i : Nat} {v : Int32} {lv2 : Int32 → List (Nat × Value)} {kf : Int32 → Option (Int32 × Hp)} (hd : decode cc pc = .ok (.istore_n kk, 1)) (hi : (kk : Nat) = i) (hn : i < nL) (hl2 : ∀ y : Int32, (i, Value.int y) :: lv.filter (fun q => !(q.1 == i) && !(q.1 + 1 == i && q.2.category == 2)) = lv2 y) (k : ∀ y : Int32, T G (kf y) s (pc + 1) (lv2 y) st) : T G (vb v kf) s pc lv (.int v :: st) := by
  obtain ⟨E, ⟨p, e, R, s0, m, args, below, meth, cde, A, cells, slots⟩, nL0, Q, r⟩ := G
  obtain ⟨hexec, hb, hml, rfl, hown, hts, hK, hD, hr, hlocks, ⟨hfr, hlo, hc, hs⟩, hst⟩ := hX
  exact fun hx H locs ls hP hS hl => lv_istore_n hexec hb hd hi hl hn (hl2 v) (fun ls2 hl3 => k v hx H locs ls2 hP hS hl3)
theorem tr_istoreB (hX : ok G cc nL own ret fr lo) {i : Nat} {v : Int32} {lv2 : Int32 → List (Nat × Value)} {kf : Int32 → Option (Int32 × Hp)} (hd : decode cc pc = .ok (.istore i, 2)) (hn : i < nL) (hl2 : ∀ y : Int32, (i, Value.int y) :: lv.filter (fun q => !(q.1 == i) && !(q.1 + 1 == i && q.2.category == 2)) = lv2 y) (k : ∀ y : Int32, T G (kf y) s (pc + 2) (lv2 y) st) : T G (vb v kf) s pc lv (.int v :: st) := by
  obtain ⟨E, ⟨p, e, R, s0, m, args, below, meth, cde, A, cells, slots⟩, nL0, Q, r⟩ := G
  obtain ⟨hexec, hb, hml, rfl, hown, hts, hK, hD, hr, hlocks, ⟨hfr, hlo, hc, hs⟩, hst⟩ := hX
  exact fun hx H locs ls hP hS hl => lv_istore hexec hb hd hl hn (hl2 v) (fun ls2 hl3 => k v hx H locs ls2 hP hS hl3)
theorem tr_iincB (hX : ok G cc nL own ret fr lo) {i : Nat} (q : Nat) {n : Int} {v b : Int32} {lv2 : Int32 → List (Nat × Value)} {kf : Int32 → Option (Int32 × Hp)} (hd : decode cc pc = .ok (.iinc i n, 3)) (hq : lv[q]? = some (i, .int v)) (hv : Int32.ofInt n = b) (hn : i < nL) (hl2 : ∀ y : Int32, (i, Value.int y) :: lv.filter (fun q => !(q.1 == i) && !(q.1 + 1 == i && q.2.category == 2)) = lv2 y) (k : ∀ y : Int32, T G (kf y) s (pc + 3) (lv2 y) st) : T G (vb (v + b) kf) s pc lv st := by
  obtain ⟨E, ⟨p, e, R, s0, m, args, below, meth, cde, A, cells, slots⟩, nL0, Q, r⟩ := G
  obtain ⟨hexec, hb, hml, rfl, hown, hts, hK, hD, hr, hlocks, ⟨hfr, hlo, hc, hs⟩, hst⟩ := hX
  exact fun hx H locs ls hP hS hl => lv_iinc hexec hb hd hl hq (by rw [hv]) hn (hl2 (v + b)) (fun ls2 hl3 => k (v + b) hx H locs ls2 hP hS hl3)
theorem tr_split {c : Prop} [Decidable c] (ha : c → T G xa s pc lv st) (hb : ¬ c → T G xb s pc lv st) : T G (if c then xa else xb) s pc lv st := by
  by_cases h : c
  · rw [if_pos h]; exact ha h
  · rw [if_neg h]; exact hb h
theorem tr_tab (hX : ok G cc nL own ret fr lo) {a b : Int32} {dflt lo2 hi2 : Int} {offs : Array Int} {len : Nat} {off : Int} (tgt : Nat) (h : a = b) (hd : decode cc pc = .ok (.tableswitch dflt lo2 hi2 offs, len)) (h1 : ¬ b.toInt < lo2) (h2 : ¬ hi2 < b.toInt) (ho : offs[(b.toInt - lo2).toNat]? = some off) (ht : (pc : Int) + off = (tgt : Int)) (k : T G x s tgt lv st) : T G x s pc lv (.int a :: st) := by
  subst h
  obtain ⟨E, ⟨p, e, R, s0, m, args, below, meth, cde, A, cells, slots⟩, nL0, Q, r⟩ := G
  obtain ⟨hexec, hb, hml, rfl, hown, hts, hK, hD, hr, hlocks, ⟨hfr, hlo, hc, hs⟩, hst⟩ := hX
  exact fun hx H locs ls hP hS hl => lv_tableIn hexec hb hd h1 h2 ho ht (k hx H locs ls hP hS hl)
theorem tr_tabO (hX : ok G cc nL own ret fr lo) {a : Int32} {dflt lo2 hi2 : Int} {offs : Array Int} {len : Nat} (tgt : Nat) (hd : decode cc pc = .ok (.tableswitch dflt lo2 hi2 offs, len)) (h : a.toInt < lo2 ∨ hi2 < a.toInt) (ht : (pc : Int) + dflt = (tgt : Int)) (k : T G x s tgt lv st) : T G x s pc lv (.int a :: st) := by
  obtain ⟨E, ⟨p, e, R, s0, m, args, below, meth, cde, A, cells, slots⟩, nL0, Q, r⟩ := G
  obtain ⟨hexec, hb, hml, rfl, hown, hts, hK, hD, hr, hlocks, ⟨hfr, hlo, hc, hs⟩, hst⟩ := hX
  exact fun hx H locs ls hP hS hl => lv_tableOut hexec hb hd h ht (k hx H locs ls hP hS hl)
theorem tr_lsw (hX : ok G cc nL own ret fr lo) {a : Int32} {dflt off : Int} {ps : Array (Int × Int)} {len : Nat} (tgt : Nat) (hd : decode cc pc = .ok (.lookupswitch dflt ps, len)) (hp : (ps.toList.zip (ps.toList.drop 1)).all (fun (a, next) => a.1 < next.1) = true) (ho : Op.lookupswitch.offset ps.toList dflt a.toInt = off) (ht : (pc : Int) + off = (tgt : Int)) (k : T G x s tgt lv st) : T G x s pc lv (.int a :: st) := by
  obtain ⟨E, ⟨p, e, R, s0, m, args, below, meth, cde, A, cells, slots⟩, nL0, Q, r⟩ := G
  obtain ⟨hexec, hb, hml, rfl, hown, hts, hK, hD, hr, hlocks, ⟨hfr, hlo, hc, hs⟩, hst⟩ := hX
  exact fun hx H locs ls hP hS hl => lv_lookup hexec hb hd hp ho ht (k hx H locs ls hP hS hl)
end TR
theorem rw_c58 {i : Int32} (h : inR i 60 = true) : 58 + ix i < NC := by
  have h1 : ¬ 60 ≤ i.toNatClampNeg := fun q => inR_in h (Or.inr q)
  show 58 + i.toNatClampNeg < 136
  omega
theorem rw_s58 {i : Int32} (h : inR i 60 = true) : sch (58 + ix i) = .inl (0, 32) := by
  have h1 : ¬ 60 ≤ i.toNatClampNeg := fun q => inR_in h (Or.inr q)
  unfold sch ix
  generalize i.toNatClampNeg = z at h1
  rw [if_neg (by omega), if_pos (by omega)]
theorem rw_c118 {i : Int32} (h : inR i 10 = true) : 118 + ix i < NC := by
  have h1 : ¬ 10 ≤ i.toNatClampNeg := fun q => inR_in h (Or.inr q)
  show 118 + i.toNatClampNeg < 136
  omega
theorem rw_s118 {i : Int32} (h : inR i 10 = true) : sch (118 + ix i) = .inl (0, 10) := by
  have h1 : ¬ 10 ≤ i.toNatClampNeg := fun q => inR_in h (Or.inr q)
  unfold sch ix
  generalize i.toNatClampNeg = z at h1
  rw [if_neg (by omega), if_neg (by omega), if_pos (by omega)]
theorem rw_c128 {i : Int32} (h : inR i 4 = true) : 128 + ix i < NC := by
  have h1 : ¬ 4 ≤ i.toNatClampNeg := fun q => inR_in h (Or.inr q)
  show 128 + i.toNatClampNeg < 136
  omega
theorem rw_s128 {i : Int32} (h : inR i 4 = true) : sch (128 + ix i) = .inl (0, 16) := by
  have h1 : ¬ 4 ≤ i.toNatClampNeg := fun q => inR_in h (Or.inr q)
  unfold sch ix
  generalize i.toNatClampNeg = z at h1
  rw [if_neg (by omega), if_neg (by omega), if_neg (by omega), if_pos (by omega)]
theorem rw_c132 {i : Int32} (h : inR i 4 = true) : 132 + ix i < NC := by
  have h1 : ¬ 4 ≤ i.toNatClampNeg := fun q => inR_in h (Or.inr q)
  show 132 + i.toNatClampNeg < 136
  omega
theorem rw_s132 {i : Int32} (h : inR i 4 = true) : sch (132 + ix i) = .inl (0, 4) := by
  unfold sch ix
  generalize i.toNatClampNeg = z
  rw [if_neg (by omega), if_neg (by omega), if_neg (by omega), if_neg (by omega)]
