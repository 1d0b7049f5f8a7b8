/-! THE LAYER: one fixed world of 136 cells (class and model), its contents a function; a judgement T that walks a method beside a pure function -/
abbrev Hp : Type := Nat → Nat → Int32
def hset (s : Hp) (c k : Nat) (v : Int32) : Hp := fun d => if d = c then upd (s c) k v else s d
theorem hset_c (s : Hp) (c k : Nat) (v : Int32) : hset s c k v c = upd (s c) k v := if_pos rfl
theorem hset_d {s : Hp} {c k d : Nat} {v : Int32} (h : d ≠ c) : hset s c k v d = s d := if_neg h
abbrev classes : List vw_C := [(RX0, TX0, 5), (RX1, TX1, 2), (RX2, TX2, 5), (RX3, TX3, 8), (RX4, TX4, 3), (RX5, TX5, 4), (RX6, TX6, 9), (RX7, TX7, 5), (RX8, TX8, 5), (RX9, TX9, 9), (RX10, TX10, 36)]
abbrev Sh : Type := (Nat × Nat) ⊕ ((Nat × Nat) ⊕ (Nat × List (Option Nat)))
abbrev tysL (cA : Nat → ClassId) : List (ClassId × FieldType) := [(cA 0, .int), (cA 1, .boolean), (cA 2, .array .int)]
abbrev Ex : Type := Launch × va_G × (Nat → ClassId) × (Nat → Nat)
def rf (E : Ex) (c : Nat) : Value := .ref (E.2.2.2 c)
def fval (E : Ex) (s : Hp) (c k : Nat) (f : Option Nat) : Value := match f with
  | none => .int (s c k)
  | some d => rf E d
def cellE (E : Ex) (s : Hp) (c : Nat) (h : Sh) : va_E := match h with
  | .inl (t, n) => .inl (E.2.2.1 t, n, .inl (s c))
  | .inr (.inl (n, b)) => .inl (E.2.2.1 2, n, .inr (.inr (.inr (.inr (fun i => if i < n then some (E.2.2.2 (b + i)) else none)))))
  | .inr (.inr (ci, fs)) => .inr (ci, fs.mapIdx (fun k f => fval E s c k f))
def schL : List Sh := [
  .inr (.inr (9, [some 1, some 4, some 9, some 18, some 21, some 24, some 26, some 28, some 30])),
  .inr (.inr (4, [some 2, some 3, none])), .inl (0, 6), .inl (0, 6),
  .inr (.inr (7, [some 5, some 6, some 7, some 8, none])), .inl (0, 100), .inl (0, 100), .inl (0, 100), .inl (0, 100),
  .inr (.inr (2, [some 10, some 15, some 16, some 17, none])),
  .inr (.inr (7, [some 11, some 12, some 13, some 14, none])), .inl (0, 60), .inl (0, 60), .inl (0, 60), .inl (0, 60),
  .inl (0, 60), .inl (1, 60), .inr (.inl (60, 58)),
  .inr (.inr (0, [some 19, some 20, none, none, none])), .inl (0, 60), .inl (0, 60),
  .inr (.inr (6, [some 22, some 23, none, none, none, none, none, none, none])), .inl (0, 60), .inl (0, 32),
  .inr (.inr (8, [some 25, none, none, none, none])), .inl (0, 100),
  .inr (.inr (5, [some 27, none, none, none])), .inl (0, 10),
  .inr (.inr (1, [some 29, none])), .inr (.inl (10, 118)),
  .inr (.inr (3, [some 31, some 32, some 33, some 34, some 35, none, none, none])), .inl (0, 4), .inr (.inl (4, 128)), .inr (.inl (4, 132)), .inl (0, 4), .inl (0, 4),
  .inr (.inr (10, [none, some 37, some 38, none, some 39, some 40, some 41, some 42, none, some 43, some 44, some 45, some 46, some 47, some 48, some 49, none, none, none, some 50, some 51, some 52, none, none, some 53, none, none, none, none, none, none, none, some 54, some 55, some 56, some 57])),
  .inl (0, 6), .inl (0, 6), .inl (0, 100), .inl (0, 100), .inl (0, 100), .inl (0, 100), .inl (0, 60), .inl (0, 60), .inl (0, 60), .inl (0, 60), .inl (0, 60), .inl (1, 60), .inl (0, 240),
  .inl (0, 60), .inl (0, 60), .inl (0, 100), .inl (0, 110), .inl (0, 4), .inl (0, 4), .inl (0, 64), .inl (0, 16)]
def NC : Nat := 136
def sch (c : Nat) : Sh := if c < 58 then schL.getD c (.inl (0, 0)) else if c < 118 then .inl (0, 32) else if c < 128 then .inl (0, 10) else if c < 132 then .inl (0, 16) else .inl (0, 4)
def wd (E : Ex) (s : Hp) : va_W := (List.range NC).map (fun c => (E.2.2.2 c, cellE E s c (sch c)))
theorem wd_get (E : Ex) (s : Hp) {c : Nat} (h : c < NC) : (wd E s)[c]? = some (E.2.2.2 c, cellE E s c (sch c)) := by
  unfold wd
  rw [List.getElem?_map, List.getElem?_range h]
  rfl
theorem wd_len (E : Ex) (s : Hp) : (wd E s).length = NC := by simp [wd]
theorem wd_none (E : Ex) (s : Hp) {c : Nat} (h : ¬ c < NC) : (wd E s)[c]? = none := List.getElem?_eq_none (by rw [wd_len]; omega)
theorem cellE_ne {E : Ex} {s : Hp} {c d k : Nat} {v : Int32} {h : Sh} (hd : d ≠ c) : cellE E (hset s c k v) d h = cellE E s d h := by
  unfold cellE
  split
  · rw [hset_d hd]
  · rfl
  · have e : (fun (k2 : Nat) (f : Option Nat) => fval E (hset s c k v) d k2 f) = fun k2 f => fval E s d k2 f := by
      funext k2 f
      unfold fval
      rw [hset_d hd]
    rw [e]
theorem wd_set {E : Ex} {s : Hp} {c k : Nat} {v : Int32} {e : va_E} (hc : c < NC) (he : cellE E (hset s c k v) c (sch c) = e) : (wd E s).set c (E.2.2.2 c, e) = wd E (hset s c k v) := by
  apply List.ext_getElem?
  intro i
  by_cases hi : i < NC
  · rw [wd_get E _ hi]
    by_cases hic : i = c
    · subst hic
      rw [List.getElem?_set_self (by rw [wd_len]; exact hi), he]
    · rw [List.getElem?_set_ne (Ne.symm hic), wd_get E _ hi, cellE_ne hic]
  · rw [wd_none E _ hi, List.getElem?_eq_none (by rw [List.length_set, wd_len]; omega)]
theorem wd_arr {E : Ex} {s : Hp} {c k t n : Nat} {v : Int32} (hc : c < NC) (hs : sch c = .inl (t, n)) : (wd E s).set c (E.2.2.2 c, .inl (E.2.2.1 t, n, .inl (upd (s c) k v))) = wd E (hset s c k v) :=
  wd_set hc (by rw [hs]; show (Sum.inl (E.2.2.1 t, n, .inl (hset s c k v c)) : va_E) = _; rw [hset_c])
theorem wd_obj {E : Ex} {s : Hp} {c k ci : Nat} {fs : List (Option Nat)} {v : Int32} (hc : c < NC) (hs : sch c = .inr (.inr (ci, fs))) (hk : fs[k]? = some none) : (wd E s).set c (E.2.2.2 c, .inr (ci, (fs.mapIdx (fun k f => fval E s c k f)).set k (.int v))) = wd E (hset s c k v) :=
  wd_set hc (by
    rw [hs]
    show (Sum.inr (ci, fs.mapIdx (fun k2 f => fval E (hset s c k v) c k2 f)) : va_E) = _
    congr 2
    apply List.ext_getElem?
    intro i
    rw [List.getElem?_mapIdx]
    by_cases hik : i = k
    · subst hik
      have hl : i < (fs.mapIdx (fun k f => fval E s c k f)).length := by rw [List.length_mapIdx]; exact (List.getElem?_eq_some_iff.mp hk).1
      rw [List.getElem?_set_self hl, hk]
      show some (Value.int (hset s c i v c i)) = _
      rw [hset_c]
      simp [upd]
    · rw [List.getElem?_set_ne (Ne.symm hik), List.getElem?_mapIdx]
      cases fs[i]? with
      | none => rfl
      | some f =>
        show some (fval E (hset s c k v) c i f) = some (fval E s c i f)
        cases f with
        | none =>
          show some (Value.int (hset s c k v c i)) = _
          rw [hset_c]
          show some (Value.int (upd (s c) k v i)) = some (Value.int (s c i))
          simp [upd, hik]
        | some d => rfl)
theorem wd_D {E : Ex} {A : Nat → Prop} {s s2 : Hp} (h : va_D A (wd E s)) : va_D A (wd E s2) := by
  have key : ∀ (k : Nat) (q : Nat × va_E), (wd E s2)[k]? = some q → ∃ q0, (wd E s)[k]? = some q0 ∧ q0.1 = q.1 := by
    intro k q hq
    by_cases hk : k < NC
    · rw [wd_get E _ hk] at hq
      cases hq
      exact ⟨_, wd_get E _ hk, rfl⟩
    · rw [wd_none E _ hk] at hq
      cases hq
  refine ⟨fun i j x y hi hj hxy => ?_, fun k q hk => ?_⟩
  · obtain ⟨x0, h1, h2⟩ := key i x hi
    obtain ⟨y0, h3, h4⟩ := key j y hj
    exact h.1 i j x0 y0 h1 h3 (h2.trans (hxy.trans h4.symm))
  · obtain ⟨q0, h1, h2⟩ := key k q hk
    rw [← h2]
    exact h.2 k q0 h1
/-- the world's own cells -/
def AW (E : Ex) : Nat → Prop := fun q => ∃ c, c < NC ∧ q = E.2.2.2 c
theorem AW_in {E : Ex} {A : Nat → Prop} {s : Hp} (h : va_D A (wd E s)) {q : Nat} (hq : AW E q) : A q := by
  obtain ⟨c, hc, rfl⟩ := hq
  exact h.2 c _ (wd_get E s hc)
theorem AW_D {E : Ex} {A : Nat → Prop} {s : Hp} (h : va_D A (wd E s)) : va_D (AW E) (wd E s) := ⟨h.1, fun k q hk => by
  by_cases hc : k < NC
  · rw [wd_get E _ hc] at hk
    cases hk
    exact ⟨k, hc, rfl⟩
  · rw [wd_none E _ hc] at hk
    cases hk⟩
/-- words -/
def gw : List Cond := lw_tbl.filter goodWord
theorem gw_in {w : Cond} (h : w ∈ lw_tbl) (g : goodWord w = true) : w ∈ gw := List.mem_filter.mpr ⟨h, g⟩
theorem gw_good {w : Cond} (h : w ∈ gw) : (w.onTables && w.keeps) = true ∨ ∃ ty, w = .arrayClass ty := good_of_word (List.mem_filter.mp h).2
theorem gw_sub {ws : List Cond} (h : ∀ w ∈ ws, w ∈ lw_tbl) (g : ws.all goodWord = true) : ∀ w ∈ ws, w ∈ gw := fun w hw => gw_in (h w hw) (List.all_eq_true.mp g w hw)
theorem gX0 : ∀ w ∈ wsX00, w ∈ gw := gw_sub inX0 (by decide +kernel)
theorem gX1 : ∀ w ∈ wsX10, w ∈ gw := gw_sub inX1 (by decide +kernel)
theorem gX2 : ∀ w ∈ wsX20, w ∈ gw := gw_sub inX2 (by decide +kernel)
theorem gX3 : ∀ w ∈ wsX30, w ∈ gw := gw_sub inX3 (by decide +kernel)
theorem gX4 : ∀ w ∈ wsX40, w ∈ gw := gw_sub inX4 (by decide +kernel)
theorem gX5 : ∀ w ∈ wsX50, w ∈ gw := gw_sub inX5 (by decide +kernel)
theorem gX6 : ∀ w ∈ wsX60, w ∈ gw := gw_sub inX6 (by decide +kernel)
theorem gX7 : ∀ w ∈ wsX70, w ∈ gw := gw_sub inX7 (by decide +kernel)
theorem gX8 : ∀ w ∈ wsX80, w ∈ gw := gw_sub inX8 (by decide +kernel)
theorem gX9 : ∀ w ∈ wsX90, w ∈ gw := gw_sub inX9 (by decide +kernel)
theorem gX10 : ∀ w ∈ wsX100, w ∈ gw := gw_sub inX10 (by decide +kernel)
/-- what isn't in the world: links of nest mates, the static row, the four texts -/
def gG (j : Nat) : Int32 := if j = 0 then 15 else if j = 1 then 1439 else if j = 2 then 999 else 31
def sLen : List Nat := [4, 4, 4, 3]
def sByt : List (List Int32) := [[99, 104, 97, 110], [116, 105, 109, 101], [116, 111, 110, 101], [98, 111, 120]]
def stat (E : Ex) (A : Nat → Prop) (U : State) (H : Heap) : Prop :=
  (∀ (a : String) (i : Nat) (b n d h : String), Cond.fieldLinkNest a i b n d h ∈ lw_tbl → va_Nw (.fieldLinkNest a i b n d h) U) ∧
  va_Z "AirWatch" "GREATEST" "[I" (rf E 136) A U H ∧ va_T .int (E.2.2.2 136) 5 (fun j => .int (gG j)) A U H ∧
  vk_R "AirWatch$Reader" 57 "chan" (E.2.2.2 137) U ∧ vk_R "AirWatch$Reader" 63 "time" (E.2.2.2 138) U ∧ vk_R "AirWatch$Reader" 65 "tone" (E.2.2.2 139) U ∧ vk_R "AirWatch$Reader" 67 "box" (E.2.2.2 140) U ∧
  vk_S 4 sLen sByt (fun i => E.2.2.2 (137 + i)) (fun i => E.2.2.2 (141 + i)) A U H ∧
  va_Z "java/lang/String" "COMPACT_STRINGS" "Z" (.int 1) A U H ∧ va_Zq "jdk/internal/util/Preconditions" "SIOOBE_FORMATTER" "Ljava/util/function/BiFunction;" A U H
abbrev Cx : Type := Program × Env × Room × State × MethodId × Array Value × List Frame × Method × Code × (Nat → Prop) × Nat × Nat
abbrev Gx : Type := Ex × Cx × Nat × (State → Prop) × (Int32 × Hp)
def J (G : Gx) (s : Hp) (pc : Nat) (lv : List (Nat × Value)) (st : List Value) : Prop := match G with
  | (E, (p, e, R, s0, m, args, below, meth, c, A, cells, slots), nL, Q, _) => ∀ (H : Heap) (locs : List Loc) (ls : Array Slot), va_P E.2.1 classes (wd E s) H → va_S A s0.heap H locs → lv_has ls nL lv → W p E.1 e R s0 m args below meth c H locs cells slots Q (F0 m pc ls st)
def ok (G : Gx) (cc : ByteArray) (nL : Nat) (own : String) (ret : Option FieldType) (fr lo : Nat) : Prop := match G with
  | (E, (p, e, R, s0, m, args, below, meth, c, A, cells, slots), nL0, Q, _) => p.tables.exec = Jvm.exec ∧ c.code = cc ∧ c.maxLocals = nL ∧ nL0 = nL ∧ s0.vm.findClass own = some m.cls ∧ (∀ w ∈ gw, w.before args s0 = true) ∧ va_K E.2.1 classes (tysL E.2.2.1) s0 ∧ va_D A (wd E (fun _ _ => 0)) ∧ meth.sig.returnType = ret ∧ meth.locks = false ∧ (fr ≤ R.frames ∧ lo ≤ R.locals ∧ cells ≤ R.cells ∧ slots ≤ R.slots) ∧ stat E A s0 s0.heap
/-- the walk beside a pure answer x: if x is the answer of G, the machine comes to G's end -/
def T (G : Gx) (x : Option (Int32 × Hp)) (s : Hp) (pc : Nat) (lv : List (Nat × Value)) (st : List Value) : Prop := x = some G.2.2.2.2 → J G s pc lv st
