/-- f, but v at every address of l -/
def vr_up {α : Type} (f : Nat → α) (l : List Nat) (v : α) : Nat → α := fun a => if a ∈ l then v else f a
theorem vr_up_in {α : Type} {f : Nat → α} {l : List Nat} {v : α} {a : Nat} (h : a ∈ l) : vr_up f l v a = v := if_pos h
theorem vr_up_ne {α : Type} {f : Nat → α} {l : List Nat} {v : α} {a : Nat} (h : a ∉ l) : vr_up f l v a = f a := if_neg h
theorem vr_rows {L l : List Nat} {f : Nat → va_E} {e : va_E} (h : ∀ a, a ∈ l → a ∉ L) : va_pl L f ++ l.map (fun a => (a, e)) = va_pl (L ++ l) (vr_up f l e) := by
  unfold va_pl
  rw [List.map_append]
  congr 1
  · apply List.map_congr_left
    intro a ha
    rw [vr_up_ne (fun q => h a q ha)]
  · apply List.map_congr_left
    intro a ha
    rw [vr_up_in ha]
theorem vr_lay {X rows : va_W} {x : Nat × va_E} {pl : va_W} {D : va_G} {cl : List vw_C} {H : Heap} (hP : va_P D cl (((X ++ pl) ++ [x]) ++ rows) H) : va_P D cl ((X ++ [x]) ++ (pl ++ rows)) H := by
  rw [List.append_assoc (X ++ pl)] at hP
  have h := va_P.swap hP
  rw [← List.append_assoc X] at h
  have h2 := va_P.swap h
  rw [List.append_assoc (X ++ [x])] at h2
  exact h2
theorem vr_layD {X rows : va_W} {x : Nat × va_E} {pl : va_W} {A : Nat → Prop} (hD : va_D A (((X ++ pl) ++ [x]) ++ rows)) : va_D A ((X ++ [x]) ++ (pl ++ rows)) := by
  rw [List.append_assoc (X ++ pl)] at hD
  have h := va_D.swap hD
  rw [← List.append_assoc X] at h
  have h2 := va_D.swap h
  rw [List.append_assoc (X ++ [x])] at h2
  exact h2
theorem vr_outer (c : ClassId) (N h0 : Nat) : ∀ i : Nat, Jvm.Free.Multi.outerC c N h0 i = arrV c N (fun j => va_rf (if j < i then some (h0 + 1 + j) else none))
  | 0 => by
    show ({ cls := c, slots := Array.replicate N .null, vm := .none } : Cell) = _
    rw [arrV_new]
    refine congrArg (arrV c N) (funext fun j => ?_)
    simp [va_rf]
  | i + 1 => by
    show (Jvm.Free.Multi.outerC c N h0 i).setSlot i (.ref (h0 + 1 + i)) = _
    rw [vr_outer c N h0 i, arrV_store]
    refine congrArg (arrV c N) (funext fun j => ?_)
    by_cases e : j = i
    · subst e
      simp [updV, va_rf]
    · by_cases h : j < i
      · simp [updV, e, h, Nat.lt_succ_of_lt h]
      · simp [updV, e, h, show ¬ j < i + 1 by omega]
section VGM
variable {p : Program} {l : Launch} {e : Env} {R : Room} {s : State} {m : MethodId} {args : Array Value} {below : List Frame} {meth : Method} {c : Code} {H : Heap} {locs : List Loc} {cells slots : Nat} {Q : State → Prop}
variable {cc : ByteArray} {pc : Nat} {ls : Array Slot} {rest : List Value} {D : va_G} {cl : List vw_C} {A : Nat → Prop} {a : Nat} {tys : List (ClassId × FieldType)} {ws : va_W} {H0 : Heap}
theorem va_mna {X : va_W} {L : List Nat} {f : Nat → va_E} {cc : ByteArray} (hexec : p.tables.exec = Jvm.exec) (hb : c.code = cc) {own : String} {index : Nat} {ty : FieldType} {cy : ClassId} (hown : s.vm.findClass own = some m.cls) (hclink : (Cond.classLink own index ("[" ++ (FieldType.array ty).toString)).before args s = true) (hover : (Cond.arrayOver (.array ty)).before args s = true) (harr : (Cond.arrayClass ty).before args s = true) (hcy : s.vm.findClass (FieldType.array ty).toString = some cy)
    (hK : va_K D cl tys s) (hP : va_P D cl (X ++ va_pl L f) H) (hD : va_D A (X ++ va_pl L f)) (hS : va_S A H0 H locs) (hA : ∀ q, H0.size ≤ q → A q) {n k : Int32} {N' K' : Nat} {z : vp_A} (hn : ¬ n < 0) (hk : ¬ k < 0) (hN : n.toNatClampNeg = N') (hM : k.toNatClampNeg = K')
    (hb1 : N' * 4 ≤ 536870912) (hb2 : K' * componentBytes ty ≤ 536870912) (hb3 : K' ≤ 536870912) (hdf : fits ty (defaultValue ty) = true) (hdd : (defaultValue ty).isDefault = true) (hcells : cells + (1 + N') ≤ R.cells) (hslots : slots + (N' + N' * K') ≤ R.slots) (hz : ∀ c : ClassId, Jvm.Free.Multi.innerC c K' (defaultValue ty) = vp_cell c z) (hdg : decode cc pc = .ok (.multianewarray index 2, 4))
    (kk : ∀ (q : Nat) (r : Nat → Nat) (cA : ClassId) (H1 : Heap), (∀ i j : Nat, i < N' → j < N' → r i = r j → i = j) → (∀ i : Nat, i < N' → r i ∉ L) → va_K D cl (tys ++ [(cA, .array ty)]) s →
      va_P D cl ((X ++ [(q, .inl (cA, N', .inr (.inr (.inr (.inr (fun i => if i < N' then some (r i) else none))))))]) ++ va_pl (L ++ (List.range N').map r) (vr_up f ((List.range N').map r) (.inl (cy, z)))) H1 → va_D A ((X ++ [(q, .inl (cA, N', .inr (.inr (.inr (.inr (fun i => if i < N' then some (r i) else none))))))]) ++ va_pl (L ++ (List.range N').map r) (vr_up f ((List.range N').map r) (.inl (cy, z)))) → va_S A H0 H1 locs →
      W p l e R s m args below meth c H1 locs (cells + 1 + N') (slots + N' + N' * K') Q (F0 m (pc + 4) ls (.ref q :: rest))) : W p l e R s m args below meth c H locs cells slots Q (F0 m pc ls (.int k :: .int n :: rest)) := by
  subst hN
  subst hM
  intro T hT Xs
  obtain ⟨vm₁, cA, comp, -, fA, fC, hO, -, X', step⟩ := Xs.multianewarray2F hexec hown hclink hover harr (g := F0 m pc ls (.int k :: .int n :: rest)) rfl (by rw [hb]; exact hdg) rfl hn hk hb1 hb2 hb3 hdf hdd hcells hslots
  have ec : some cy = some comp := hcy.symm.trans fC
  cases ec
  generalize hF : Jvm.Free.Multi.fill (T.setVm vm₁) cA cy n.toNatClampNeg k.toNatClampNeg (defaultValue ty) n.toNatClampNeg = F at X' step
  have hTh : (T.setVm vm₁).heap = H := hT
  obtain ⟨f1, f2, -, -⟩ := Jvm.Free.Multi.fill_facts (T.setVm vm₁) cA cy n.toNatClampNeg k.toNatClampNeg (defaultValue ty) n.toNatClampNeg
  rw [hF, hTh] at f1 f2
  have hold : ∀ x : Nat, x < H.size → F.heap[x]? = H[x]? := fun x hx => by
    have := Jvm.Free.Multi.fill_old (T.setVm vm₁) cA cy n.toNatClampNeg k.toNatClampNeg (defaultValue ty) (a := x) (by rw [hTh]; exact hx) n.toNatClampNeg
    rw [hF, hTh] at this
    exact this
  have hrow : ∀ j : Nat, j < n.toNatClampNeg → F.heap[H.size + 1 + j]? = some (vp_cell cy z) := fun j hj => by
    have := Jvm.Free.Multi.fill_inner (T.setVm vm₁) cA cy n.toNatClampNeg k.toNatClampNeg (defaultValue ty) n.toNatClampNeg j hj
    rw [hF, hTh, hz] at this
    exact this
  have hout : Jvm.Free.Multi.outerC cA n.toNatClampNeg H.size n.toNatClampNeg = vp_cell cA (n.toNatClampNeg, .inr (.inr (.inr (.inr (fun i => if i < n.toNatClampNeg then some (H.size + 1 + i) else none))))) := by
    rw [vp_cell_q]
    exact vr_outer cA n.toNatClampNeg H.size n.toNatClampNeg
  rw [hout] at f2
  have hlt : ∀ a, a ∈ L → a < H.size := fun a ha => by
    obtain ⟨k9, hk9⟩ := va_pl_get (X := X) (f := f) ha
    exact (hP k9 _ hk9).lt
  have hnl : ∀ i : Nat, i < n.toNatClampNeg → H.size + 1 + i ∉ L := fun i _ h => by
    have := hlt _ h
    omega
  have hnm : ∀ a, a ∈ (List.range n.toNatClampNeg).map (fun i => H.size + 1 + i) → a ∉ L := fun a ha h => by
    obtain ⟨i, -, rfl⟩ := List.mem_map.mp ha
    have := hlt _ h
    omega
  have hP0 : va_P D cl (X ++ va_pl L f) F.heap := hP.kept (fun k9 x hx => hold x.1 ((hP k9 x hx).lt))
  have hP1 : va_P D cl ((X ++ va_pl L f) ++ [(H.size, .inl (cA, n.toNatClampNeg, .inr (.inr (.inr (.inr (fun i => if i < n.toNatClampNeg then some (H.size + 1 + i) else none))))))]) F.heap := hP0.app (fun k9 x hx => by
    have h0 : k9 < 1 := (List.getElem?_eq_some_iff.mp hx).1
    rw [show k9 = 0 by omega] at hx
    cases hx
    exact f2)
  have hP2 : va_P D cl (((X ++ va_pl L f) ++ [(H.size, .inl (cA, n.toNatClampNeg, .inr (.inr (.inr (.inr (fun i => if i < n.toNatClampNeg then some (H.size + 1 + i) else none))))))]) ++ ((List.range n.toNatClampNeg).map (fun i => H.size + 1 + i)).map (fun a => (a, .inl (cy, z)))) F.heap := hP1.app (fun k9 x hx => by
    obtain ⟨a, ha, rfl⟩ := List.mem_map.mp (List.mem_of_getElem? hx)
    obtain ⟨i, hi, rfl⟩ := List.mem_map.mp ha
    exact hrow i (List.mem_range.mp hi))
  have hD2 : va_D A (((X ++ va_pl L f) ++ [(H.size, .inl (cA, n.toNatClampNeg, .inr (.inr (.inr (.inr (fun i => if i < n.toNatClampNeg then some (H.size + 1 + i) else none))))))]) ++ ((List.range n.toNatClampNeg).map (fun i => H.size + 1 + i)).map (fun a => (a, .inl (cy, z)))) := by
    have hD1 := hD.push (e := .inl (cA, n.toNatClampNeg, .inr (.inr (.inr (.inr (fun i => if i < n.toNatClampNeg then some (H.size + 1 + i) else none)))))) hP rfl (hA _ hS.1)
    generalize hW1 : (X ++ va_pl L f) ++ [(H.size, .inl (cA, n.toNatClampNeg, .inr (.inr (.inr (.inr (fun i => if i < n.toNatClampNeg then some (H.size + 1 + i) else none))))))] = W1 at hD1 hP1 ⊢
    have hle : ∀ (k9 : Nat) (x : Nat × va_E), W1[k9]? = some x → x.1 ≤ H.size := fun k9 x hx => by
      rw [← hW1] at hx
      by_cases hl : k9 < (X ++ va_pl L f).length
      · rw [List.getElem?_append_left hl] at hx
        exact Nat.le_of_lt ((hP k9 x hx).lt)
      · rw [List.getElem?_append_right (by omega)] at hx
        have h0 : k9 - (X ++ va_pl L f).length < 1 := (List.getElem?_eq_some_iff.mp hx).1
        rw [show k9 - (X ++ va_pl L f).length = 0 by omega] at hx
        cases hx
        exact Nat.le_refl _
    have hr : ∀ (k9 : Nat) (x : Nat × va_E), (((List.range n.toNatClampNeg).map (fun i => H.size + 1 + i)).map (fun a => ((a, .inl (cy, z)) : Nat × va_E)))[k9]? = some x → x.1 = H.size + 1 + k9 := fun k9 x hx => by
      rw [List.getElem?_map, List.getElem?_map] at hx
      by_cases h9 : k9 < n.toNatClampNeg
      · rw [List.getElem?_range h9] at hx
        cases hx
        rfl
      · have hn0 : (List.range n.toNatClampNeg)[k9]? = none := List.getElem?_eq_none (by rw [List.length_range]; omega)
        rw [hn0] at hx
        cases hx
    refine ⟨fun i j x y hi hj hxy => ?_, fun k9 x hx => ?_⟩
    · by_cases h1 : i < W1.length <;> by_cases h2 : j < W1.length
      · rw [List.getElem?_append_left h1] at hi
        rw [List.getElem?_append_left h2] at hj
        exact hD1.1 i j x y hi hj hxy
      · rw [List.getElem?_append_left h1] at hi
        rw [List.getElem?_append_right (by omega)] at hj
        have := hle _ _ hi
        have := hr _ _ hj
        omega
      · rw [List.getElem?_append_right (by omega)] at hi
        rw [List.getElem?_append_left h2] at hj
        have := hle _ _ hj
        have := hr _ _ hi
        omega
      · rw [List.getElem?_append_right (by omega)] at hi hj
        have := hr _ _ hi
        have := hr _ _ hj
        omega
    · by_cases h1 : k9 < W1.length
      · rw [List.getElem?_append_left h1] at hx
        exact hD1.2 k9 x hx
      · rw [List.getElem?_append_right (by omega)] at hx
        have := hr _ _ hx
        exact hA _ (by have := hS.1; omega)
  have hAr : ArrOfT s cA (.array ty) := fun N9 z9 => by
    obtain ⟨-, k9, hk9, cm9, hkk9⟩ := (hO 0 0 0).1
    exact ⟨(fun q hq => by cases hq), k9, hk9, cm9, hkk9⟩
  have hK2 : va_K D cl (tys ++ [(cA, .array ty)]) s := ⟨hK.1, fun k9 x hx => by
    by_cases hl : k9 < tys.length
    · rw [List.getElem?_append_left hl] at hx
      exact hK.2 k9 x hx
    · rw [List.getElem?_append_right (by omega)] at hx
      have h0 : k9 - tys.length < 1 := (List.getElem?_eq_some_iff.mp hx).1
      rw [show k9 - tys.length = 0 by omega] at hx
      cases hx
      exact ⟨hAr, fA⟩⟩
  obtain ⟨t, a1, b1⟩ := kk H.size (fun i => H.size + 1 + i) cA F.heap (fun i j _ _ h => by have h9 : H.size + 1 + i = H.size + 1 + j := h; omega) hnl hK2 (by rw [← vr_rows hnm]; exact vr_lay hP2) (by rw [← vr_rows hnm]; exact vr_layD hD2) ⟨by rw [f1]; have := hS.1; omega, fun x h1 h2 => (hold x (Nat.lt_of_lt_of_le h1 hS.1)).trans (hS.2.1 x h1 h2), hS.2.2⟩ F rfl X'
  refine ⟨t, step t ?_, b1⟩
  have e : T.heap.size = H.size := by rw [hT]
  rw [e]
  exact a1
end VGM

theorem over_alike {t : FieldType} {a a' : Array Value} {U U' : State} (hal : U.vm.Alike U'.vm) (h : (Cond.arrayOver (.array t)).before a U = true) : (Cond.arrayOver (.array t)).before a' U' = true := by
  simp only [Cond.before, Cond.holds, Cond.value] at h ⊢
  rw [hal.findClass]
  cases hf : U.vm.findClass (FieldType.array t).toString with
  | none => rw [hf] at h; simp at h
  | some comp =>
    rw [hf] at h
    simp only [Option.bind_some] at h ⊢
    rw [hal.findIdx_congr _ (fun _ _ _ _ => rfl)]
    generalize hF : (U.vm.classes.findIdx? fun (x : Class) => match x.kind with | .array component _ => component == comp | _ => false) = fi at h ⊢
    cases fi with
    | none => simp at h
    | some c =>
      simp only [Option.bind_some] at h ⊢
      cases hk : U.vm.classes[c]? with
      | none => rw [hk] at h; simp at h
      | some k =>
        obtain ⟨k', hk', ek⟩ := hal.2.2 _ _ hk
        rw [hk] at h
        rw [hk', hal.findClass]
        have ekind : k'.kind = k.kind := by rw [ek]
        simp only [Option.map_some] at h ⊢
        rw [ekind]
        exact h
def rowsW (E : Ex) (r : Nat → Nat) (n k : Nat) : va_W := (List.range n).map (fun i => (r i, .inl (E.2.2.1 0, k, .inl (fun _ => 0))))
def outW (E : Ex) (n q : Nat) (r : Nat → Nat) : Nat × va_E := (q, .inl (E.2.2.1 2, n, .inr (.inr (.inr (.inr (fun i => if i < n then some (r i) else none))))))
def arrW (E : Ex) (t n q : Nat) : Nat × va_E := (q, .inl (E.2.2.1 t, n, .inl (fun _ => 0)))
def knw (E : Ex) (U : State) : Prop := va_K E.2.1 classes (tysL E.2.2.1) U ∧ (Cond.arrayOver (.array .int)).before #[] U = true ∧ (∀ (a : String) (i : Nat) (y : MethodName) (h : String), Cond.methodLinkNest a i y h ∈ lw_tbl → va_Nw (.methodLinkNest a i y h) U)
abbrev Kx : Type := Ex × (Program × Env × Room × State × MethodId × Array Value × List Frame × Method × Code × (Nat → Prop)) × Nat × (State → Prop)
def Kj (K : Kx) (L S : va_W) (cells slots pc : Nat) (lv : List (Nat × Value)) (st : List Value) : Prop := match K with
  | (E, (p, e, R, s0, m, args, below, meth, c, A), nL, Q) => ∀ (H : Heap) (locs : List Loc) (ls : Array Slot), va_P E.2.1 classes (L ++ S) H → va_D A (L ++ S) → va_S A s0.heap H locs → lv_has ls nL lv → W p E.1 e R s0 m args below meth c H locs cells slots Q (F0 m pc ls st)
def okK (K : Kx) (cc : ByteArray) (nL : Nat) (own : String) (ret : Option FieldType) (fr lo mc ms : Nat) : Prop := match K with
  | (E, (p, e, R, s0, m, args, below, meth, c, A), nL0, Q) => p.tables.exec = Jvm.exec ∧ c.code = cc ∧ c.maxLocals = nL ∧ nL0 = nL ∧ s0.vm.findClass own = some m.cls ∧ (∀ w ∈ gw, w.before args s0 = true) ∧ knw E s0 ∧ (∀ q, s0.heap.size ≤ q → A q) ∧ meth.sig.returnType = ret ∧ meth.locks = false ∧ (fr ≤ R.frames ∧ lo ≤ R.locals ∧ mc ≤ R.cells ∧ ms ≤ R.slots)
def okN (K : Kx) : Prop := match K with
  | (_, (_, _, _, _, _, _, _, meth, _, _), _, _) => meth.name = "<init>"
def okP (K : Kx) (mc ms : Nat) (post : va_W → va_W → Prop) : Prop := match K with
  | (E, (_, _, _, s0, _, args, below, _, _, A), _, Q) => Q = MQ below (va_Qv (fun (u : va_W × va_W) => post u.1 u.2) (fun u t => va_P E.2.1 classes (u.1 ++ u.2) t.heap ∧ va_D A (u.1 ++ u.2)) A) args s0 mc ms A
def CtrC (E : Ex) (y : MethodName) (cc : ByteArray) (nL fr lo mc ms h0 : Nat) (As : List Value) (fs : Nat × List Value) (post : va_W → va_W → Prop) : Prop := ∀ sz : Nat,
  Met E.1 y (.code y cc nL none :: gw) { frames := fr, cells := mc, slots := ms, locals := lo } (va_Pc (.ref h0 :: As) (fun U => U.heap.size = sz ∧ va_P E.2.1 classes [(h0, .inr fs)] U.heap ∧ knw E U)) (va_Qv (fun (u : va_W × va_W) => post u.1 u.2) (fun u t => va_P E.2.1 classes (u.1 ++ u.2) t.heap ∧ va_D (va_A [(h0, .inr fs)] sz) (u.1 ++ u.2)) (va_A [(h0, .inr fs)] sz)) mc ms (va_A [(h0, .inr fs)] sz)
theorem knw_warm {E : Ex} {s U : State} (hW : s.WarmedH U.vm) (h : knw E s) : knw E U := ⟨va_K.moved hW.alike h.1, over_alike hW.alike h.2.1, fun a i y h9 hw => va_Nw.warmM hW (h.2.2 a i y h9 hw)⟩
theorem knw_same {E : Ex} {u U : State} (hv : U.vm = u.vm) (h : knw E u) : knw E U := by
  have ha : u.vm.Alike U.vm := by rw [hv]; exact Vm.Alike.refl u.vm
  exact ⟨va_K.moved ha h.1, over_alike ha h.2.1, fun a i y h9 hw => va_Nw.same rfl hv.symm (h.2.2 a i y h9 hw)⟩
theorem ctrC_of {E : Ex} {y : MethodName} {cc : ByteArray} {nL fr lo mc ms h0 : Nat} {As : List Value} {fs : Nat × List Value} {post : va_W → va_W → Prop} (hy : plainFor y = true) (hnm : y.name = "<init>") (hlen : (lg_sl (.ref h0 :: As)).length ≤ nL)
    (body : ∀ K : Kx, okK K cc nL y.cls none fr lo mc ms → okN K → okP K mc ms post → K.1 = E → Kj K [(h0, .inr fs)] [] 0 0 0 (lv_args 0 (.ref h0 :: As)) []) : CtrC E y cc nL fr lo mc ms h0 As fs post := by
  intro sz
  refine va_MetF (cc := cc) (maxL := nL) (ret := none) hy rfl ?_
  intro p e s0 m args below meth c s₁ B hml hv
  obtain ⟨rfl, hsz, hP, hk⟩ := hv
  subst hsz
  have hts := atoms_spec (ws := .code y cc nL none :: gw) B.pre
  have hown : s0.vm.findClass y.cls = some m.cls := findClass_of_methodNamed B.named
  have hin : meth.name = "<init>" := (name_of_methodNamed B.named B.method).1.trans hnm
  have hl := lv_entry (.ref h0 :: As) (n := nL) hlen
  rw [lg_entry_eq]
  have hD : va_D (va_A [(h0, .inr fs)] s0.heap.size) [(h0, .inr fs)] := ⟨fun i j a b hi hj _ => by
    have h1 : i < 1 := (List.getElem?_eq_some_iff.mp hi).1
    have h2 : j < 1 := (List.getElem?_eq_some_iff.mp hj).1
    omega, fun k q hk => va_A.in hk⟩
  exact body (E, (p, e, { frames := fr, cells := mc, slots := ms, locals := lo }, s0, m, (Value.ref h0 :: As).toArray, below, meth, c, va_A [(h0, .inr fs)] s0.heap.size), nL, _) ⟨B.exec, B.bytes, hml, rfl, hown, fun w hw => hts w (List.mem_cons_of_mem _ hw), hk, fun q h => Or.inr h, B.returns, B.notSynchronized, ⟨Nat.le_refl _, Nat.le_refl _, Nat.le_refl _, Nat.le_refl _⟩⟩ hin rfl rfl s0.heap [] _ (by rw [List.append_nil]; exact hP) (by rw [List.append_nil]; exact hD) va_S.rf hl
theorem joinC {A0 : Nat → Prop} {D : va_G} {cl : List vw_C} {L S u : va_W} {x : Nat × va_E} {H H1 : Heap} (hP : va_P D cl ((L ++ [x]) ++ S) H) (hD : va_D A0 ((L ++ [x]) ++ S)) (hk : ∀ q : Nat, q < H.size → ¬ va_A [x] H.size q → H1[q]? = H[q]?) (hF : ∀ q, va_A [x] H.size q → A0 q) (hP1 : va_P D cl u H1) (hD1 : va_D (va_A [x] H.size) u) : va_P D cl ((L ++ S) ++ u) H1 ∧ va_D A0 ((L ++ S) ++ u) := by
  have hP2 := va_P.swap hP
  have hD2 := va_D.swap hD
  have hlast : ((L ++ S) ++ [x])[(L ++ S).length]? = some x := by simp
  have hpre : ∀ (k : Nat) (q : Nat × va_E), (L ++ S)[k]? = some q → ((L ++ S) ++ [x])[k]? = some q ∧ k < (L ++ S).length := by
    intro k q hq
    have hlt := (List.getElem?_eq_some_iff.mp hq).1
    exact ⟨by rw [List.getElem?_append_left hlt]; exact hq, hlt⟩
  have apart : ∀ (k : Nat) (q : Nat × va_E), (L ++ S)[k]? = some q → q.1 < H.size ∧ ¬ va_A [x] H.size q.1 := by
    intro k q hq
    obtain ⟨h1, h2⟩ := hpre k q hq
    have hl := (hP2 k q h1).lt
    refine ⟨hl, fun h => ?_⟩
    rcases h with ⟨k2, e, h⟩ | h
    · have hz : k2 < 1 := (List.getElem?_eq_some_iff.mp h).1
      have h0 : k2 = 0 := by omega
      subst h0
      have hx : x = (q.1, e) := Option.some.inj h
      have := hD2.1 k (L ++ S).length q x h1 hlast (by rw [hx])
      omega
    · omega
  refine ⟨va_P.app (fun k q hq => ?_) hP1, va_D.app ⟨fun i j a b hi hj hab => hD2.1 i j a b (hpre i a hi).1 (hpre j b hj).1 hab, fun k q hq => hD2.2 k q (hpre k q hq).1⟩ (hD1.weaken (fun k q _ h => hF q.1 h)) (fun i j a b ha hb hab => ?_)⟩
  · obtain ⟨g1, g2⟩ := apart k q hq
    exact (hP2 k q (hpre k q hq).1).kept (hk q.1 g1 g2)
  · exact (apart i a ha).2 (by rw [hab]; exact hD1.2 j b hb)
section KR
variable {K : Kx} {L S : va_W} {cells slots pc : Nat} {lv : List (Nat × Value)} {st : List Value} {cc : ByteArray} {nL : Nat} {own : String} {ret : Option FieldType} {fr lo mc ms : Nat}

theorem kn_iconst (hX : okK K cc nL own ret fr lo mc ms) {n : Int} {v : Int32} (hd : decode cc pc = .ok (.iconst n, 1)) (hv : Int32.ofInt n = v) (k : Kj K L S cells slots (pc + 1) lv (.int v :: st)) : Kj K L S cells slots pc lv (st) := by
  obtain ⟨E, ⟨p, e, R, s0, m, args, below, meth, cde, A⟩, nL0, Q⟩ := K
  obtain ⟨hexec, hb, hml, rfl, hown, hts, hk, hA, hr, hlocks, ⟨hfr, hlo, hmc, hms⟩⟩ := hX
  exact fun H locs ls hP hD hS hl => lv_iconst hexec hb hd hv (k H locs ls hP hD hS hl)
theorem kn_bipush (hX : okK K cc nL own ret fr lo mc ms) {n : Int} {v : Int32} (hd : decode cc pc = .ok (.bipush n, 2)) (hv : (Int8.ofInt n).toInt32 = v) (k : Kj K L S cells slots (pc + 2) lv (.int v :: st)) : Kj K L S cells slots pc lv (st) := by
  obtain ⟨E, ⟨p, e, R, s0, m, args, below, meth, cde, A⟩, nL0, Q⟩ := K
  obtain ⟨hexec, hb, hml, rfl, hown, hts, hk, hA, hr, hlocks, ⟨hfr, hlo, hmc, hms⟩⟩ := hX
  exact fun H locs ls hP hD hS hl => lv_bipush hexec hb hd hv (k H locs ls hP hD hS hl)
theorem kn_sipush (hX : okK K cc nL own ret fr lo mc ms) {n : Int} {v : Int32} (hd : decode cc pc = .ok (.sipush n, 3)) (hv : (Int16.ofInt n).toInt32 = v) (k : Kj K L S cells slots (pc + 3) lv (.int v :: st)) : Kj K L S cells slots pc lv (st) := by
  obtain ⟨E, ⟨p, e, R, s0, m, args, below, meth, cde, A⟩, nL0, Q⟩ := K
  obtain ⟨hexec, hb, hml, rfl, hown, hts, hk, hA, hr, hlocks, ⟨hfr, hlo, hmc, hms⟩⟩ := hX
  exact fun H locs ls hP hD hS hl => lv_sipush hexec hb hd hv (k H locs ls hP hD hS hl)
theorem kn_aload_n (hX : okK K cc nL own ret fr lo mc ms) {kk : Fin 4} {i : Nat} (q : Nat) {v : Nat} (hd : decode cc pc = .ok (.aload_n kk, 1)) (hi : (kk : Nat) = i) (hq : lv[q]? = some (i, .ref v)) (k : Kj K L S cells slots (pc + 1) lv (.ref v :: st)) : Kj K L S cells slots pc lv (st) := by
  obtain ⟨E, ⟨p, e, R, s0, m, args, below, meth, cde, A⟩, nL0, Q⟩ := K
  obtain ⟨hexec, hb, hml, rfl, hown, hts, hk, hA, hr, hlocks, ⟨hfr, hlo, hmc, hms⟩⟩ := hX
  exact fun H locs ls hP hD hS hl => lv_aload_n hexec hb hd hi (lv_at hl q hq) (k H locs ls hP hD hS hl)
theorem kn_iload_n (hX : okK K cc nL own ret fr lo mc ms) {kk : Fin 4} {i : Nat} (q : Nat) {v : Int32} (hd : decode cc pc = .ok (.iload_n kk, 1)) (hi : (kk : Nat) = i) (hq : lv[q]? = some (i, .int v)) (k : Kj K L S cells slots (pc + 1) lv (.int v :: st)) : Kj K L S cells slots pc lv (st) := by
  obtain ⟨E, ⟨p, e, R, s0, m, args, below, meth, cde, A⟩, nL0, Q⟩ := K
  obtain ⟨hexec, hb, hml, rfl, hown, hts, hk, hA, hr, hlocks, ⟨hfr, hlo, hmc, hms⟩⟩ := hX
  exact fun H locs ls hP hD hS hl => lv_iload_n hexec hb hd hi (lv_at hl q hq) (k H locs ls hP hD hS hl)
theorem kn_dup (hX : okK K cc nL own ret fr lo mc ms) {v : Value} (hd : decode cc pc = .ok (.dup, 1)) (hv : v.category = 1) (k : Kj K L S cells slots (pc + 1) lv (v :: v :: st)) : Kj K L S cells slots pc lv (v :: st) := by
  obtain ⟨E, ⟨p, e, R, s0, m, args, below, meth, cde, A⟩, nL0, Q⟩ := K
  obtain ⟨hexec, hb, hml, rfl, hown, hts, hk, hA, hr, hlocks, ⟨hfr, hlo, hmc, hms⟩⟩ := hX
  exact fun H locs ls hP hD hS hl => lv_dup hexec hb hd hv (k H locs ls hP hD hS hl)
theorem kn_istore_n (hX : okK K cc nL own ret fr lo mc ms) {kk : Fin 4} {i : Nat} {v : Int32} {lv2 : List (Nat × Value)} (hd : decode cc pc = .ok (.istore_n kk, 1)) (hi : (kk : Nat) = i) (hn : i < nL) (hl2 : (i, Value.int v) :: lv.filter (fun q => !(q.1 == i) && !(q.1 + 1 == i && q.2.category == 2)) = lv2) (k : Kj K L S cells slots (pc + 1) lv2 st) : Kj K L S cells slots pc lv (.int v :: st) := by
  obtain ⟨E, ⟨p, e, R, s0, m, args, below, meth, cde, A⟩, nL0, Q⟩ := K
  obtain ⟨hexec, hb, hml, rfl, hown, hts, hk, hA, hr, hlocks, ⟨hfr, hlo, hmc, hms⟩⟩ := hX
  exact fun H locs ls hP hD hS hl => lv_istore_n hexec hb hd hi hl hn hl2 (fun ls2 hl3 => k H locs ls2 hP hD hS hl3)
theorem kn_astore_n (hX : okK K cc nL own ret fr lo mc ms) {kk : Fin 4} {i : Nat} {v : Nat} {lv2 : List (Nat × Value)} (hd : decode cc pc = .ok (.astore_n kk, 1)) (hi : (kk : Nat) = i) (hn : i < nL) (hl2 : (i, Value.ref v) :: lv.filter (fun q => !(q.1 == i) && !(q.1 + 1 == i && q.2.category == 2)) = lv2) (k : Kj K L S cells slots (pc + 1) lv2 st) : Kj K L S cells slots pc lv (.ref v :: st) := by
  obtain ⟨E, ⟨p, e, R, s0, m, args, below, meth, cde, A⟩, nL0, Q⟩ := K
  obtain ⟨hexec, hb, hml, rfl, hown, hts, hk, hA, hr, hlocks, ⟨hfr, hlo, hmc, hms⟩⟩ := hX
  exact fun H locs ls hP hD hS hl => lv_astore_n hexec hb hd hi hl hn hl2 (fun ls2 hl3 => k H locs ls2 hP hD hS hl3)
theorem kn_max (hX : okK K cc nL own ret fr lo mc ms) {a b v : Int32} {i : Nat} (hv : imax a b = v) (hw : Cond.methodLink own i Lib.Math.max.name ∈ gw) (hw2 : Cond.static Lib.Math.max.name ∈ gw) (hw3 : Cond.initialized "java/lang/Math" ∈ gw) (hw4 : Cond.code Lib.Math.max.name Lib.Math.max.code 2 (some .int) ∈ gw) (hfr2 : 1 ≤ fr) (hlo2 : (st.map fun v => v.category).sum + 13 ≤ lo) (hc : cells ≤ mc) (hs : slots ≤ ms) (hd : decode cc pc = .ok (.invokestatic i, 3)) (k0 : Kj K L S cells slots (pc + 3) lv (.int v :: st)) : Kj K L S cells slots pc lv (.int b :: .int a :: st) := by
  obtain ⟨E, ⟨p, e, R, s0, m, args, below, meth, cde, A⟩, nL0, Q⟩ := K
  obtain ⟨hexec, hb, hml, rfl, hown, hts, hk, hA, hr, hlocks, ⟨hfr, hlo, hmc, hms⟩⟩ := hX
  subst hv
  exact fun H locs ls hP hD hS hl => va_mmax hexec hb (by rw [hml]; exact hl.1.symm) hown (hts _ hw) (hts _ hw2) (hts _ hw3) (hts _ hw4) (Nat.le_trans hfr2 hfr) (Nat.le_trans hlo2 hlo) (Nat.le_trans hc hmc) (Nat.le_trans hs hms) hd (k0 H locs ls hP hD hS hl)
theorem kn_obj (hX : okK K cc nL own ret fr lo mc ms) {i : Nat} {a : Nat} (hw : Cond.methodLink own i Lib.objectInit ∈ gw) (hw2 : Cond.instanceMethod Lib.objectInit ∈ gw) (hw3 : Cond.code Lib.objectInit ⟨#[0xb1]⟩ 1 none ∈ gw) (hfr2 : 1 ≤ fr) (hlo2 : (st.map fun v => v.category).sum + 12 ≤ lo) (hd : decode cc pc = .ok (.invokespecial i, 3)) (k0 : Kj K L S cells slots (pc + 3) lv st) : Kj K L S cells slots pc lv (.ref a :: st) := by
  obtain ⟨E, ⟨p, e, R, s0, m, args, below, meth, cde, A⟩, nL0, Q⟩ := K
  obtain ⟨hexec, hb, hml, rfl, hown, hts, hk, hA, hr, hlocks, ⟨hfr, hlo, hmc, hms⟩⟩ := hX
  exact fun H locs ls hP hD hS hl => W.objInit hexec hb hown (hts _ hw) (hts _ hw2) (hts _ hw3) rfl (by rw [hml]; exact hl.1) rfl hd (Nat.le_trans hfr2 hfr) (by show 2 * 0 + _ + 12 ≤ _; omega) (k0 H locs ls hP hD hS hl)
theorem kn_new (hX : okK K cc nL own ret fr lo mc ms) {ci N i : Nat} {C : String} {Tb : u_T} {fs : List Value} (ty : Nat → FieldType) (hty : ∀ k, k < N → parseFieldDescriptor (Tb k).2.2.1 = some (ty k)) (hin : ∀ w ∈ u_ws C Tb N, w ∈ gw) (hcl : Cond.classLink own i C ∈ gw) (hinst : Cond.instantiable C N ∈ gw) (hini : Cond.initialized C ∈ gw) (hc : classes[ci]? = some (C, Tb, N)) (hfs : ∀ j, j < N → defaultValue (ty j) = vp_V fs j) (hcells : cells + 1 ≤ mc) (hslots : slots + N ≤ ms) (hd : decode cc pc = .ok (.new i, 3)) (k0 : ∀ q : Nat, Kj K (L ++ [(q, .inr (ci, fs))]) S (cells + 1) (slots + N) (pc + 3) lv (.ref q :: st)) : Kj K L S cells slots pc lv st := by
  obtain ⟨E, ⟨p, e, R, s0, m, args, below, meth, cde, A⟩, nL0, Q⟩ := K
  obtain ⟨hexec, hb, hml, rfl, hown, hts, hk, hA, hr, hlocks, ⟨hfr, hlo, hmc, hms⟩⟩ := hX
  exact fun H locs ls hP hD hS hl => va_new (ci := ci) (fs := fs) (C := C) (T := Tb) (N := N) hexec hb hts hin ty hty hown (hts _ hcl) (hts _ hinst) (hts _ hini) hk.1 hP hD hS hA hc hfs (Nat.le_trans hcells hmc) (Nat.le_trans hslots hms) hd (fun q H1 hP1 hD1 hS1 => k0 q H1 locs ls (va_P.swap hP1) (va_D.swap hD1) hS1 hl)
theorem kn_newI (hX : okK K cc nL own ret fr lo mc ms) {n : Int32} {N : Nat} (hw : Cond.arrayClass .int ∈ gw) (hn : ¬ n < 0) (hN : n.toNatClampNeg = N) (hbt : N * 4 ≤ 536870912) (hcells : cells + 1 ≤ mc) (hslots : slots + N ≤ ms) (hd : decode cc pc = .ok (.newarray .int, 2)) (k0 : ∀ q : Nat, Kj K (L ++ [arrW K.1 0 N q]) S (cells + 1) (slots + N) (pc + 2) lv (.ref q :: st)) : Kj K L S cells slots pc lv (.int n :: st) := by
  obtain ⟨E, ⟨p, e, R, s0, m, args, below, meth, cde, A⟩, nL0, Q⟩ := K
  obtain ⟨hexec, hb, hml, rfl, hown, hts, hk, hA, hr, hlocks, ⟨hfr, hlo, hmc, hms⟩⟩ := hX
  exact fun H locs ls hP hD hS hl => va_newa (atype := .int) (ty := .int) (a0 := (N, .inl (fun _ => 0))) hexec hb (hts _ hw) rfl hk.1 hP hD hS hA (fun _ => rfl) hn hN hbt (Nat.le_trans hcells hmc) (Nat.le_trans hslots hms) hd (fun q cA H1 hK1 hP1 hD1 hS1 => by
    have e1 : s0.vm.findClass ("[" ++ FieldType.int.toString) = some cA := (hK1.2 3 (cA, .int) rfl).2
    have e2 : s0.vm.findClass ("[" ++ FieldType.int.toString) = some (E.2.2.1 0) := (hk.1.2 0 _ rfl).2
    have e3 : cA = E.2.2.1 0 := Option.some.inj (e1.symm.trans e2)
    subst e3
    exact k0 q H1 locs ls (va_P.swap hP1) (va_D.swap hD1) hS1 hl)
theorem kn_newZ (hX : okK K cc nL own ret fr lo mc ms) {n : Int32} {N : Nat} (hw : Cond.arrayClass .boolean ∈ gw) (hn : ¬ n < 0) (hN : n.toNatClampNeg = N) (hbt : N * 4 ≤ 536870912) (hcells : cells + 1 ≤ mc) (hslots : slots + N ≤ ms) (hd : decode cc pc = .ok (.newarray .boolean, 2)) (k0 : ∀ q : Nat, Kj K (L ++ [arrW K.1 1 N q]) S (cells + 1) (slots + N) (pc + 2) lv (.ref q :: st)) : Kj K L S cells slots pc lv (.int n :: st) := by
  obtain ⟨E, ⟨p, e, R, s0, m, args, below, meth, cde, A⟩, nL0, Q⟩ := K
  obtain ⟨hexec, hb, hml, rfl, hown, hts, hk, hA, hr, hlocks, ⟨hfr, hlo, hmc, hms⟩⟩ := hX
  exact fun H locs ls hP hD hS hl => va_newa (atype := .boolean) (ty := .boolean) (a0 := (N, .inl (fun _ => 0))) hexec hb (hts _ hw) rfl hk.1 hP hD hS hA (fun _ => rfl) hn hN (Nat.le_trans (Nat.mul_le_mul_left N (show componentBytes .boolean ≤ 4 by decide)) hbt) (Nat.le_trans hcells hmc) (Nat.le_trans hslots hms) hd (fun q cA H1 hK1 hP1 hD1 hS1 => by
    have e1 : s0.vm.findClass ("[" ++ FieldType.boolean.toString) = some cA := (hK1.2 3 (cA, .boolean) rfl).2
    have e2 : s0.vm.findClass ("[" ++ FieldType.boolean.toString) = some (E.2.2.1 1) := (hk.1.2 1 _ rfl).2
    have e3 : cA = E.2.2.1 1 := Option.some.inj (e1.symm.trans e2)
    subst e3
    exact k0 q H1 locs ls (va_P.swap hP1) (va_D.swap hD1) hS1 hl)
theorem rows_eq {E : Ex} {f : Nat → va_E} {r : Nat → Nat} {n k : Nat} : va_pl ([] ++ (List.range n).map r) (vr_up f ((List.range n).map r) (.inl (E.2.2.1 0, k, .inl (fun _ => 0)))) = rowsW E r n k := by
  unfold va_pl rowsW
  rw [List.nil_append, List.map_map]
  apply List.map_congr_left
  intro i hi
  show (r i, vr_up f ((List.range n).map r) _ (r i)) = _
  rw [vr_up_in (List.mem_map_of_mem hi)]
theorem append4 {L S R : va_W} {x : Nat × va_E} {D : va_G} {cl : List vw_C} {H : Heap} (h : va_P D cl (((L ++ S) ++ [x]) ++ R) H) : va_P D cl ((L ++ [x]) ++ (S ++ R)) H := by
  rw [List.append_assoc (L ++ S)] at h
  rw [List.append_assoc L S] at h
  have h2 : va_P D cl ((L ++ (S ++ [x])) ++ R) H := by rw [List.append_assoc L, List.append_assoc S]; exact h
  rw [← List.append_assoc L S] at h2
  have h3 : va_P D cl (((L ++ [x]) ++ S) ++ R) H := by
    intro k q hq
    rcases List.mem_append.mp (List.mem_of_getElem? hq) with g | g
    · have g2 : q ∈ (L ++ S) ++ [x] := by
        rcases List.mem_append.mp g with g | g
        · rcases List.mem_append.mp g with g | g
          · exact List.mem_append_left _ (List.mem_append_left _ g)
          · exact List.mem_append_right _ g
        · exact List.mem_append_left _ (List.mem_append_right _ g)
      obtain ⟨i, hi⟩ := List.getElem?_of_mem (List.mem_append_left R g2)
      exact h2 i q hi
    · obtain ⟨i, hi⟩ := List.getElem?_of_mem (List.mem_append_right ((L ++ S) ++ [x]) g)
      exact h2 i q hi
  rw [List.append_assoc (L ++ [x])] at h3
  exact h3
theorem append4D {L S R : va_W} {x : Nat × va_E} {A : Nat → Prop} (h : va_D A (((L ++ S) ++ [x]) ++ R)) : va_D A ((L ++ [x]) ++ (S ++ R)) := by
  have h1 : va_D A ((L ++ S) ++ ([x] ++ R)) := by rw [← List.append_assoc]; exact h
  have h2 := va_D.swap h1
  have h3 : va_D A (((L ++ [x]) ++ R) ++ S) := by rw [List.append_assoc L]; exact h2
  have h4 := va_D.swap h3
  rw [List.append_assoc (L ++ [x])] at h4
  exact h4
theorem kn_mna (hX : okK K cc nL own ret fr lo mc ms) {i : Nat} {n k : Int32} {N M : Nat} (hcl : Cond.classLink own i "[[I" ∈ gw) (hw : Cond.arrayClass .int ∈ gw) (hn : ¬ n < 0) (hk0 : ¬ k < 0) (hN : n.toNatClampNeg = N) (hM : k.toNatClampNeg = M) (hb1 : N * 4 ≤ 536870912) (hb2 : M * 4 ≤ 536870912) (hcells : cells + (1 + N) ≤ mc) (hslots : slots + (N + N * M) ≤ ms) (hd : decode cc pc = .ok (.multianewarray i 2, 4)) (k0 : ∀ (q : Nat) (r : Nat → Nat), Kj K (L ++ [outW K.1 N q r]) (S ++ rowsW K.1 r N M) (cells + 1 + N) (slots + N + N * M) (pc + 4) lv (.ref q :: st)) : Kj K L S cells slots pc lv (.int k :: .int n :: st) := by
  obtain ⟨E, ⟨p, e, R, s0, m, args, below, meth, cde, A⟩, nL0, Q⟩ := K
  obtain ⟨hexec, hb, hml, rfl, hown, hts, hk, hA, hr, hlocks, ⟨hfr, hlo, hmc, hms⟩⟩ := hX
  have hcy : s0.vm.findClass (FieldType.array .int).toString = some (E.2.2.1 0) := (hk.1.2 0 _ rfl).2
  intro H locs ls hP hD hS hl
  refine va_mna (X := L ++ S) (L := []) (f := fun _ => .inl (E.2.2.1 0, M, .inl (fun _ => 0))) (ty := .int) (z := (M, .inl (fun _ => 0))) hexec hb hown (hts _ hcl) (over_alike (Vm.Alike.refl _) hk.2.1) (hts _ hw) hcy hk.1 (by show va_P _ _ ((L ++ S) ++ []) H; rw [List.append_nil]; exact hP) (by show va_D _ ((L ++ S) ++ []); rw [List.append_nil]; exact hD) hS hA hn hk0 hN hM hb1 hb2 (by omega) rfl rfl (Nat.le_trans hcells hmc) (Nat.le_trans hslots hms) (fun c => by show ({ cls := c, slots := Array.replicate M (Value.int 0), vm := .none } : Cell) = arrV c M (fun _ => .int 0); rw [arrV_new]) hd (fun q r cA H1 hinj hni hK1 hP1 hD1 hS1 => ?_)
  have e1 : s0.vm.findClass ("[" ++ (FieldType.array .int).toString) = some cA := (hK1.2 3 (cA, .array .int) rfl).2
  have e2 : s0.vm.findClass ("[" ++ (FieldType.array .int).toString) = some (E.2.2.1 2) := (hk.1.2 2 _ rfl).2
  have e3 : cA = E.2.2.1 2 := Option.some.inj (e1.symm.trans e2)
  subst e3
  rw [rows_eq] at hP1 hD1
  exact k0 q r H1 locs ls (append4 hP1) (append4D hD1) hS1 hl
theorem kn_putF (hX : okK K cc nL own ret fr lo mc ms) {ci N i : Nat} {C : String} {Tb : u_T} (q0 k : Nat) {v : Value} {a : Nat} {fs : List Value} {L2 : va_W} {ty : FieldType} (ty0 : Nat → FieldType) (hty : ∀ k, k < N → parseFieldDescriptor (Tb k).2.2.1 = some (ty0 k)) (hnm : ∀ a, a < N → ∀ b, b < N → a ≠ b → (Tb a).2.1 ≠ (Tb b).2.1) (he : L[q0]? = some (a, .inr (ci, fs))) (hcl : classes[ci]? = some (C, Tb, N)) (hkN : k < N) (hin : ∀ w ∈ u_ws C Tb N, w ∈ gw) (hw : Cond.fieldLink own i (Tb k).1 (Tb k).2.1 (Tb k).2.2.1 ∈ gw) (hfin : (Tb k).2.2.2 = true) (hN : okN K) (hdecl : (Tb k).1 = own) (hdsc : parseFieldDescriptor (Tb k).2.2.1 = some ty) (hnr : narrow ty v = v) (hfit : fits ty v = true) (hlen : k < fs.length) (hd : decode cc pc = .ok (.putfield i, 3)) (hL2 : L.set q0 (a, .inr (ci, fs.set k v)) = L2) (k0 : Kj K L2 S cells slots (pc + 3) lv st) : Kj K L S cells slots pc lv (v :: .ref a :: st) := by
  obtain ⟨E, ⟨p, e, R, s0, m, args, below, meth, cde, A⟩, nL0, Q⟩ := K
  obtain ⟨hexec, hb, hml, rfl, hown, hts, hk, hA, hr, hlocks, ⟨hfr, hlo, hmc, hms⟩⟩ := hX
  have hlt : q0 < L.length := (List.getElem?_eq_some_iff.mp he).1
  subst hL2
  exact fun H locs ls hP hD hS hl => va_putF (C := C) (T := Tb) (N := N) (ci := ci) (ty := ty) hexec hb hts hin ty0 hty hnm hown hk.1 hP hD hS q0 (by rw [List.getElem?_append_left hlt]; exact he) hcl k hkN (hts _ hw) (fun _ h9 => h9) hfin hN hdecl hdsc hnr hfit hlen hd (fun H1 locs1 hP1 hD1 hS1 => k0 H1 locs1 ls (by rw [List.set_append, if_pos hlt] at hP1; exact hP1) (by rw [List.set_append, if_pos hlt] at hD1; exact hD1) hS1 hl)
theorem kn_put (hX : okK K cc nL own ret fr lo mc ms) {ci N i : Nat} {C : String} {Tb : u_T} (q0 k : Nat) {v : Value} {a : Nat} {fs : List Value} {L2 : va_W} {ty : FieldType} (ty0 : Nat → FieldType) (hty : ∀ k, k < N → parseFieldDescriptor (Tb k).2.2.1 = some (ty0 k)) (hnm : ∀ a, a < N → ∀ b, b < N → a ≠ b → (Tb a).2.1 ≠ (Tb b).2.1) (he : L[q0]? = some (a, .inr (ci, fs))) (hcl : classes[ci]? = some (C, Tb, N)) (hkN : k < N) (hin : ∀ w ∈ u_ws C Tb N, w ∈ gw) (hw : Cond.fieldLink own i (Tb k).1 (Tb k).2.1 (Tb k).2.2.1 ∈ gw) (hfin : (Tb k).2.2.2 = false) (hdsc : parseFieldDescriptor (Tb k).2.2.1 = some ty) (hnr : narrow ty v = v) (hfit : fits ty v = true) (hlen : k < fs.length) (hd : decode cc pc = .ok (.putfield i, 3)) (hL2 : L.set q0 (a, .inr (ci, fs.set k v)) = L2) (k0 : Kj K L2 S cells slots (pc + 3) lv st) : Kj K L S cells slots pc lv (v :: .ref a :: st) := by
  obtain ⟨E, ⟨p, e, R, s0, m, args, below, meth, cde, A⟩, nL0, Q⟩ := K
  obtain ⟨hexec, hb, hml, rfl, hown, hts, hk, hA, hr, hlocks, ⟨hfr, hlo, hmc, hms⟩⟩ := hX
  have hlt : q0 < L.length := (List.getElem?_eq_some_iff.mp he).1
  subst hL2
  exact fun H locs ls hP hD hS hl => va_put (C := C) (T := Tb) (N := N) (ci := ci) (ty := ty) hexec hb hts hin ty0 hty hnm hown hk.1 hP hD hS q0 (by rw [List.getElem?_append_left hlt]; exact he) hcl k hkN (hts _ hw) (fun _ h9 => h9) hfin hdsc hnr hfit hlen hd (fun H1 locs1 hP1 hD1 hS1 => k0 H1 locs1 ls (by rw [List.set_append, if_pos hlt] at hP1; exact hP1) (by rw [List.set_append, if_pos hlt] at hD1; exact hD1) hS1 hl)
theorem kn_ret (hX : okK K cc nL own none fr lo mc ms) {post : va_W → va_W → Prop} (hP0 : okP K mc ms post) (hpost : post L S) (hd : decode cc pc = .ok (.return_, 1)) : Kj K L S mc ms pc lv [] := by
  obtain ⟨E, ⟨p, e, R, s0, m, args, below, meth, cde, A⟩, nL0, Q⟩ := K
  obtain ⟨hexec, hb, hml, rfl, hown, hts, hk, hA, hr, hlocks, ⟨hfr, hlo, hmc, hms⟩⟩ := hX
  have hQ : Q = _ := hP0
  subst hQ
  exact fun H locs ls hP hD hS hl => W.vret hexec hb hr (fun t ht hW => ⟨⟨(L, S), rfl, hpost, (by show va_P _ _ _ t.heap; rw [ht]; exact hP), hD⟩, hS.F ht⟩) hS.2.2 hd hlocks
theorem gw_code {y : MethodName} {cc : ByteArray} {nL : Nat} {ret : Option FieldType} (h : Cond.code y cc nL ret ∈ gw) : GoodIn gw (.code y cc nL ret :: gw) := by
  intro w hw
  have key : w ∈ gw := (List.mem_cons.mp hw).elim (fun e => by rw [e]; exact h) id
  exact ⟨key, gw_good key⟩
theorem kn_call (hX : okK K cc nL own ret fr lo mc ms) {y : MethodName} {cc2 : ByteArray} {nL2 fr2 lo2 mc2 ms2 n i q : Nat} (As : List Value) {fs : Nat × List Value} {post : va_W → va_W → Prop} {st0 : List Value} (L1 : va_W) (hL : L = L1 ++ [(q, .inr fs)]) (hw : Cond.methodLink own i y ∈ gw) (hinst : Cond.instanceMethod y ∈ gw) (hini : Cond.initialized y.cls ∈ gw) (hcd : Cond.code y cc2 nL2 none ∈ gw) (hnm : y.name = "<init>") (hds : y.cls ≠ "java/lang/invoke/MethodHandle" ∧ y.cls ≠ "java/lang/invoke/VarHandle" ∧ (parseMethodDescriptor y.desc).map (fun d => d.parameters.length) = some n) (hR : fr2 + 1 ≤ fr ∧ 8 + (nL2 + 11) + lo2 ≤ lo) (hn : As.length = n) (hst0 : st0 = As.reverse ++ .ref q :: st) (hrm : (st.map fun v => v.category).sum ≤ 8) (hcells : cells + mc2 ≤ mc) (hslots : slots + ms2 ≤ ms) (hd : decode cc pc = .ok (.invokespecial i, 3)) (hC : CtrC K.1 y cc2 nL2 fr2 lo2 mc2 ms2 q As fs post)
    (k0 : ∀ Lc Sc : va_W, post Lc Sc → Kj K (L1 ++ Lc) (S ++ Sc) (cells + mc2) (slots + ms2) (pc + 3) lv st) : Kj K L S cells slots pc lv st0 := by
  obtain ⟨E, ⟨p, e, R, s0, m, args, below, meth, cde, A⟩, nL0, Q⟩ := K
  obtain ⟨hexec, hb, hml, rfl, hown, hts, hk, hA, hr, hlocks, ⟨hfr, hlo, hmc, hms⟩⟩ := hX
  subst hL
  intro H locs ls hP hD hS hl
  have hlast : ((L1 ++ [(q, .inr fs)]) ++ S)[L1.length]? = some (q, .inr fs) := by
    rw [List.getElem?_append_left (by simp)]
    simp
  have hPq : va_P E.2.1 classes [(q, .inr fs)] H := by
    intro k x hx
    have hz : k < 1 := (List.getElem?_eq_some_iff.mp hx).1
    have h0 : k = 0 := by omega
    subst h0
    cases hx
    exact hP _ _ hlast
  have hF : ∀ x, va_A [(q, .inr fs)] H.size x → A x := by
    intro x hx
    rcases hx with ⟨k, e9, hx⟩ | hx
    · have hz : k < 1 := (List.getElem?_eq_some_iff.mp hx).1
      have h0 : k = 0 := by omega
      subst h0
      cases hx
      exact hD.2 _ _ hlast
    · exact hA x (Nat.le_trans hS.1 hx)
  refine va_callv (va_runI (As := As) (rest := st) ⟨hexec, hb, hml, hown, hts⟩ (hC H.size) (cwI n hts (gw_code hcd) rfl rfl rfl (hts _ hini) (hts _ hw) (hts _ hinst) hnm hds ⟨Nat.le_trans hR.1 hfr, Nat.le_trans hR.2 hlo⟩) ⟨fun a U g mk h => ⟨h.1, h.2.1, h.2.2.1, knw_same (u := U) (U := U.calling g mk a) rfl h.2.2.2⟩, fun U hU hW => ⟨rfl, by rw [hU], by rw [hU]; exact hPq, knw_warm hW hk⟩⟩ rfl hn hl.1 hst0 (lv_room hrm) hd ⟨Nat.le_trans hcells hmc, Nat.le_trans hslots hms⟩) hS (fun x _ h => hF x h) hF (fun u t H1 locs1 ht hvm hw1 hB hz1 hk1 hS1 => ?_)
  obtain ⟨Lc, Sc⟩ := u
  obtain ⟨hB1, hB2⟩ := hB
  rw [ht] at hB1
  obtain ⟨hP2, hD2⟩ := joinC hP hD hk1 hF hB1 hB2
  have hP3 : va_P E.2.1 classes ((L1 ++ Lc) ++ (S ++ Sc)) H1 := by
    have h1 : va_P E.2.1 classes (((L1 ++ S) ++ Lc) ++ Sc) H1 := by rw [List.append_assoc (L1 ++ S)]; exact hP2
    have h2 : va_P E.2.1 classes ((L1 ++ S) ++ Lc) H1 := fun k x hx => h1 k x (by rw [List.getElem?_append_left (List.getElem?_eq_some_iff.mp hx).1]; exact hx)
    have h3 := va_P.swap h2
    have h4 : va_P E.2.1 classes Sc H1 := by
      intro k x hx
      obtain ⟨j, hj⟩ := List.getElem?_of_mem (List.mem_append_right ((L1 ++ S) ++ Lc) (List.mem_of_getElem? hx))
      exact h1 j x hj
    have h5 := va_P.app h3 h4
    rw [List.append_assoc (L1 ++ Lc)] at h5
    exact h5
  have hD3 : va_D A ((L1 ++ Lc) ++ (S ++ Sc)) := by
    have h2 := va_D.swap hD2
    have h3 : va_D A (((L1 ++ Lc) ++ Sc) ++ S) := by rw [List.append_assoc L1]; exact h2
    have h4 := va_D.swap h3
    rw [List.append_assoc (L1 ++ Lc)] at h4
    exact h4
  exact k0 Lc Sc hw1 H1 locs1 ls hP3 hD3 hS1 hl
theorem kn_callN (hX : okK K cc nL own ret fr lo mc ms) {y : MethodName} {cc2 : ByteArray} {nL2 fr2 lo2 mc2 ms2 n i q : Nat} {host : String} (As : List Value) {fs : Nat × List Value} {post : va_W → va_W → Prop} {st0 : List Value} (L1 : va_W) (hL : L = L1 ++ [(q, .inr fs)]) (hw : Cond.methodLinkNest own i y host ∈ lw_tbl) (hinst : Cond.instanceMethod y ∈ gw) (hini : Cond.initialized y.cls ∈ gw) (hcd : Cond.code y cc2 nL2 none ∈ gw) (hnm : y.name = "<init>") (hds : y.cls ≠ "java/lang/invoke/MethodHandle" ∧ y.cls ≠ "java/lang/invoke/VarHandle" ∧ (parseMethodDescriptor y.desc).map (fun d => d.parameters.length) = some n) (hR : fr2 + 1 ≤ fr ∧ 8 + (nL2 + 11) + lo2 ≤ lo) (hn : As.length = n) (hst0 : st0 = As.reverse ++ .ref q :: st) (hrm : (st.map fun v => v.category).sum ≤ 8) (hcells : cells + mc2 ≤ mc) (hslots : slots + ms2 ≤ ms) (hd : decode cc pc = .ok (.invokespecial i, 3)) (hC : CtrC K.1 y cc2 nL2 fr2 lo2 mc2 ms2 q As fs post)
    (k0 : ∀ Lc Sc : va_W, post Lc Sc → Kj K (L1 ++ Lc) (S ++ Sc) (cells + mc2) (slots + ms2) (pc + 3) lv st) : Kj K L S cells slots pc lv st0 := by
  obtain ⟨E, ⟨p, e, R, s0, m, args, below, meth, cde, A⟩, nL0, Q⟩ := K
  obtain ⟨hexec, hb, hml, rfl, hown, hts, hk, hA, hr, hlocks, ⟨hfr, hlo, hmc, hms⟩⟩ := hX
  subst hL
  intro H locs ls hP hD hS hl
  have hlast : ((L1 ++ [(q, .inr fs)]) ++ S)[L1.length]? = some (q, .inr fs) := by
    rw [List.getElem?_append_left (by simp)]
    simp
  have hPq : va_P E.2.1 classes [(q, .inr fs)] H := by
    intro k x hx
    have hz : k < 1 := (List.getElem?_eq_some_iff.mp hx).1
    have h0 : k = 0 := by omega
    subst h0
    cases hx
    exact hP _ _ hlast
  have hF : ∀ x, va_A [(q, .inr fs)] H.size x → A x := by
    intro x hx
    rcases hx with ⟨k, e9, hx⟩ | hx
    · have hz : k < 1 := (List.getElem?_eq_some_iff.mp hx).1
      have h0 : k = 0 := by omega
      subst h0
      cases hx
      exact hD.2 _ _ hlast
    · exact hA x (Nat.le_trans hS.1 hx)
  refine va_callv (va_runIN (As := As) (rest := st) ⟨hexec, hb, hml, hown, hts⟩ (hC H.size) ⟨va_cnB n hts (gw_code hcd) rfl rfl rfl (hk.2.2 _ _ _ _ hw) (hts _ hini) hds ⟨Nat.le_trans hR.1 hfr, Nat.le_trans hR.2 hlo⟩, hnm, hts _ hinst⟩ ⟨fun a U g mk h => ⟨h.1, h.2.1, h.2.2.1, knw_same (u := U) (U := U.calling g mk a) rfl h.2.2.2⟩, fun U hU hW => ⟨rfl, by rw [hU], by rw [hU]; exact hPq, knw_warm hW hk⟩⟩ rfl hn hl.1 hst0 (lv_room hrm) hd ⟨Nat.le_trans hcells hmc, Nat.le_trans hslots hms⟩) hS (fun x _ h => hF x h) hF (fun u t H1 locs1 ht hvm hw1 hB hz1 hk1 hS1 => ?_)
  obtain ⟨Lc, Sc⟩ := u
  obtain ⟨hB1, hB2⟩ := hB
  rw [ht] at hB1
  obtain ⟨hP2, hD2⟩ := joinC hP hD hk1 hF hB1 hB2
  have hP3 : va_P E.2.1 classes ((L1 ++ Lc) ++ (S ++ Sc)) H1 := by
    have h1 : va_P E.2.1 classes (((L1 ++ S) ++ Lc) ++ Sc) H1 := by rw [List.append_assoc (L1 ++ S)]; exact hP2
    have h2 : va_P E.2.1 classes ((L1 ++ S) ++ Lc) H1 := fun k x hx => h1 k x (by rw [List.getElem?_append_left (List.getElem?_eq_some_iff.mp hx).1]; exact hx)
    have h3 := va_P.swap h2
    have h4 : va_P E.2.1 classes Sc H1 := by
      intro k x hx
      obtain ⟨j, hj⟩ := List.getElem?_of_mem (List.mem_append_right ((L1 ++ S) ++ Lc) (List.mem_of_getElem? hx))
      exact h1 j x hj
    have h5 := va_P.app h3 h4
    rw [List.append_assoc (L1 ++ Lc)] at h5
    exact h5
  have hD3 : va_D A ((L1 ++ Lc) ++ (S ++ Sc)) := by
    have h2 := va_D.swap hD2
    have h3 : va_D A (((L1 ++ Lc) ++ Sc) ++ S) := by rw [List.append_assoc L1]; exact h2
    have h4 := va_D.swap h3
    rw [List.append_assoc (L1 ++ Lc)] at h4
    exact h4
  exact k0 Lc Sc hw1 H1 locs1 ls hP3 hD3 hS1 hl
end KR
