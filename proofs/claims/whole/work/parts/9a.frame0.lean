/-! ===== the frame: rows of rows made at once (wip/gen/fr0.body) ===== -/
def mnO (cA : ClassId) (N h i : Nat) : Cell := arrV cA N (fun j => if j < i then .ref (h + 1 + j) else .null)
theorem mnO_s (cA : ClassId) (N h i : Nat) : (mnO cA N h i).setSlot i (.ref (h + 1 + i)) = mnO cA N h (i + 1) := by
  unfold mnO
  rw [arrV_store]
  congr 1
  funext j
  unfold updV
  by_cases c : j = i
  · rw [if_pos c, if_pos (by omega), c]
  · rw [if_neg c]
    show (if j < i then Value.ref (h + 1 + j) else Value.null) = _
    by_cases d : j < i
    · rw [if_pos d, if_pos (by omega)]
    · rw [if_neg d, if_neg (by omega)]
theorem mnO_0 (cA : ClassId) (N h : Nat) : ({ cls := cA, slots := Array.replicate N .null, vm := .none } : Cell) = mnO cA N h 0 := by
  rw [arrV_new]
  unfold mnO
  congr 1
def mnS (S : State) (cA comp : ClassId) (N K : Nat) (dv : Value) : Nat → State
  | 0 => S.pushCell (mnO cA N S.heap.size 0)
  | i + 1 => ((mnS S cA comp N K dv i).pushCell (arrV comp K (fun _ => dv))).setCell S.heap.size (mnO cA N S.heap.size (i + 1))
theorem mnS_f (S : State) (cA comp : ClassId) (N K : Nat) (dv : Value) : ∀ i, (mnS S cA comp N K dv i).heap.size = S.heap.size + 1 + i ∧ (mnS S cA comp N K dv i).heap[S.heap.size]? = some (mnO cA N S.heap.size i) ∧ (mnS S cA comp N K dv i).vm = S.vm ∧ (mnS S cA comp N K dv i).slotsUsed = S.slotsUsed + N + i * K
  | 0 => by
    refine ⟨by simp [mnS], by simp [mnS], rfl, ?_⟩
    show S.slotsUsed + (mnO cA N S.heap.size 0).slots.size = _
    unfold mnO
    rw [arrV_size]
    omega
  | i + 1 => by
    obtain ⟨a, b, d, u⟩ := mnS_f S cA comp N K dv i
    have hlt : S.heap.size < (mnS S cA comp N K dv i).heap.size := by omega
    have hb : ((mnS S cA comp N K dv i).pushCell (arrV comp K (fun _ => dv))).heap[S.heap.size]? = some (mnO cA N S.heap.size i) := by rw [State.heap_pushCell_of_lt (h := hlt)]; exact b
    refine ⟨?_, State.heap_setCell_self hb, by simp [mnS, d], ?_⟩
    · simp [mnS, State.setCell, a]
      omega
    · have : (mnS S cA comp N K dv (i + 1)).slotsUsed = (mnS S cA comp N K dv i).slotsUsed + (arrV comp K (fun _ => dv)).slots.size := rfl
      rw [this, arrV_size, u, Nat.succ_mul]
      omega
theorem mnS_top (S : State) (f : JFrame) (cA comp : ClassId) (N K : Nat) (dv : Value) : ∀ i, mnS (S.setTop f) cA comp N K dv i = (mnS S cA comp N K dv i).setTop f
  | 0 => rfl
  | i + 1 => by simp only [mnS, mnS_top S f cA comp N K dv i, State.heap_setTop, State.pushCell_setTop, State.setCell_setTop]
theorem mnS_old (S : State) (cA comp : ClassId) (N K : Nat) (dv : Value) {a : Addr} (ha : a < S.heap.size) : ∀ i, (mnS S cA comp N K dv i).heap[a]? = S.heap[a]?
  | 0 => State.heap_pushCell_of_lt _ _ ha
  | i + 1 => by
    have f1 := (mnS_f S cA comp N K dv i).1
    show (((mnS S cA comp N K dv i).pushCell _).setCell S.heap.size _).heap[a]? = _
    have hlt : a < (mnS S cA comp N K dv i).heap.size := Nat.lt_of_lt_of_le ha (by omega)
    rw [State.heap_setCell_other (Nat.ne_of_gt ha), State.heap_pushCell_of_lt (h := hlt)]
    exact mnS_old S cA comp N K dv ha i
theorem mnS_in (S : State) (cA comp : ClassId) (N K : Nat) (dv : Value) : ∀ i j, j < i → (mnS S cA comp N K dv i).heap[S.heap.size + 1 + j]? = some (arrV comp K (fun _ => dv))
  | 0, _, h => absurd h (Nat.not_lt_zero _)
  | i + 1, j, h => by
    have f1 := (mnS_f S cA comp N K dv i).1
    show (((mnS S cA comp N K dv i).pushCell _).setCell S.heap.size _).heap[S.heap.size + 1 + j]? = _
    rw [State.heap_setCell_other (show S.heap.size ≠ S.heap.size + 1 + j by omega)]
    by_cases c : j < i
    · have hlt : S.heap.size + 1 + j < (mnS S cA comp N K dv i).heap.size := by omega
      rw [State.heap_pushCell_of_lt (h := hlt)]
      exact mnS_in S cA comp N K dv i j c
    · have e : S.heap.size + 1 + j = (mnS S cA comp N K dv i).heap.size := by omega
      rw [e]
      exact State.heap_pushCell_size _ _
section MNW
variable {E : CtlPost} {e : Env} {d : Bool} {acts : List Action} {s : State}
/-- a row made, of values all alike -/
theorem mn_row {c comp : ClassId} {k : Class} {ty : FieldType} {n : Nat} {v : Value} (hk : s.vm.classes[c]? = some k) (hkind : k.kind = .array comp ty) (hl : n ≤ e.platform.arrayLengthLimit) (hh : n * componentBytes ty ≤ e.platform.maxHeapBytes) (hf : fits ty v = true) (hd : v.isDefault = true) (h1 : s.heap.size < e.platform.maxCells) (h2 : s.slotsUsed + n ≤ e.platform.maxSlots) {Q : Addr → (Bool → List Action → State → Prop)} (hq : Q s.heap.size d acts (s.pushCell { cls := c, slots := Array.replicate n v, vm := .none })) : wp (Jvm.newArray c n v) Q E e d acts s := by
  have hfit : ∀ i x, (Array.replicate n v)[i]? = some x → s.fitsSlot c .none i x = true := fun i x hx => by
    rw [Array.getElem?_replicate] at hx
    split at hx
    · cases hx
      simp [State.fitsSlot, State.slotType?, hk, hkind, hf]
    · cases hx
  have hact : allocActs (Array.replicate n v) s.heap.size acts = acts := by
    unfold allocActs
    rw [if_pos (by rw [Array.all_replicate]; split <;> simp [hd])]
  have nl : ¬ n > e.platform.arrayLengthLimit := by omega
  have nh : ¬ n * componentBytes ty > e.platform.maxHeapBytes := by omega
  simp only [Jvm.newArray, Jvm.arrayFits, wp_bind', W.ask, W.ite, nl, if_false, wp_pure', W.theClass, hk, hkind, nh, W.alloc, W.stop, Option.some.injEq, exists_eq_left', Array.size_replicate, hact]
  rw [if_neg (by omega)]
  exact ⟨h1, h2, hfit, hq⟩
theorem mn_ref {t : FieldType} (h : t.isReference = true) {v : Value} (hv : v = .null ∨ ∃ a, v = .ref a) : fits t v = true := by
  rcases hv with rfl | ⟨a, rfl⟩ <;> cases t <;> simp [FieldType.isReference] at h <;> rfl
theorem mn_in {comp cc : ClassId} {kc : Class} {ty : FieldType} {m : Int32} (hkc : s.vm.classes[comp]? = some kc) (hkindc : kc.kind = .array cc ty) (hm : ¬ m < 0) (hl : m.toNatClampNeg ≤ e.platform.arrayLengthLimit) (hh : m.toNatClampNeg * componentBytes ty ≤ e.platform.maxHeapBytes) (hf : fits ty (defaultValue ty) = true) (hd : (defaultValue ty).isDefault = true) (h1 : s.heap.size < e.platform.maxCells) (h2 : s.slotsUsed + m.toNatClampNeg ≤ e.platform.maxSlots) {Q : Addr → (Bool → List Action → State → Prop)} (hq : Q s.heap.size d acts (s.pushCell (arrV comp m.toNatClampNeg (fun _ => defaultValue ty)))) : wp (Op.multianewarray.make comp [m]) Q E e d acts s := by
  rw [Op.multianewarray.make]
  simp only [wp_bind', W.ite, hm, if_false, wp_pure', W.theClass, hkc, hkindc, Option.some.injEq, exists_eq_left']
  refine mn_row hkc hkindc hl hh hf hd h1 h2 ?_
  rw [arrV_new]
  exact hq
theorem mn_two {c comp cc : ClassId} {k kc : Class} {t0 ty : FieldType} {n m : Int32} (hk : s.vm.classes[c]? = some k) (hkind : k.kind = .array comp t0) (hr : t0.isReference = true) (hkc : s.vm.classes[comp]? = some kc) (hkindc : kc.kind = .array cc ty) (hn : ¬ n < 0) (hm : ¬ m < 0)
    (l1 : n.toNatClampNeg ≤ e.platform.arrayLengthLimit) (b1 : n.toNatClampNeg * componentBytes t0 ≤ e.platform.maxHeapBytes) (l2 : m.toNatClampNeg ≤ e.platform.arrayLengthLimit) (b2 : m.toNatClampNeg * componentBytes ty ≤ e.platform.maxHeapBytes) (hf : fits ty (defaultValue ty) = true) (hd : (defaultValue ty).isDefault = true)
    (hc : s.heap.size + 1 + n.toNatClampNeg ≤ e.platform.maxCells) (hs : s.slotsUsed + n.toNatClampNeg + n.toNatClampNeg * m.toNatClampNeg ≤ e.platform.maxSlots) {Q : Addr → (Bool → List Action → State → Prop)} (hq : ∀ d' acts', Q s.heap.size d' acts' (mnS s c comp n.toNatClampNeg m.toNatClampNeg (defaultValue ty) n.toNatClampNeg)) : wp (Op.multianewarray.make c [n, m]) Q E e d acts s := by
  have hfind : ([m].find? (· < 0)) = none := by simp [hm]
  rw [Op.multianewarray.make]
  simp only [wp_bind', W.ite, hn, if_false, wp_pure', W.theClass, hk, hkind, Option.some.injEq, exists_eq_left']
  have hz : s.slotsUsed + n.toNatClampNeg ≤ e.platform.maxSlots := Nat.le_trans (Nat.le_add_right _ _) hs
  refine mn_row hk hkind l1 b1 (mn_ref hr (Or.inl rfl)) rfl (by omega) hz ?_
  rw [mnO_0 (h := s.heap.size)]
  simp only [hfind]
  rw [ite_self, wp_bind', Std.Legacy.Range.forIn_eq_forIn_range']
  have hsz : ([:n.toNatClampNeg] : Std.Legacy.Range).size = n.toNatClampNeg := by simp [Std.Legacy.Range.size]
  rw [hsz]
  generalize hN : n.toNatClampNeg = N at *
  show wp (forIn (List.range' 0 N 1) PUnit.unit _) _ E e d acts _
  refine wp_forIn_inv (fun rest s' => ∃ i, i ≤ N ∧ rest = List.range' i (N - i) ∧ s' = mnS s c comp N m.toNatClampNeg (defaultValue ty) i) _ _ ⟨0, Nat.zero_le _, rfl, rfl⟩ ?_ ?_
  · rintro x rest s' d' acts' Q' ⟨i, hi, hl, rfl⟩ hnext
    have hlt : i < N := Decidable.byContradiction fun z => by
      rw [show N - i = 0 by omega] at hl
      simp at hl
    obtain ⟨rfl, hrest⟩ : x = i ∧ rest = List.range' (i + 1) (N - (i + 1)) := by
      rw [show N - i = (N - (i + 1)) + 1 by omega, List.range'_succ] at hl
      exact ⟨(List.cons.inj hl).1, (List.cons.inj hl).2⟩
    obtain ⟨f1, f2, f3, f4⟩ := mnS_f s c comp N m.toNatClampNeg (defaultValue ty) x
    have hmul : x * m.toNatClampNeg + m.toNatClampNeg ≤ N * m.toNatClampNeg := by
      have := Nat.mul_le_mul_right m.toNatClampNeg (show x + 1 ≤ N from hlt)
      rw [Nat.succ_mul] at this
      exact this
    simp only [wp_bind']
    refine mn_in (by rw [f3]; exact hkc) hkindc hm l2 b2 hf hd (by rw [f1]; omega) (by rw [f4]; omega) ?_
    have hlt0 : s.heap.size < (mnS s c comp N m.toNatClampNeg (defaultValue ty) x).heap.size := by rw [f1]; omega
    simp only [wp_bind', W.writeLoc, wp_pure']
    refine ⟨mnO c N s.heap.size x, by rw [State.heap_pushCell_of_lt (h := hlt0)]; exact f2, (fun z => by cases z), by unfold mnO; rw [arrV_size]; exact hlt, ?_, hnext _ _ _ ⟨x + 1, hlt, hrest, ?_⟩⟩
    · show State.fitsSlot _ c .none x _ = true
      simp [State.fitsSlot, State.slotType?, f3, hk, hkind, mn_ref hr (Or.inr ⟨_, rfl⟩)]
    · rw [f1, mnO_s]
      rfl
  · rintro s' d' acts' ⟨i, hi, hl, rfl⟩
    have hiN : i = N := Decidable.byContradiction fun z => by
      rw [show N - i = (N - (i + 1)) + 1 by omega, List.range'_succ] at hl
      cases hl
    subst hiN
    simp only [wp_pure']
    exact hq _ _
end MNW
section MNX
variable {p : Program} {l : Launch} {e : Env} {R : Room} {s : State} {m : MethodId} {args : Array Value} {below : List Frame} {meth : Method} {c : Code} {T : State} {locs : List Loc} {cells slots : Nat} {H : Heap} {Q : State → Prop}
theorem mn_stand (X : Stand p l e R s m args below meth c T locs cells slots) (cA comp : ClassId) (N K : Nat) (dv : Value) : ∀ i, Stand p l e R s m args below meth c (mnS T cA comp N K dv i) (locs ++ (List.range i).map fun j => ⟨T.heap.size, j⟩) (cells + 1 + i) (slots + N + i * K)
  | 0 => by
    have h := X.pushed (mnO cA N T.heap.size 0)
    unfold mnO at h
    rw [arrV_size] at h
    simpa [mnS, mnO] using h
  | i + 1 => by
    have Xi := mn_stand X cA comp N K dv i
    obtain ⟨f1, f2, f3, f4⟩ := mnS_f T cA comp N K dv i
    have hlt : T.heap.size < (mnS T cA comp N K dv i).heap.size := by omega
    have hcell : ((mnS T cA comp N K dv i).pushCell (arrV comp K (fun _ => dv))).heap[T.heap.size]? = some (mnO cA N T.heap.size i) := by rw [State.heap_pushCell_of_lt (h := hlt)]; exact f2
    have h := (Xi.pushed (arrV comp K (fun _ => dv))).stored hcell i (.ref (T.heap.size + 1 + i))
    rw [arrV_size, mnO_s] at h
    have e2 : (locs ++ (List.range (i + 1)).map fun j => (⟨T.heap.size, j⟩ : Loc)) = (locs ++ (List.range i).map fun j => (⟨T.heap.size, j⟩ : Loc)) ++ [⟨T.heap.size, i⟩] := by simp [List.range_succ, List.append_assoc]
    have e3 : slots + N + (i + 1) * K = slots + N + i * K + K := by rw [Nat.succ_mul]; omega
    rw [e2, e3]
    exact h
theorem mn_spec {first : State} {o : Option Outcome} {idx : List Nat} {t : FieldType} (h : (Cond.arrayOver (.array t)).holds args first o s idx = true) : ∃ comp ca k, s.vm.findClass (FieldType.array t).toString = some comp ∧ s.vm.classes[ca]? = some k ∧ k.kind = .array comp (.array t) ∧ s.vm.findClass ("[" ++ (FieldType.array t).toString) = some ca := by
  obtain ⟨comp, ca, k, h1, h2, h3, h4, h5⟩ := arrayOverA_spec h
  exact ⟨comp, ca, k, h1, h3, h4, h5⟩
/-- a row of rows: the instruction -/
theorem W.mnew {cc : ByteArray} (hexec : p.tables.exec = Jvm.exec) (hb : c.code = cc) {own : String} {index : Nat} {ty : FieldType} (hown : s.vm.findClass own = some m.cls) (hclink : (Cond.classLink own index ("[" ++ (FieldType.array ty).toString)).before args s = true) (hover : (Cond.arrayOver (.array ty)).before args s = true) (harr : (Cond.arrayClass ty).before args s = true)
    {g : JFrame} (hg : g.method = m) (hdg : decode cc g.pc = .ok (.multianewarray index 2, 4)) {n k : Int32} {rest : List Value} (hstack : g.stack = .int k :: .int n :: rest) (hn : ¬ n < 0) (hk : ¬ k < 0) (hb1 : n.toNatClampNeg * 4 ≤ 536870912) (hb2 : k.toNatClampNeg * componentBytes ty ≤ 536870912) (hb3 : k.toNatClampNeg ≤ 536870912)
    (hdf : fits ty (defaultValue ty) = true) (hdd : (defaultValue ty).isDefault = true) (hcells : cells + (1 + n.toNatClampNeg) ≤ R.cells) (hslots : slots + (n.toNatClampNeg + n.toNatClampNeg * k.toNatClampNeg) ≤ R.slots)
    (kk : ∀ (cA comp : ClassId) (H1 : Heap) (locs1 : List Loc), s.vm.findClass ("[" ++ (FieldType.array ty).toString) = some cA → s.vm.findClass (FieldType.array ty).toString = some comp → H1.size = H.size + 1 + n.toNatClampNeg → (∀ q, q < H.size → H1[q]? = H[q]?) → H1[H.size]? = some (arrV cA n.toNatClampNeg (fun j => if j < n.toNatClampNeg then .ref (H.size + 1 + j) else .null)) → (∀ j, j < n.toNatClampNeg → H1[H.size + 1 + j]? = some (arrV comp k.toNatClampNeg (fun _ => defaultValue ty))) → (∀ q ∈ locs1, q ∈ locs ∨ q.base = H.size) →
      W p l e R s m args below meth c H1 locs1 (cells + 1 + n.toNatClampNeg) (slots + n.toNatClampNeg + n.toNatClampNeg * k.toNatClampNeg) Q { g with pc := g.pc + 4, stack := .ref H.size :: rest }) : W p l e R s m args below meth c H locs cells slots Q g := by
  intro T hT X
  subst hT; subst hb; subst hg
  have hpl : e.platform.magicAccessors = ({} : Platform).magicAccessors := by rw [X.admits.platform]
  obtain ⟨comp, cA, kA, hcomp, hkA, hkindA, hnameA⟩ := mn_spec hover
  obtain ⟨comp', kC, cc', hcomp', hkC, hkindC⟩ := Cond.arrayClass_spec harr
  obtain rfl : comp' = comp := Option.some.inj (hcomp'.symm.trans hcomp)
  obtain ⟨c0, hfc0, hcl⟩ := Cond.classLink_spec hown hclink e.platform hpl
  cases hnameA.symm.trans hfc0
  obtain ⟨hg₁, hwarm₁, hready₁⟩ := State.classEntry (e := e) X.warmed hcl
  generalize T.vm.noted g.method.cls index (.cls cA) = vm₁ at hg₁ hwarm₁ hready₁
  have hal : s.vm.Alike vm₁ := hwarm₁.alike
  obtain ⟨kA₁, hkA₁, heA⟩ := hal.2.2 _ _ hkA
  obtain ⟨kC₁, hkC₁, heC⟩ := hal.2.2 _ _ hkC
  have hkindA₁ : kA₁.kind = .array comp' (.array ty) := by rw [heA]; exact hkindA
  have hkindC₁ : kC₁.kind = .array cc' ty := by rw [heC]; exact hkindC
  have X₁ := X.noted hwarm₁
  obtain ⟨hr1, hr2⟩ := X.roomAbove hcells hslots
  have XF := mn_stand X₁ cA comp' n.toNatClampNeg k.toNatClampNeg (defaultValue ty) n.toNatClampNeg
  obtain ⟨f1, f2, f3, f4⟩ := mnS_f (T.setVm vm₁) cA comp' n.toNatClampNeg k.toNatClampNeg (defaultValue ty) n.toNatClampNeg
  obtain ⟨t', a1, b1⟩ := kk cA comp' _ _ hnameA hcomp f1 (fun q hq => mnS_old (T.setVm vm₁) cA comp' _ _ _ hq _) f2 (fun j hj => mnS_in (T.setVm vm₁) cA comp' _ _ _ _ j hj) (fun q hq => by
    rcases List.mem_append.mp hq with h | h
    · exact Or.inl h
    · obtain ⟨j, -, rfl⟩ := List.mem_map.mp h
      exact Or.inr rfl) _ rfl XF
  refine ⟨t', ?_, b1⟩
  have l1 : n.toNatClampNeg ≤ e.platform.arrayLengthLimit := by rw [Launch.admits_arrayLengthLimit X.admits]; omega
  have h1 : n.toNatClampNeg * componentBytes (.array ty) ≤ e.platform.maxHeapBytes := by
    rw [Launch.admits_maxHeapBytes X.admits]
    show n.toNatClampNeg * 4 ≤ 536870912
    omega
  have l2 : k.toNatClampNeg ≤ e.platform.arrayLengthLimit := by rw [Launch.admits_arrayLengthLimit X.admits]; omega
  have h2 : k.toNatClampNeg * componentBytes ty ≤ e.platform.maxHeapBytes := by rw [Launch.admits_maxHeapBytes X.admits]; omega
  jvm_step X.here [hexec, hdg]
  simp only [Op.multianewarray.sem, wp_bind', W.resolveClassAt_links (State.method?_setTop g X.here.top) hg₁]
  rw [W.popN, if_neg (by decide)]
  refine ⟨g, State.topJava?_setTop' (s := T.setVm vm₁) g X.here.top, [.int n, .int k], rest, rfl, hstack, ?_⟩
  simp only [List.mapM_cons, List.mapM_nil, wp_bind', wp_pure']
  refine mn_two (k := kA₁) (kc := kC₁) (comp := comp') (cc := cc') (t0 := .array ty) (ty := ty) hkA₁ hkindA₁ rfl hkC₁ hkindC₁ hn hk l1 h1 l2 h2 hdf hdd (by show T.heap.size + 1 + _ ≤ _; omega) (by show T.slotsUsed + _ + _ ≤ _; omega) (fun d' acts' => ?_)
  have eS : ((T.setTop g).setVm vm₁).setTop { g with stack := rest } = (T.setVm vm₁).setTop { g with stack := rest } := by
    show ((T.setVm vm₁).setTop g).setTop _ = _
    rw [State.setTop_setTop]
  rw [eS, mnS_top]
  simp only [wp_bind', W.mark, W.pushRef, State.topJava?_setTop' _ XF.here.top, Option.some.injEq, exists_eq_left', State.setTop_setTop, State.heap_setTop]
  intro acts
  simp [jvm, XF.here.top]
  exact a1
end MNX
