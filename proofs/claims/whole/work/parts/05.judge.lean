/-! ===== the helpers' meanings ===== -/
def isLg (a : AV) : Prop := match a with
  | .inr (.inl _) => True
  | _ => False
theorem cat_of {ω : WP} {a : AV} (h : ¬ isLg a) : (cvA ω a).category = 1 := by
  rcases a with x | x | ⟨p, j⟩ | u
  · rfl
  · exact absurd trivial h
  · rfl
  · show (if ω.2.1 1020 1 = 0 then Value.null else Value.ref (ω.2.1 1020 0)).category = 1
    split <;> rfl
theorem cat_lg {ω : WP} {a : AV} (h : isLg a) : (cvA ω a).category = 2 := by
  rcases a with x | x | ⟨p, j⟩ | u
  · exact h.elim
  · rfl
  · exact h.elim
  · exact h.elim
theorem setI_sp : ∀ (ls : List AV) (i : Nat) (v : AV) (k : List AV → Prop), setI ls i v k → ∃ ls' : List AV, k ls' ∧ ls'.length = ls.length ∧ i < ls.length ∧
    ∀ (j : Nat) (a : AV), ls'[j]? = some a → isV a → (j = i ∧ a = v) ∨ (¬ j = i ∧ ls[j]? = some a ∧ ¬ (j + 1 = i ∧ isLg a))
  | [], _, _, _, h => h.elim
  | a :: l, 0, v, k, h => by
    refine ⟨v :: l, by simpa [setI] using h, rfl, by simp, fun j b hj _ => ?_⟩
    cases j with
    | zero => left; simp at hj; exact ⟨rfl, hj.symm⟩
    | succ j => right; simp at hj; exact ⟨by omega, by simpa using hj, by omega⟩
  | a :: l, i + 1, v, k, h => by
    by_cases hl : i = 0 ∧ isLg a
    · obtain ⟨rfl, hl⟩ := hl
      rcases a with x | x | ⟨p, j⟩ | u
      · exact hl.elim
      · obtain ⟨l', h1, h2, h3, h4⟩ := setI_sp l 0 v _ h
        refine ⟨_, h1, by simp [h2], by simp; omega, fun j b hj hb => ?_⟩
        cases j with
        | zero => simp at hj; subst hj; exact hb.elim
        | succ j =>
          rcases h4 j b (by simpa using hj) hb with ⟨e1, e2⟩ | ⟨e1, e2, e3⟩
          · exact Or.inl ⟨by omega, e2⟩
          · exact Or.inr ⟨by omega, by simpa using e2, fun z => e3 ⟨by omega, z.2⟩⟩
      · exact hl.elim
      · exact hl.elim
    · have h' : setI l i v (fun l' => k (a :: l')) := by
        cases i with
        | zero =>
          rcases a with x | x | ⟨p, j⟩ | u
          · simpa only [setI] using h
          · exact absurd ⟨rfl, trivial⟩ hl
          · simpa only [setI] using h
          · simpa only [setI] using h
        | succ i => simpa only [setI] using h
      obtain ⟨l', h1, h2, h3, h4⟩ := setI_sp l i v _ h'
      refine ⟨_, h1, by simp [h2], by simp; omega, fun j b hj hb => ?_⟩
      cases j with
      | zero =>
        simp at hj
        subst hj
        exact Or.inr ⟨by omega, by simp, fun z => hl ⟨by omega, z.2⟩⟩
      | succ j =>
        rcases h4 j b (by simpa using hj) hb with ⟨e1, e2⟩ | ⟨e1, e2, e3⟩
        · exact Or.inl ⟨by omega, e2⟩
        · exact Or.inr ⟨by omega, by simpa using e2, fun z => e3 ⟨by omega, z.2⟩⟩
theorem setL_sp : ∀ (ls : List AV) (i : Nat) (v : AV) (k : List AV → Prop), setL ls i v k → ∃ ls' : List AV, k ls' ∧ ls'.length = ls.length ∧ i + 1 < ls.length ∧
    ∀ (j : Nat) (a : AV), ls'[j]? = some a → isV a → (j = i ∧ a = v) ∨ (¬ j = i ∧ ¬ j = i + 1 ∧ ls[j]? = some a ∧ ¬ (j + 1 = i ∧ isLg a))
  | [], _, _, _, h => h.elim
  | [_], _, _, _, h => h.elim
  | a :: b :: l, 0, v, k, h => by
    refine ⟨v :: vU :: l, by simpa [setL] using h, rfl, by simp, fun j b' hj hb => ?_⟩
    cases j with
    | zero => left; simp at hj; exact ⟨rfl, hj.symm⟩
    | succ j =>
      cases j with
      | zero => simp at hj; subst hj; exact hb.elim
      | succ j => right; simp at hj; exact ⟨by omega, by omega, by simpa using hj, by omega⟩
  | a :: b :: l, i + 1, v, k, h => by
    by_cases hl : i = 0 ∧ isLg a
    · obtain ⟨rfl, hl⟩ := hl
      rcases a with x | x | ⟨p, j⟩ | u
      · exact hl.elim
      · obtain ⟨l', h1, h2, h3, h4⟩ := setL_sp (b :: l) 0 v _ h
        refine ⟨_, h1, by simp [h2], by simp at h3 ⊢; omega, fun j b hj hb => ?_⟩
        cases j with
        | zero => simp at hj; subst hj; exact hb.elim
        | succ j =>
          rcases h4 j b (by simpa using hj) hb with ⟨e1, e2⟩ | ⟨e1, e1', e2, e3⟩
          · exact Or.inl ⟨by omega, e2⟩
          · exact Or.inr ⟨by omega, by omega, by simpa using e2, fun z => e3 ⟨by omega, z.2⟩⟩
      · exact hl.elim
      · exact hl.elim
    · have h' : setL (b :: l) i v (fun l' => k (a :: l')) := by
        cases i with
        | zero =>
          rcases a with x | x | ⟨p, j⟩ | u
          · simpa only [setL] using h
          · exact absurd ⟨rfl, trivial⟩ hl
          · simpa only [setL] using h
          · simpa only [setL] using h
        | succ i => simpa only [setL] using h
      obtain ⟨l', h1, h2, h3, h4⟩ := setL_sp (b :: l) i v _ h'
      refine ⟨_, h1, by simp [h2], by simp at h3 ⊢; omega, fun j b hj hb => ?_⟩
      cases j with
      | zero =>
        simp at hj
        subst hj
        exact Or.inr ⟨by omega, by omega, by simp, fun z => hl ⟨by omega, z.2⟩⟩
      | succ j =>
        rcases h4 j b (by simpa using hj) hb with ⟨e1, e2⟩ | ⟨e1, e1', e2, e3⟩
        · exact Or.inl ⟨by omega, e2⟩
        · exact Or.inr ⟨by omega, by omega, by simpa using e2, fun z => e3 ⟨by omega, z.2⟩⟩
theorem popK_sp : ∀ (n : Nat) (st acc : List AV) (k : List AV → List AV → Prop), popK n st acc k → ∃ as r : List AV, st = as ++ r ∧ as.length = n ∧ k (as.reverse ++ acc) r
  | 0, st, acc, k, h => ⟨[], st, rfl, rfl, h⟩
  | n + 1, [], _, _, h => h.elim
  | n + 1, a :: st, acc, k, h => by
    obtain ⟨as, r, h1, h2, h3⟩ := popK_sp n st (a :: acc) k h
    exact ⟨a :: as, r, by rw [h1]; rfl, by simp [h2], by simpa using h3⟩
theorem store1_LV {ω : WP} {lsC : Array Slot} {n i : Nat} {ls ls' : List AV} {v : AV} (h : LVx ω lsC n ls) (hv : ¬ isLg v) (hle : ls'.length = ls.length) (hi : i < ls.length)
    (hs : ∀ (j : Nat) (a : AV), ls'[j]? = some a → isV a → (j = i ∧ a = v) ∨ (¬ j = i ∧ ls[j]? = some a ∧ ¬ (j + 1 = i ∧ isLg a))) :
    ∀ {lsC' : Array Slot}, lv_has lsC' n ((i, cvA ω v) :: (lvp ω ls).filter (fun q => !(q.1 == i) && !(q.1 + 1 == i && q.2.category == 2))) → LVx ω lsC' n ls' := by
  intro lsC' h'
  refine LVx.of h' (hle.trans h.2.1) fun j a hj ha => ?_
  rcases hs j a hj ha with ⟨e1, e2⟩ | ⟨e1, e2, e3⟩
  · rw [e1, e2]; exact List.mem_cons_self
  · refine List.mem_cons_of_mem _ (List.mem_filter.mpr ⟨mem_lvp.mpr ⟨a, e2, ha, rfl⟩, ?_⟩)
    have e3' : ¬ (j + 1 = i ∧ (cvA ω a).category = 2) := fun z => e3 ⟨z.1, by
      rcases Classical.em (isLg a) with q | q
      · exact q
      · rw [cat_of q] at z; omega⟩
    simp only [Bool.and_eq_true, Bool.not_eq_true', beq_eq_false_iff_ne, ne_eq, Bool.and_eq_false_iff]
    refine ⟨e1, ?_⟩
    by_cases z : j + 1 = i
    · right; exact fun q => e3' ⟨z, q⟩
    · left; exact z
theorem store2_LV {ω : WP} {lsC : Array Slot} {n i : Nat} {ls ls' : List AV} {v : AV} (h : LVx ω lsC n ls) (hle : ls'.length = ls.length) (hi : i + 1 < ls.length)
    (hs : ∀ (j : Nat) (a : AV), ls'[j]? = some a → isV a → (j = i ∧ a = v) ∨ (¬ j = i ∧ ¬ j = i + 1 ∧ ls[j]? = some a ∧ ¬ (j + 1 = i ∧ isLg a))) :
    ∀ {lsC' : Array Slot}, lv_has lsC' n ((i, cvA ω v) :: (lvp ω ls).filter (fun q => !(q.1 == i) && (!(q.1 == i + 1) && !(q.1 + 1 == i && q.2.category == 2)))) → LVx ω lsC' n ls' := by
  intro lsC' h'
  refine LVx.of h' (hle.trans h.2.1) fun j a hj ha => ?_
  rcases hs j a hj ha with ⟨e1, e2⟩ | ⟨e1, e1', e2, e3⟩
  · rw [e1, e2]; exact List.mem_cons_self
  · refine List.mem_cons_of_mem _ (List.mem_filter.mpr ⟨mem_lvp.mpr ⟨a, e2, ha, rfl⟩, ?_⟩)
    have e3' : ¬ (j + 1 = i ∧ (cvA ω a).category = 2) := fun z => e3 ⟨z.1, by
      rcases Classical.em (isLg a) with q | q
      · exact q
      · rw [cat_of q] at z; omega⟩
    simp only [Bool.and_eq_true, Bool.not_eq_true', beq_eq_false_iff_ne, ne_eq, Bool.and_eq_false_iff]
    refine ⟨e1, e1', ?_⟩
    by_cases z : j + 1 = i
    · right; exact fun q => e3' ⟨z, q⟩
    · left; exact z
theorem okL_get {ls : List AV} (h : okL ls) {i : Nat} {a : AV} (hi : ls[i]? = some a) : okA a := h a (List.mem_of_getElem? hi)
theorem okL_set {ls ls' : List AV} {v : AV} (h : okL ls) (hv : okA v) (hs : ∀ (j : Nat) (a : AV), ls'[j]? = some a → isV a → a = v ∨ ls[j]? = some a) : okL ls' := by
  intro a ha
  obtain ⟨j, hj⟩ := List.getElem?_of_mem ha
  by_cases hV : isV a
  · rcases hs j a hj hV with rfl | q
    · exact hv
    · exact okL_get h q
  · rcases a with x | x | ⟨p, j⟩ | u
    · exact absurd trivial hV
    · exact absurd trivial hV
    · exact absurd trivial hV
    · exact trivial
/-! ===== a method's place, a contract: the judgements of the abstract machine ===== -/
def wsA : List Jvm.Cond := lw_tbl.filter goodWord
def wsY (y : Nat) : List Jvm.Cond := Jvm.Cond.code (ynt y) (byt y) (mxt y) (rtt y) :: wsA
def isNest : Jvm.Cond → Bool
  | .methodLinkNest _ _ _ _ => true
  | _ => false
def KX (ω : WP) (s : State) : Prop := va_K ω.1 clx (tyx ω) s ∧ (∀ w ∈ lw_tbl, isNest w = true → va_Nw w s) ∧ vk_R "ValleyGuides$Reader" 85 "bar pay ask back or and not wind rain snow quarter grade people hard length day " (ω.2.1 1000 0) s ∧ vk_R "ValleyGuides$Reader" 77 "()+-*<>=;" (ω.2.1 1001 0) s
/-- what nobody writes: the reader's table of how fast signs bind -/
def roX (j : Int) : Int := [0, 0, 0, 0, 1, 2, 3, 0, 0, 0, 0, 0, 0, 0, 0, 0, 0, 0, 5, 5, 6, 4, 4, 4, 0, 0, 0, 0].getD j.toNat 0
def roV (j : Nat) : Value := .int (Int32.ofInt (roX j))
def slen : List Nat := [80, 9]
def sbyt : List (List Int32) := [[98, 97, 114, 32, 112, 97, 121, 32, 97, 115, 107, 32, 98, 97, 99, 107, 32, 111, 114, 32, 97, 110, 100, 32, 110, 111, 116, 32, 119, 105, 110, 100, 32, 114, 97, 105, 110, 32, 115, 110, 111, 119, 32, 113, 117, 97, 114, 116, 101, 114, 32, 103, 114, 97, 100, 101, 32, 112, 101, 111, 112, 108, 101, 32, 104, 97, 114, 100, 32, 108, 101, 110, 103, 116, 104, 32, 100, 97, 121, 32], [40, 41, 43, 45, 42, 60, 62, 61, 59]]
def SX (ω : WP) (A : Nat → Prop) (U : State) (H : Heap) : Prop := (va_Z "ValleyGuides$Reader" "BINDS" "[I" (.ref (ω.2.1 1002 0)) A U H ∧ va_T .int (ω.2.1 1002 0) 28 roV A U H) ∧ vk_S 2 slen sbyt (fun i => ω.2.1 (1000 + i) 0) (fun i => ω.2.1 (1010 + i) 0) A U H ∧ va_Z "java/lang/String" "COMPACT_STRINGS" "Z" (.int 1) A U H ∧ va_Z "jdk/internal/util/Preconditions" "SIOOBE_FORMATTER" "Ljava/util/function/BiFunction;" (cvA ω vU) A U H
theorem SX.moved {ω : WP} {A : Nat → Prop} {u U : State} {H : Heap} (hvm : u.vm.Alike U.vm) (h : SX ω A u H) : SX ω A U H := ⟨⟨h.1.1.moved hvm, h.1.2.moved hvm⟩, h.2.1.moved hvm, h.2.2.1.moved hvm, h.2.2.2.moved hvm⟩
theorem SX.kept {ω : WP} {A : Nat → Prop} {U : State} {H H1 : Heap} (h : SX ω A U H) (hq : ∀ a : Nat, a < H.size → ¬ A a → H1[a]? = H[a]?) : SX ω A U H1 := ⟨⟨h.1.1.kept hq, h.1.2.kept hq⟩, h.2.1.kept hq, h.2.2.1.kept hq, h.2.2.2.kept hq⟩
theorem SX.narrow {ω : WP} {A B : Nat → Prop} {U : State} {H : Heap} (h : SX ω A U H) (hAB : ∀ q, B q → A q) : SX ω B U H := ⟨⟨h.1.1.narrow hAB, h.1.2.narrow hAB⟩, h.2.1.narrow hAB, h.2.2.1.narrow hAB, h.2.2.2.narrow hAB⟩
def rmd (d : Nat) : Room := { frames := d, cells := 0, slots := 0, locals := 40 * d }
def Cx (ω : WP) (y : Nat) (p : Program) (s : State) (m : MethodId) (args : Array Value) (meth : Method) (c : Code) (A : Nat → Prop) : Prop :=
  p.tables.exec = Jvm.exec ∧ c.code = byt y ∧ c.maxLocals = mxt y ∧ meth.sig.returnType = rtt y ∧ meth.locks = false ∧ s.vm.findClass (owt y) = some m.cls ∧ (∀ w ∈ wsA, w.before args s = true) ∧ KX ω s ∧ (∀ q, s.heap.size ≤ q → A q) ∧ SX ω A s s.heap
def Rp (ω : WP) (y : Nat) (A : Nat → Prop) (s : State) (H : Heap) (locs : List Loc) (lsC : Array Slot) (ls st : List AV) (M : Mem) : Prop :=
  okM M ∧ okL ls ∧ okL st ∧ LVx ω lsC (mxt y) ls ∧ va_P ω.1 clx (wd ω M) H ∧ va_D A (wd ω M) ∧ va_S A s.heap H locs
def QcX (ω : WP) (Q : Post) (A : Nat → Prop) : Array Value → State → Outcome → State → Prop := fun _ st o t =>
  (∃ (r : Option AV) (M' : Mem), o = .returned (r.map (cvA ω)) ∧ Q r M' ∧ okM M' ∧ (∀ a, r = some a → okA a) ∧ va_P ω.1 clx (wd ω M') t.heap) ∧ va_F A st t
/-- what kind of answer a method gives -/
def rk (y : Nat) (r : Option AV) : Prop := (rtt y = some .int → ∃ x, r = some (vI x)) ∧ (rtt y = some .long → ∃ x, r = some (vL x))
def QK (y : Nat) (Q : Post) : Post := fun r M' => Q r M' ∧ rk y r
def Vx (l : Launch) (ω : WP) (d y pc : Nat) (ls st : List AV) (M : Mem) (Q : Post) : Prop :=
  ∀ (p : Program) (e : Env) (s : State) (m : MethodId) (args : Array Value) (below : List Frame) (meth : Method) (c : Code) (A : Nat → Prop), Cx ω y p s m args meth c A →
    ∀ (H : Heap) (locs : List Loc) (lsC : Array Slot), Rp ω y A s H locs lsC ls st M →
      W p l e (rmd d) s m args below meth c H locs 0 0 (MQ below (QcX ω (QK y Q) A) args s 0 0 A) (F0 m pc lsC (st.map (cvA ω)))
def PcX (ω : WP) (as : List AV) (M : Mem) (sz : Nat) : Array Value → State → Prop := va_Pc (as.map (cvA ω)) (fun U => U.heap.size = sz ∧ KX ω U ∧ va_P ω.1 clx (wd ω M) U.heap ∧ va_D (fun _ => True) (wd ω M) ∧ SX ω (va_A (wd ω M) sz) U U.heap)
def Vd (l : Launch) (ω : WP) (d y : Nat) (as : List AV) (M : Mem) (Q : Post) : Prop :=
  okM M → okL as → ∀ sz : Nat, Met l (ynt y) (wsY y) (rmd d) (PcX ω as M sz) (QcX ω (QK y Q) (va_A (wd ω M) sz)) 0 0 (va_A (wd ω M) sz)
section RULES
variable {l : Launch} {ω : WP} {d y pc pc' : Nat} {ls st st' r : List AV} {M : Mem} {Q : Post}
theorem Vx.ch (hok : okL ls → okL st → okL st')
    (hw : ∀ {p : Program} {e : Env} {s : State} {m : MethodId} {args : Array Value} {below : List Frame} {meth : Method} {c : Code} {A : Nat → Prop} {H : Heap} {locs : List Loc} {lsC : Array Slot} {Qf : State → Prop}, p.tables.exec = Jvm.exec → c.code = byt y → okL ls → okL st → LVx ω lsC (mxt y) ls → Cx ω y p s m args meth c A →
      W p l e (rmd d) s m args below meth c H locs 0 0 Qf (F0 m pc' lsC (st'.map (cvA ω))) → W p l e (rmd d) s m args below meth c H locs 0 0 Qf (F0 m pc lsC (st.map (cvA ω))))
    (h : Vx l ω d y pc' ls st' M Q) : Vx l ω d y pc ls st M Q := by
  intro p e s m args below meth c A C H locs lsC ⟨hM, hls, hst, hl, hP, hD, hS⟩
  exact hw C.1 C.2.1 hls hst hl C (h p e s m args below meth c A C H locs lsC ⟨hM, hls, hok hls hst, hl, hP, hD, hS⟩)
end RULES
