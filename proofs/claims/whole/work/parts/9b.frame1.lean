/-! ===== the frame: a machine that makes objects, its world (wip/gen/fr1.body) ===== -/
abbrev CE : Type := (Nat × Nat × List (Nat × Int)) ⊕ (Nat × List AV)
abbrev CEnt : Type := Instr × Nat × Nat × Nat × Int × Nat
def lkC : List (Nat × Int) → Nat → Option Int
  | [], _ => none
  | q :: r, j => if j = q.1 then some q.2 else lkC r j
def cvF (ad : Nat → Nat) (a : AV) : Value := match a with
  | .inl x => .int (Int32.ofInt x)
  | .inr (.inl x) => .long (Int64.ofInt x)
  | .inr (.inr (.inl (p, _))) => .ref (ad p)
  | .inr (.inr (.inr _)) => .null
def cenA (tyc : Nat → ClassId) (ad : Nat → Nat) (k n : Nat) (ov : List (Nat × Int)) : va_E := match k with
  | 1 => .inl (tyc 1, n, .inl (fun j => Int32.ofInt ((lkC ov j).getD 0)))
  | 2 => .inl (tyc 2, n, .inr (.inl (fun j => Int64.ofInt ((lkC ov j).getD 0))))
  | 3 => .inl (tyc 3, n, .inl (fun j => Int32.ofInt ((lkC ov j).getD 0)))
  | k => .inl (tyc k, n, .inr (.inr (.inr (.inr (fun j => (lkC ov j).map (fun z => ad z.toNat))))))
def cen (tyc : Nat → ClassId) (ad : Nat → Nat) (e : CE) : va_E := match e with
  | .inl (k, n, ov) => cenA tyc ad k n ov
  | .inr (c, vs) => .inr (c, vs.map (cvF ad))
def cwd (tyc : Nat → ClassId) (ad : Nat → Nat) (cs : List CE) : va_W := cs.mapIdx fun i c => (ad i, cen tyc ad c)
def adw (ad : Nat → Nat) : WP := ((fun _ => 0, fun _ _ => 0), fun p _ => ad p, fun _ => 0)
def wfS (n : Nat) (a : AV) : Bool := match a with
  | .inl _ => true
  | .inr (.inr (.inl (p, _))) => Nat.blt p n
  | _ => false
def wfL (n : Nat) (a : AV) : Bool := match a with
  | .inr (.inr (.inl (p, _))) => Nat.blt p n
  | _ => true
def wfE (n : Nat) (e : CE) : Bool := match e with
  | .inl (k, _, ov) => Nat.blt k 4 || ov.all (fun q => Nat.blt q.2.toNat n)
  | .inr (_, vs) => vs.all (wfL n)
def slE (e : CE) : Nat := match e with
  | .inl (_, n, _) => n
  | .inr (_, vs) => vs.length
def slC : List CE → Nat
  | [] => 0
  | e :: r => slE e + slC r
theorem slC_app : ∀ (a b : List CE), slC (a ++ b) = slC a + slC b
  | [], b => by simp [slC]
  | e :: a, b => by
    show slE e + slC (a ++ b) = slE e + slC a + slC b
    rw [slC_app a b]
    omega
theorem slC_set : ∀ (a : List CE) (i : Nat) (e e' : CE), a[i]? = some e → slE e' = slE e → slC (a.set i e') = slC a
  | [], i, e, e', h, _ => by simp at h
  | x :: a, 0, e, e', h, z => by
    simp at h
    subst h
    show slE e' + slC a = slE x + slC a
    rw [z]
  | x :: a, i + 1, e, e', h, z => by
    show slE x + slC (a.set i e') = slE x + slC a
    rw [slC_set a i e e' (by simpa using h) z]
theorem blt_lt {a b : Nat} (h : Nat.blt a b = true) : a < b := Nat.le_of_ble_eq_true h
theorem cvF_cg {ad ad' : Nat → Nat} {n : Nat} (h : ∀ k, k < n → ad' k = ad k) {a : AV} (w : wfL n a = true) : cvF ad' a = cvF ad a := by
  rcases a with x | x | ⟨p, j⟩ | u
  · rfl
  · rfl
  · show Value.ref (ad' p) = Value.ref (ad p)
    rw [h p (blt_lt w)]
  · rfl
theorem lkC_mem : ∀ {ov : List (Nat × Int)} {j : Nat} {z : Int}, lkC ov j = some z → (j, z) ∈ ov
  | [], j, z, h => by simp [lkC] at h
  | q :: r, j, z, h => by
    rw [lkC] at h
    by_cases c : j = q.1
    · rw [if_pos c] at h
      cases h
      rw [c]
      exact List.mem_cons_self ..
    · rw [if_neg c] at h
      exact List.mem_cons_of_mem _ (lkC_mem h)
theorem cenA_ge {tyc : Nat → ClassId} {ad : Nat → Nat} {k n : Nat} {ov : List (Nat × Int)} (h : ¬ k < 4) : cenA tyc ad k n ov = .inl (tyc k, n, .inr (.inr (.inr (.inr (fun j => (lkC ov j).map (fun z => ad z.toNat)))))) ∨ k = 0 := by
  match k, h with
  | k + 4, _ => exact Or.inl rfl
  | 0, h => exact Or.inr rfl
  | 1, h => exact absurd (by decide) h
  | 2, h => exact absurd (by decide) h
  | 3, h => exact absurd (by decide) h
theorem cen_cg {tyc : Nat → ClassId} {ad ad' : Nat → Nat} {n : Nat} (h : ∀ k, k < n → ad' k = ad k) {e : CE} (w : wfE n e = true) (k0 : ∀ k m ov, e = .inl (k, m, ov) → ¬ k = 0) : cen tyc ad' e = cen tyc ad e := by
  rcases e with ⟨k, m, ov⟩ | ⟨c, vs⟩
  · show cenA tyc ad' k m ov = cenA tyc ad k m ov
    by_cases c : k < 4
    · match k, c, k0 with
      | 0, _, k0 => exact absurd rfl (k0 0 m ov rfl)
      | 1, _, _ => rfl
      | 2, _, _ => rfl
      | 3, _, _ => rfl
    · have w : (Nat.blt k 4 || ov.all (fun q => Nat.blt q.2.toNat n)) = true := w
      have wk : Nat.blt k 4 = false := by
        cases z : Nat.blt k 4 with
        | false => rfl
        | true => exact absurd (blt_lt z) c
      rw [wk, Bool.false_or] at w
      rcases cenA_ge (tyc := tyc) (ad := ad) (n := m) (ov := ov) c with z | z
      · rcases cenA_ge (tyc := tyc) (ad := ad') (n := m) (ov := ov) c with z' | z'
        · rw [z, z']
          congr 7
          funext j
          cases q : lkC ov j with
          | none => rfl
          | some x =>
            show some (ad' x.toNat) = some (ad x.toNat)
            rw [h _ (blt_lt (List.all_eq_true.mp w _ (lkC_mem q)))]
        · omega
      · omega
  · show Sum.inr (c, vs.map (cvF ad')) = Sum.inr (c, vs.map (cvF ad))
    congr 2
    have w : vs.all (wfL n) = true := w
    exact List.map_congr_left (fun a ha => cvF_cg h (List.all_eq_true.mp w a ha))
def kOK (e : CE) : Bool := match e with
  | .inl (k, _, _) => Nat.blt 0 k
  | _ => true
theorem kOK_ne {e : CE} (h : kOK e = true) : ∀ k m ov, e = .inl (k, m, ov) → ¬ k = 0 := by
  intro k m ov z
  rw [z] at h
  have := blt_lt h
  omega
theorem cwd_get {tyc : Nat → ClassId} {ad : Nat → Nat} {cs : List CE} (i : Nat) : (cwd tyc ad cs)[i]? = (cs[i]?).map (fun c => (ad i, cen tyc ad c)) := by
  unfold cwd
  exact List.getElem?_mapIdx
theorem cwd_len {tyc : Nat → ClassId} {ad : Nat → Nat} {cs : List CE} : (cwd tyc ad cs).length = cs.length := by
  unfold cwd
  exact List.length_mapIdx
theorem cwd_cg {tyc : Nat → ClassId} {ad ad' : Nat → Nat} {cs : List CE} {n : Nat} (h : ∀ k, k < n → ad' k = ad k) (hl : cs.length ≤ n) (w : cs.all (fun e => wfE n e && kOK e) = true) : cwd tyc ad' cs = cwd tyc ad cs := by
  apply List.ext_getElem?
  intro i
  rw [cwd_get, cwd_get]
  cases e : cs[i]? with
  | none => rfl
  | some c =>
    have q := List.all_eq_true.mp w c (List.mem_of_getElem? e)
    simp only [Bool.and_eq_true] at q
    have il := (List.getElem?_eq_some_iff.mp e).1
    show some (ad' i, cen tyc ad' c) = some (ad i, cen tyc ad c)
    rw [h i (by omega), cen_cg h q.1 (kOK_ne q.2)]
theorem cwd_app {tyc : Nat → ClassId} {ad : Nat → Nat} {cs : List CE} {e : CE} : cwd tyc ad (cs ++ [e]) = cwd tyc ad cs ++ [(ad cs.length, cen tyc ad e)] := by
  apply List.ext_getElem?
  intro i
  rw [cwd_get]
  by_cases c : i < cs.length
  · rw [List.getElem?_append_left c, List.getElem?_append_left (by rw [cwd_len]; exact c), cwd_get]
  · rw [List.getElem?_append_right (by omega), List.getElem?_append_right (by rw [cwd_len]; omega), cwd_len]
    by_cases c2 : i = cs.length
    · subst c2
      simp
    · rw [List.getElem?_eq_none (by simp; omega), List.getElem?_eq_none (by simp; omega)]
      rfl
theorem cwd_set {tyc : Nat → ClassId} {ad : Nat → Nat} {cs : List CE} {i : Nat} {e : CE} (hi : i < cs.length) : cwd tyc ad (cs.set i e) = (cwd tyc ad cs).set i (ad i, cen tyc ad e) := by
  apply List.ext_getElem?
  intro k
  rw [cwd_get]
  by_cases c : k = i
  · subst c
    rw [List.getElem?_set_self hi, List.getElem?_set_self (by rw [cwd_len]; exact hi)]
    rfl
  · rw [List.getElem?_set_ne (Ne.symm c), List.getElem?_set_ne (Ne.symm c), cwd_get]
theorem cvA_F {ad : Nat → Nat} {n : Nat} {a : AV} (h : wfS n a = true) : cvA (adw ad) a = cvF ad a := by
  rcases a with x | x | ⟨p, j⟩ | u
  · rfl
  · rfl
  · rfl
  · cases h
theorem cvA_cgS {ad ad' : Nat → Nat} {n : Nat} (h : ∀ k, k < n → ad' k = ad k) {a : AV} (w : wfS n a = true) : cvA (adw ad') a = cvA (adw ad) a := by
  rcases a with x | x | ⟨p, j⟩ | u
  · rfl
  · rfl
  · show Value.ref (ad' p) = Value.ref (ad p)
    rw [h p (blt_lt w)]
  · cases w
theorem st_cg {ad ad' : Nat → Nat} {n : Nat} (h : ∀ k, k < n → ad' k = ad k) {st : List AV} (w : st.all (wfS n) = true) : st.map (cvA (adw ad')) = st.map (cvA (adw ad)) := List.map_congr_left (fun a ha => cvA_cgS h (List.all_eq_true.mp w a ha))
theorem LV_cg {ad ad' : Nat → Nat} {n N : Nat} (h : ∀ k, k < n → ad' k = ad k) {ls : List AV} {lsC : Array Slot} (w : ls.all (wfL n) = true) (hl : LVx (adw ad) lsC N ls) : LVx (adw ad') lsC N ls := by
  refine ⟨hl.1, hl.2.1, hl.2.2.1, fun i a hi hv => ?_⟩
  rw [hl.2.2.2 i a hi hv]
  have q := List.all_eq_true.mp w a (List.mem_of_getElem? hi)
  rcases a with x | x | ⟨p, j⟩ | u
  · rfl
  · rfl
  · show some (Slot.val (Value.ref (ad p))) = some (Slot.val (Value.ref (ad' p)))
    rw [h p (blt_lt q)]
  · exact hv.elim
theorem LV_set {ad : Nat → Nat} {N i : Nat} {ls : List AV} {lsC : Array Slot} {x : Int} (hl : LVx (adw ad) lsC N ls) (hi : i < ls.length) (w : ls.all (fun a => match a with | .inr (.inl _) => false | _ => true) = true) : ∀ {lsC' : Array Slot}, lv_has lsC' N ((i, .int (Int32.ofInt x)) :: (lvp (adw ad) ls).filter (fun q => !(q.1 == i) && !(q.1 + 1 == i && q.2.category == 2))) → LVx (adw ad) lsC' N (ls.set i (vI x)) := by
  intro lsC' h
  refine store1_LV (v := vI x) hl (fun z => z) (by simp) hi (fun j a hj ha => ?_) h
  by_cases c : j = i
  · subst c
    rw [List.getElem?_set_self hi] at hj
    cases hj
    exact Or.inl ⟨rfl, rfl⟩
  · rw [List.getElem?_set_ne (Ne.symm c)] at hj
    refine Or.inr ⟨c, hj, fun z => ?_⟩
    have q := List.all_eq_true.mp w a (List.mem_of_getElem? hj)
    rcases a with x | x | ⟨p, j⟩ | u
    · exact z.2
    · cases q
    · exact z.2
    · exact z.2
def OA (t : FieldType) (U : State) : Prop := (Cond.arrayOver (.array t)).before #[] U = true
theorem OA.use {t : FieldType} {A : Array Value} {U : State} (h : OA t U) : (Cond.arrayOver (.array t)).before A U = true := h
theorem OA.moved {t : FieldType} {u U : State} (hvm : u.vm.Alike U.vm) (h : OA t u) : OA t U := by
  obtain ⟨comp, c, k, h1, h2, h3, h4, h5⟩ := arrayOverA_spec h
  obtain ⟨k', hk', he⟩ := hvm.2.2 _ _ h3
  have hi : (U.vm.classes.findIdx? fun (x : Class) => match x.kind with | .array component _ => component == comp | _ => false) = some c := (hvm.findIdx?_eqK _ (fun _ => rfl)).trans h2
  have hkind : k'.kind = .array comp (.array t) := by rw [he]; exact h4
  have f1 : U.vm.findClass (FieldType.array t).toString = some comp := by rw [hvm.findClass]; exact h1
  have f2 : U.vm.findClass ("[" ++ (FieldType.array t).toString) = some c := by rw [hvm.findClass]; exact h5
  unfold OA Cond.before Cond.holds
  simp only [Cond.value]
  rw [f1, Option.bind_some, beq_iff_eq, Option.bind_eq_some_iff]
  exact ⟨c, hi, by simp [hk', hkind, f2]⟩
abbrev tyl (G : va_G) (tyc : Nat → ClassId) : List (ClassId × FieldType) := tyx (G, (fun _ _ => 0), tyc)
def KC (G : va_G) (tyc : Nat → ClassId) (s : State) : Prop := va_K G clx (tyl G tyc) s ∧ (∀ w ∈ lw_tbl, isNest w = true → va_Nw w s) ∧ va_AO "ValleyGuides$Rope" s ∧ OA .int s ∧ OA .long s
theorem KC_calling {G : va_G} {tyc : Nat → ClassId} {U : State} {g : JFrame} {mk : MethodId} {a : Array Value} (h : KC G tyc U) : KC G tyc (U.calling g mk a) :=
  ⟨va_K.moved (u := U) (U := U.calling g mk a) (Vm.Alike.refl U.vm) h.1, (fun w hw hn => by
    have h1 := h.2.1 w hw hn
    cases w <;> first | (cases hn; done) | exact va_Nw.same rfl rfl h1), va_AO.moved (u := U) (U := U.calling g mk a) (Vm.Alike.refl U.vm) h.2.2.1, OA.moved (u := U) (U := U.calling g mk a) (Vm.Alike.refl U.vm) h.2.2.2.1, OA.moved (u := U) (U := U.calling g mk a) (Vm.Alike.refl U.vm) h.2.2.2.2⟩
theorem KC_warm {G : va_G} {tyc : Nat → ClassId} {s U : State} (hW : s.WarmedH U.vm) (h : KC G tyc s) : KC G tyc U :=
  ⟨va_K.moved hW.alike h.1, (fun w hw hn => by
    have h1 := h.2.1 w hw hn
    cases w <;> first | (cases hn; done) | exact va_Nw.warmM hW h1), va_AO.moved hW.alike h.2.2.1, OA.moved hW.alike h.2.2.2.1, OA.moved hW.alike h.2.2.2.2⟩
