/-! ===== the frame: the machine that makes objects is sound, what makes (wip/gen/fr3.body) ===== -/
def upA (ad : Nat → Nat) (n q : Nat) : Nat → Nat := fun k => if k = n then q else ad k
theorem upA_lt {ad : Nat → Nat} {n q k : Nat} (h : k < n) : upA ad n q k = ad k := by
  unfold upA
  rw [if_neg (by omega)]
theorem upA_n {ad : Nat → Nat} {n q : Nat} : upA ad n q n = q := by
  unfold upA
  rw [if_pos rfl]
theorem alo_sp {n : Nat} {ls st : List AV} {cs : List CE} (h : alo n ls st cs = true) : ls.all (wfL n) = true ∧ st.all (wfS n) = true ∧ cs.all (fun e => wfE n e && kOK e) = true := by
  unfold alo at h
  simp only [Bool.and_eq_true] at h
  exact h
section CNEW
variable {l : Launch} {G : va_G} {tyc : Nat → ClassId} {y : Nat} {p : Program} {e : Env} {R : Room} {s : State} {m : MethodId} {args : Array Value} {below : List Frame} {meth : Method} {c : Code} {A : Nat → Prop} {Qf : State → Prop} {b1 b2 cn sn pc : Nat} {ad : Nat → Nat} {H : Heap} {locs : List Loc} {lsC : Array Slot} {ls r st : List AV} {cs : List CE}
def NXP2 (l : Launch) (G : va_G) (tyc : Nat → ClassId) (y : Nat) (p : Program) (e : Env) (R : Room) (s : State) (m : MethodId) (args : Array Value) (below : List Frame) (meth : Method) (c : Code) (A : Nat → Prop) (Qf : State → Prop) (b1 b2 n0 : Nat) (ad : Nat → Nat) (pc' : Nat) (ls' st' : List AV) (cs' : List CE) : Prop :=
  ∀ (ad' : Nat → Nat) (H' : Heap) (locs' : List Loc) (lsC' : Array Slot) (cn' sn' : Nat), (∀ k, k < n0 → ad' k = ad k) → RcP G tyc ad' y A s H' locs' lsC' ls' cs' → cn' + b1 = cs'.length → sn' + b2 = slC cs' → W p l e R s m args below meth c H' locs' cn' sn' Qf (F0 m pc' lsC' (st'.map (cvA (adw ad'))))
/-- one cell more -/
theorem al_one {q sn' pc' : Nat} {E : CE} {H1 : Heap} (hR : RcP G tyc ad y A s H locs lsC ls cs) (ha : alo cs.length ls r cs = true) (hP1 : va_P G clx (cwd tyc ad cs ++ [(q, cen tyc (upA ad cs.length q) E)]) H1) (hD1 : va_D A (cwd tyc ad cs ++ [(q, cen tyc (upA ad cs.length q) E)])) (hS1 : va_S A s.heap H1 locs) (hs : slE E = sn')
    (h1 : cn + b1 = cs.length) (h2 : sn + b2 = slC cs) (K : NXP2 l G tyc y p e R s m args below meth c A Qf b1 b2 cs.length ad pc' ls (vR cs.length 0 :: r) (cs ++ [E])) : W p l e R s m args below meth c H1 locs (cn + 1) (sn + sn') Qf (F0 m pc' lsC (.ref q :: r.map (cvA (adw ad)))) := by
  obtain ⟨w1, w2, w3⟩ := alo_sp ha
  have ag : ∀ k, k < cs.length → upA ad cs.length q k = ad k := fun k hk => upA_lt hk
  have ew : cwd tyc (upA ad cs.length q) (cs ++ [E]) = cwd tyc ad cs ++ [(q, cen tyc (upA ad cs.length q) E)] := by
    rw [cwd_app, cwd_cg ag (Nat.le_refl _) w3, upA_n]
  have k := K (upA ad cs.length q) H1 locs lsC (cn + 1) (sn + sn') ag ⟨LV_cg ag w1 hR.1, by rw [ew]; exact hP1, by rw [ew]; exact hD1, hS1⟩ (by rw [List.length_append]; show cn + 1 + b1 = cs.length + 1; omega) (by rw [slC_app]; show sn + sn' + b2 = slC cs + (slE E + 0); omega)
  have es : (vR cs.length 0 :: r).map (cvA (adw (upA ad cs.length q))) = .ref q :: r.map (cvA (adw ad)) := by
    rw [List.map_cons, st_cg ag w2]
    show Value.ref (upA ad cs.length q cs.length) :: _ = _
    rw [upA_n]
  rw [es] at k
  exact k
theorem n_int {n : Int} (h : 0 ≤ n ∧ n ≤ 1000) : ¬ Int32.ofInt n < 0 ∧ (Int32.ofInt n).toNatClampNeg = n.toNat := by
  have i : in32 n := by unfold in32; omega
  refine ⟨fun z => ?_, o32_clamp i⟩
  have := (o32_lt i in32_0).mp z
  omega
theorem cs_new {at_ : ArrayType} {a : Nat} {ty : FieldType} {n : Int} (C : CcP G tyc y p s m args meth c A) (hR : RcP G tyc ad y A s H locs lsC ls cs) (hn : 0 ≤ n ∧ n ≤ 1000) (ha : alo cs.length ls r cs = true) (hty : newarray.typeOf at_ = ty) (hw : Cond.arrayClass ty ∈ wsA) (hc : (a = 1 ∧ ty = .int) ∨ (a = 2 ∧ ty = .long) ∨ (a = 3 ∧ ty = .boolean)) (hd : decode (byt y) pc = .ok (.newarray at_, 2))
    (h1 : cn + b1 = cs.length) (h2 : sn + b2 = slC cs) (hr1 : cs.length + 1 ≤ R.cells + b1) (hr2 : slC cs + n.toNat ≤ R.slots + b2) (K : NXP2 l G tyc y p e R s m args below meth c A Qf b1 b2 cs.length ad (pc + 2) ls (vR cs.length 0 :: r) (cs ++ [.inl (a, n.toNat, [])])) : W p l e R s m args below meth c H locs cn sn Qf (F0 m pc lsC (.int (Int32.ofInt n) :: r.map (cvA (adw ad)))) := by
  obtain ⟨c1, c2, c3, c4, c5, c6, c7, c8, c9, c10⟩ := C
  have hR0 := hR
  obtain ⟨hl, hP, hD, hS⟩ := hR
  obtain ⟨n0, n1⟩ := n_int hn
  subst hty
  have e0 : (Int32.ofInt 0 : Int32) = 0 := rfl
  have e64 : (Int64.ofInt 0 : Int64) = 0 := rfl
  rcases hc with ⟨rfl, hc⟩ | ⟨rfl, hc⟩ | ⟨rfl, hc⟩
  · refine va_newa (ty := .int) (N' := n.toNat) (a0 := (n.toNat, .inl (fun j => Int32.ofInt ((lkC [] j).getD 0)))) c1 c2 (c8 _ hw) hc c9.1 hP hD hS c10 (fun cA => ?_) n0 n1 (by show n.toNat * 4 ≤ _; omega) (by omega) (by omega) hd (fun q cA H1 hK1 hP1 hD1 hS1 => ?_)
    · rw [vp_cell_i]; rfl
    · have e1 : s.vm.findClass ("[" ++ FieldType.int.toString) = some cA := (hK1.2 6 (cA, .int) rfl).2
      have e2 : s.vm.findClass ("[" ++ FieldType.int.toString) = some (tyc 1) := (c9.1.2 0 (tyc 1, .int) rfl).2
      obtain rfl : tyc 1 = cA := Option.some.inj (e2.symm.trans e1)
      exact al_one (E := .inl (1, n.toNat, [])) hR0 ha hP1 hD1 hS1 rfl h1 h2 K
  · refine va_newa (ty := .long) (N' := n.toNat) (a0 := (n.toNat, .inr (.inl (fun j => Int64.ofInt ((lkC [] j).getD 0))))) c1 c2 (c8 _ hw) hc c9.1 hP hD hS c10 (fun cA => ?_) n0 n1 (by show n.toNat * 8 ≤ _; omega) (by omega) (by omega) hd (fun q cA H1 hK1 hP1 hD1 hS1 => ?_)
    · rw [vp_cell_l]; rfl
    · have e1 : s.vm.findClass ("[" ++ FieldType.long.toString) = some cA := (hK1.2 6 (cA, .long) rfl).2
      have e2 : s.vm.findClass ("[" ++ FieldType.long.toString) = some (tyc 2) := (c9.1.2 1 (tyc 2, .long) rfl).2
      obtain rfl : tyc 2 = cA := Option.some.inj (e2.symm.trans e1)
      exact al_one (E := .inl (2, n.toNat, [])) hR0 ha hP1 hD1 hS1 rfl h1 h2 K
  · refine va_newa (ty := .boolean) (N' := n.toNat) (a0 := (n.toNat, .inl (fun j => Int32.ofInt ((lkC [] j).getD 0)))) c1 c2 (c8 _ hw) hc c9.1 hP hD hS c10 (fun cA => ?_) n0 n1 (by show n.toNat * 1 ≤ _; omega) (by omega) (by omega) hd (fun q cA H1 hK1 hP1 hD1 hS1 => ?_)
    · rw [vp_cell_i]; rfl
    · have e1 : s.vm.findClass ("[" ++ FieldType.boolean.toString) = some cA := (hK1.2 6 (cA, .boolean) rfl).2
      have e2 : s.vm.findClass ("[" ++ FieldType.boolean.toString) = some (tyc 3) := (c9.1.2 2 (tyc 3, .boolean) rfl).2
      obtain rfl : tyc 3 = cA := Option.some.inj (e2.symm.trans e1)
      exact al_one (E := .inl (3, n.toNat, [])) hR0 ha hP1 hD1 hS1 rfl h1 h2 K
theorem cs_anew {idx : Nat} {n : Int} (C : CcP G tyc y p s m args meth c A) (hR : RcP G tyc ad y A s H locs lsC ls cs) (hn : 0 ≤ n ∧ n ≤ 1000) (ha : alo cs.length ls r cs = true) (hw : Cond.classLink (owt y) idx "ValleyGuides$Rope" ∈ wsA) (hd : decode (byt y) pc = .ok (.anewarray idx, 3))
    (h1 : cn + b1 = cs.length) (h2 : sn + b2 = slC cs) (hr1 : cs.length + 1 ≤ R.cells + b1) (hr2 : slC cs + n.toNat ≤ R.slots + b2) (K : NXP2 l G tyc y p e R s m args below meth c A Qf b1 b2 cs.length ad (pc + 3) ls (vR cs.length 0 :: r) (cs ++ [.inl (4, n.toNat, [])])) : W p l e R s m args below meth c H locs cn sn Qf (F0 m pc lsC (.int (Int32.ofInt n) :: r.map (cvA (adw ad)))) := by
  obtain ⟨c1, c2, c3, c4, c5, c6, c7, c8, c9, c10⟩ := C
  have hR0 := hR
  obtain ⟨hl, hP, hD, hS⟩ := hR
  obtain ⟨n0, n1⟩ := n_int hn
  refine va_newq (N' := n.toNat) c1 c2 c6 (c8 _ hw) c9.2.2.1 c9.1 hP hD hS c10 n0 n1 (by omega) (by omega) (by omega) hd (fun q cA H1 hK1 hP1 hD1 hS1 => ?_)
  obtain ⟨k1, o1, -, -, -, e1⟩ : va_RA s cA (.object "ValleyGuides$Rope") := (hK1.2 6 (cA, .object "ValleyGuides$Rope") rfl).2
  obtain ⟨k2, o2, -, -, -, e2⟩ : va_RA s (tyc 4) (.object "ValleyGuides$Rope") := (c9.1.2 3 (tyc 4, .object "ValleyGuides$Rope") rfl).2
  obtain rfl : tyc 4 = cA := Option.some.inj (e2.symm.trans e1)
  exact al_one (E := .inl (4, n.toNat, [])) hR0 ha hP1 hD1 hS1 rfl h1 h2 K
theorem cs_obj {idx a : Nat} (C : CcP G tyc y p s m args meth c A) (hR : RcP G tyc ad y A s H locs lsC ls cs) (ha : a < 13) (hal : alo cs.length ls r cs = true) (hw1 : Cond.classLink (owt y) idx (RXt a) ∈ wsA) (hw2 : Cond.instantiable (RXt a) (nft a) ∈ wsA) (hw3 : Cond.initialized (RXt a) ∈ wsA) (hd : decode (byt y) pc = .ok (.new idx, 3))
    (h1 : cn + b1 = cs.length) (h2 : sn + b2 = slC cs) (hr1 : cs.length + 1 ≤ R.cells + b1) (hr2 : slC cs + nft a ≤ R.slots + b2) (K : NXP2 l G tyc y p e R s m args below meth c A Qf b1 b2 cs.length ad (pc + 3) ls (vR cs.length 0 :: r) (cs ++ [.inr (a, dfl a)])) : W p l e R s m args below meth c H locs cn sn Qf (F0 m pc lsC (r.map (cvA (adw ad)))) := by
  obtain ⟨c1, c2, c3, c4, c5, c6, c7, c8, c9, c10⟩ := C
  have hR0 := hR
  obtain ⟨hl, hP, hD, hS⟩ := hR
  refine va_new (C := RXt a) (T := TXt a) (N := nft a) (ci := a) (fs := (dfl a).map (cvF (fun _ => 0))) c1 c2 c8 (uws_in ha) (tyt a) (tyt_ok a ha) c6 (c8 _ hw1) (c8 _ hw2) (c8 _ hw3) c9.1 hP hD hS c10 (clx_at a ha) (fun j hj => dfl_ok a ha j hj) (by omega) (by omega) hd (fun q H1 hP1 hD1 hS1 => ?_)
  have ee : (Sum.inr (a, (dfl a).map (cvF (fun _ => 0))) : va_E) = cen tyc (upA ad cs.length q) (.inr (a, dfl a)) := by
    show _ = (Sum.inr (a, (dfl a).map (cvF (upA ad cs.length q))) : va_E)
    rw [dfl_cv (ad := upA ad cs.length q) (ad' := fun _ => 0)]
  rw [ee] at hP1 hD1
  exact al_one (E := .inr (a, dfl a)) hR0 hal hP1 hD1 hS1 (dfl_len a) h1 h2 K
end CNEW
