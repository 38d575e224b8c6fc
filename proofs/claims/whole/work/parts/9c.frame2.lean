/-! ===== the frame: a machine that makes objects, one instruction (wip/gen/fr2.body) ===== -/
def alo (n : Nat) (ls st : List AV) (cs : List CE) : Bool := ls.all (wfL n) && (st.all (wfS n) && cs.all (fun e => wfE n e && kOK e))
def mov (n : Nat) (k : Nat) : List (Nat × Int) := (List.range k).map fun j => (j, ((n + 1 + j : Nat) : Int))
def dfl (c : Nat) : List AV := (List.range (nft c)).map fun k => match fkt c k with
  | 1 => vL 0
  | 2 => vU
  | _ => vI 0
def okFv (k : Nat) (w : AV) : Bool := match w with
  | .inl _ => Nat.beq k 0
  | .inr (.inr (.inl _)) => Nat.beq k 2
  | _ => false
def noL (a : AV) : Bool := match a with
  | .inr (.inl _) => false
  | _ => true
abbrev CR : Type := Option (Nat × List AV × List AV × List CE)
def csem (e : CEnt) (ls st : List AV) (cs : List CE) : CR :=
  match e with
  | (ins, nxt, a, b, v, _) => match ins with
    | .iconst _ => some (nxt, ls, vI v :: st, cs)
    | .bipush _ => some (nxt, ls, vI v :: st, cs)
    | .sipush _ => some (nxt, ls, vI v :: st, cs)
    | .aload _ => match ls[a]? with
      | some (.inr (.inr (.inl (p, i)))) => some (nxt, ls, vR p i :: st, cs)
      | _ => none
    | .aload_n _ => match ls[a]? with
      | some (.inr (.inr (.inl (p, i)))) => some (nxt, ls, vR p i :: st, cs)
      | _ => none
    | .iload _ => match ls[a]? with
      | some (.inl x) => some (nxt, ls, vI x :: st, cs)
      | _ => none
    | .iload_n _ => match ls[a]? with
      | some (.inl x) => some (nxt, ls, vI x :: st, cs)
      | _ => none
    | .istore _ => match st with
      | .inl x :: r => if a < ls.length ∧ ls.all noL = true then some (nxt, ls.set a (vI x), r, cs) else none
      | _ => none
    | .istore_n _ => match st with
      | .inl x :: r => if a < ls.length ∧ ls.all noL = true then some (nxt, ls.set a (vI x), r, cs) else none
      | _ => none
    | .iinc _ _ => match ls[a]? with
      | some (.inl x) => if ls.all noL = true then some (nxt, ls.set a (vI (w32 (x + v))), st, cs) else none
      | _ => none
    | .dup => match st with
      | .inr (.inr (.inl (p, i))) :: r => some (nxt, ls, vR p i :: vR p i :: r, cs)
      | _ => none
    | .goto _ => some (a, ls, st, cs)
    | .if_icmp .ge _ => match st with
      | .inl z :: .inl x :: r => if (0 ≤ z ∧ z ≤ 1000) ∧ (0 ≤ x ∧ x ≤ 1000) then (if z ≤ x then some (a, ls, r, cs) else some (nxt, ls, r, cs)) else none
      | _ => none
    | .newarray _ => match st with
      | .inl n :: r => if (1 ≤ a ∧ a ≤ 3) ∧ (0 ≤ n ∧ n ≤ 1000) ∧ alo cs.length ls r cs = true then some (nxt, ls, vR cs.length 0 :: r, cs ++ [.inl (a, n.toNat, [])]) else none
      | _ => none
    | .anewarray _ => match st with
      | .inl n :: r => if (0 ≤ n ∧ n ≤ 1000) ∧ alo cs.length ls r cs = true then some (nxt, ls, vR cs.length 0 :: r, cs ++ [.inl (4, n.toNat, [])]) else none
      | _ => none
    | .multianewarray _ _ => match st with
      | .inl k :: .inl n :: r => if (a = 5 ∨ a = 6) ∧ (0 ≤ n ∧ n ≤ 1000) ∧ (0 ≤ k ∧ k ≤ 1000) ∧ alo cs.length ls r cs = true then some (nxt, ls, vR cs.length 0 :: r, cs ++ (.inl (a, n.toNat, mov cs.length n.toNat) :: List.replicate n.toNat (.inl (a - 4, k.toNat, [])))) else none
      | _ => none
    | .new _ => if a < 13 ∧ alo cs.length ls st cs = true then some (nxt, ls, vR cs.length 0 :: st, cs ++ [.inr (a, dfl a)]) else none
    | .putfield _ => match st with
      | w :: .inr (.inr (.inl (p, _))) :: r => match cs[p]? with
        | some (.inr (c, vs)) => if c = a ∧ b < vs.length ∧ okFv (fkt a b) w = true then some (nxt, ls, r, cs.set p (.inr (c, vs.set b w))) else none
        | _ => none
      | _ => none
    | .getfield _ => match st with
      | .inr (.inr (.inl (p, _))) :: r => match cs[p]? with
        | some (.inr (c, vs)) => match vs[b]? with
          | some (.inr (.inr (.inl (q, j)))) => if c = a then some (nxt, ls, vR q j :: r, cs) else none
          | _ => none
        | _ => none
      | _ => none
    | .iastore => match st with
      | .inl x :: .inl j :: .inr (.inr (.inl (p, _))) :: r => match cs[p]? with
        | some (.inl (1, n, ov)) => if 0 ≤ j ∧ j < (n : Int) ∧ n ≤ 1000 then some (nxt, ls, r, cs.set p (.inl (1, n, (j.toNat, x) :: ov))) else none
        | _ => none
      | _ => none
    | .aastore => match st with
      | .inr (.inr (.inl (q, _))) :: .inl j :: .inr (.inr (.inl (p, _))) :: r => match cs[p]? with
        | some (.inl (4, n, ov)) => match cs[q]? with
          | some (.inr (6, _)) => if 0 ≤ j ∧ j < (n : Int) ∧ n ≤ 1000 then some (nxt, ls, r, cs.set p (.inl (4, n, (j.toNat, (q : Int)) :: ov))) else none
          | _ => none
        | _ => none
      | _ => none
    | _ => none
/-- the entries, checked -/
def chkC (y pc : Nat) (e : CEnt) : Bool := match e with
  | (ins, nxt, a, b, v, w) => decide (decode (byt y) pc = .ok (ins, nxt - pc)) && (match ins with
    | .iconst n => Nat.beq nxt (pc + 1) && (decide (n = v) && i32B v)
    | .bipush n => Nat.beq nxt (pc + 2) && (decide ((Int8.ofInt n).toInt32 = Int32.ofInt v) && i32B v)
    | .sipush n => Nat.beq nxt (pc + 3) && (decide ((Int16.ofInt n).toInt32 = Int32.ofInt v) && i32B v)
    | .aload i => Nat.beq nxt (pc + 2) && Nat.beq i a
    | .iload i => Nat.beq nxt (pc + 2) && Nat.beq i a
    | .istore i => Nat.beq nxt (pc + 2) && Nat.beq i a
    | .aload_n n => Nat.beq nxt (pc + 1) && Nat.beq (n : Nat) a
    | .iload_n n => Nat.beq nxt (pc + 1) && Nat.beq (n : Nat) a
    | .istore_n n => Nat.beq nxt (pc + 1) && Nat.beq (n : Nat) a
    | .iinc i n => Nat.beq nxt (pc + 3) && (Nat.beq i a && decide (n = v))
    | .dup => Nat.beq nxt (pc + 1)
    | .iastore => Nat.beq nxt (pc + 1)
    | .aastore => Nat.beq nxt (pc + 1)
    | .goto off => decide ((pc : Int) + off = (a : Int)) && Nat.beq nxt (pc + 3)
    | .if_icmp .ge off => decide ((pc : Int) + off = (a : Int)) && Nat.beq nxt (pc + 3)
    | .newarray t => Nat.beq nxt (pc + 2) && (bif Nat.beq a 1 then decide (newarray.typeOf t = .int) && wat w (.arrayClass .int) else bif Nat.beq a 2 then decide (newarray.typeOf t = .long) && wat w (.arrayClass .long) else decide (newarray.typeOf t = .boolean) && wat w (.arrayClass .boolean))
    | .anewarray i => Nat.beq nxt (pc + 3) && wat w (.classLink (owt y) i "ValleyGuides$Rope")
    | .multianewarray i d => Nat.beq nxt (pc + 4) && (Nat.beq d 2 && (bif Nat.beq a 5 then wat w (.classLink (owt y) i "[[I") && wat b (.arrayClass .int) else wat w (.classLink (owt y) i "[[J") && wat b (.arrayClass .long)))
    | .new i => Nat.beq nxt (pc + 3) && (wat w (.classLink (owt y) i (RXt a)) && (wat b (.instantiable (RXt a) (nft a)) && wat v.toNat (.initialized (RXt a))))
    | .getfield i => Nat.beq nxt (pc + 3) && (Nat.blt a 13 && (Nat.blt b (nft a) && wat w (.fieldLink (owt y) i (TXt a b).1 (TXt a b).2.1 (TXt a b).2.2.1)))
    | .putfield i => Nat.beq nxt (pc + 3) && (Nat.blt a 13 && (Nat.blt b (nft a) && (decide ((TXt a b).1 = owt y) && (wat w (.fieldLink (owt y) i (TXt a b).1 (TXt a b).2.1 (TXt a b).2.2.1)))))
    | _ => false)
def CcP (G : va_G) (tyc : Nat → ClassId) (y : Nat) (p : Program) (s : State) (m : MethodId) (args : Array Value) (meth : Method) (c : Code) (A : Nat → Prop) : Prop :=
  p.tables.exec = Jvm.exec ∧ c.code = byt y ∧ c.maxLocals = mxt y ∧ meth.sig.returnType = none ∧ meth.locks = false ∧ s.vm.findClass (owt y) = some m.cls ∧ meth.name = "<init>" ∧ (∀ w ∈ wsA, w.before args s = true) ∧ KC G tyc s ∧ (∀ q, s.heap.size ≤ q → A q)
def RcP (G : va_G) (tyc : Nat → ClassId) (ad : Nat → Nat) (y : Nat) (A : Nat → Prop) (s : State) (H : Heap) (locs : List Loc) (lsC : Array Slot) (ls : List AV) (cs : List CE) : Prop :=
  LVx (adw ad) lsC (mxt y) ls ∧ va_P G clx (cwd tyc ad cs) H ∧ va_D A (cwd tyc ad cs) ∧ va_S A s.heap H locs
theorem fkt2_ty : ∀ c, c < 13 → ∀ k, k < nft c → fkt c k = 2 → (tyt c k).isReference = true := by decide +kernel
theorem narrow_ref {ty : FieldType} (h : ty.isReference = true) (a : Nat) : narrow ty (.ref a) = .ref a ∧ fits ty (.ref a) = true := by
  cases ty <;> first | (cases h; done) | exact ⟨rfl, rfl⟩
theorem dfl_len (c : Nat) : (dfl c).length = nft c := by simp [dfl]
theorem dfl_ok : ∀ c, c < 13 → ∀ k, k < nft c → defaultValue (tyt c k) = vp_V ((dfl c).map (cvF (fun _ => 0))) k := by decide +kernel
theorem dfl_cv {ad ad' : Nat → Nat} (c : Nat) : (dfl c).map (cvF ad) = (dfl c).map (cvF ad') := by
  unfold dfl
  rw [List.map_map, List.map_map]
  refine List.map_congr_left (fun k _ => ?_)
  show cvF ad (match fkt c k with | 1 => vL 0 | 2 => vU | _ => vI 0) = cvF ad' (match fkt c k with | 1 => vL 0 | 2 => vU | _ => vI 0)
  split <;> rfl
