/-! ===== an abstract machine of calls that make no object: values, memory, one step, the condition of a run ===== -/
abbrev AV : Type := Int ⊕ (Int ⊕ ((Nat × Int) ⊕ Unit))
abbrev vI (x : Int) : AV := .inl x
abbrev vL (x : Int) : AV := .inr (.inl x)
abbrev vR (p : Nat) (i : Int) : AV := .inr (.inr (.inl (p, i)))
abbrev vU : AV := .inr (.inr (.inr ()))
abbrev Mem : Type := Nat → Int → Int → Int
def w32 (x : Int) : Int := (x + 2147483648) % 4294967296 - 2147483648
def w64 (x : Int) : Int := (x + 9223372036854775808) % 18446744073709551616 - 9223372036854775808
def mset (M : Mem) (p : Nat) (i j v : Int) : Mem := fun q a b => bif Nat.beq q p then (if a = i ∧ b = j then v else M q a b) else M q a b
def mcopy (M : Mem) (p : Nat) (i s : Int) (q : Nat) (j d n : Int) : Mem := fun r a b => bif Nat.beq r q then (if a = j ∧ d ≤ b ∧ b < d + n then M p i (b - d + s) else M r a b) else M r a b
def cmp3 (a b : Int) : Int := if a < b then -1 else if a = b then 0 else 1
/-- an instruction: itself, the next one's place, two numbers, a value, the place of its word, a switch's rows -/
abbrev Ent : Type := Instr × Nat × Nat × Nat × Int × Nat × List (Int × Nat)
abbrev Post : Type := Option AV → Mem → Prop
abbrev Spec1 : Type := List AV → Mem → Post → Prop
def nthK : List AV → Nat → (AV → Prop) → Prop
  | [], _, _ => False
  | a :: _, 0, k => k a
  | _ :: l, i + 1, k => nthK l i k
def setI : List AV → Nat → AV → (List AV → Prop) → Prop
  | [], _, _, _ => False
  | _ :: l, 0, v, k => k (v :: l)
  | .inr (.inl _) :: l, 1, v, k => setI l 0 v (fun l' => k (vU :: l'))
  | a :: l, i + 1, v, k => setI l i v (fun l' => k (a :: l'))
def setL : List AV → Nat → AV → (List AV → Prop) → Prop
  | [], _, _, _ => False
  | [_], _, _, _ => False
  | _ :: _ :: l, 0, v, k => k (v :: vU :: l)
  | .inr (.inl _) :: l, 1, v, k => setL l 0 v (fun l' => k (vU :: l'))
  | a :: l, i + 1, v, k => setL l i v (fun l' => k (a :: l'))
def popK : Nat → List AV → List AV → (List AV → List AV → Prop) → Prop
  | 0, st, acc, k => k acc st
  | _ + 1, [], _, _ => False
  | n + 1, a :: st, acc, k => popK n st (a :: acc) k
def padK : Nat → List AV → (List AV → Prop) → Prop
  | 0, [], k => k []
  | 0, _ :: _, _ => False
  | n + 1, [], k => padK n [] (fun l => k (vU :: l))
  | 1, .inr (.inl _) :: _, _ => False
  | n + 2, .inr (.inl x) :: r, k => padK n r (fun l => k (vL x :: vU :: l))
  | n + 1, a :: r, k => padK n r (fun l => k (a :: l))
def gatK : List Nat → List AV → (List AV → Prop) → Prop
  | [], _, k => k []
  | i :: is, ls, k => nthK ls i (fun a => gatK is ls (fun vs => k (a :: vs)))
def i1 (st : List AV) (f : Int → List AV → Prop) : Prop := match st with
  | .inl x :: r => f x r
  | _ => False
def ii (st : List AV) (f : Int → Int → List AV → Prop) : Prop := match st with
  | .inl y :: .inl x :: r => f x y r
  | _ => False
def l1 (st : List AV) (f : Int → List AV → Prop) : Prop := match st with
  | .inr (.inl x) :: r => f x r
  | _ => False
def ll (st : List AV) (f : Int → Int → List AV → Prop) : Prop := match st with
  | .inr (.inl y) :: .inr (.inl x) :: r => f x y r
  | _ => False
def li (st : List AV) (f : Int → Int → List AV → Prop) : Prop := match st with
  | .inl y :: .inr (.inl x) :: r => f x y r
  | _ => False
def r1 (st : List AV) (f : Nat → Int → List AV → Prop) : Prop := match st with
  | .inr (.inr (.inl (p, i))) :: r => f p i r
  | _ => False
/-- j on an array -/
def ri (st : List AV) (f : Nat → Int → Int → List AV → Prop) : Prop := match st with
  | .inl j :: .inr (.inr (.inl (p, i))) :: r => f p i j r
  | _ => False
def rii (st : List AV) (f : Nat → Int → Int → Int → List AV → Prop) : Prop := match st with
  | .inl x :: .inl j :: .inr (.inr (.inl (p, i))) :: r => f p i j x r
  | _ => False
def ril (st : List AV) (f : Nat → Int → Int → Int → List AV → Prop) : Prop := match st with
  | .inr (.inl x) :: .inl j :: .inr (.inr (.inl (p, i))) :: r => f p i j x r
  | _ => False
def riri (st : List AV) (f : Nat → Int → Int → Nat → Int → Int → Int → List AV → Prop) : Prop := match st with
  | .inl n :: .inl d :: .inr (.inr (.inl (q, j))) :: .inl s :: .inr (.inr (.inl (p, i))) :: r => f p i s q j d n r
  | _ => False
def swK : List (Int × Nat) → Int → (Nat → Prop) → Prop → Prop
  | [], _, _, kd => kd
  | (v, t) :: l, x, k, kd => (x = v → k t) ∧ (¬ x = v → swK l x k kd)
def is1 : AV → Bool
  | .inl _ => true
  | .inr (.inr (.inl _)) => true
  | _ => false
def csum : List AV → Nat
  | [] => 0
  | .inr (.inl _) :: r => 2 + csum r
  | _ :: r => 1 + csum r
/-- the receiver is an object of that class -/
def rcv (SH : Nat → Nat × Nat × Nat) (as : List AV) (c : Nat) : Bool := match as with
  | .inr (.inr (.inl (p, _))) :: _ => (Nat.beq (SH p).1 0 && Nat.beq (SH p).2.1 c) || (Nat.beq (SH p).1 8 && Nat.beq c 13)
  | _ => false
/-- the bytes of the reader's two texts: its names (1010), its signs (1011) -/
def strT (p : Nat) : List Int := bif Nat.beq p 1010 then [98, 97, 114, 32, 112, 97, 121, 32, 97, 115, 107, 32, 98, 97, 99, 107, 32, 111, 114, 32, 97, 110, 100, 32, 110, 111, 116, 32, 119, 105, 110, 100, 32, 114, 97, 105, 110, 32, 115, 110, 111, 119, 32, 113, 117, 97, 114, 116, 101, 114, 32, 103, 114, 97, 100, 101, 32, 112, 101, 111, 112, 108, 101, 32, 104, 97, 114, 100, 32, 108, 101, 110, 103, 116, 104, 32, 100, 97, 121, 32] else [40, 41, 43, 45, 42, 60, 62, 61, 59]
def strB (p : Nat) (j : Int) : Int := (strT p).getD j.toNat 0
def isI : AV → (Int → Prop) → Prop
  | .inl x, k => k x
  | _, _ => False
/-- the kind of a field: 0 int, 1 long, 2 a reference, 3 boolean -/
def stp (SH : Nat → Nat × Nat × Nat) (fk : Nat → Nat → Nat) (rf : Nat → Nat → (Nat → Prop) → Prop) (sz : Nat → (Int → Prop) → Prop) (ro : Int → Int) (lf : Nat → List AV → Prop → Prop) (e : Ent) (ls st : List AV) (M : Mem) (k : Nat → List AV → List AV → Mem → Prop) (ret : Post) (call : Nat → List AV → Mem → Post → Prop) : Prop :=
  match e with
  | (ins, nxt, a, b, v, _, ts) => match ins with
    | .iconst _ => k nxt ls (vI v :: st) M
    | .bipush _ => k nxt ls (vI v :: st) M
    | .sipush _ => k nxt ls (vI v :: st) M
    | .ldc _ => match b with
      | 0 => k nxt ls (vI v :: st) M
      | _ => k nxt ls (vR a 0 :: st) M
    | .ldc_w _ => k nxt ls (vI v :: st) M
    | .lconst _ => k nxt ls (vL v :: st) M
    | .ldc2_w _ => k nxt ls (vL v :: st) M
    | .iload _ => nthK ls a (fun z => isI z (fun x => k nxt ls (vI x :: st) M))
    | .iload_n _ => nthK ls a (fun z => isI z (fun x => k nxt ls (vI x :: st) M))
    | .lload _ => nthK ls a (fun z => match z with | .inr (.inl x) => k nxt ls (vL x :: st) M | _ => False)
    | .lload_n _ => nthK ls a (fun z => match z with | .inr (.inl x) => k nxt ls (vL x :: st) M | _ => False)
    | .aload _ => nthK ls a (fun z => match z with | .inr (.inr (.inl (p, i))) => k nxt ls (vR p i :: st) M | _ => False)
    | .aload_n _ => nthK ls a (fun z => match z with | .inr (.inr (.inl (p, i))) => k nxt ls (vR p i :: st) M | _ => False)
    | .istore _ => i1 st (fun x r => setI ls a (vI x) (fun ls' => k nxt ls' r M))
    | .istore_n _ => i1 st (fun x r => setI ls a (vI x) (fun ls' => k nxt ls' r M))
    | .lstore _ => l1 st (fun x r => setL ls a (vL x) (fun ls' => k nxt ls' r M))
    | .lstore_n _ => l1 st (fun x r => setL ls a (vL x) (fun ls' => k nxt ls' r M))
    | .astore _ => r1 st (fun p i r => setI ls a (vR p i) (fun ls' => k nxt ls' r M))
    | .astore_n _ => r1 st (fun p i r => setI ls a (vR p i) (fun ls' => k nxt ls' r M))
    | .iinc _ _ => nthK ls a (fun z => isI z (fun x => setI ls a (vI (w32 (x + v))) (fun ls' => k nxt ls' st M)))
    | .iadd => ii st (fun x y r => k nxt ls (vI (w32 (x + y)) :: r) M)
    | .isub => ii st (fun x y r => k nxt ls (vI (w32 (x - y)) :: r) M)
    | .imul => ii st (fun x y r => k nxt ls (vI (w32 (x * y)) :: r) M)
    | .idiv => ii st (fun x y r => ¬ y = 0 ∧ k nxt ls (vI (w32 (x.tdiv y)) :: r) M)
    | .irem => ii st (fun x y r => ¬ y = 0 ∧ k nxt ls (vI (x.tmod y) :: r) M)
    | .ineg => i1 st (fun x r => k nxt ls (vI (w32 (-x)) :: r) M)
    | .iand => ii st (fun x y r => k nxt ls (vI (Int32.ofInt x &&& Int32.ofInt y).toInt :: r) M)
    | .ior => ii st (fun x y r => k nxt ls (vI (Int32.ofInt x ||| Int32.ofInt y).toInt :: r) M)
    | .ixor => ii st (fun x y r => k nxt ls (vI (Int32.ofInt x ^^^ Int32.ofInt y).toInt :: r) M)
    | .ishl => ii st (fun x y r => k nxt ls (vI (Int32.ofInt x <<< (Int32.ofInt y &&& 31)).toInt :: r) M)
    | .ishr => ii st (fun x y r => k nxt ls (vI (Int32.ofInt x >>> (Int32.ofInt y &&& 31)).toInt :: r) M)
    | .ladd => ll st (fun x y r => k nxt ls (vL (w64 (x + y)) :: r) M)
    | .lsub => ll st (fun x y r => k nxt ls (vL (w64 (x - y)) :: r) M)
    | .lmul => ll st (fun x y r => k nxt ls (vL (w64 (x * y)) :: r) M)
    | .ldiv => ll st (fun x y r => ¬ y = 0 ∧ k nxt ls (vL (w64 (x.tdiv y)) :: r) M)
    | .lrem => ll st (fun x y r => ¬ y = 0 ∧ k nxt ls (vL (x.tmod y) :: r) M)
    | .lneg => l1 st (fun x r => k nxt ls (vL (w64 (-x)) :: r) M)
    | .land => ll st (fun x y r => k nxt ls (vL (Int64.ofInt x &&& Int64.ofInt y).toInt :: r) M)
    | .lor => ll st (fun x y r => k nxt ls (vL (Int64.ofInt x ||| Int64.ofInt y).toInt :: r) M)
    | .lshr => li st (fun x y r => k nxt ls (vL (Int64.ofInt x >>> ((Int32.ofInt y).toInt64 &&& 63)).toInt :: r) M)
    | .lcmp => ll st (fun x y r => k nxt ls (vI (cmp3 x y) :: r) M)
    | .i2l => i1 st (fun x r => k nxt ls (vL x :: r) M)
    | .l2i => l1 st (fun x r => k nxt ls (vI (w32 x) :: r) M)
    | .i2b => i1 st (fun x r => k nxt ls (vI ((x + 128) % 256 - 128) :: r) M)
    | .i2s => i1 st (fun x r => k nxt ls (vI ((x + 32768) % 65536 - 32768) :: r) M)
    | .i2c => i1 st (fun x r => k nxt ls (vI ((Int32.ofInt x).toUInt32 % 65536).toInt32.toInt :: r) M)
    | .iushr => ii st (fun x y r => k nxt ls (vI ((Int32.ofInt x).toUInt32 >>> ((Int32.ofInt y).toUInt32 &&& Int32.toUInt32 31)).toInt32.toInt :: r) M)
    | .dup => match st with
      | x :: r => match is1 x with
        | true => k nxt ls (x :: x :: r) M
        | false => False
      | _ => False
    | .dup2 => match st with
      | x :: y :: r => match is1 x && is1 y with
        | true => k nxt ls (x :: y :: x :: y :: r) M
        | false => False
      | _ => False
    | .pop => match st with
      | x :: r => match is1 x with
        | true => k nxt ls r M
        | false => False
      | _ => False
    | .goto _ => k a ls st M
    | .ifCond c _ => i1 st (fun x r => match c with
      | .eq => (x = 0 → k a ls r M) ∧ (¬ x = 0 → k nxt ls r M)
      | .ne => (¬ x = 0 → k a ls r M) ∧ (x = 0 → k nxt ls r M)
      | .lt => (x < 0 → k a ls r M) ∧ (0 ≤ x → k nxt ls r M)
      | .ge => (0 ≤ x → k a ls r M) ∧ (x < 0 → k nxt ls r M)
      | .gt => (0 < x → k a ls r M) ∧ (x ≤ 0 → k nxt ls r M)
      | .le => (x ≤ 0 → k a ls r M) ∧ (0 < x → k nxt ls r M))
    | .if_icmp c _ => ii st (fun x y r => match c with
      | .eq => (x = y → k a ls r M) ∧ (¬ x = y → k nxt ls r M)
      | .ne => (¬ x = y → k a ls r M) ∧ (x = y → k nxt ls r M)
      | .lt => (x < y → k a ls r M) ∧ (y ≤ x → k nxt ls r M)
      | .ge => (y ≤ x → k a ls r M) ∧ (x < y → k nxt ls r M)
      | .gt => (y < x → k a ls r M) ∧ (x ≤ y → k nxt ls r M)
      | .le => (x ≤ y → k a ls r M) ∧ (y < x → k nxt ls r M))
    | .tableswitch _ _ _ _ => i1 st (fun x r => swK ts x (fun t => k t ls r M) (k a ls r M))
    | .getfield _ => r1 st (fun p i r => match Nat.beq (SH p).1 0 && Nat.beq (SH p).2.1 a with
      | true => match fk a b with
        | 0 => k nxt ls (vI (M p i v) :: r) M
        | 3 => k nxt ls (vI (M p i v) :: r) M
        | 1 => k nxt ls (vL (M p i v) :: r) M
        | _ => rf p b (fun q => k nxt ls (vR q i :: r) M)
      | false => match Nat.beq (SH p).1 8 && Nat.beq a 13 with
        | true => match b with
          | 0 => bif Nat.beq p 1000 then k nxt ls (vR 1010 0 :: r) M else k nxt ls (vR 1011 0 :: r) M
          | _ => k nxt ls (vI 0 :: r) M
        | false => False)
    | .arraylength => r1 st (fun p i r => match Nat.beq (SH p).1 9 with
      | true => sz p (fun n => k nxt ls (vI n :: r) M)
      | false => False)
    | .putfield _ => match fk a b with
      | 0 => i1 st (fun x r0 => r1 r0 (fun p i r => match Nat.beq (SH p).1 0 && Nat.beq (SH p).2.1 a with
        | true => k nxt ls r (mset M p i v x)
        | false => False))
      | 3 => i1 st (fun x r0 => r1 r0 (fun p i r => match Nat.beq (SH p).1 0 && Nat.beq (SH p).2.1 a with
        | true => (x = 0 ∨ x = 1) ∧ k nxt ls r (mset M p i v x)
        | false => False))
      | 1 => l1 st (fun x r0 => r1 r0 (fun p i r => match Nat.beq (SH p).1 0 && Nat.beq (SH p).2.1 a with
        | true => k nxt ls r (mset M p i v x)
        | false => False))
      | _ => False
    | .getstatic _ => match b with
      | 0 => k nxt ls (vR 1002 0 :: st) M
      | 1 => k nxt ls (vI 1 :: st) M
      | _ => k nxt ls (vU :: st) M
    | .iaload => ri st (fun p i j r => match (SH p).1 with
      | 1 => sz p (fun n => (0 ≤ j ∧ j < n) ∧ k nxt ls (vI (M p i j) :: r) M)
      | 7 => (0 ≤ j ∧ j < 28) ∧ k nxt ls (vI (ro j) :: r) M
      | _ => False)
    | .baload => ri st (fun p i j r => match Nat.beq (SH p).1 3 with
      | true => sz p (fun n => (0 ≤ j ∧ j < n) ∧ k nxt ls (vI (M p i j) :: r) M)
      | false => match Nat.beq (SH p).1 9 with
        | true => sz p (fun n => (0 ≤ j ∧ j < n) ∧ k nxt ls (vI (strB p j) :: r) M)
        | false => False)
    | .laload => ri st (fun p i j r => match Nat.beq (SH p).1 2 with
      | true => sz p (fun n => (0 ≤ j ∧ j < n) ∧ k nxt ls (vL (M p i j) :: r) M)
      | false => False)
    | .aaload => ri st (fun p i j r => match Nat.blt 3 (SH p).1 && Nat.blt (SH p).1 7 with
      | true => sz p (fun n => (0 ≤ j ∧ j < n) ∧ rf p 0 (fun q => k nxt ls (vR q j :: r) M))
      | false => False)
    | .iastore => rii st (fun p i j x r => match Nat.beq (SH p).1 1 with
      | true => sz p (fun n => (0 ≤ j ∧ j < n) ∧ k nxt ls r (mset M p i j x))
      | false => False)
    | .bastore => rii st (fun p i j x r => match Nat.beq (SH p).1 3 with
      | true => sz p (fun n => ((0 ≤ j ∧ j < n) ∧ (x = 0 ∨ x = 1)) ∧ k nxt ls r (mset M p i j x))
      | false => False)
    | .lastore => ril st (fun p i j x r => match Nat.beq (SH p).1 2 with
      | true => sz p (fun n => (0 ≤ j ∧ j < n) ∧ k nxt ls r (mset M p i j x))
      | false => False)
    | .invokevirtual _ => popK b st [] (fun as r => match Nat.ble (csum r) 8 && rcv SH as v.toNat with
      | true => call a as M (fun z M' => match z with
        | some x => k nxt ls (x :: r) M'
        | none => k nxt ls r M')
      | false => False)
    | .invokestatic _ => match v with
      | .ofNat 0 => popK b st [] (fun as r => match Nat.ble (csum r) 8 with
        | true => call a as M (fun z M' => match z with
          | some x => k nxt ls (x :: r) M'
          | none => k nxt ls r M')
        | false => False)
      | .ofNat 1 => ii st (fun x y r => lf 1 r (k nxt ls (vI (max x y) :: r) M))
      | .ofNat 2 => ii st (fun x y r => lf 1 r (k nxt ls (vI (min x y) :: r) M))
      | .ofNat 3 => ll st (fun x y r => lf 1 r (k nxt ls (vL (max x y) :: r) M))
      | .ofNat 4 => ll st (fun x y r => lf 1 r (k nxt ls (vL (min x y) :: r) M))
      | .ofNat 5 => l1 st (fun x r => lf 1 r (k nxt ls (vL (if x < 0 then w64 (-x) else x) :: r) M))
      | .ofNat 6 => riri st (fun p i s q j d n r => match Nat.beq (SH p).1 1 && Nat.beq (SH q).1 1 with
        | true => sz p (fun np => sz q (fun nq => (0 ≤ s ∧ 0 ≤ d ∧ 0 ≤ n ∧ s + n ≤ np ∧ d + n ≤ nq) ∧ lf 1 r (k nxt ls r (mcopy M p i s q j d n))))
        | false => False)
      | _ => False
    | .ireturn => i1 st (fun x r => match r with
      | [] => match b with
        | 0 => ret (some (vI x)) M
        | 1 => (x = 0 ∨ x = 1) ∧ ret (some (vI x)) M
        | 2 => (0 ≤ x ∧ x < 65536) ∧ ret (some (vI x)) M
        | _ => (-128 ≤ x ∧ x < 128) ∧ ret (some (vI x)) M
      | _ => False)
    | .lreturn => l1 st (fun x r => match r with
      | [] => ret (some (vL x)) M
      | _ => False)
    | .return_ => match st with
      | [] => ret none M
      | _ => False
    | _ => False
/-- a call of a leaf of the JDK: one frame more, and its words -/
def lfd (d k : Nat) (r : List AV) (P : Prop) : Prop := match Nat.ble k d && Nat.ble (csum r) 8 with
  | true => P
  | false => False
abbrev Cut1 : Type := List Nat × (List AV → Mem → Prop)
def wpG (SH : Nat → Nat × Nat × Nat) (fk : Nat → Nat → Nat) (rf : Nat → Nat → (Nat → Prop) → Prop) (sz : Nat → (Int → Prop) → Prop) (ro : Int → Int) (tb : Nat → Nat → Option Ent) (mxl : Nat → Nat) (G : Nat → Option (Nat × Spec1)) : Nat → Nat → Nat → (Nat → Option Cut1) → Bool → Nat → List AV → List AV → Mem → Post → Prop
  | 0, _, _, _, _, _, _, _, _, _ => False
  | n + 1, d, y, cut, first, pc, ls, st, M, Q =>
    match (bif first then none else cut pc) with
    | some c => match st with
      | [] => gatK c.1 ls (fun vs => c.2 vs M)
      | _ :: _ => False
    | none => match tb y pc with
      | none => False
      | some e => stp SH fk rf sz ro (lfd d) e ls st M (fun pc' ls' st' M' => wpG SH fk rf sz ro tb mxl G n d y cut false pc' ls' st' M' Q) Q
        (fun y' as M' Q' => match d with
          | 0 => False
          | d' + 1 => match G y' with
            | some s => match Nat.ble s.1 d' with
              | true => s.2 as M' Q'
              | false => False
            | none => padK (mxl y') as (fun ls' => wpG SH fk rf sz ro tb mxl G n d' y' (fun _ => none) true 0 ls' [] M' Q'))
