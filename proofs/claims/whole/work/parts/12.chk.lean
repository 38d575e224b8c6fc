/-! ===== the tables, checked ===== -/
def wat (w : Nat) (c : Jvm.Cond) : Bool := decide (lw_tbl[w]? = some c) && goodWord c
theorem wat_in {w : Nat} {c : Jvm.Cond} (h : wat w c = true) : c ∈ wsA := by
  unfold wat at h
  simp only [Bool.and_eq_true, decide_eq_true_eq] at h
  exact wsA_in w h.1 h.2
def i32B (v : Int) : Bool := decide (-2147483648 ≤ v) && decide (v < 2147483648)
def i64B (v : Int) : Bool := decide (-9223372036854775808 ≤ v) && decide (v < 9223372036854775808)
theorem i32B_in {v : Int} (h : i32B v = true) : in32 v := by
  unfold i32B at h
  simp only [Bool.and_eq_true, decide_eq_true_eq] at h
  exact h
theorem i64B_in {v : Int} (h : i64B v = true) : in64 v := by
  unfold i64B at h
  simp only [Bool.and_eq_true, decide_eq_true_eq] at h
  exact h
def chkV (y : Nat) : Bool := wat (vwt y).1 (.instanceMethod (ynt y)) && (wat (vwt y).2.1 (.selects (RXt (clt y)) (ynt y) (ynt y)) && (wat (vwt y).2.2.1 (.initialized (RXt (clt y))) && decide ((ynt y).cls = RXt (clt y) ∧ (ynt y).cls ≠ "java/lang/invoke/MethodHandle" ∧ (ynt y).cls ≠ "java/lang/invoke/VarHandle" ∧ (parseMethodDescriptor (ynt y).desc).map (fun d => d.parameters.length) = some (npt y) ∧ mxt y ≤ 21 ∧ clt y < 14)))
def chkS (y : Nat) : Bool := wat (swt y).1 (.static (ynt y)) && (wat (swt y).2.1 (.initialized (ynt y).cls) && decide ((ynt y).cls ≠ "java/lang/invoke/MethodHandle" ∧ (ynt y).cls ≠ "java/lang/invoke/VarHandle" ∧ (parseMethodDescriptor (ynt y).desc).map (fun d => d.parameters.length) = some (npt y) ∧ mxt y ≤ 21))
def vOK (y : Nat) : Bool := Nat.blt y 300 && Nat.blt (vwt y).1 9999
def sOK (y : Nat) : Bool := Nat.blt y 300 && Nat.blt (swt y).1 9999
def chkI (y pc : Nat) (ins : Instr) (nxt a b : Nat) (v : Int) (w : Nat) (ts : List (Int × Nat)) : Bool := match ins with
  | .iconst n => Nat.beq nxt (pc + 1) && (decide (n = v) && i32B v)
  | .bipush n => Nat.beq nxt (pc + 2) && (decide ((Int8.ofInt n).toInt32 = Int32.ofInt v) && i32B v)
  | .sipush n => Nat.beq nxt (pc + 3) && (decide ((Int16.ofInt n).toInt32 = Int32.ofInt v) && i32B v)
  | .ldc i => Nat.beq nxt (pc + 2) && (bif Nat.beq b 0 then (wat w (.constant (owt y) i (Int32.ofInt v)) && i32B v) else ((Nat.beq a 1000 && (Nat.beq i 85 && decide (owt y = "ValleyGuides$Reader"))) || (Nat.beq a 1001 && (Nat.beq i 77 && decide (owt y = "ValleyGuides$Reader")))))
  | .ldc_w i => Nat.beq nxt (pc + 3) && (wat w (.constant (owt y) i (Int32.ofInt v)) && i32B v)
  | .lconst n => Nat.beq nxt (pc + 1) && (decide (Int64.ofNat (n : Nat) = Int64.ofInt v) && i64B v)
  | .ldc2_w i => Nat.beq nxt (pc + 3) && (wat w (.constantLong (owt y) i (Int64.ofInt v)) && i64B v)
  | .iload i => Nat.beq nxt (pc + 2) && Nat.beq i a
  | .lload i => Nat.beq nxt (pc + 2) && Nat.beq i a
  | .aload i => Nat.beq nxt (pc + 2) && Nat.beq i a
  | .istore i => Nat.beq nxt (pc + 2) && Nat.beq i a
  | .lstore i => Nat.beq nxt (pc + 2) && Nat.beq i a
  | .astore i => Nat.beq nxt (pc + 2) && Nat.beq i a
  | .iload_n n => Nat.beq nxt (pc + 1) && Nat.beq (n : Nat) a
  | .lload_n n => Nat.beq nxt (pc + 1) && Nat.beq (n : Nat) a
  | .aload_n n => Nat.beq nxt (pc + 1) && Nat.beq (n : Nat) a
  | .istore_n n => Nat.beq nxt (pc + 1) && Nat.beq (n : Nat) a
  | .lstore_n n => Nat.beq nxt (pc + 1) && Nat.beq (n : Nat) a
  | .astore_n n => Nat.beq nxt (pc + 1) && Nat.beq (n : Nat) a
  | .iinc i n => Nat.beq nxt (pc + 3) && (Nat.beq i a && decide (n = v))
  | .goto off => decide ((pc : Int) + off = (a : Int)) && Nat.beq nxt (pc + 3)
  | .ifCond _ off => decide ((pc : Int) + off = (a : Int)) && Nat.beq nxt (pc + 3)
  | .if_icmp _ off => decide ((pc : Int) + off = (a : Int)) && Nat.beq nxt (pc + 3)
  | .tableswitch dflt lo hi offs => decide ((pc : Int) + dflt = (a : Int)) && (decide (ts.map (fun q => (q.1, (q.2 : Int))) = (List.range offs.size).map (fun (i : Nat) => (lo + (i : Int), (pc : Int) + offs.getD i 0))) && decide (hi - lo + 1 = (offs.size : Int)))
  | .getfield i => Nat.beq nxt (pc + 3) && (bif Nat.beq a 13 then (bif Nat.beq b 0 then wat w (.fieldLink (owt y) i "java/lang/String" "value" "[B") else wat w (.fieldLink (owt y) i "java/lang/String" "coder" "B")) else (Nat.blt a 13 && (Nat.blt b (nft a) && (decide (v = (b : Int)) && wat w (.fieldLink (owt y) i (TXt a b).1 (TXt a b).2.1 (TXt a b).2.2.1)))))
  | .putfield i => Nat.beq nxt (pc + 3) && (Nat.blt a 13 && (Nat.blt b (nft a) && (decide (v = (b : Int)) && (wat w (.fieldLink (owt y) i (TXt a b).1 (TXt a b).2.1 (TXt a b).2.2.1) && (!((TXt a b).2.2.2) || Nat.beq (fkt a b) 2)))))
  | .getstatic i => Nat.beq nxt (pc + 3) && (match b with
    | 0 => wat w (.fieldLink (owt y) i "ValleyGuides$Reader" "BINDS" "[I")
    | 1 => wat w (.fieldLink (owt y) i "java/lang/String" "COMPACT_STRINGS" "Z")
    | _ => wat w (.fieldLink (owt y) i "jdk/internal/util/Preconditions" "SIOOBE_FORMATTER" "Ljava/util/function/BiFunction;"))
  | .invokevirtual i => Nat.beq nxt (pc + 3) && (wat w (.methodLink (owt y) i (ynt a)) && (vOK a && (Nat.beq b (npt a + 1) && decide (v = (clt a : Int)))))
  | .invokestatic i => Nat.beq nxt (pc + 3) && (match v with
    | .ofNat 0 => (wat w (.methodLink (owt y) i (ynt a)) || decide (lw_tbl[w]? = some (.methodLinkNest (owt y) i (ynt a) "ValleyGuides"))) && (sOK a && Nat.beq b (npt a))
    | .ofNat 1 => wat w (.methodLink (owt y) i Lib.Math.max.name)
    | .ofNat 2 => wat w (.methodLink (owt y) i Lib.Math.min.name)
    | .ofNat 3 => wat w (.methodLink (owt y) i Lib.MathLoose.max_long.x)
    | .ofNat 4 => wat w (.methodLink (owt y) i Lib.MathLoose.min_long.x)
    | .ofNat 5 => wat w (.methodLink (owt y) i Lib.MathLoose.abs_long.x)
    | .ofNat 6 => wat w (.methodLink (owt y) i arraycopyName)
    | _ => true)
  | .ireturn => Nat.beq nxt (pc + 1) && (match b with
    | 0 => decide (rtt y = some .int)
    | 1 => decide (rtt y = some .boolean)
    | 2 => decide (rtt y = some .char)
    | _ => decide (rtt y = some .byte))
  | .lreturn => Nat.beq nxt (pc + 1) && decide (rtt y = some .long)
  | .return_ => Nat.beq nxt (pc + 1) && decide (rtt y = none)
  | _ => Nat.beq nxt (pc + 1)
def chk (y pc : Nat) (e : Ent) : Bool := match e with
  | (ins, nxt, a, b, v, w, ts) => decide (decode (byt y) pc = .ok (ins, nxt - pc)) && chkI y pc ins nxt a b v w ts
/-- the tables are read to a method's length alone -/
def tbx (y pc : Nat) : Option Ent := bif Nat.blt pc (lnt y) then tbt y pc else none
def chkT (y : Nat) : Bool := (List.range (lnt y)).all (fun pc => match tbt y pc with
  | none => true
  | some e => chk y pc e)
theorem chkT_sp {y pc : Nat} {e : Ent} (h : chkT y = true) (he : tbx y pc = some e) : chk y pc e = true := by
  unfold tbx at he
  cases hb : Nat.blt pc (lnt y) with
  | false => rw [hb] at he; cases he
  | true =>
    rw [hb] at he
    have hl := Nat.le_of_ble_eq_true hb
    have h1 := List.all_eq_true.mp h pc (List.mem_range.mpr (by omega))
    have he : tbt y pc = some e := he
    rw [he] at h1
    exact h1
theorem padK_sp (ω : WP) : ∀ (n : Nat) (as : List AV) (k : List AV → Prop), padK n as k → ∃ ls' : List AV, k ls' ∧ ls'.length = n ∧ (lg_sl (as.map (cvA ω))).length ≤ n ∧ (okL as → okL ls') ∧
    ∀ (i : Nat) (a : AV), ls'[i]? = some a → isV a → ∀ base, (base + i, cvA ω a) ∈ lv_args base (as.map (cvA ω))
  | 0, [], k, h => ⟨[], h, rfl, Nat.le_refl _, fun h => h, fun i a hi => by simp at hi⟩
  | 0, _ :: _, k, h => h.elim
  | n + 1, [], k, h => by
    have h' : padK n [] (fun l => k (vU :: l)) := by cases n <;> exact h
    obtain ⟨l', h1, h2, h3, h4, h5⟩ := padK_sp ω n [] _ h'
    refine ⟨vU :: l', h1, by simp [h2], Nat.zero_le _, fun z => okL_cons.mpr ⟨trivial, h4 z⟩, fun i a hi ha => ?_⟩
    cases i with
    | zero => simp at hi; subst hi; exact ha.elim
    | succ i =>
      have := h5 i a (by simpa using hi) ha 0
      simp [lv_args] at this
  | n + 1, .inl x :: r, k, h => by
    have h' : padK n r (fun l => k (vI x :: l)) := by cases n <;> exact h
    obtain ⟨l', h1, h2, h3, h4, h5⟩ := padK_sp ω n r _ h'
    refine ⟨_, h1, by simp [h2], ?_, fun z => okL_cons.mpr ⟨(okL_cons.mp z).1, h4 (okL_cons.mp z).2⟩, fun i a hi ha base => ?_⟩
    · show (lg_sl (Value.int _ :: r.map (cvA ω))).length ≤ n + 1
      unfold lg_sl at h3 ⊢
      rw [List.flatMap_cons, List.length_append]
      show 1 + _ ≤ _
      omega
    · show _ ∈ (base, Value.int (Int32.ofInt x)) :: lv_args (base + 1) (r.map (cvA ω))
      cases i with
      | zero => simp at hi; subst hi; exact List.mem_cons_self
      | succ i =>
        have := h5 i a (by simpa using hi) ha (base + 1)
        rw [show base + (i + 1) = base + 1 + i by omega]
        exact List.mem_cons_of_mem _ this
  | 1, .inr (.inl _) :: _, k, h => h.elim
  | n + 2, .inr (.inl x) :: r, k, h => by
    obtain ⟨l', h1, h2, h3, h4, h5⟩ := padK_sp ω n r _ h
    refine ⟨_, h1, by simp [h2], ?_, fun z => okL_cons.mpr ⟨(okL_cons.mp z).1, okL_cons.mpr ⟨trivial, h4 (okL_cons.mp z).2⟩⟩, fun i a hi ha base => ?_⟩
    · show (lg_sl (Value.long _ :: r.map (cvA ω))).length ≤ n + 2
      unfold lg_sl at h3 ⊢
      rw [List.flatMap_cons, List.length_append]
      show 2 + _ ≤ _
      omega
    · show _ ∈ (base, Value.long (Int64.ofInt x)) :: lv_args (base + 2) (r.map (cvA ω))
      cases i with
      | zero => simp at hi; subst hi; exact List.mem_cons_self
      | succ i =>
        cases i with
        | zero => simp at hi; subst hi; exact ha.elim
        | succ i =>
          have := h5 i a (by simpa using hi) ha (base + 2)
          rw [show base + (i + 1 + 1) = base + 2 + i by omega]
          exact List.mem_cons_of_mem _ this
  | n + 1, .inr (.inr z) :: r, k, h => by
    have h' : padK n r (fun l => k (.inr (.inr z) :: l)) := by cases n <;> exact h
    obtain ⟨l', h1, h2, h3, h4, h5⟩ := padK_sp ω n r _ h'
    have hc : (cvA ω (.inr (.inr z))).category = 1 := by
      exact cat_of (a := .inr (.inr z)) (by rcases z with _ | _ <;> exact fun q => q)
    refine ⟨_, h1, by simp [h2], ?_, fun z => okL_cons.mpr ⟨(okL_cons.mp z).1, h4 (okL_cons.mp z).2⟩, fun i a hi ha base => ?_⟩
    · show (lg_sl (cvA ω (.inr (.inr z)) :: r.map (cvA ω))).length ≤ n + 1
      unfold lg_sl at h3 ⊢
      rw [List.flatMap_cons, List.length_append, if_neg (by rw [hc]; omega)]
      show 1 + _ ≤ _
      omega
    · show _ ∈ (base, cvA ω (.inr (.inr z))) :: lv_args (if (cvA ω (.inr (.inr z))).category = 2 then base + 2 else base + 1) (r.map (cvA ω))
      rw [if_neg (by rw [hc]; omega)]
      cases i with
      | zero => simp at hi; subst hi; exact List.mem_cons_self
      | succ i =>
        have := h5 i a (by simpa using hi) ha (base + 1)
        rw [show base + (i + 1) = base + 1 + i by omega]
        exact List.mem_cons_of_mem _ this
theorem Vd_of {l : Launch} {ω : WP} {d y : Nat} {as : List AV} {M : Mem} {Q : Post} (hpl : plainName (ynt y).cls = true) (how : owt y = (ynt y).cls) (hk : padK (mxt y) as (fun ls' => Vx l ω d y 0 ls' [] M Q)) : Vd l ω d y as M Q := by
  intro hM has sz
  obtain ⟨ls', h, h1, h2, h3, h4⟩ := padK_sp ω _ _ _ hk
  refine Met.ofW (cc := byt y) (maxL := mxt y) (ret := rtt y) hpl rfl ?_
  intro p e s m args below meth c s₁ B hml hv
  obtain ⟨rfl, hsz, hK, hP, hD0, hSX⟩ := hv
  subst hsz
  have hts := atoms_spec (ws := wsY y) B.pre
  have hl := lv_entry (as.map (cvA ω)) (n := mxt y) h2
  rw [lg_entry_eq]
  exact h p e s m _ below meth c (va_A (wd ω M) s.heap.size) ⟨B.exec, B.bytes, hml, B.returns, B.notSynchronized, by rw [how]; exact findClass_of_methodNamed B.named, fun w hw => hts w (List.mem_cons_of_mem _ hw), hK, fun q h => Or.inr h, hSX⟩ s.heap [] _
    ⟨hM, h3 has, (fun a ha => by cases ha), LVx.of hl h1 (fun i a hi ha => by have := h4 i a hi ha 0; rwa [Nat.zero_add] at this), hP, hD0.self, va_S.rf⟩
