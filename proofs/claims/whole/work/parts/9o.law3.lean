/-! ===== the law: its own words (the given skeleton), its entry (wip/gen/lw6.py) ===== -/
def R_law : String := "ValleyGuidesLaw"
def lw_P (b : Addr) (xs : List Int32) (args : Array Value) (s : State) : Prop := args = #[.ref b] ∧ s.IntsAt b xs ∧ xs.length ≤ 3584 ∧ (Jvm.Cond.and given_1 narrow_1).before args s = true
def lw_Q (_ : Array Value) (s : State) (o : Outcome) (t : State) : Prop := o = .returned (some (.int 1)) ∧ Framed s o t [] 600000 7302250
def lw_Z (below : List Frame) (a : Array Value) (s : State) : State → Prop := fun t => ∃ o, t.status = .running ∧ Ended t below o ∧ lw_Q a s o t
/-- the law's own end, with 1 on the stack, nothing written that was there before, its room as the claim has it -/
theorem lw_ret {p : Program} {l : Launch} {e : Env} {s : State} {m : MethodId} {below : List Frame} {meth : Method} {c : Code} {b : Nat} (hx : p.tables.exec = Jvm.exec) (hb : c.code = code) (hr : meth.sig.returnType = ret) (hlocks : meth.locks = false) {pc : Nat} {H : Heap} {ls : Array Slot} (hdg : decode code pc = .ok (.ireturn, 1)) : W p l e room_1 s m #[Value.ref b] below meth c H [] 600000 7302250 (lw_Z below #[Value.ref b] s) (F0 m pc ls [.int 1]) := by
  intro T hT X
  obtain ⟨fs, hret, hrun, hended, hW, hframe⟩ := X.leave (v := some (.int 1)) (hlocks := hlocks) (fun h => by rw [hr] at h; cases h)
  have hmeth' : T.vm.method? m = some meth := X.method'
  refine ⟨T.setFrames fs, ?_, .returned (some (.int 1)), hrun, hended, rfl, ⟨_, rfl⟩, hW, hframe⟩
  jvm_step X.here [X.here.top, hx, hb, hdg, hmeth', hr, ret, narrow_b1]
  (try refine ⟨rfl, ?_⟩); (try refine ⟨rfl, ?_⟩)
  first | (intro acts; rw [hret _ acts rfl rfl rfl]) | rw [hret _ _ rfl rfl rfl]
  exact Steps.refl _
/-- what holds at the law's entry: the machine, the code, the tables' words (any of lw_tbl by 'hts w (by decide +kernel)'), the script of L ints xs at the cell b, what the Statement gives of the start (any of its parts by flat_of_before) -/
def lw_At (p : Program) (s : State) (m : MethodId) (meth : Method) (c : Code) (b L : Nat) (xs : Nat → Int32) : Prop :=
  p.tables.exec = Jvm.exec ∧ c.code = code ∧ meth.sig.returnType = ret ∧ c.maxLocals = 4 ∧ s.vm.findClass R_law = some m.cls ∧ (∀ w ∈ lw_tbl, w.before #[Value.ref b] s = true) ∧ va_X b L xs s s.heap ∧ b < s.heap.size ∧ meth.locks = false ∧ (Jvm.Cond.and given_1 narrow_1).before #[Value.ref b] s = true

section ENTRY
variable {p : Program} {l : Launch} {e : Env} {s : State} {m : MethodId} {below : List Frame} {meth : Method} {c : Code} {b : Nat} {A : Nat → Prop} {Z : State → Prop} {G : va_G} {tyc : Nat → ClassId}
/-- an object that the law makes: new, dup, its constructor -/
theorem lw_mk {a y i1 i2 pc nn : Nat} {cs cs' : List CE} {ad : Nat → Nat} {H : Heap} {locs : List Loc} {lsC : Array Slot} (c1 : p.tables.exec = Jvm.exec) (c2 : c.code = code) (c3 : c.maxLocals = 4) (c6 : s.vm.findClass "ValleyGuidesLaw" = some m.cls) (hT : ∀ w ∈ wsA, w.before #[Value.ref b] s = true) (hK : KC G tyc s) (cA : ∀ q, s.heap.size ≤ q → A q)
    (hrun : crun ctb nn 9 y 0 ([vR cs.length 0] ++ List.replicate (mxt y - 1) vU) [] (cs ++ [.inr (a, dfl a)]) = some cs') (ha : a < 13) (hcO : cOK y 1 = true) (hw1 : Cond.classLink "ValleyGuidesLaw" i1 (RXt a) ∈ wsA) (hw2 : Cond.instantiable (RXt a) (nft a) ∈ wsA) (hw3 : Cond.initialized (RXt a) ∈ wsA) (hw4 : Cond.methodLink "ValleyGuidesLaw" i2 (ynt y) ∈ wsA)
    (hd1 : decode code pc = .ok (.new i1, 3)) (hd2 : decode code (pc + 3) = .ok (.dup, 1)) (hd3 : decode code (pc + 3 + 1) = .ok (.invokespecial i2, 3)) (hcs : cs.all (fun e => wfE cs.length e && kOK e) = true) (hb1 : cs'.length ≤ 1000) (hb2 : slC cs' ≤ 100000) (hls : lsC.size = 4)
    (hP : va_P G clx (cwd tyc ad cs) H) (hD : va_D A (cwd tyc ad cs)) (hS : va_S A s.heap H locs)
    (K : ∀ (ad' : Nat → Nat) (H' : Heap) (locs' : List Loc), (∀ k, k < cs.length → ad' k = ad k) → va_P G clx (cwd tyc ad' cs') H' → va_D A (cwd tyc ad' cs') → va_S A s.heap H' locs' → W p l e room_1 s m #[Value.ref b] below meth c H' locs' cs'.length (slC cs') Z (F0 m (pc + 3 + 1 + 3) lsC [.ref (ad' cs.length)])) :
    W p l e room_1 s m #[Value.ref b] below meth c H locs cs.length (slC cs) Z (F0 m pc lsC []) := by
  obtain ⟨iA1, iA2⟩ := crun_ok (l := l) (G := G) (tyc := tyc) ctb_ok nn 9 y 0 _ [] _ cs' hrun
  have n1 : (cs ++ [(Sum.inr (a, dfl a) : CE)]).length = cs.length + 1 := by simp
  have n2 : slC (cs ++ [(Sum.inr (a, dfl a) : CE)]) = slC cs + nft a := by
    rw [slC_app]
    show slC cs + ((dfl a).length + 0) = _
    rw [dfl_len]
    omega
  rw [n1, n2] at iA1
  refine va_new (C := RXt a) (T := TXt a) (N := nft a) (ci := a) (fs := (dfl a).map (cvF (fun _ => 0))) c1 c2 hT (uws_in ha) (tyt a) (tyt_ok a ha) c6 (hT _ hw1) (hT _ hw2) (hT _ hw3) hK.1 hP hD hS cA (clx_at a ha) (fun j hj => dfl_ok a ha j hj) (by show cs.length + 1 ≤ 600000; omega) (by show slC cs + nft a ≤ 7302250; omega) hd1 (fun q H1 hP1 hD1 hS1 => ?_)
  obtain ⟨ad1, had1⟩ : ∃ ad1, ad1 = upA ad cs.length q := ⟨_, rfl⟩
  have ag : ∀ k, k < cs.length → ad1 k = ad k := fun k hk => by rw [had1]; exact upA_lt hk
  have agn : ad1 cs.length = q := by rw [had1]; exact upA_n
  have ew : cwd tyc ad1 (cs ++ [.inr (a, dfl a)]) = cwd tyc ad cs ++ [(q, .inr (a, (dfl a).map (cvF (fun _ => 0))))] := by
    rw [cwd_app, cwd_cg ag (Nat.le_refl _) hcs, agn]
    show _ ++ [(q, (Sum.inr (a, (dfl a).map (cvF ad1)) : va_E))] = _
    rw [dfl_cv (ad := ad1) (ad' := fun _ => 0)]
  rw [← ew] at hP1 hD1
  refine lv_dup c1 c2 hd2 rfl ?_
  obtain ⟨m1, m2, m3, m4, m5, m6, m7, m8, m9, m10, m11, m12⟩ := cOK_sp hcO
  have hwf : [vR cs.length 0].all (wfS (cs ++ [(Sum.inr (a, dfl a) : CE)]).length) = true := by
    rw [n1]
    show (Nat.blt cs.length (cs.length + 1) && true) = true
    rw [show Nat.blt cs.length (cs.length + 1) = true from Nat.ble_eq_true_of_le (Nat.le_refl _)]
    rfl
  have hM := c_met (l := l) (G := G) (tyc := tyc) (d := 9) (y := y) (k1 := cs'.length - (cs.length + 1)) (k2 := slC cs' - (slC cs + nft a)) (sz := H1.size) (as := [vR cs.length 0]) (cs := cs ++ [.inr (a, dfl a)]) (cs' := cs') (ad := ad1) hcO hwf iA2 (by omega) (by omega)
  have hretn : wsY y = Cond.code (ynt y) (byt y) (mxt y) none :: wsA := by
    unfold wsY
    rw [m9]
  have hro : (rmC 9 (cs'.length - (cs.length + 1)) (slC cs' - (slC cs + nft a))).frames + 1 ≤ room_1.frames ∧ 8 + (mxt y + 11) + (rmC 9 (cs'.length - (cs.length + 1)) (slC cs' - (slC cs + nft a))).locals ≤ room_1.locals := by
    show 9 + 1 ≤ 12 ∧ 8 + (mxt y + 11) + 40 * 9 ≤ 450
    omega
  have hpre : PreS s H1 (PcC G tyc ad1 [vR cs.length 0] (cs ++ [.inr (a, dfl a)]) H1.size) (.ref q :: []) := ⟨PcC_blind, fun U hU hW => ⟨by
    show _ = [Value.ref (ad1 cs.length)].toArray
    rw [agn], by rw [hU], KC_warm hW hK, by rw [hU]; exact hP1, hD1.weaken (fun _ _ _ _ => trivial)⟩⟩
  have hdesc : (ynt y).cls ≠ "java/lang/invoke/MethodHandle" ∧ (ynt y).cls ≠ "java/lang/invoke/VarHandle" ∧ (parseMethodDescriptor (ynt y).desc).map (fun d => d.parameters.length) = some 0 := ⟨m5, m6, m7⟩
  have hgo : va_Run p l e room_1 s m #[Value.ref b] below meth c H1 locs (cs.length + 1) (slC cs + nft a) (cs'.length - (cs.length + 1)) (slC cs' - (slC cs + nft a)) (F0 m (pc + 3 + 1) lsC [.ref q, .ref q]) [.ref q] (QcC G tyc ad1 (cs ++ [(Sum.inr (a, dfl a) : CE)]).length cs' (va_A (cwd tyc ad1 (cs ++ [.inr (a, dfl a)])) H1.size) (Value.ref q :: []).toArray) (va_A (cwd tyc ad1 (cs ++ [.inr (a, dfl a)])) H1.size) :=
    va_runI ⟨c1, c2, c3, c6, hT⟩ hM (cwI 0 hT (good_Y m3) hretn rfl rfl (hT _ m2) (hT _ hw4) (hT _ m1) m4 hdesc hro) hpre rfl rfl hls rfl (lv_room (Nat.le_of_ble_eq_true rfl)) hd3 (by show cs.length + 1 + _ ≤ 600000 ∧ slC cs + nft a + _ ≤ 7302250; omega)
  intro T hT' X
  obtain ⟨v', st₀, t, T', Lc, h0, X', hL, e1, e2, ⟨⟨ho, ad', hag, hP', hD'⟩, hF⟩, stp⟩ := hgo T hT' X
  cases ho
  unfold va_F at hF
  rw [h0] at hF
  have hAA : ∀ x, va_A (cwd tyc ad1 (cs ++ [.inr (a, dfl a)])) H1.size x → A x := by
    intro x hx
    rcases hx with ⟨k, e', h'⟩ | h'
    · exact hD1.2 k _ h'
    · exact cA x (Nat.le_trans hS1.1 h')
  rw [n1] at hag
  have k := K ad' T'.heap (locs ++ Lc) (fun k hk => (hag k (by omega)).trans (ag k hk)) (by rw [e1]; exact hP') (hD'.weaken (fun k q _ h => hAA q.1 h)) ⟨Nat.le_trans hS1.1 (by rw [e1]; exact hF.1), fun x q1 q2 => by rw [e1, hF.2 x (Nat.lt_of_lt_of_le q1 hS1.1) (fun z => q2 (hAA x z))]; exact hS1.2.1 x q1 q2, fun x hx => by
    rcases List.mem_append.mp hx with z | z
    · exact hS1.2.2 x z
    · exact hAA _ (hL x z)⟩
  rw [hag cs.length (by omega), agn] at k
  have n3 : cs.length + 1 + (cs'.length - (cs.length + 1)) = cs'.length := by omega
  have n4 : slC cs + nft a + (slC cs' - (slC cs + nft a)) = slC cs' := by omega
  rw [n3, n4] at X'
  obtain ⟨t2, a1, b1⟩ := k T' rfl X'
  exact ⟨t2, stp t2 a1, b1⟩
theorem lw_end {ω : WP} {L : Nat} {xs : Nat → Int32} {cn sn : Nat} (C : LwCx ω p s m meth c b L xs (fun q => s.heap.size ≤ q)) (hcn : cn ≤ room_1.cells ∧ sn ≤ room_1.slots) (j : Int) (M : Mem) : LJ l ω p e s m below meth c b (fun q => s.heap.size ≤ q) cn sn (lw_Z below #[Value.ref b] s) 1853 j [] M := by
  obtain ⟨c1, c2, c3, c4, c5, c6, c7, hK, cA, cS, cX⟩ := C
  intro H locs lsC hM hst hj hl hP hD hS
  refine lv_iconst c1 c2 ld_1853 rfl ?_
  refine va_forget (fun q hq => hS.2.2 q hq) ?_
  refine W.widen (k := 600000) (n := 7302250) hcn.1 hcn.2 ?_
  exact lw_ret c1 c2 c4 c5 ld_1854
theorem csA_wf : csA.all (fun e => wfE csA.length e && kOK e) = true := by decide +kernel
theorem mk_A : cOK 103 1 = true ∧ Cond.classLink "ValleyGuidesLaw" 7 (RXt 11) ∈ wsA ∧ Cond.initialized (RXt 11) ∈ wsA ∧ Cond.methodLink "ValleyGuidesLaw" 9 (ynt 103) ∈ wsA := by decide +kernel
theorem mk_B : cOK 158 1 = true ∧ Cond.classLink "ValleyGuidesLaw" 10 (RXt 12) ∈ wsA ∧ Cond.initialized (RXt 12) ∈ wsA ∧ Cond.methodLink "ValleyGuidesLaw" 12 (ynt 158) ∈ wsA := by decide +kernel
theorem ld_0 : decode code 0 = .ok (Instr.new 7, 3) := by decide +kernel
theorem ld_3 : decode code 3 = .ok (Instr.dup, 1) := by decide +kernel
theorem ld_4 : decode code 4 = .ok (Instr.invokespecial 9, 3) := by decide +kernel
theorem ld_7 : decode code 7 = .ok (Instr.astore_n 1, 1) := by decide +kernel
theorem ld_8 : decode code 8 = .ok (Instr.new 10, 3) := by decide +kernel
theorem ld_11 : decode code 11 = .ok (Instr.dup, 1) := by decide +kernel
theorem ld_12 : decode code 12 = .ok (Instr.invokespecial 12, 3) := by decide +kernel
theorem ld_15 : decode code 15 = .ok (Instr.astore_n 2, 1) := by decide +kernel
theorem ld_16 : decode code 16 = .ok (Instr.iconst 0, 1) := by decide +kernel
theorem ld_17 : decode code 17 = .ok (Instr.istore_n 3, 1) := by decide +kernel
theorem M0_neg (p : Nat) (i j : Int) : M0 p i j = M0 p i (j.toNat : Int) := by
  unfold M0 cM
  rw [Int.toNat_natCast]
theorem M0_z (p : Nat) (i j : Int) (h1 : p ≠ 24) (h2 : p ≠ 78) (h3 : ¬ (p = 13 ∧ j = 83)) : M0 p i j = 0 := by
  by_cases c : 0 ≤ j
  · exact M0_zero p i j h1 h2 h3 c
  · rw [M0_neg]
    exact M0_zero p i _ h1 h2 (fun z => by have := z.2; omega) (by omega)
theorem Inv0 : Inv 0 M0 := Inv_fresh M0_z M0_24 M0_78 M0_83
theorem lk_all {P : Int → Prop} (h0 : P 0) : ∀ (ov : List (Nat × Int)) (j : Nat), (∀ q ∈ ov, P q.2) → P ((lkC ov j).getD 0)
  | [], _, _ => h0
  | q :: r, j, h => by
    rw [lkC]
    by_cases c : j = q.1
    · rw [if_pos c]
      exact h q (List.mem_cons_self ..)
    · rw [if_neg c]
      exact lk_all h0 r j (fun x hx => h x (List.mem_cons_of_mem _ hx))
def inE (e : CE) : Bool := match e with
  | .inl (_, _, ov) => ov.all (fun q => i32B q.2)
  | .inr _ => true
theorem in_ok : ∀ q ∈ WL, q.1 = 24 ∨ q.1 = 78 → (match csB[ixf q.1 q.2]? with
  | some (.inl (_, _, ov)) => ov.all (fun q => i32B q.2)
  | _ => false) = true := by decide +kernel
theorem M0_in (p : Nat) (i j : Int) (hp : p = 24 ∨ p = 78) : in32 (M0 p i j) := by
  unfold M0
  by_cases c : p < 134 ∧ 0 ≤ i ∧ i < spn p
  · rw [if_pos c]
    have q := in_ok (p, i) (mem_WL.mpr c) hp
    dsimp only at q
    split at q
    · rename_i k n ov he
      rw [he]
      show in32 (if k < 4 then (lkC ov j.toNat).getD 0 else 0)
      split
      · exact lk_all in32_0 ov _ (fun x hx => i32B_in (List.all_eq_true.mp q x hx))
      · exact in32_0
    · cases q
  · rw [if_neg c]
    exact in32_0
theorem okM0 : okM M0 := by
  intro p i j
  by_cases h1 : p = 24
  · have k : kdt p j = 0 := by rw [h1]; rfl
    rw [k]
    exact M0_in p i j (Or.inl h1)
  by_cases h2 : p = 78
  · have k : kdt p j = 0 := by rw [h2]; rfl
    rw [k]
    exact M0_in p i j (Or.inr h2)
  by_cases h3 : p = 13 ∧ j = 83
  · obtain ⟨rfl, rfl⟩ := h3
    have k : kdt 13 83 = 0 := by decide +kernel
    rw [k]
    by_cases c : i = 0
    · rw [c]
      show in32 (M0 13 0 83)
      rw [M0_83]
      unfold in32
      decide
    · have z : M0 13 i 83 = 0 := by
        unfold M0
        rw [if_neg (fun z => by
          have e : spn 13 = 1 := by decide +kernel
          rw [e] at z
          omega)]
      rw [z]
      exact in32_0
  rw [M0_z p i j h1 h2 h3]
  unfold okv
  split
  · exact in32_0
  · unfold in64
    omega
  · exact Or.inl rfl
  · trivial
/-- from the entry, for every script, the law comes to its end with true -/
theorem whole_start {p : Program} {e : Env} {s : State} {m : MethodId} {below : List Frame} {meth : Method} {c : Code} (l : Launch) {b L : Nat} {xs : Nat → Int32} (hL : L ≤ 3584) (C0 : lw_At p s m meth c b L xs) : W p l e room_1 s m #[Value.ref b] below meth c s.heap [] 0 0 (lw_Z below #[Value.ref b] s) (entryFrame m ([Value.ref b] : List Value).toArray 4) := by
  obtain ⟨x1, x2, x3, x4, x5, hts, hX, hbl, hlk, hg⟩ := C0
  have hT : ∀ w ∈ wsA, w.before #[Value.ref b] s = true := fun w h => hts w (List.mem_filter.mp h).1
  obtain ⟨G, tyc, hKC⟩ := en_KC hts
  obtain ⟨sp, hsp, hsx⟩ := en_SX (A := fun q => s.heap.size ≤ q) hts hg (fun a h z => by omega) b
  have hl : lv_has _ 4 _ := lv_entry [Value.ref b] (n := 4) (Nat.le_of_ble_eq_true rfl)
  rw [lg_entry_eq]
  have hP0 : va_P G clx (cwd tyc (fun _ => 0) []) s.heap := fun k q h => by simp [cwd] at h
  have hD0 : va_D (fun q => s.heap.size ≤ q) (cwd tyc (fun _ => 0) []) := ⟨fun i j x y h => by simp [cwd] at h, fun k q h => by simp [cwd] at h⟩
  obtain ⟨a1, a2, a3, a4⟩ := mk_A
  obtain ⟨b1, b2, b3, b4⟩ := mk_B
  obtain ⟨l1, l2, l3, l4, l5, l6⟩ := cs_len
  refine lw_mk (a := 11) (y := 103) (i1 := 7) (i2 := 9) (pc := 0) (nn := 3000) (cs := []) (cs' := csA) (ad := fun _ => 0) (A := fun q => s.heap.size ≤ q) x1 x2 x4 x5 hT hKC (fun q h => h) run_A (by decide) a1 a2 (en_inst 11 (by decide)) a3 a4 ld_0 ld_3 ld_4 rfl (by omega) (by omega) hl.1 hP0 hD0 va_S.rf ?_
  intro ad1 H1 locs1 ag1 hP1 hD1 hS1
  refine lv_astore_n (lv' := [(1, .ref (ad1 0)), (0, .ref b)]) x1 x2 ld_7 rfl hl (by decide) rfl (fun ls1 h1 => ?_)
  refine lw_mk (a := 12) (y := 158) (i1 := 10) (i2 := 12) (pc := 8) (nn := 3000) (cs := csA) (cs' := csB) (ad := ad1) (A := fun q => s.heap.size ≤ q) x1 x2 x4 x5 hT hKC (fun q h => h) (by rw [l1]; exact run_B) (by decide) b1 b2 (en_inst 12 (by decide)) b3 b4 ld_8 ld_11 ld_12 csA_wf (by omega) (by omega) h1.1 hP1 hD1 hS1 ?_
  intro ad2 H2 locs2 ag2 hP2 hD2 hS2
  refine lv_astore_n (lv' := [(2, .ref (ad2 csA.length)), (1, .ref (ad1 0)), (0, .ref b)]) x1 x2 ld_15 rfl h1 (by decide) rfl (fun ls2 h2 => ?_)
  refine lv_iconst x1 x2 ld_16 (v := Int32.ofInt 0) rfl ?_
  refine lv_istore_n (lv' := [(3, .int (Int32.ofInt 0)), (2, .ref (ad2 csA.length)), (1, .ref (ad1 0)), (0, .ref b)]) x1 x2 ld_17 rfl h2 (by decide) rfl (fun ls3 h3 => ?_)
  obtain ⟨hKX, hSX⟩ := hsx G tyc ad2 hKC.1 hKC.2.1
  have e20 : (wpO G tyc ad2 sp).2.1 2000 0 = b := by
    show (if 2000 < 134 then ad2 (ixf 2000 0) else sp 2000 0) = b
    rw [if_neg (by decide)]
    exact hsp
  have e00 : (wpO G tyc ad2 sp).2.1 0 0 = ad1 0 := by
    show (if 0 < 134 then ad2 (ixf 0 0) else sp 0 0) = ad1 0
    rw [if_pos (by decide), show ixf 0 0 = 0 by decide +kernel]
    exact ag2 0 (by omega)
  have e13 : (wpO G tyc ad2 sp).2.1 13 0 = ad2 csA.length := by
    show (if 13 < 134 then ad2 (ixf 13 0) else sp 13 0) = ad2 csA.length
    rw [if_pos (by decide), show ixf 13 0 = 111 by decide +kernel, l1]
  have C : LwCx (wpO G tyc ad2 sp) p s m meth c b L xs (fun q => s.heap.size ≤ q) := ⟨x1, x2, x4, x3, hlk, x5, hts, hKX, fun q h => h, hSX, hX, hbl, fun z => by omega, e20, hL⟩
  have hcn : csB.length ≤ room_1.cells ∧ slC csB ≤ room_1.slots := by
    show csB.length ≤ 600000 ∧ slC csB ≤ 7302250
    omega
  refine lw_loop (l := l) (e := e) (below := below) C hcn (lw_end C hcn) (3600 - 0 : Int).toNat 0 0 M0 rfl (by omega) (by omega) Inv0 H2 locs2 ls3 okM0 (fun a ha => by cases ha) in32_0 ?_ (fresh_P hP2) (fresh_D hD2) hS2
  refine LVx.of h3 rfl (fun i a hi ha => ?_)
  match i, hi with
  | 0, hi =>
    cases hi
    show (0, Value.ref ((wpO G tyc ad2 sp).2.1 2000 0)) ∈ _
    rw [e20]
    simp
  | 1, hi =>
    cases hi
    show (1, Value.ref ((wpO G tyc ad2 sp).2.1 0 0)) ∈ _
    rw [e00]
    simp
  | 2, hi =>
    cases hi
    show (2, Value.ref ((wpO G tyc ad2 sp).2.1 13 0)) ∈ _
    rw [e13]
    simp
  | 3, hi =>
    cases hi
    exact List.mem_cons_self ..
  | i + 4, hi => cases hi
end ENTRY
