/-! ===== the law: its judgement, one instruction (wip/gen/lw0.body) ===== -/
abbrev LEnt : Type := Instr × Nat × Nat × Nat × Int × Nat
abbrev LFu : Type := Nat → List AV → Mem → Prop
def LwCx (ω : WP) (p : Program) (s : State) (m : MethodId) (meth : Method) (c : Code) (b L : Nat) (xs : Nat → Int32) (A : Nat → Prop) : Prop :=
  p.tables.exec = Jvm.exec ∧ c.code = code ∧ c.maxLocals = 4 ∧ meth.sig.returnType = ret ∧ meth.locks = false ∧ s.vm.findClass "ValleyGuidesLaw" = some m.cls ∧ (∀ w ∈ lw_tbl, w.before #[Value.ref b] s = true) ∧ KX ω s ∧ (∀ q, s.heap.size ≤ q → A q) ∧ SX ω A s s.heap ∧ (va_X b L xs s s.heap ∧ b < s.heap.size ∧ ¬ A b ∧ ω.2.1 2000 0 = b ∧ L ≤ 3584)
def lgL (j : Int) : List AV := [vR 2000 0, vR 0 0, vR 13 0, vI j]
def lgA (a : Nat) : AV := match a with
  | 0 => vR 2000 0
  | 1 => vR 0 0
  | _ => vR 13 0
def LJ (l : Launch) (ω : WP) (p : Program) (e : Env) (s : State) (m : MethodId) (below : List Frame) (meth : Method) (c : Code) (b : Nat) (A : Nat → Prop) (cn sn : Nat) (Z : State → Prop) (pc : Nat) (j : Int) (st : List AV) (M : Mem) : Prop :=
  ∀ (H : Heap) (locs : List Loc) (lsC : Array Slot), okM M → okL st → in32 j → LVx ω lsC 4 (lgL j) → va_P ω.1 clx (wd ω M) H → va_D A (wd ω M) → va_S A s.heap H locs → W p l e room_1 s m #[Value.ref b] below meth c H locs cn sn Z (F0 m pc lsC (st.map (cvA ω)))
/-- where the script's int j stands, as the machine takes it -/
def xsI (xs : Nat → Int32) (i : Int) : Int := (xs i.toNat).toInt
def lwS (l : Launch) (ω : WP) (xs : Nat → Int32) (L : Nat) (j : Int) (en : LEnt) (st : List AV) (M : Mem) (k : LFu) : Prop :=
  match en with
  | (ins, nxt, a, b, v, _) => match ins with
    | .iconst _ => k nxt (vI v :: st) M
    | .bipush _ => k nxt (vI v :: st) M
    | .aload_n _ => k nxt (lgA a :: st) M
    | .iload_n _ => k nxt (vI j :: st) M
    | .iadd => match st with
      | .inl z :: .inl x :: r => k nxt (vI (w32 (x + z)) :: r) M
      | _ => False
    | .iaload => match st with
      | .inl i :: .inr (.inr (.inl (q, i2))) :: r => match Nat.beq q 2000 with
        | true => i2 = 0 ∧ (0 ≤ i ∧ i < (L : Int)) ∧ k nxt (vI (xsI xs i) :: r) M
        | false => False
      | _ => False
    | .ifCond .eq _ => match st with
      | .inl x :: r => (x = 0 → k a r M) ∧ (¬ x = 0 → k nxt r M)
      | _ => False
    | .if_icmp .eq _ => match st with
      | .inl z :: .inl x :: r => (x = z → k a r M) ∧ (¬ x = z → k nxt r M)
      | _ => False
    | .lcmp => match st with
      | .inr (.inl z) :: .inr (.inl x) :: r => k nxt (vI (cmp3 x z) :: r) M
      | _ => False
    | .goto _ => k a st M
    | .i2l => match st with
      | .inl x :: r => k nxt (vL x :: r) M
      | _ => False
    | .lshl => match st with
      | .inl z :: .inr (.inl x) :: r => k nxt (vL (Int64.ofInt x <<< ((Int32.ofInt z).toInt64 &&& 63)).toInt :: r) M
      | _ => False
    | .lor => match st with
      | .inr (.inl z) :: .inr (.inl x) :: r => k nxt (vL (Int64.ofInt x ||| Int64.ofInt z).toInt :: r) M
      | _ => False
    | .land => match st with
      | .inr (.inl z) :: .inr (.inl x) :: r => k nxt (vL (Int64.ofInt x &&& Int64.ofInt z).toInt :: r) M
      | _ => False
    | .ldc2_w _ => k nxt (vL v :: st) M
    | .invokevirtual _ => popK b st [] (fun as r => match as with
      | .inr (.inr (.inl (q, i))) :: as' => match Nat.beq q v.toNat with
        | true => i = 0 ∧ csum r ≤ 8 ∧ ∃ Q', Vd l ω 9 a (vR q i :: as') M Q' ∧ ∀ z M', Q' z M' → rk a z → k nxt (z.toList ++ r) M'
        | false => False
      | _ => False)
    | _ => False
def chkLw (pc : Nat) (en : LEnt) : Bool := match en with
  | (ins, nxt, a, b, v, w) => decide (decode code pc = .ok (ins, nxt - pc)) && (match ins with
    | .iconst n => Nat.beq nxt (pc + 1) && (decide (n = v) && i32B v)
    | .bipush n => Nat.beq nxt (pc + 2) && (decide ((Int8.ofInt n).toInt32 = Int32.ofInt v) && i32B v)
    | .aload_n n => Nat.beq nxt (pc + 1) && (Nat.beq (n : Nat) a && Nat.blt a 3)
    | .iload_n n => Nat.beq nxt (pc + 1) && Nat.beq (n : Nat) 3
    | .iadd => Nat.beq nxt (pc + 1)
    | .iaload => Nat.beq nxt (pc + 1)
    | .lcmp => Nat.beq nxt (pc + 1)
    | .i2l => Nat.beq nxt (pc + 1)
    | .lshl => Nat.beq nxt (pc + 1)
    | .lor => Nat.beq nxt (pc + 1)
    | .land => Nat.beq nxt (pc + 1)
    | .ifCond .eq off => decide ((pc : Int) + off = (a : Int)) && Nat.beq nxt (pc + 3)
    | .if_icmp .eq off => decide ((pc : Int) + off = (a : Int)) && Nat.beq nxt (pc + 3)
    | .goto off => decide ((pc : Int) + off = (a : Int)) && Nat.beq nxt (pc + 3)
    | .ldc2_w i => Nat.beq nxt (pc + 3) && (wat w (.constantLong "ValleyGuidesLaw" i (Int64.ofInt v)) && i64B v)
    | .invokevirtual i => Nat.beq nxt (pc + 3) && (wat w (.methodLink "ValleyGuidesLaw" i (ynt a)) && (vOK a && (Nat.beq b (npt a + 1) && ((decide (v = 0) && Nat.beq (clt a) 11) || (decide (v = 13) && Nat.beq (clt a) 12)))))
    | _ => false)
theorem lgA_ok {a : Nat} (h : a < 3) (j : Int) : okA (lgA a) ∧ ∀ ω : WP, ∃ q, (lgL j)[a]? = some (lgA a) ∧ cvA ω (lgA a) = .ref q := by
  match a, h with
  | 0, _ => exact ⟨⟨fun z => absurd z (by decide), fun z => absurd z (by decide), fun z => absurd z (by decide), fun z => absurd z (by decide)⟩, fun ω => ⟨_, rfl, rfl⟩⟩
  | 1, _ => exact ⟨okR (mem_WL.mpr (by decide)), fun ω => ⟨_, rfl, rfl⟩⟩
  | 2, _ => exact ⟨okR (mem_WL.mpr (by decide)), fun ω => ⟨_, rfl, rfl⟩⟩
section LAW
variable {l : Launch} {ω : WP} {p : Program} {e : Env} {s : State} {m : MethodId} {below : List Frame} {meth : Method} {c : Code} {b L : Nat} {xs : Nat → Int32} {A : Nat → Prop} {cn sn : Nat} {Z : State → Prop} {pc pc' : Nat} {j : Int} {st st' r : List AV} {M : Mem}
/-- a call of a method of either side, from the law -/
theorem lj_call {idx y n q : Nat} {as : List AV} {Q' : Post} (C : LwCx ω p s m meth c b L xs A) (hcn : cn ≤ room_1.cells ∧ sn ≤ room_1.slots) (hd : decode code pc = .ok (.invokevirtual idx, 3)) (hw : Jvm.Cond.methodLink "ValleyGuidesLaw" idx (ynt y) ∈ wsA) (hm : MokV y n) (hn : as.length = n) (hrc : (SHt q).1 = 0 ∧ (SHt q).2.1 = clt y ∧ clt y < 13) (hin : (q, (0 : Int)) ∈ WL) (hcs : csum r ≤ 8) (hv : Vd l ω 9 y (vR q 0 :: as) M Q')
    (hk : ∀ z M', Q' z M' → rk y z → LJ l ω p e s m below meth c b A cn sn Z (pc + 3) j (z.toList ++ r) M') : LJ l ω p e s m below meth c b A cn sn Z pc j (as.reverse ++ vR q 0 :: r) M := by
  intro H locs lsC hM hst hj hl hP hD hS
  obtain ⟨ha, hr0⟩ := okL_rev hst
  rw [List.reverse_reverse] at ha
  obtain ⟨hpi, hrr⟩ := okL_cons.mp hr0
  obtain ⟨m1, m2, m3, m4, m5, m6, m7, m8, m9, m10⟩ := hm
  obtain ⟨c1, c2, c3, c4, c5, c6, c7, hK, cA, cS, cX⟩ := C
  have hT : ∀ w ∈ wsA, w.before #[Value.ref b] s = true := fun w h => c7 w ((List.mem_filter.mp h).1)
  have hG : GoodIn wsA (wsV "ValleyGuidesLaw" idx (RXt (clt y)) (ynt y) (wsY y)) := fun w hw' => by
    rcases List.mem_append.mp hw' with h | h
    · simp only [List.mem_cons, List.not_mem_nil, or_false] at h
      rcases h with rfl | rfl | rfl | rfl
      · exact good_A hw
      · exact good_A m1
      · exact good_A m2
      · exact good_A m3
    · exact good_Y m4 w h
  have hM0 := hv hM (okL_cons.mpr ⟨hpi, ha⟩) H.size
  have hAA : ∀ x, va_A (wd ω M) H.size x → A x := by
    intro x hx
    rcases hx with ⟨k, e', h'⟩ | h'
    · exact hD.2 k _ h'
    · exact cA x (Nat.le_trans hS.1 h')
  have hrun : va_Run p l e room_1 s m #[Value.ref b] below meth c H locs cn sn 0 0 (F0 m pc lsC ((as.reverse ++ vR q 0 :: r).map (cvA ω))) (r.map (cvA ω)) (QcX ω (QK y Q') (va_A (wd ω M) H.size) (Value.ref (ω.2.1 q 0) :: as.map (cvA ω)).toArray) (va_A (wd ω M) H.size) := by
    refine va_runV (As := as.map (cvA ω)) (b := ω.2.1 q 0) ⟨c1, c2, c3, c6, hT⟩ hM0 (cwV n hT hG rfl rfl rfl ⟨m5, m6, m7, m8⟩ ?_) ⟨PcX_blind, ?_, fun U hU hW => ⟨rfl, by rw [hU], KX_warm hW hK, by rw [hU]; exact hP, hD.weaken (fun _ _ _ _ => trivial), ?_⟩⟩ rfl (by simpa using hn) hl.1 ?_ ?_ hd ⟨hcn.1, hcn.2⟩
    · show 9 + 1 ≤ 12 ∧ 8 + (mxt y + 11) + 40 * 9 ≤ 450
      omega
    · have h := recv_ok hK hP hin hrc.1 (by rw [hrc.2.1]; exact hrc.2.2)
      rw [hrc.2.1] at h
      exact h
    · rw [hU]
      exact SX.narrow (A := A) (SX.moved hW.alike (SX.kept cS (fun a h1 h2 => hS.2.1 a h1 h2))) hAA
    · show (as.reverse ++ vR q 0 :: r).map (cvA ω) = _
      simp [cvA]
    · refine lv_room ?_
      rw [csum_eq]
      exact hcs
  intro T hT' X
  obtain ⟨v, st₀, t, T', Lc, h0, X', hL, e1, e2, ⟨⟨z, M', hv', hq, hM', hr', hP'⟩, hF⟩, stp⟩ := hrun T hT' X
  cases hv'
  unfold va_F at hF
  rw [h0] at hF
  have k := hk z M' hq.1 hq.2 T'.heap (locs ++ Lc) lsC hM' (by
    intro x hx
    rcases List.mem_append.mp hx with h | h
    · exact hr' x (by simpa using h)
    · exact hrr x h) hj hl (by rw [e1]; exact hP') (wd_D M' hD) ⟨Nat.le_trans hS.1 (by rw [e1]; exact hF.1), fun x q1 q2 => by rw [e1, hF.2 x (Nat.lt_of_lt_of_le q1 hS.1) (fun z => q2 (hAA x z))]; exact hS.2.1 x q1 q2, fun x hx => by
      rcases List.mem_append.mp hx with z | z
      · exact hS.2.2 x z
      · exact hAA _ (hL x z)⟩
  have e3 : (z.toList ++ r).map (cvA ω) = (z.map (cvA ω)).toList ++ r.map (cvA ω) := by cases z <;> simp
  rw [e3] at k
  obtain ⟨t2, a1, b1⟩ := k T' rfl X'
  exact ⟨t2, stp t2 a1, b1⟩
theorem lw_step (C : LwCx ω p s m meth c b L xs A) (hcn : cn ≤ room_1.cells ∧ sn ≤ room_1.slots) {en : LEnt} {k : LFu} (hc : chkLw pc en = true) (h : lwS l ω xs L j en st M k) (hk : ∀ pc' st' M', k pc' st' M' → LJ l ω p e s m below meth c b A cn sn Z pc' j st' M') : LJ l ω p e s m below meth c b A cn sn Z pc j st M := by
  obtain ⟨ins, nxt, a, n, v, w⟩ := en
  unfold chkLw at hc
  rw [Bool.and_eq_true, decide_eq_true_eq] at hc
  obtain ⟨hd, hc⟩ := hc
  have C0 := C
  obtain ⟨c1, c2, c3, c4, c5, c6, c7, hK, cA, cS, cX, cb, cbA, cω, cL⟩ := C
  have hT : ∀ w ∈ wsA, w.before #[Value.ref b] s = true := fun w h => c7 w (List.mem_filter.mp h).1
  unfold lwS at h
  dsimp only at h
  split at h
  case h_1 i =>
    have hc : (Nat.beq nxt (pc + 1) && (decide (i = v) && i32B v)) = true := hc
    simp only [Bool.and_eq_true, decide_eq_true_eq] at hc
    obtain ⟨hn, rfl, hv⟩ := hc
    obtain rfl := beq_eq hn
    rw [Nat.add_sub_cancel_left] at hd
    intro H locs lsC hM hst hj hl hP hD hS
    exact lv_iconst c1 c2 hd rfl (hk _ _ _ h H locs lsC hM (okL_cons.mpr ⟨i32B_in hv, hst⟩) hj hl hP hD hS)
  case h_2 i =>
    have hc : (Nat.beq nxt (pc + 2) && (decide ((Int8.ofInt i).toInt32 = Int32.ofInt v) && i32B v)) = true := hc
    simp only [Bool.and_eq_true, decide_eq_true_eq] at hc
    obtain ⟨hn, h1, hv⟩ := hc
    obtain rfl := beq_eq hn
    rw [Nat.add_sub_cancel_left] at hd
    intro H locs lsC hM hst hj hl hP hD hS
    exact lv_bipush c1 c2 hd h1 (hk _ _ _ h H locs lsC hM (okL_cons.mpr ⟨i32B_in hv, hst⟩) hj hl hP hD hS)
  case h_3 i =>
    have hc : (Nat.beq nxt (pc + 1) && (Nat.beq (i : Nat) a && Nat.blt a 3)) = true := hc
    simp only [Bool.and_eq_true] at hc
    obtain ⟨hn, h1, ha⟩ := hc
    obtain rfl := beq_eq hn
    rw [Nat.add_sub_cancel_left] at hd
    obtain ⟨q1, q2⟩ := lgA_ok (Nat.le_of_ble_eq_true ha) j
    obtain ⟨x, q3, q4⟩ := q2 ω
    intro H locs lsC hM hst hj hl hP hD hS
    have k0 := hk _ _ _ h H locs lsC hM (okL_cons.mpr ⟨q1, hst⟩) hj hl hP hD hS
    have g := hl.2.2.2 a _ q3 (by
      match a, Nat.le_of_ble_eq_true ha with
      | 0, _ => trivial
      | 1, _ => trivial
      | 2, _ => trivial)
    rw [List.map_cons, q4] at k0
    rw [q4] at g
    exact lv_aload_n c1 c2 hd (beq_eq h1) g k0
  case h_4 i =>
    have hc : (Nat.beq nxt (pc + 1) && Nat.beq (i : Nat) 3) = true := hc
    simp only [Bool.and_eq_true] at hc
    obtain ⟨hn, h1⟩ := hc
    obtain rfl := beq_eq hn
    rw [Nat.add_sub_cancel_left] at hd
    intro H locs lsC hM hst hj hl hP hD hS
    exact lv_iload_n c1 c2 hd (beq_eq h1) (hl.2.2.2 3 (vI j) rfl trivial) (hk _ _ _ h H locs lsC hM (okL_cons.mpr ⟨hj, hst⟩) hj hl hP hD hS)
  case h_5 =>
    obtain rfl := beq_eq (show Nat.beq nxt (pc + 1) = true from hc)
    rw [Nat.add_sub_cancel_left] at hd
    split at h
    · intro H locs lsC hM hst hj hl hP hD hS
      exact lv_iadd c1 c2 hd (by
        rw [← Int32.ofInt_add, ← w32_of]
        exact hk _ _ _ h H locs lsC hM (okL_cons.mpr ⟨w32_in _, (okL_cons.mp (okL_cons.mp hst).2).2⟩) hj hl hP hD hS)
    · exact h.elim
  case h_6 =>
    obtain rfl := beq_eq (show Nat.beq nxt (pc + 1) = true from hc)
    rw [Nat.add_sub_cancel_left] at hd
    split at h
    · rename_i i q i2 r
      split at h
      · rename_i hq
        obtain ⟨rfl, hi, h⟩ := h
        obtain rfl := beq_eq hq
        intro H locs lsC hM hst hj hl hP hD hS
        have h32 : in32 i := (okL_cons.mp hst).1
        have k0 := hk _ _ _ h H locs lsC hM (okL_cons.mpr ⟨t32_in _, (okL_cons.mp (okL_cons.mp hst).2).2⟩) hj hl hP hD hS
        have e0 : cvA ω (vR 2000 0) = .ref b := congrArg Value.ref cω
        have e1 : cvA ω (vI (xsI xs i)) = .int (xs (Int32.ofInt i).toNatClampNeg) := by
          show Value.int (Int32.ofInt (xs i.toNat).toInt) = _
          rw [Int32.ofInt_toInt, o32_clamp h32]
        rw [List.map_cons, e1] at k0
        rw [List.map_cons, List.map_cons, e0]
        exact va_sld c1 c2 cX cb cbA hS (vpin_of h32 hi.1 hi.2) hd k0
      · exact h.elim
    · exact h.elim
  case h_7 off =>
    have hc : (decide ((pc : Int) + off = (a : Int)) && Nat.beq nxt (pc + 3)) = true := hc
    simp only [Bool.and_eq_true, decide_eq_true_eq] at hc
    obtain ⟨ht, hn⟩ := hc
    obtain rfl := beq_eq hn
    rw [Nat.add_sub_cancel_left] at hd
    split at h
    · intro H locs lsC hM hst hj hl hP hD hS
      have hx := (okL_cons.mp hst).1
      refine lv_if_eq c1 c2 hd ht (fun z => ?_) (fun z => ?_)
      · exact hk _ _ _ (h.1 ((o32_inj hx in32_0).mp z)) H locs lsC hM (okL_cons.mp hst).2 hj hl hP hD hS
      · exact hk _ _ _ (h.2 (fun y => z ((o32_inj hx in32_0).mpr y))) H locs lsC hM (okL_cons.mp hst).2 hj hl hP hD hS
    · exact h.elim
  case h_8 off =>
    have hc : (decide ((pc : Int) + off = (a : Int)) && Nat.beq nxt (pc + 3)) = true := hc
    simp only [Bool.and_eq_true, decide_eq_true_eq] at hc
    obtain ⟨ht, hn⟩ := hc
    obtain rfl := beq_eq hn
    rw [Nat.add_sub_cancel_left] at hd
    split at h
    · intro H locs lsC hM hst hj hl hP hD hS
      have hz := (okL_cons.mp hst).1
      have hx := (okL_cons.mp (okL_cons.mp hst).2).1
      refine lv_icmp_eq c1 c2 hd ht (fun z => ?_) (fun z => ?_)
      · exact hk _ _ _ (h.1 ((o32_inj hx hz).mp z)) H locs lsC hM (okL_cons.mp (okL_cons.mp hst).2).2 hj hl hP hD hS
      · exact hk _ _ _ (h.2 (fun y => z ((o32_inj hx hz).mpr y))) H locs lsC hM (okL_cons.mp (okL_cons.mp hst).2).2 hj hl hP hD hS
    · exact h.elim
  case h_9 =>
    obtain rfl := beq_eq (show Nat.beq nxt (pc + 1) = true from hc)
    rw [Nat.add_sub_cancel_left] at hd
    split at h
    · intro H locs lsC hM hst hj hl hP hD hS
      exact W.lcmp c1 c2 hd (by
        rw [lg_cmp3 (okL_cons.mp (okL_cons.mp hst).2).1 (okL_cons.mp hst).1]
        exact hk _ _ _ h H locs lsC hM (okL_cons.mpr ⟨cmp3_in _ _, (okL_cons.mp (okL_cons.mp hst).2).2⟩) hj hl hP hD hS)
    · exact h.elim
  case h_10 off =>
    have hc : (decide ((pc : Int) + off = (a : Int)) && Nat.beq nxt (pc + 3)) = true := hc
    simp only [Bool.and_eq_true, decide_eq_true_eq] at hc
    obtain ⟨ht, hn⟩ := hc
    obtain rfl := beq_eq hn
    rw [Nat.add_sub_cancel_left] at hd
    intro H locs lsC hM hst hj hl hP hD hS
    exact lv_goto c1 c2 hd ht (hk _ _ _ h H locs lsC hM hst hj hl hP hD hS)
  case h_11 =>
    obtain rfl := beq_eq (show Nat.beq nxt (pc + 1) = true from hc)
    rw [Nat.add_sub_cancel_left] at hd
    split at h
    · intro H locs lsC hM hst hj hl hP hD hS
      have hx := (okL_cons.mp hst).1
      exact lv_i2l c1 c2 hd (i2l_of hx) (hk _ _ _ h H locs lsC hM (okL_cons.mpr ⟨in64_of hx, (okL_cons.mp hst).2⟩) hj hl hP hD hS)
    · exact h.elim
  case h_12 =>
    obtain rfl := beq_eq (show Nat.beq nxt (pc + 1) = true from hc)
    rw [Nat.add_sub_cancel_left] at hd
    split at h
    · intro H locs lsC hM hst hj hl hP hD hS
      have k0 := hk _ _ _ h H locs lsC hM (okL_cons.mpr ⟨t64_in _, (okL_cons.mp (okL_cons.mp hst).2).2⟩) hj hl hP hD hS
      exact lv_lshl c1 c2 hd rfl (by simp only [List.map_cons, cvA, Int64.ofInt_toInt] at k0; exact k0)
    · exact h.elim
  case h_13 =>
    obtain rfl := beq_eq (show Nat.beq nxt (pc + 1) = true from hc)
    rw [Nat.add_sub_cancel_left] at hd
    split at h
    · intro H locs lsC hM hst hj hl hP hD hS
      have k0 := hk _ _ _ h H locs lsC hM (okL_cons.mpr ⟨t64_in _, (okL_cons.mp (okL_cons.mp hst).2).2⟩) hj hl hP hD hS
      exact lv_lor c1 c2 hd (by simp only [List.map_cons, cvA, Int64.ofInt_toInt] at k0; exact k0)
    · exact h.elim
  case h_14 =>
    obtain rfl := beq_eq (show Nat.beq nxt (pc + 1) = true from hc)
    rw [Nat.add_sub_cancel_left] at hd
    split at h
    · intro H locs lsC hM hst hj hl hP hD hS
      have k0 := hk _ _ _ h H locs lsC hM (okL_cons.mpr ⟨t64_in _, (okL_cons.mp (okL_cons.mp hst).2).2⟩) hj hl hP hD hS
      exact lv_land c1 c2 hd (by simp only [List.map_cons, cvA, Int64.ofInt_toInt] at k0; exact k0)
    · exact h.elim
  case h_15 i =>
    have hc : (Nat.beq nxt (pc + 3) && (wat w (.constantLong "ValleyGuidesLaw" i (Int64.ofInt v)) && i64B v)) = true := hc
    simp only [Bool.and_eq_true] at hc
    obtain ⟨hn, hw, hv⟩ := hc
    obtain rfl := beq_eq hn
    rw [Nat.add_sub_cancel_left] at hd
    intro H locs lsC hM hst hj hl hP hD hS
    exact lv_ldc2 c1 c2 c6 (hT _ (wat_in hw)) hd (hk _ _ _ h H locs lsC hM (okL_cons.mpr ⟨i64B_in hv, hst⟩) hj hl hP hD hS)
  case h_16 i =>
    have hc : (Nat.beq nxt (pc + 3) && (wat w (.methodLink "ValleyGuidesLaw" i (ynt a)) && (vOK a && (Nat.beq n (npt a + 1) && ((decide (v = 0) && Nat.beq (clt a) 11) || (decide (v = 13) && Nat.beq (clt a) 12)))))) = true := hc
    simp only [Bool.and_eq_true, Bool.or_eq_true, decide_eq_true_eq] at hc
    obtain ⟨hn, hw, hvo, hnp, hrc⟩ := hc
    obtain rfl := beq_eq hn
    rw [Nat.add_sub_cancel_left] at hd
    obtain ⟨as, r, e1, e2, h⟩ := popK_sp _ _ _ _ h
    rw [List.append_nil] at h
    split at h
    · rename_i q i2 as' has
      split at h
      · rename_i hq
        obtain ⟨rfl, hcs, Q', hV, hkk⟩ := h
        obtain rfl := beq_eq hq
        have ea : as = as'.reverse ++ [vR v.toNat 0] := by
          have z := congrArg List.reverse has
          rw [List.reverse_reverse, List.reverse_cons] at z
          exact z
        rw [e1, ea, List.append_assoc]
        have hln : as'.length = npt a := by
          have z := congrArg List.length ea
          rw [e2, beq_eq hnp] at z
          simp at z
          omega
        refine lj_call C0 hcn hd (wat_in hw) (MokV_of hvo) hln ?_ ?_ hcs hV (fun z M' hz hr => hk _ _ _ (hkk z M' hz hr))
        · rcases hrc with ⟨rfl, z⟩ | ⟨rfl, z⟩
          · rw [beq_eq z]
            decide
          · rw [beq_eq z]
            decide
        · rcases hrc with ⟨rfl, z⟩ | ⟨rfl, z⟩
          · exact mem_WL.mpr (by decide)
          · exact mem_WL.mpr (by decide)
      · exact h.elim
    · exact h.elim
  case h_17 => exact h.elim
end LAW
