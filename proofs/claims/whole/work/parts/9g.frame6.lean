/-! ===== the frame: runs of the machine that makes objects (wip/gen/fr6.body) ===== -/
def cOK (y b : Nat) : Bool := decide (Cond.instanceMethod (ynt y) ∈ wsA) && (decide (Cond.initialized (ynt y).cls ∈ wsA) && (decide (Cond.code (ynt y) (byt y) (mxt y) (rtt y) ∈ wsA) && decide ((ynt y).name = "<init>" ∧ (ynt y).cls ≠ "java/lang/invoke/MethodHandle" ∧ (ynt y).cls ≠ "java/lang/invoke/VarHandle" ∧ (parseMethodDescriptor (ynt y).desc).map (fun d => d.parameters.length) = some (b - 1) ∧ mxt y ≤ 21 ∧ rtt y = none ∧ owt y = (ynt y).cls ∧ plainName (ynt y).cls = true ∧ b ≤ mxt y)))
def chkK (y pc : Nat) (e : CEnt) : Bool := match e with
  | (.return_, nxt, a, b, v, w) => decide (decode (byt y) pc = .ok (.return_, nxt - pc)) && (Nat.beq nxt (pc + 1) && decide (rtt y = none))
  | (.invokespecial i, nxt, a, b, v, w) => decide (decode (byt y) pc = .ok (.invokespecial i, nxt - pc)) && (Nat.beq nxt (pc + 3) && (if v = 1 then wat w (.methodLink (owt y) i Lib.objectInit) else (wat w (.methodLink (owt y) i (ynt a)) || decide (lw_tbl[w]? = some (.methodLinkNest (owt y) i (ynt a) "ValleyGuides"))) && cOK a b))
  | e => chkC y pc e
def crun (tb : Nat → Nat → Option CEnt) : Nat → Nat → Nat → Nat → List AV → List AV → List CE → Option (List CE)
  | 0, _, _, _, _, _, _ => none
  | n + 1, d, y, pc, ls, st, cs => match tb y pc with
    | none => none
    | some e => match e with
      | (.return_, _, _, _, _, _) => match st with
        | [] => some cs
        | _ => none
      | (.invokespecial i, nxt, a, b, v, w) => if v = 1 then (match st with
          | .inr (.inr (.inl (p, i))) :: r => if 1 ≤ d ∧ csum r ≤ 8 then crun tb n d y nxt ls r cs else none
          | _ => none)
        else match d with
          | 0 => none
          | d' + 1 => match (st.take b).reverse with
            | .inr (.inr (.inl (q, i))) :: as => if as.length + 1 = b ∧ (vR q i :: as).all (wfS cs.length) = true ∧ csum (st.drop b) ≤ 8 ∧ alo cs.length ls (st.drop b) cs = true then
                (match crun tb n d' a 0 ((vR q i :: as) ++ List.replicate (mxt a - b) vU) [] cs with
                | none => none
                | some cs2 => crun tb n (d' + 1) y nxt ls (st.drop b) cs2)
              else none
            | _ => none
      | e => match csem e ls st cs with
        | none => none
        | some r => if cs.length ≤ r.2.2.2.length ∧ slC cs ≤ slC r.2.2.2 then crun tb n d y r.1 r.2.1 r.2.2.1 r.2.2.2 else none
def QcC (G : va_G) (tyc : Nat → ClassId) (ad : Nat → Nat) (N : Nat) (cs' : List CE) (A : Nat → Prop) : Array Value → State → Outcome → State → Prop := fun _ st o t =>
  (o = .returned none ∧ ∃ ad' : Nat → Nat, (∀ k, k < N → ad' k = ad k) ∧ va_P G clx (cwd tyc ad' cs') t.heap ∧ va_D A (cwd tyc ad' cs')) ∧ va_F A st t
def rmC (d k1 k2 : Nat) : Room := { frames := d, cells := k1, slots := k2, locals := 40 * d }
theorem W_mono {p : Program} {l : Launch} {e : Env} {R : Room} {s : State} {m : MethodId} {args : Array Value} {below : List Frame} {meth : Method} {c : Code} {H : Heap} {locs : List Loc} {cn sn : Nat} {Q Q' : State → Prop} {g : JFrame} (h : ∀ t, Q t → Q' t) (k : W p l e R s m args below meth c H locs cn sn Q g) : W p l e R s m args below meth c H locs cn sn Q' g := fun T hT X => by
  obtain ⟨t, a, b⟩ := k T hT X
  exact ⟨t, a, h t b⟩
theorem MQ_mono {below : List Frame} {Qc Qc' : Array Value → State → Outcome → State → Prop} {a : Array Value} {s : State} {mc ms : Nat} {free : Addr → Prop} (h : ∀ o t, Qc a s o t → Qc' a s o t) (t : State) (k : MQ below Qc a s mc ms free t) : MQ below Qc' a s mc ms free t := by
  obtain ⟨o, h1, h2, h3, h4⟩ := k
  exact ⟨o, h1, h2, h o t h3, h4⟩
theorem padK_of : ∀ (as : List AV) (n : Nat) (k : List AV → Prop), as.all noL = true → as.length ≤ n → k (as ++ List.replicate (n - as.length) vU) → padK n as k
  | [], 0, k, _, _, h => h
  | [], n + 1, k, _, _, h => by
    have : padK n [] (fun l => k (vU :: l)) := padK_of [] n _ rfl (Nat.zero_le _) h
    cases n <;> exact this
  | a :: as, 0, k, _, hl, _ => by simp at hl
  | a :: as, n + 1, k, ha, hl, h => by
    have ha : (noL a && as.all noL) = true := ha
    simp only [Bool.and_eq_true] at ha
    have e : n + 1 - (a :: as).length = n - as.length := by simp
    rw [e] at h
    have ih : padK n as (fun l => k (a :: l)) := padK_of as n _ ha.2 (by simpa using hl) h
    rcases a with x | x | z
    · cases n <;> exact ih
    · cases ha.1
    · cases n <;> exact ih
theorem wfS_noL {n : Nat} {as : List AV} (h : as.all (wfS n) = true) : as.all noL = true := List.all_eq_true.mpr fun a ha => by
  have q := List.all_eq_true.mp h a ha
  rcases a with x | x | z | u
  · rfl
  · cases q
  · rfl
  · rfl
section CMET
variable {l : Launch} {G : va_G} {tyc : Nat → ClassId}
def CW (l : Launch) (G : va_G) (tyc : Nat → ClassId) (d y pc : Nat) (ls st : List AV) (cs cs' : List CE) : Prop :=
  ∀ {p : Program} {e : Env} {R : Room} {s : State} {m : MethodId} {args : Array Value} {below : List Frame} {meth : Method} {c : Code} {A : Nat → Prop} {b1 b2 cn sn : Nat} {ad : Nat → Nat} {H : Heap} {locs : List Loc} {lsC : Array Slot}, CcP G tyc y p s m args meth c A → RcP G tyc ad y A s H locs lsC ls cs → cn + b1 = cs.length → sn + b2 = slC cs → cs'.length ≤ R.cells + b1 → slC cs' ≤ R.slots + b2 → d ≤ R.frames → 40 * d ≤ R.locals → ∀ k1 k2, k1 + b1 = cs'.length → k2 + b2 = slC cs' → W p l e R s m args below meth c H locs cn sn (MQ below (QcC G tyc ad cs.length cs' A) args s k1 k2 A) (F0 m pc lsC (st.map (cvA (adw ad))))
def PcC (G : va_G) (tyc : Nat → ClassId) (ad : Nat → Nat) (as : List AV) (cs : List CE) (sz : Nat) : Array Value → State → Prop := va_Pc (as.map (cvA (adw ad))) (fun U => U.heap.size = sz ∧ KC G tyc U ∧ va_P G clx (cwd tyc ad cs) U.heap ∧ va_D (fun _ => True) (cwd tyc ad cs))
theorem PcC_blind {ad : Nat → Nat} {as : List AV} {cs : List CE} {sz : Nat} : FrameBlind (PcC G tyc ad as cs sz) := fun a U g mk q => by
  obtain ⟨q0, q1, qK, qP, qD⟩ := q
  exact ⟨q0, q1, KC_calling qK, qP, qD⟩
theorem cOK_sp {y b : Nat} (h : cOK y b = true) : Cond.instanceMethod (ynt y) ∈ wsA ∧ Cond.initialized (ynt y).cls ∈ wsA ∧ Cond.code (ynt y) (byt y) (mxt y) (rtt y) ∈ wsA ∧ (ynt y).name = "<init>" ∧ (ynt y).cls ≠ "java/lang/invoke/MethodHandle" ∧ (ynt y).cls ≠ "java/lang/invoke/VarHandle" ∧ (parseMethodDescriptor (ynt y).desc).map (fun d => d.parameters.length) = some (b - 1) ∧ mxt y ≤ 21 ∧ rtt y = none ∧ owt y = (ynt y).cls ∧ plainName (ynt y).cls = true ∧ b ≤ mxt y := by
  unfold cOK at h
  simp only [Bool.and_eq_true, decide_eq_true_eq] at h
  exact ⟨h.1, h.2.1, h.2.2.1, h.2.2.2⟩
/-- a making method's contract -/
theorem c_met {d y k1 k2 sz : Nat} {as : List AV} {cs cs' : List CE} {ad : Nat → Nat} (hy : cOK y as.length = true) (has : as.all (wfS cs.length) = true) (h : CW l G tyc d y 0 (as ++ List.replicate (mxt y - as.length) vU) [] cs cs') (h1 : k1 + cs.length = cs'.length) (h2 : k2 + slC cs = slC cs') : Met l (ynt y) (wsY y) (rmC d k1 k2) (PcC G tyc ad as cs sz) (QcC G tyc ad cs.length cs' (va_A (cwd tyc ad cs) sz)) k1 k2 (va_A (cwd tyc ad cs) sz) := by
  obtain ⟨y1, y2, y3, y4, y5, y6, y7, y8, y9, y10, y11, y12⟩ := cOK_sp hy
  obtain ⟨ls', e, g1, g2, g3, g4⟩ := padK_sp (adw ad) (mxt y) as (fun l => l = as ++ List.replicate (mxt y - as.length) vU) (padK_of as (mxt y) _ (wfS_noL has) y12 rfl)
  subst e
  refine Met.ofW (cc := byt y) (maxL := mxt y) (ret := rtt y) y11 rfl ?_
  intro p e s m args below meth c s₁ B hml hv
  obtain ⟨rfl, hsz, hK, hP, hD0⟩ := hv
  subst hsz
  have hts := atoms_spec (ws := wsY y) B.pre
  have hl := lv_entry (as.map (cvA (adw ad))) (n := mxt y) g2
  rw [lg_entry_eq]
  exact h ⟨B.exec, B.bytes, hml, B.returns.trans y9, B.notSynchronized, by rw [y10]; exact findClass_of_methodNamed B.named, (name_of_methodNamed B.named B.method).1.trans y4, fun w hw => hts w (List.mem_cons_of_mem _ hw), hK, fun q h => Or.inr h⟩
    ⟨LVx.of hl g1 (fun i a hi ha => by have := g4 i a hi ha 0; rwa [Nat.zero_add] at this), hP, hD0.self, va_S.rf⟩ (Nat.zero_add _) (Nat.zero_add _) (by show _ ≤ k1 + _; omega) (by show _ ≤ k2 + _; omega) (Nat.le_refl _) (Nat.le_refl _) k1 k2 h1 h2
end CMET
section CRUN
variable {l : Launch} {G : va_G} {tyc : Nat → ClassId}
theorem chkK_c {y pc : Nat} {ins : Instr} {nxt a b : Nat} {v : Int} {w : Nat} (h : chkK y pc (ins, nxt, a, b, v, w) = true) (h1 : ¬ ins = .return_) (h2 : ∀ i, ¬ ins = .invokespecial i) : chkC y pc (ins, nxt, a, b, v, w) = true := by
  unfold chkK at h
  split at h
  · rename_i z
    cases z
    exact absurd rfl h1
  · rename_i i _ _ _ _ _ z
    cases z
    exact absurd rfl (h2 i)
  · exact h
theorem c_words : Cond.instanceMethod Lib.objectInit ∈ wsA ∧ Cond.code Lib.objectInit ⟨#[0xb1]⟩ 1 none ∈ wsA := by decide +kernel
theorem crun_ok {tb : Nat → Nat → Option CEnt} (htb : ∀ y pc e, tb y pc = some e → chkK y pc e = true) : ∀ (n d y pc : Nat) (ls st : List AV) (cs cs' : List CE), crun tb n d y pc ls st cs = some cs' → (cs.length ≤ cs'.length ∧ slC cs ≤ slC cs') ∧ CW l G tyc d y pc ls st cs cs'
  | 0, d, y, pc, ls, st, cs, cs', h => by cases h
  | n + 1, d, y, pc, ls, st, cs, cs', h => by
    unfold crun at h
    split at h
    · cases h
    rename_i en he
    have hk := htb y pc en he
    split at h
    · -- return
      rename_i nxt a b v w
      split at h
      · cases h
        refine ⟨⟨Nat.le_refl _, Nat.le_refl _⟩, ?_⟩
        intro p e R s m args below meth c A b1 b2 cn sn ad H locs lsC C hR h1 h2 hr1 hr2 hd hlo k1 k2 g1 g2
        unfold chkK at hk
        simp only [Bool.and_eq_true, decide_eq_true_eq] at hk
        have hn := Nat.eq_of_beq_eq_true hk.2.1
        have hdd := hk.1
        rw [hn, Nat.add_sub_cancel_left] at hdd
        obtain ⟨c1, c2, c3, c4, c5, c6, c7, c8, c9, c10⟩ := C
        obtain ⟨hl, hP, hD, hS⟩ := hR
        obtain rfl : cn = k1 := by omega
        obtain rfl : sn = k2 := by omega
        exact W.vret c1 c2 c4 (fun t ht hW => ⟨⟨rfl, ad, fun _ _ => rfl, by rw [ht]; exact hP, hD⟩, hS.F ht⟩) hS.2.2 hdd c5
      · cases h
    · -- a call
      rename_i i nxt a b v w
      unfold chkK at hk
      simp only [Bool.and_eq_true, decide_eq_true_eq] at hk
      obtain ⟨hdd, hn, hk⟩ := hk
      have hn := Nat.eq_of_beq_eq_true hn
      subst hn
      rw [Nat.add_sub_cancel_left] at hdd
      split at h
      · rename_i hv
        rw [if_pos hv] at hk
        split at h
        · rename_i q i2 r
          split at h
          · rename_i hc
            obtain ⟨ih1, ih2⟩ := crun_ok htb n d y (pc + 3) ls r cs cs' h
            refine ⟨ih1, ?_⟩
            intro p e R s m args below meth c A b1 b2 cn sn ad H locs lsC C hR h1 h2 hr1 hr2 hd hlo k1 k2 g1 g2
            have k := ih2 (e := e) (below := below) C hR h1 h2 hr1 hr2 hd hlo k1 k2 g1 g2
            obtain ⟨c1, c2, c3, c4, c5, c6, c7, c8, c9, c10⟩ := C
            refine W.objInit c1 c2 c6 (c8 _ (wat_in hk)) (c8 _ c_words.1) (c8 _ c_words.2) rfl (hR.1.1.trans c3.symm) rfl hdd (by omega) ?_ k
            have q8 : ((r.map (cvA (adw ad))).map fun v => v.category).sum ≤ 8 := by rw [csum_eq]; exact hc.2
            show 2 * (F0 m pc lsC _).monitorRoom + ((r.map (cvA (adw ad))).map fun v => v.category).sum + 12 ≤ R.locals
            have mr : ∀ z, (F0 m pc lsC z).monitorRoom = 0 := fun _ => rfl
            rw [mr]
            omega
          · cases h
        · cases h
      · rename_i hv
        rw [if_neg hv] at hk
        simp only [Bool.and_eq_true, Bool.or_eq_true, decide_eq_true_eq] at hk
        obtain ⟨hl0, hcO⟩ := hk
        split at h
        · cases h
        rename_i d'
        split at h
        · rename_i q i2 as hst
          split at h
          · rename_i hc
            obtain ⟨hb, hwf, hcs, hal⟩ := hc
            split at h
            · cases h
            rename_i cs2 h2nd
            obtain ⟨iA1, iA2⟩ := crun_ok htb n d' a 0 _ [] cs cs2 h2nd
            obtain ⟨iB1, iB2⟩ := crun_ok htb n (d' + 1) y (pc + 3) ls (st.drop b) cs2 cs' h
            refine ⟨⟨Nat.le_trans iA1.1 iB1.1, Nat.le_trans iA1.2 iB1.2⟩, ?_⟩
            intro p e R s m args below meth c A b1 b2 cn sn ad H locs lsC C hR h1 h2 hr1 hr2 hd hlo k1 k2 g1 g2
            have hstk : st = as.reverse ++ vR q i2 :: st.drop b := by
              have z := congrArg List.reverse hst
              rw [List.reverse_reverse, List.reverse_cons] at z
              have z2 := List.take_append_drop b st
              rw [z] at z2
              rw [List.append_assoc] at z2
              exact z2.symm
            subst hb
            obtain ⟨m1, m2, m3, m4, m5, m6, m7, m8, m9, m10, m11, m12⟩ := cOK_sp hcO
            have hcO2 : cOK a (vR q i2 :: as).length = true := hcO
            have hM := c_met (l := l) (G := G) (tyc := tyc) (d := d') (y := a) (k1 := cs2.length - cs.length) (k2 := slC cs2 - slC cs) (sz := H.size) (as := vR q i2 :: as) (cs := cs) (cs' := cs2) (ad := ad) hcO2 hwf iA2 (by omega) (by omega)
            have C0 := C
            obtain ⟨c1, c2, c3, c4, c5, c6, c7, c8, c9, c10⟩ := C
            have hR0 := hR
            obtain ⟨hl, hP, hD, hS⟩ := hR
            obtain ⟨w1, w2, w3⟩ := alo_sp hal
            have hro : (rmC d' (cs2.length - cs.length) (slC cs2 - slC cs)).frames + 1 ≤ R.frames ∧ 8 + (mxt a + 11) + (rmC d' (cs2.length - cs.length) (slC cs2 - slC cs)).locals ≤ R.locals := by
              show d' + 1 ≤ R.frames ∧ 8 + (mxt a + 11) + 40 * d' ≤ R.locals
              omega
            have hpre : PreS s H (PcC G tyc ad (vR q i2 :: as) cs H.size) (.ref (ad q) :: as.map (cvA (adw ad))) := ⟨PcC_blind, fun U hU hW => ⟨rfl, by rw [hU], KC_warm hW c9, by rw [hU]; exact hP, hD.weaken (fun _ _ _ _ => trivial)⟩⟩
            have hdesc : (ynt a).cls ≠ "java/lang/invoke/MethodHandle" ∧ (ynt a).cls ≠ "java/lang/invoke/VarHandle" ∧ (parseMethodDescriptor (ynt a).desc).map (fun d => d.parameters.length) = some as.length := ⟨m5, m6, by rw [m7]; rfl⟩
            have hstack : (F0 m pc lsC (st.map (cvA (adw ad)))).stack = (as.map (cvA (adw ad))).reverse ++ .ref (ad q) :: (st.drop (as.length + 1)).map (cvA (adw ad)) := by
              show st.map (cvA (adw ad)) = _
              conv => lhs; rw [hstk]
              simp [cvA, adw]
            have hroom : 2 * (F0 m pc lsC (st.map (cvA (adw ad)))).monitorRoom + (((st.drop (as.length + 1)).map (cvA (adw ad))).map fun v => v.category).sum ≤ 8 := lv_room (by rw [csum_eq]; exact hcs)
            have hf : cn + (cs2.length - cs.length) ≤ R.cells ∧ sn + (slC cs2 - slC cs) ≤ R.slots := by omega
            have hrun : va_Run p l e R s m args below meth c H locs cn sn (cs2.length - cs.length) (slC cs2 - slC cs) (F0 m pc lsC (st.map (cvA (adw ad)))) ((st.drop (as.length + 1)).map (cvA (adw ad))) (QcC G tyc ad cs.length cs2 (va_A (cwd tyc ad cs) H.size) (Value.ref (ad q) :: as.map (cvA (adw ad))).toArray) (va_A (cwd tyc ad cs) H.size) := by
              have hretn : wsY a = Cond.code (ynt a) (byt a) (mxt a) none :: wsA := by
                unfold wsY
                rw [m9]
              have hgood := good_Y m3
              rcases hl0 with z | z
              · exact va_runI ⟨c1, c2, c3, c6, c8⟩ hM (cwI as.length c8 hgood hretn rfl rfl (c8 _ m2) (c8 _ (wat_in z)) (c8 _ m1) m4 hdesc hro) hpre rfl (by simp) hl.1 hstack hroom hdd hf
              · exact va_runIN (host := "ValleyGuides") ⟨c1, c2, c3, c6, c8⟩ hM ⟨va_cnB as.length c8 hgood hretn rfl rfl (c9.2.1 _ (List.mem_of_getElem? z) rfl) (c8 _ m2) hdesc hro, m4, c8 _ m1⟩ hpre rfl (by simp) hl.1 hstack hroom hdd hf
            intro T hT X
            obtain ⟨v', st₀, t, T', L, h0, X', hL, e1, e2, ⟨⟨ho, ad', hag, hP', hD'⟩, hF⟩, stp⟩ := hrun T hT X
            cases ho
            unfold va_F at hF
            rw [h0] at hF
            have hAA : ∀ x, va_A (cwd tyc ad cs) H.size x → A x := by
              intro x hx
              rcases hx with ⟨k, e', h'⟩ | h'
              · exact hD.2 k _ h'
              · exact c10 x (Nat.le_trans hS.1 h')
            have hS' : va_S A s.heap T'.heap (locs ++ L) := ⟨Nat.le_trans hS.1 (by rw [e1]; exact hF.1), fun x q1 q2 => by rw [e1, hF.2 x (Nat.lt_of_lt_of_le q1 hS.1) (fun z => q2 (hAA x z))]; exact hS.2.1 x q1 q2, fun x hx => by
              rcases List.mem_append.mp hx with z | z
              · exact hS.2.2 x z
              · exact hAA _ (hL x z)⟩
            have k := iB2 (e := e) (below := below) (R := R) (b1 := b1) (b2 := b2) (cn := cn + (cs2.length - cs.length)) (sn := sn + (slC cs2 - slC cs)) (ad := ad') (H := T'.heap) (locs := locs ++ L) (lsC := lsC) C0 ⟨LV_cg hag w1 hl, by rw [e1]; exact hP', hD'.weaken (fun k q _ h => hAA q.1 h), hS'⟩ (by omega) (by omega) hr1 hr2 hd hlo k1 k2 g1 g2
            rw [st_cg hag w2] at k
            have k := W_mono (MQ_mono (Qc' := QcC G tyc ad cs.length cs' A) (fun o t hq => ⟨⟨hq.1.1, by
              obtain ⟨ad2, z1, z2⟩ := hq.1.2
              exact ⟨ad2, fun x hx => (z1 x (Nat.lt_of_lt_of_le hx iA1.1)).trans (hag x hx), z2⟩⟩, hq.2⟩)) k
            obtain ⟨t2, a1, b1'⟩ := k T' rfl X'
            exact ⟨t2, stp t2 a1, b1'⟩
          · cases h
        · cases h
    · -- the rest
      rename_i hne1 hne2
      split at h
      · cases h
      rename_i r hr
      obtain ⟨pc2, ls2, st2, cs2⟩ := r
      split at h
      · rename_i hc
        obtain ⟨ih1, ih2⟩ := crun_ok htb n d y pc2 ls2 st2 cs2 cs' h
        have hc : cs.length ≤ cs2.length ∧ slC cs ≤ slC cs2 := hc
        refine ⟨⟨Nat.le_trans hc.1 ih1.1, Nat.le_trans hc.2 ih1.2⟩, ?_⟩
        intro p e R s m args below meth c A b1 b2 cn sn ad H locs lsC C hR h1 h2 hr1 hr2 hd hlo k1 k2 g1 g2
        obtain ⟨ins, nxt, a, b, v, w⟩ := en
        have hk2 := chkK_c hk (fun z => hne1 _ _ _ _ _ (by rw [z])) (fun i z => hne2 i _ _ _ _ _ (by rw [z]))
        refine csem_ok C hk2 hr hR h1 h2 (by omega) (by omega) ?_
        intro ad' H' locs' lsC' cn' sn' hag hR' h1' h2'
        have k := ih2 (e := e) (below := below) (R := R) C hR' h1' h2' hr1 hr2 hd hlo k1 k2 g1 g2
        exact W_mono (MQ_mono (fun o t hq => ⟨⟨hq.1.1, by
          obtain ⟨ad2, z1, z2⟩ := hq.1.2
          exact ⟨ad2, fun x hx => (z1 x (Nat.lt_of_lt_of_le hx hc.1)).trans (hag x hx), z2⟩⟩, hq.2⟩)) k
      · cases h
end CRUN
