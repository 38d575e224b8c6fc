/-! ===== calls and contracts ===== -/
theorem wd_D {ω : WP} {A : Nat → Prop} {M : Mem} (M' : Mem) (h : va_D A (wd ω M)) : va_D A (wd ω M') := by
  have key : ∀ (k : Nat) (q : Nat × va_E), (wd ω M')[k]? = some q → ∃ q', (wd ω M)[k]? = some q' ∧ q'.1 = q.1 := by
    intro k q hk
    unfold wd at hk ⊢
    rw [List.getElem?_map] at hk ⊢
    cases hq : WL[k]? with
    | none => rw [hq] at hk; cases hk
    | some z => rw [hq] at hk; cases hk; exact ⟨_, rfl, rfl⟩
  refine ⟨fun i j x z hi hj hxz => ?_, fun k q hk => ?_⟩
  · obtain ⟨x', h1, h2⟩ := key i x hi
    obtain ⟨z', h3, h4⟩ := key j z hj
    exact h.1 i j x' z' h1 h3 (h2.trans (hxz.trans h4.symm))
  · obtain ⟨q', h1, h2⟩ := key k q hk
    rw [← h2]
    exact h.2 k q' h1
theorem KX_calling {ω : WP} {U : State} {g : JFrame} {mk : MethodId} {a : Array Value} (h : KX ω U) : KX ω (U.calling g mk a) :=
  ⟨va_K.moved (u := U) (U := U.calling g mk a) (Vm.Alike.refl U.vm) h.1, (fun w hw hn => by
    have h1 := h.2.1 w hw hn
    cases w <;> first | (cases hn; done) | exact va_Nw.same rfl rfl h1), vk_R.same (u := U) (U := U.calling g mk a) rfl h.2.2.1, vk_R.same (u := U) (U := U.calling g mk a) rfl h.2.2.2⟩
theorem KX_warm {ω : WP} {s U : State} (hW : s.WarmedH U.vm) (h : KX ω s) : KX ω U :=
  ⟨va_K.moved hW.alike h.1, (fun w hw hn => by
    have h1 := h.2.1 w hw hn
    cases w <;> first | (cases hn; done) | exact va_Nw.warmM hW h1), vk_R.warm hW h.2.2.1, vk_R.warm hW h.2.2.2⟩
theorem PcX_blind {ω : WP} {as : List AV} {M : Mem} {sz : Nat} : FrameBlind (PcX ω as M sz) := fun a U g mk q => by
  obtain ⟨q0, q1, qK, qP, qD, qS⟩ := q
  exact ⟨q0, q1, KX_calling qK, qP, qD, SX.moved (u := U) (U := U.calling g mk a) (Vm.Alike.refl U.vm) qS⟩
section CALL
variable {p : Program} {l : Launch} {e : Env} {R : Room} {s : State} {m : MethodId} {args : Array Value} {below : List Frame} {meth : Method} {c : Code} {H : Heap} {locs : List Loc} {Qf : State → Prop} {pc : Nat} {ls : Array Slot} {rest st0 : List Value} {a : Array Value} {A A1 : Nat → Prop} {ω : WP}
theorem vx_callr {Q' : Post} (hr : va_Run p l e R s m args below meth c H locs 0 0 0 0 (F0 m pc ls st0) rest (QcX ω Q' A1 a) A1) (hS : va_S A s.heap H locs) (hA : ∀ q, A1 q → A q)
    (kk : ∀ (r : Option AV) (M' : Mem) (H1 : Heap) (locs1 : List Loc), Q' r M' → okM M' → (∀ x, r = some x → okA x) → va_P ω.1 clx (wd ω M') H1 → va_S A s.heap H1 locs1 → W p l e R s m args below meth c H1 locs1 0 0 Qf (F0 m (pc + 3) ls ((r.map (cvA ω)).toList ++ rest))) : W p l e R s m args below meth c H locs 0 0 Qf (F0 m pc ls st0) := by
  intro T hT X
  obtain ⟨v, st₀, t, T', L, h0, X', hL, e1, e2, ⟨⟨r, M', hv, hq, hM', hr', hP'⟩, hz, hk⟩, st⟩ := hr T hT X
  cases hv
  rw [h0] at hz hk
  obtain ⟨t2, a1, b1⟩ := kk r M' T'.heap (locs ++ L) hq hM' hr' (by rw [e1]; exact hP')
    ⟨Nat.le_trans hS.1 (by rw [e1]; exact hz), fun q h1 h2 => by rw [e1, hk q (Nat.lt_of_lt_of_le h1 hS.1) (fun z => h2 (hA q z))]; exact hS.2.1 q h1 h2, fun q hq => by
      rcases List.mem_append.mp hq with h | h
      · exact hS.2.2 q h
      · exact hA _ (hL q h)⟩ T' rfl X'
  exact ⟨t2, st t2 a1, b1⟩
end CALL
/-- what a callee needs of the tables -/
def MokV (y : Nat) (n : Nat) : Prop := Jvm.Cond.instanceMethod (ynt y) ∈ wsA ∧ Jvm.Cond.selects (RXt (clt y)) (ynt y) (ynt y) ∈ wsA ∧ Jvm.Cond.initialized (RXt (clt y)) ∈ wsA ∧ Jvm.Cond.code (ynt y) (byt y) (mxt y) (rtt y) ∈ wsA ∧ (ynt y).cls = RXt (clt y) ∧ (ynt y).cls ≠ "java/lang/invoke/MethodHandle" ∧ (ynt y).cls ≠ "java/lang/invoke/VarHandle" ∧ (parseMethodDescriptor (ynt y).desc).map (fun d => d.parameters.length) = some n ∧ mxt y ≤ 21 ∧ clt y < 14
def MokS (y : Nat) (n : Nat) : Prop := Jvm.Cond.static (ynt y) ∈ wsA ∧ Jvm.Cond.initialized (ynt y).cls ∈ wsA ∧ Jvm.Cond.code (ynt y) (byt y) (mxt y) (rtt y) ∈ wsA ∧ (ynt y).cls ≠ "java/lang/invoke/MethodHandle" ∧ (ynt y).cls ≠ "java/lang/invoke/VarHandle" ∧ (parseMethodDescriptor (ynt y).desc).map (fun d => d.parameters.length) = some n ∧ mxt y ≤ 21
theorem good_A {w : Jvm.Cond} (h : w ∈ wsA) : w ∈ wsA ∧ ((w.onTables && w.keeps) = true ∨ ∃ ty, w = .arrayClass ty) := ⟨h, good_of_word (List.mem_filter.mp h).2⟩
theorem good_Y {y : Nat} (h : Jvm.Cond.code (ynt y) (byt y) (mxt y) (rtt y) ∈ wsA) : GoodIn wsA (wsY y) := fun w hw => (List.mem_cons.mp hw).elim (fun e => by rw [e]; exact good_A h) (fun h => good_A h)
section RCALL
variable {l : Launch} {ω : WP} {d d' y y' pc : Nat} {ls r as : List AV} {M : Mem} {Q Q' : Post}
theorem room_ok (h1 : d' + 1 ≤ d) (h2 : mxt y' ≤ 21) : (rmd d').frames + 1 ≤ (rmd d).frames ∧ 8 + (mxt y' + 11) + (rmd d').locals ≤ (rmd d).locals := by
  show d' + 1 ≤ d ∧ 8 + (mxt y' + 11) + 40 * d' ≤ 40 * d
  omega
theorem okL_rev {l1 l2 : List AV} (h : okL (l1 ++ l2)) : okL l1.reverse ∧ okL l2 := ⟨fun a ha => h a (List.mem_append_left _ (List.mem_reverse.mp ha)), fun a ha => h a (List.mem_append_right _ ha)⟩
theorem after_call {pg : Program} {e : Env} {s : State} {m : MethodId} {args : Array Value} {below : List Frame} {meth : Method} {c : Code} {A : Nat → Prop} {H : Heap} {locs : List Loc} {lsC : Array Slot} {st0 : List Value} {a : Array Value}
    (C : Cx ω y pg s m args meth c A) (hls : okL ls) (hrr : okL r) (hl : LVx ω lsC (mxt y) ls) (hD : va_D A (wd ω M)) (hS : va_S A s.heap H locs)
    (hr : va_Run pg l e (rmd d) s m args below meth c H locs 0 0 0 0 (F0 m pc lsC st0) (r.map (cvA ω)) (QcX ω Q' (va_A (wd ω M) H.size) a) (va_A (wd ω M) H.size))
    (hk : ∀ z M', Q' z M' → Vx l ω d y (pc + 3) ls (z.toList ++ r) M' Q) :
    W pg l e (rmd d) s m args below meth c H locs 0 0 (MQ below (QcX ω (QK y Q) A) args s 0 0 A) (F0 m pc lsC st0) := by
  refine vx_callr hr hS ?_ (fun z M' H1 locs1 hq hM' hz hP1 hS1 => ?_)
  · intro q hq
    rcases hq with ⟨k, e, h⟩ | h
    · exact hD.2 k _ h
    · exact C.2.2.2.2.2.2.2.2.1 q (Nat.le_trans hS.1 h)
  · have k := hk z M' hq pg e s m args below meth c A C H1 locs1 lsC ⟨hM', hls, by
      intro x hx
      rcases List.mem_append.mp hx with h | h
      · exact hz x (by simpa using h)
      · exact hrr x h, hl, hP1, wd_D M' hD, hS1⟩
    have e1 : (z.toList ++ r).map (cvA ω) = (z.map (cvA ω)).toList ++ r.map (cvA ω) := by cases z <;> simp
    rw [e1] at k
    exact k
theorem SX_call {pg : Program} {s U : State} {m : MethodId} {args : Array Value} {meth : Method} {c : Code} {A : Nat → Prop} {H : Heap} {locs : List Loc} (C : Cx ω y pg s m args meth c A) (hD : va_D A (wd ω M)) (hS : va_S A s.heap H locs) (hU : U.heap = H) (hW : s.WarmedH U.vm) : SX ω (va_A (wd ω M) H.size) U U.heap := by
  rw [hU]
  refine SX.narrow (A := A) (SX.moved hW.alike (SX.kept C.2.2.2.2.2.2.2.2.2 (fun a h1 h2 => hS.2.1 a h1 h2))) (fun q hq => ?_)
  rcases hq with ⟨k, e, h⟩ | h
  · exact hD.2 k _ h
  · exact C.2.2.2.2.2.2.2.2.1 q (Nat.le_trans hS.1 h)
theorem recv_ok {s : State} {H : Heap} {p : Nat} {i : Int} (hK : KX ω s) (hP : va_P ω.1 clx (wd ω M) H) (hin : (p, i) ∈ WL) (h0 : (SHt p).1 = 0) (hc : (SHt p).2.1 < 13) : ∃ cellB : Cell, H[ω.2.1 p i]? = some cellB ∧ cellB.vm.isStatics = false ∧ s.vm.findClass (RXt (SHt p).2.1) = some cellB.cls := by
  obtain ⟨q0, hq, hq2⟩ := wd_at ω M hin
  rw [wde_obj h0] at hq2
  obtain ⟨rr, h1, cell, c1, c2, c3, c4⟩ := hP q0 _ hq2
  have hcl := clx_at _ hc
  obtain ⟨hS, hfc, -⟩ := hK.1.1 _ _ hcl
  exact ⟨cell, c1, by rw [c3]; rfl, by rw [c2]; exact hfc⟩
theorem s_callV {idx p n : Nat} {i : Int} {as r : List AV} (hd : decode (byt y) pc = .ok (.invokevirtual idx, 3)) (hw : Jvm.Cond.methodLink (owt y) idx (ynt y') ∈ wsA) (hm : MokV y' n) (hn : as.length = n) (hrc : ((SHt p).1 = 0 ∧ (SHt p).2.1 = clt y' ∧ clt y' < 13) ∨ ((SHt p).1 = 8 ∧ clt y' = 13)) (hdd : d' + 1 ≤ d) (hcs : csum r ≤ 8)
    (hv : Vd l ω d' y' (vR p i :: as) M Q') (hk : ∀ z M', Q' z M' → Vx l ω d y (pc + 3) ls (z.toList ++ r) M' Q) : Vx l ω d y pc ls (as.reverse ++ vR p i :: r) M Q := by
  intro pg e s m args below meth c A C H locs lsC ⟨hM, hls, hst, hl, hP, hD, hS⟩
  obtain ⟨ha, hr0⟩ := okL_rev hst
  rw [List.reverse_reverse] at ha
  obtain ⟨hpi, hrr⟩ := okL_cons.mp hr0
  obtain ⟨m1, m2, m3, m4, m5, m6, m7, m8, m9, m10⟩ := hm
  have hT := C.2.2.2.2.2.2.1
  have hK := C.2.2.2.2.2.2.2.1
  have hG : GoodIn wsA (wsV (owt y) idx (RXt (clt y')) (ynt y') (wsY y')) := fun w hw' => by
    rcases List.mem_append.mp hw' with h | h
    · simp only [List.mem_cons, List.not_mem_nil, or_false] at h
      rcases h with rfl | rfl | rfl | rfl
      · exact good_A hw
      · exact good_A m1
      · exact good_A m2
      · exact good_A m3
    · exact good_Y m4 w h
  have hM0 := hv hM (okL_cons.mpr ⟨hpi, ha⟩) H.size
  refine after_call C hls hrr hl hD hS (va_runV (As := as.map (cvA ω)) (b := ω.2.1 p i) ⟨C.1, C.2.1, C.2.2.1, C.2.2.2.2.2.1, hT⟩ hM0 (cwV n hT hG rfl rfl rfl ⟨m5, m6, m7, m8⟩ (room_ok hdd m9)) ⟨PcX_blind, ?_, fun U hU hW => ⟨rfl, by rw [hU], KX_warm hW hK, by rw [hU]; exact hP, hD.weaken (fun _ _ _ _ => trivial), SX_call C hD hS hU hW⟩⟩ rfl (by simpa using hn) hl.1 ?_ ?_ hd ⟨Nat.le_refl _, Nat.le_refl _⟩) (fun z M' hq => hk z M' hq.1)
  · rcases hrc with ⟨h0, h1, h2⟩ | ⟨h0, h1⟩
    · have h := recv_ok hK hP (hpi.1 (by omega)) h0 (by rw [h1]; exact h2)
      rw [h1] at h
      exact h
    · obtain ⟨hp, rfl⟩ := hpi.2.2.1 h0
      rw [h1]
      rcases hp with rfl | rfl
      · exact vk_recv (i := 0) C.2.2.2.2.2.2.2.2.2.2.1 (by omega) hS
      · exact vk_recv (i := 1) C.2.2.2.2.2.2.2.2.2.2.1 (by omega) hS
  · show (as.reverse ++ vR p i :: r).map (cvA ω) = _
    simp [cvA]
  · refine lv_room ?_
    rw [csum_eq]
    exact hcs
theorem s_callS {idx n : Nat} {as r : List AV} (hd : decode (byt y) pc = .ok (.invokestatic idx, 3)) (hw : Jvm.Cond.methodLink (owt y) idx (ynt y') ∈ wsA) (hm : MokS y' n) (hn : as.length = n) (hdd : d' + 1 ≤ d) (hcs : csum r ≤ 8)
    (hv : Vd l ω d' y' as M Q') (hk : ∀ z M', Q' z M' → Vx l ω d y (pc + 3) ls (z.toList ++ r) M' Q) : Vx l ω d y pc ls (as.reverse ++ r) M Q := by
  intro pg e s m args below meth c A C H locs lsC ⟨hM, hls, hst, hl, hP, hD, hS⟩
  obtain ⟨ha, hrr⟩ := okL_rev hst
  rw [List.reverse_reverse] at ha
  obtain ⟨m1, m2, m3, m6, m7, m8, m9⟩ := hm
  have hT := C.2.2.2.2.2.2.1
  have hK := C.2.2.2.2.2.2.2.1
  have hM0 := hv hM ha H.size
  have cw : CallB (rmd d) s args (owt y) idx (ynt y') (byt y') (mxt y') (rtt y') (wsY y') (rmd d') 0 0 n ∧ (Cond.static (ynt y')).before args s = true :=
    ⟨callB_of n hT (good_Y m3) rfl rfl rfl (hT _ m2) (hT _ hw) ⟨m6, m7, m8⟩ (room_ok hdd m9), hT _ m1⟩
  refine after_call C hls hrr hl hD hS (va_runS (As := as.map (cvA ω)) ⟨C.1, C.2.1, C.2.2.1, C.2.2.2.2.2.1, hT⟩ hM0 cw ⟨PcX_blind, fun U hU hW => ⟨rfl, by rw [hU], KX_warm hW hK, by rw [hU]; exact hP, hD.weaken (fun _ _ _ _ => trivial), SX_call C hD hS hU hW⟩⟩ rfl (by simpa using hn) hl.1 ?_ ?_ hd ⟨Nat.le_refl _, Nat.le_refl _⟩) (fun z M' hq => hk z M' hq.1)
  · show (as.reverse ++ r).map (cvA ω) = _
    simp
  · refine lv_room ?_
    rw [csum_eq]
    exact hcs
theorem s_callN {idx n : Nat} {host : String} {as r : List AV} (hd : decode (byt y) pc = .ok (.invokestatic idx, 3)) (hw : Jvm.Cond.methodLinkNest (owt y) idx (ynt y') host ∈ lw_tbl) (hm : MokS y' n) (hn : as.length = n) (hdd : d' + 1 ≤ d) (hcs : csum r ≤ 8)
    (hv : Vd l ω d' y' as M Q') (hk : ∀ z M', Q' z M' → Vx l ω d y (pc + 3) ls (z.toList ++ r) M' Q) : Vx l ω d y pc ls (as.reverse ++ r) M Q := by
  intro pg e s m args below meth c A C H locs lsC ⟨hM, hls, hst, hl, hP, hD, hS⟩
  obtain ⟨ha, hrr⟩ := okL_rev hst
  rw [List.reverse_reverse] at ha
  obtain ⟨m1, m2, m3, m6, m7, m8, m9⟩ := hm
  have hT := C.2.2.2.2.2.2.1
  have hK := C.2.2.2.2.2.2.2.1
  have hM0 := hv hM ha H.size
  refine after_call C hls hrr hl hD hS (va_runSN (As := as.map (cvA ω)) (host := host) ⟨C.1, C.2.1, C.2.2.1, C.2.2.2.2.2.1, hT⟩ hM0 ⟨va_cnB n hT (good_Y m3) rfl rfl rfl (hK.2.1 _ hw rfl) (hT _ m2) ⟨m6, m7, m8⟩ (room_ok hdd m9), hT _ m1, trivial⟩ ⟨PcX_blind, fun U hU hW => ⟨rfl, by rw [hU], KX_warm hW hK, by rw [hU]; exact hP, hD.weaken (fun _ _ _ _ => trivial), SX_call C hD hS hU hW⟩⟩ rfl (by simpa using hn) hl.1 ?_ ?_ hd ⟨Nat.le_refl _, Nat.le_refl _⟩) (fun z M' hq => hk z M' hq.1)
  · show (as.reverse ++ r).map (cvA ω) = _
    simp
  · refine lv_room ?_
    rw [csum_eq]
    exact hcs
end RCALL
