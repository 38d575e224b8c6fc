/-! ===== rules of the JDK's leaves, of copies, of returns ===== -/
section LEAF
variable {l : Launch} {ω : WP} {d y pc pc' : Nat} {ls st st' r : List AV} {M : Mem} {Q : Post}
theorem csum_eq (ω : WP) : ∀ r : List AV, ((r.map (cvA ω)).map fun v => v.category).sum = csum r
  | [] => rfl
  | a :: r => by
    have ih := csum_eq ω r
    rcases a with x | x | ⟨p, j⟩ | u
    · simp only [List.map_cons, List.sum_cons, csum, ih]; rfl
    · simp only [List.map_cons, List.sum_cons, csum, ih]; rfl
    · simp only [List.map_cons, List.sum_cons, csum, ih]; rfl
    · simp only [List.map_cons, List.sum_cons, csum, ih]
      rw [cat_of (a := .inr (.inr (.inr u))) (fun z => z)]
theorem wsA_in (w : Nat) {c : Jvm.Cond} (h : lw_tbl[w]? = some c) (hg : goodWord c = true) : c ∈ wsA := List.mem_filter.mpr ⟨List.mem_of_getElem? h, hg⟩
theorem lw_max : Jvm.Cond.static Lib.Math.max.name ∈ wsA ∧ Jvm.Cond.initialized "java/lang/Math" ∈ wsA ∧ Jvm.Cond.code Lib.Math.max.name Lib.Math.max.code 2 (some .int) ∈ wsA := by decide +kernel
theorem lw_min : Jvm.Cond.static Lib.Math.min.name ∈ wsA ∧ Jvm.Cond.code Lib.Math.min.name Lib.Math.min.code 2 (some .int) ∈ wsA := by decide +kernel
theorem lw_maxl : Jvm.Cond.static Lib.MathLoose.max_long.x ∈ wsA ∧ Jvm.Cond.code Lib.MathLoose.max_long.x Lib.MathLoose.max_long.code 4 (some .long) ∈ wsA := by decide +kernel
theorem lw_minl : Jvm.Cond.static Lib.MathLoose.min_long.x ∈ wsA ∧ Jvm.Cond.code Lib.MathLoose.min_long.x Lib.MathLoose.min_long.code 4 (some .long) ∈ wsA := by decide +kernel
theorem lw_absl : Jvm.Cond.static Lib.MathLoose.abs_long.x ∈ wsA ∧ Jvm.Cond.code Lib.MathLoose.abs_long.x Lib.MathLoose.abs_long.code 2 (some .long) ∈ wsA := by decide +kernel
theorem lw_copy : Jvm.Cond.native arraycopyName ∈ wsA ∧ Jvm.Cond.static arraycopyName ∈ wsA ∧ Jvm.Cond.initialized "java/lang/System" ∈ wsA := by decide +kernel
theorem lfd_sp {k : Nat} {P : Prop} (h : lfd d k r P) : k ≤ d ∧ csum r ≤ 8 ∧ P := by
  unfold lfd at h
  cases hb : Nat.ble k d && Nat.ble (csum r) 8 with
  | false => rw [hb] at h; exact h.elim
  | true =>
    rw [hb] at h
    simp only [Bool.and_eq_true] at hb
    exact ⟨Nat.le_of_ble_eq_true hb.1, Nat.le_of_ble_eq_true hb.2, h⟩
theorem max_of {x z : Int} (hx : in32 x) (hz : in32 z) : (if Int32.ofInt x < Int32.ofInt z then Int32.ofInt z else Int32.ofInt x) = Int32.ofInt (max x z) := by
  by_cases h : x < z
  · rw [if_pos ((o32_lt hx hz).mpr h), Int.max_eq_right (by omega)]
  · rw [if_neg (fun e => h ((o32_lt hx hz).mp e)), Int.max_eq_left (by omega)]
theorem min_of {x z : Int} (hx : in32 x) (hz : in32 z) : (if Int32.ofInt z < Int32.ofInt x then Int32.ofInt z else Int32.ofInt x) = Int32.ofInt (min x z) := by
  by_cases h : z < x
  · rw [if_pos ((o32_lt hz hx).mpr h), Int.min_eq_right (by omega)]
  · rw [if_neg (fun e => h ((o32_lt hz hx).mp e)), Int.min_eq_left (by omega)]
theorem maxl_of {x z : Int} (hx : in64 x) (hz : in64 z) : (if Int64.ofInt z < Int64.ofInt x then Int64.ofInt x else Int64.ofInt z) = Int64.ofInt (max x z) := by
  by_cases h : z < x
  · rw [if_pos ((o64_lt hz hx).mpr h), Int.max_eq_left (by omega)]
  · rw [if_neg (fun e => h ((o64_lt hz hx).mp e)), Int.max_eq_right (by omega)]
theorem minl_of {x z : Int} (hx : in64 x) (hz : in64 z) : (if Int64.ofInt z < Int64.ofInt x then Int64.ofInt z else Int64.ofInt x) = Int64.ofInt (min x z) := by
  by_cases h : z < x
  · rw [if_pos ((o64_lt hz hx).mpr h), Int.min_eq_right (by omega)]
  · rw [if_neg (fun e => h ((o64_lt hz hx).mp e)), Int.min_eq_left (by omega)]
theorem in64_0 : in64 0 := by unfold in64; omega
theorem absl_of {x : Int} (hx : in64 x) : (if 0 < Int64.ofInt x then Int64.ofInt x else -Int64.ofInt x) = Int64.ofInt (if x < 0 then w64 (-x) else x) := by
  have e : (0 < Int64.ofInt x) ↔ 0 < x := by rw [show (0 : Int64) = Int64.ofInt 0 from rfl, o64_lt in64_0 hx]
  by_cases h : 0 < x
  · rw [if_pos (e.mpr h), if_neg (by omega)]
  · rw [if_neg (fun q => h (e.mp q))]
    by_cases h2 : x < 0
    · rw [if_pos h2, w64_of, Int64.ofInt_neg]
    · rw [if_neg h2, show x = 0 by omega]; rfl
theorem s_max {idx : Nat} {x z : Int} (hd : decode (byt y) pc = .ok (.invokestatic idx, 3)) (hw : Jvm.Cond.methodLink (owt y) idx Lib.Math.max.name ∈ wsA) (h : lfd d 1 r (Vx l ω d y (pc + 3) ls (vI (max x z) :: r) M Q)) : Vx l ω d y pc ls (vI z :: vI x :: r) M Q := by
  obtain ⟨h1, h2, h⟩ := lfd_sp h
  refine Vx.ch (fun hls hst => ?_) (fun hx hb hls hst hl C k => ?_) h
  · refine okL_cons.mpr ⟨?_, (okL_cons.mp (okL_cons.mp hst).2).2⟩
    have a1 : in32 z := (okL_cons.mp hst).1
    have a2 : in32 x := (okL_cons.mp (okL_cons.mp hst).2).1
    show in32 _
    unfold in32 at *; omega
  · have hT := C.2.2.2.2.2.2.1
    refine va_mmax hx hb (C.2.2.1.trans hl.1.symm) C.2.2.2.2.2.1 (hT _ hw) (hT _ lw_max.1) (hT _ lw_max.2.1) (hT _ lw_max.2.2) h1 ?_ (Nat.le_refl _) (Nat.le_refl _) hd ?_
    · rw [csum_eq]; show _ ≤ 40 * d; omega
    · rw [max_of (okL_cons.mp (okL_cons.mp hst).2).1 (okL_cons.mp hst).1]; exact k
theorem s_min {idx : Nat} {x z : Int} (hd : decode (byt y) pc = .ok (.invokestatic idx, 3)) (hw : Jvm.Cond.methodLink (owt y) idx Lib.Math.min.name ∈ wsA) (h : lfd d 1 r (Vx l ω d y (pc + 3) ls (vI (min x z) :: r) M Q)) : Vx l ω d y pc ls (vI z :: vI x :: r) M Q := by
  obtain ⟨h1, h2, h⟩ := lfd_sp h
  refine Vx.ch (fun hls hst => ?_) (fun hx hb hls hst hl C k => ?_) h
  · refine okL_cons.mpr ⟨?_, (okL_cons.mp (okL_cons.mp hst).2).2⟩
    have a1 : in32 z := (okL_cons.mp hst).1
    have a2 : in32 x := (okL_cons.mp (okL_cons.mp hst).2).1
    show in32 _
    unfold in32 at *; omega
  · have hT := C.2.2.2.2.2.2.1
    refine va_mmin hx hb (C.2.2.1.trans hl.1.symm) C.2.2.2.2.2.1 (hT _ hw) (hT _ lw_min.1) (hT _ lw_max.2.1) (hT _ lw_min.2) h1 ?_ (Nat.le_refl _) (Nat.le_refl _) hd ?_
    · rw [csum_eq]; show _ ≤ 40 * d; omega
    · rw [min_of (okL_cons.mp (okL_cons.mp hst).2).1 (okL_cons.mp hst).1]; exact k
theorem s_maxl {idx : Nat} {x z : Int} (hd : decode (byt y) pc = .ok (.invokestatic idx, 3)) (hw : Jvm.Cond.methodLink (owt y) idx Lib.MathLoose.max_long.x ∈ wsA) (h : lfd d 1 r (Vx l ω d y (pc + 3) ls (vL (max x z) :: r) M Q)) : Vx l ω d y pc ls (vL z :: vL x :: r) M Q := by
  obtain ⟨h1, h2, h⟩ := lfd_sp h
  refine Vx.ch (fun hls hst => ?_) (fun hx hb hls hst hl C k => ?_) h
  · refine okL_cons.mpr ⟨?_, (okL_cons.mp (okL_cons.mp hst).2).2⟩
    have a1 : in64 z := (okL_cons.mp hst).1
    have a2 : in64 x := (okL_cons.mp (okL_cons.mp hst).2).1
    show in64 _
    unfold in64 at *; omega
  · have hT := C.2.2.2.2.2.2.1
    refine va_mmax_long hx hb (C.2.2.1.trans hl.1.symm) C.2.2.2.2.2.1 (hT _ hw) (hT _ lw_maxl.1) (hT _ lw_max.2.1) (hT _ lw_maxl.2) h1 ?_ (Nat.le_refl _) (Nat.le_refl _) hd ?_
    · rw [csum_eq]; show _ ≤ 40 * d; omega
    · rw [maxl_of (okL_cons.mp (okL_cons.mp hst).2).1 (okL_cons.mp hst).1]; exact k
theorem s_minl {idx : Nat} {x z : Int} (hd : decode (byt y) pc = .ok (.invokestatic idx, 3)) (hw : Jvm.Cond.methodLink (owt y) idx Lib.MathLoose.min_long.x ∈ wsA) (h : lfd d 1 r (Vx l ω d y (pc + 3) ls (vL (min x z) :: r) M Q)) : Vx l ω d y pc ls (vL z :: vL x :: r) M Q := by
  obtain ⟨h1, h2, h⟩ := lfd_sp h
  refine Vx.ch (fun hls hst => ?_) (fun hx hb hls hst hl C k => ?_) h
  · refine okL_cons.mpr ⟨?_, (okL_cons.mp (okL_cons.mp hst).2).2⟩
    have a1 : in64 z := (okL_cons.mp hst).1
    have a2 : in64 x := (okL_cons.mp (okL_cons.mp hst).2).1
    show in64 _
    unfold in64 at *; omega
  · have hT := C.2.2.2.2.2.2.1
    refine va_mmin_long hx hb (C.2.2.1.trans hl.1.symm) C.2.2.2.2.2.1 (hT _ hw) (hT _ lw_minl.1) (hT _ lw_max.2.1) (hT _ lw_minl.2) h1 ?_ (Nat.le_refl _) (Nat.le_refl _) hd ?_
    · rw [csum_eq]; show _ ≤ 40 * d; omega
    · rw [minl_of (okL_cons.mp (okL_cons.mp hst).2).1 (okL_cons.mp hst).1]; exact k
theorem s_absl {idx : Nat} {x : Int} (hd : decode (byt y) pc = .ok (.invokestatic idx, 3)) (hw : Jvm.Cond.methodLink (owt y) idx Lib.MathLoose.abs_long.x ∈ wsA) (h : lfd d 1 r (Vx l ω d y (pc + 3) ls (vL (if x < 0 then w64 (-x) else x) :: r) M Q)) : Vx l ω d y pc ls (vL x :: r) M Q := by
  obtain ⟨h1, h2, h⟩ := lfd_sp h
  refine Vx.ch (fun hls hst => ?_) (fun hx hb hls hst hl C k => ?_) h
  · refine okL_cons.mpr ⟨?_, (okL_cons.mp hst).2⟩
    have a2 : in64 x := (okL_cons.mp hst).1
    show in64 _
    split
    · exact w64_in _
    · exact a2
  · have hT := C.2.2.2.2.2.2.1
    refine va_mabs_long hx hb (C.2.2.1.trans hl.1.symm) C.2.2.2.2.2.1 (hT _ hw) (hT _ lw_absl.1) (hT _ lw_max.2.1) (hT _ lw_absl.2) h1 ?_ (Nat.le_refl _) (Nat.le_refl _) hd ?_
    · rw [csum_eq]; show _ ≤ 40 * d; omega
    · rw [absl_of (okL_cons.mp hst).1]; exact k
theorem mcopy_ok {M : Mem} {p q : Nat} {i s j dd n : Int} (hM : okM M) (hp : (SHt p).1 = 1) (hq : (SHt q).1 = 1) : okM (mcopy M p i s q j dd n) := by
  intro a b c
  unfold mcopy
  cases h : Nat.beq a q with
  | false => exact hM a b c
  | true =>
    rw [beq_eq h]
    simp only [cond_true]
    split
    · have := hM p i (c - dd + s)
      rw [kdt_1 hp] at this
      rw [kdt_1 hq]
      exact this
    · exact hM q b c
theorem wde_nec {ω : WP} {M : Mem} {p q : Nat} {i s j dd n : Int} (p' : Nat) (i' : Int) (h : ¬ (p' = q ∧ i' = j)) : wde ω (mcopy M p i s q j dd n) p' i' = wde ω M p' i' := by
  have e : ∀ b, mcopy M p i s q j dd n p' i' b = M p' i' b := by
    intro b
    unfold mcopy
    cases hq : Nat.beq p' q with
    | false => rfl
    | true =>
      have : ¬ i' = j := fun z => h ⟨beq_eq hq, z⟩
      simp [this]
  have e2 : fvl ω (mcopy M p i s q j dd n) p' i' = fvl ω M p' i' := by
    funext k
    unfold fvl
    rw [e]
  unfold wde
  rw [e2]
  simp only [e]
theorem s_copy {idx p q : Nat} {i s j dd n : Int} (hd : decode (byt y) pc = .ok (.invokestatic idx, 3)) (hw : Jvm.Cond.methodLink (owt y) idx arraycopyName ∈ wsA) (hp : (SHt p).1 = 1) (hq : (SHt q).1 = 1) (hb : 0 ≤ s ∧ 0 ≤ dd ∧ 0 ≤ n ∧ s + n ≤ ((SHt p).2.1 : Int) ∧ dd + n ≤ ((SHt q).2.1 : Int)) (h : lfd d 1 r (Vx l ω d y (pc + 3) ls r (mcopy M p i s q j dd n) Q)) :
    Vx l ω d y pc ls (vI n :: vI dd :: vR q j :: vI s :: vR p i :: r) M Q := by
  obtain ⟨g1, g2, h⟩ := lfd_sp h
  intro pg e st0 m args below meth c A C H locs lsC ⟨hM, hls, hst, hl, hP, hD, hS⟩
  have t1 := okL_cons.mp hst
  have t2 := okL_cons.mp t1.2
  have t3 := okL_cons.mp t2.2
  have t4 := okL_cons.mp t3.2
  have t5 := okL_cons.mp t4.2
  have hn32 : in32 n := t1.1
  have hd32 : in32 dd := t2.1
  have hs32 : in32 s := t4.1
  obtain ⟨q0, hq0, hq2⟩ := wd_at ω M (t5.1.1 (by omega))
  obtain ⟨q1, hq1, hq3⟩ := wd_at ω M (t3.1.1 (by omega))
  rw [wde_1 hp] at hq2
  rw [wde_1 hq] at hq3
  have hT := C.2.2.2.2.2.2.1
  have neg : ∀ {x : Int}, in32 x → 0 ≤ x → ¬ Int32.ofInt x < 0 := fun {x} hx h0 e => by
    have := (o32_lt hx in32_0).mp e
    omega
  refine va_copyi C.1 C.2.1 (C.2.2.1.trans hl.1.symm) C.2.2.2.2.2.1 (hT _ hw) (hT _ lw_copy.1) (hT _ lw_copy.2.1) (hT _ lw_copy.2.2) C.2.2.2.2.2.2.2.1.1 hP hD hS q0 q1 0 0 hq2 hq3 rfl rfl rfl (neg hs32 hb.1) (neg hd32 hb.2.1) (neg hn32 hb.2.2.1) ?_ ?_ (fun _ _ => rfl) g1 ?_ hd (fun H1 locs1 hP1 hD1 hS1 => ?_)
  · rw [o32_clamp hs32, o32_clamp hn32]; omega
  · rw [o32_clamp hd32, o32_clamp hn32]; omega
  · rw [csum_eq]; show _ + (nativeFrameWords "java/lang/System" "arraycopy" 5 + 11) ≤ 40 * d
    have : nativeFrameWords "java/lang/System" "arraycopy" 5 ≤ 20 := by decide
    omega
  · have ew : (wd ω M).set q1 (ω.2.1 q j, .inl (ω.2.2 1, (SHt q).2.1, .inl (va_cpy (fun z => Int32.ofInt (M p i z)) (fun z => Int32.ofInt (M q j z)) (Int32.ofInt s).toNatClampNeg (Int32.ofInt dd).toNatClampNeg (Int32.ofInt n).toNatClampNeg))) = wd ω (mcopy M p i s q j dd n) := by
      refine wd_set hD hq1 ?_ (fun p' i' h => wde_nec p' i' h)
      rw [wde_1 hq]
      congr 4
      funext z
      unfold va_cpy mcopy
      rw [o32_clamp hs32, o32_clamp hd32, o32_clamp hn32]
      have hqq : Nat.beq q q = true := by simp
      rw [hqq]
      simp only [cond_true, true_and]
      by_cases hz : dd.toNat ≤ z ∧ z < dd.toNat + n.toNat
      · rw [if_pos (by omega), if_pos hz]
        congr 2
        omega
      · rw [if_neg (by omega), if_neg hz]
    rw [ew] at hP1 hD1
    exact h pg e st0 m args below meth c A C H1 locs1 lsC ⟨mcopy_ok hM hp hq, hls, t5.2, hl, hP1, hD1, hS1⟩
theorem s_ireturn {x : Int} {ty : FieldType} (hd : decode (byt y) pc = .ok (.ireturn, 1)) (hr : rtt y = some ty) (hn : in32 x → narrow ty (.int (Int32.ofInt x)) = .int (Int32.ofInt x)) (h : Q (some (vI x)) M) (hty : ¬ ty = .long := by intro h; cases h) : Vx l ω d y pc ls [vI x] M Q := by
  intro pg e s m args below meth c A C H locs lsC ⟨hM, hls, hst, hl, hP, hD, hS⟩
  have hx : in32 x := (okL_cons.mp hst).1
  exact W.zret (v := Int32.ofInt x) C.1 C.2.1 (C.2.2.2.1.trans hr) (hn hx) (fun t ht hW => ⟨⟨some (vI x), M, rfl, ⟨h, fun _ => ⟨x, rfl⟩, fun z => absurd (Option.some.inj (hr.symm.trans z)) hty⟩, hM, fun a ha => by cases ha; exact hx, by rw [ht]; exact hP⟩, hS.F ht⟩) hS.2.2 hd C.2.2.2.2.1
theorem s_lreturn {x : Int} (hd : decode (byt y) pc = .ok (.lreturn, 1)) (hr : rtt y = some .long) (h : Q (some (vL x)) M) : Vx l ω d y pc ls [vL x] M Q := by
  intro pg e s m args below meth c A C H locs lsC ⟨hM, hls, hst, hl, hP, hD, hS⟩
  have hx : in64 x := (okL_cons.mp hst).1
  exact W.lret (v := Int64.ofInt x) C.1 C.2.1 (C.2.2.2.1.trans hr) (fun t ht hW => ⟨⟨some (vL x), M, rfl, ⟨h, fun z => absurd (Option.some.inj (hr.symm.trans z)) (by intro h; cases h), fun _ => ⟨x, rfl⟩⟩, hM, fun a ha => by cases ha; exact hx, by rw [ht]; exact hP⟩, hS.F ht⟩) hS.2.2 hd C.2.2.2.2.1
theorem s_return (hd : decode (byt y) pc = .ok (.return_, 1)) (hr : rtt y = none) (h : Q none M) : Vx l ω d y pc ls [] M Q := by
  intro pg e s m args below meth c A C H locs lsC ⟨hM, hls, hst, hl, hP, hD, hS⟩
  exact W.vret C.1 C.2.1 (C.2.2.2.1.trans hr) (fun t ht hW => ⟨⟨none, M, rfl, ⟨h, fun z => absurd (hr.symm.trans z) (by intro h; cases h), fun z => absurd (hr.symm.trans z) (by intro h; cases h)⟩, hM, fun a ha => (by cases ha), by rw [ht]; exact hP⟩, hS.F ht⟩) hS.2.2 hd C.2.2.2.2.1
end LEAF
