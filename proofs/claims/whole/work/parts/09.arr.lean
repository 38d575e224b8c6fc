/-! ===== rules of arrays ===== -/
section ARRR
variable {l : Launch} {ω : WP} {d y pc pc' : Nat} {ls st st' r : List AV} {M : Mem} {Q : Post}
theorem wde_1 {ω : WP} {M : Mem} {p : Nat} {i : Int} (h0 : (SHt p).1 = 1) : wde ω M p i = .inl (ω.2.2 1, (SHt p).2.1, .inl (fun j => Int32.ofInt (M p i j))) := by
  unfold wde
  rw [h0]
  rfl
theorem wde_2 {ω : WP} {M : Mem} {p : Nat} {i : Int} (h0 : (SHt p).1 = 2) : wde ω M p i = .inl (ω.2.2 2, (SHt p).2.1, .inr (.inl (fun j => Int64.ofInt (M p i j)))) := by
  unfold wde
  rw [h0]
  rfl
theorem wde_3 {ω : WP} {M : Mem} {p : Nat} {i : Int} (h0 : (SHt p).1 = 3) : wde ω M p i = .inl (ω.2.2 3, (SHt p).2.1, .inl (fun j => Int32.ofInt (M p i j))) := by
  unfold wde
  rw [h0]
  rfl
theorem wde_4 {ω : WP} {M : Mem} {p k : Nat} {i : Int} (h0 : (SHt p).1 = k + 4) : wde ω M p i = .inl (ω.2.2 (k + 4), (SHt p).2.1, .inr (.inr (.inr (.inr (fun j => some (ω.2.1 (rft p 0) j)))))) := by
  unfold wde
  rw [h0]
  rfl
theorem kdt_1 {p : Nat} {j : Int} (h : (SHt p).1 = 1) : kdt p j = 0 := by unfold kdt; rw [h]; rfl
theorem kdt_2 {p : Nat} {j : Int} (h : (SHt p).1 = 2) : kdt p j = 1 := by unfold kdt; rw [h]; rfl
theorem kdt_3 {p : Nat} {j : Int} (h : (SHt p).1 = 3) : kdt p j = 3 := by unfold kdt; rw [h]; rfl
theorem idx_of {j : Int} (hj : in32 j) (h0 : 0 ≤ j) : (((Int32.ofInt j).toNatClampNeg : Nat) : Int) = j := by
  rw [o32_clamp hj]; exact Int.toNat_of_nonneg h0
theorem bool_in32 {x : Int} (h : x = 0 ∨ x = 1) : in32 x := by unfold in32; omega
theorem s_iaload {p : Nat} {i j : Int} (hd : decode (byt y) pc = .ok (.iaload, 1)) (h0 : (SHt p).1 = 1) (hj : 0 ≤ j ∧ j < ((SHt p).2.1 : Int)) (h : Vx l ω d y (pc + 1) ls (vI (M p i j) :: r) M Q) : Vx l ω d y pc ls (vI j :: vR p i :: r) M Q := by
  intro pg e s m args below meth c A C H locs lsC ⟨hM, hls, hst, hl, hP, hD, hS⟩
  have hin := (okL_cons.mp (okL_cons.mp hst).2).1.1 (by omega)
  have h32 : in32 j := (okL_cons.mp hst).1
  obtain ⟨q0, hq, hq2⟩ := wd_at ω M hin
  rw [wde_1 h0] at hq2
  have hm := hM p i j
  rw [kdt_1 h0] at hm
  have k := h pg e s m args below meth c A C H locs lsC ⟨hM, hls, okL_cons.mpr ⟨hm, (okL_cons.mp (okL_cons.mp hst).2).2⟩, hl, hP, hD, hS⟩
  refine va_iald C.1 C.2.1 C.2.2.2.2.2.2.2.1.1 hP q0 0 hq2 rfl (vpin_of h32 hj.1 hj.2) hd ?_
  rw [idx_of h32 hj.1]
  exact k
theorem s_baload {p : Nat} {i j : Int} (hd : decode (byt y) pc = .ok (.baload, 1)) (h0 : (SHt p).1 = 3) (hj : 0 ≤ j ∧ j < ((SHt p).2.1 : Int)) (h : Vx l ω d y (pc + 1) ls (vI (M p i j) :: r) M Q) : Vx l ω d y pc ls (vI j :: vR p i :: r) M Q := by
  intro pg e s m args below meth c A C H locs lsC ⟨hM, hls, hst, hl, hP, hD, hS⟩
  have hin := (okL_cons.mp (okL_cons.mp hst).2).1.1 (by omega)
  have h32 : in32 j := (okL_cons.mp hst).1
  obtain ⟨q0, hq, hq2⟩ := wd_at ω M hin
  rw [wde_3 h0] at hq2
  have hm := hM p i j
  rw [kdt_3 h0] at hm
  have k := h pg e s m args below meth c A C H locs lsC ⟨hM, hls, okL_cons.mpr ⟨bool_in32 hm, (okL_cons.mp (okL_cons.mp hst).2).2⟩, hl, hP, hD, hS⟩
  refine va_zald C.1 C.2.1 C.2.2.2.2.2.2.2.1.1 hP q0 2 hq2 rfl (vpin_of h32 hj.1 hj.2) hd ?_
  rw [idx_of h32 hj.1]
  exact k
theorem s_laload {p : Nat} {i j : Int} (hd : decode (byt y) pc = .ok (.laload, 1)) (h0 : (SHt p).1 = 2) (hj : 0 ≤ j ∧ j < ((SHt p).2.1 : Int)) (h : Vx l ω d y (pc + 1) ls (vL (M p i j) :: r) M Q) : Vx l ω d y pc ls (vI j :: vR p i :: r) M Q := by
  intro pg e s m args below meth c A C H locs lsC ⟨hM, hls, hst, hl, hP, hD, hS⟩
  have hin := (okL_cons.mp (okL_cons.mp hst).2).1.1 (by omega)
  have h32 : in32 j := (okL_cons.mp hst).1
  obtain ⟨q0, hq, hq2⟩ := wd_at ω M hin
  rw [wde_2 h0] at hq2
  have hm := hM p i j
  rw [kdt_2 h0] at hm
  have k := h pg e s m args below meth c A C H locs lsC ⟨hM, hls, okL_cons.mpr ⟨hm, (okL_cons.mp (okL_cons.mp hst).2).2⟩, hl, hP, hD, hS⟩
  refine va_lald C.1 C.2.1 C.2.2.2.2.2.2.2.1.1 hP q0 1 hq2 rfl (vpin_of h32 hj.1 hj.2) hd ?_
  rw [idx_of h32 hj.1]
  exact k
theorem s_aaload {p k : Nat} {i j : Int} (hd : decode (byt y) pc = .ok (.aaload, 1)) (h0 : (SHt p).1 = k + 4) (hk : k < 3) (hj : 0 ≤ j ∧ j < ((SHt p).2.1 : Int)) (h : Vx l ω d y (pc + 1) ls (vR (rft p 0) j :: r) M Q) : Vx l ω d y pc ls (vI j :: vR p i :: r) M Q := by
  intro pg e s m args below meth c A C H locs lsC ⟨hM, hls, hst, hl, hP, hD, hS⟩
  have hin := (okL_cons.mp (okL_cons.mp hst).2).1.1 (by omega)
  have h32 : in32 j := (okL_cons.mp hst).1
  obtain ⟨q0, hq, hq2⟩ := wd_at ω M hin
  rw [wde_4 h0] at hq2
  have hr := rf_arr p (mem_WL.mp hin).1 (by omega) (by omega)
  have hm : (rft p 0, j) ∈ WL := mem_WL.mpr ⟨hr.1, hj.1, by omega⟩
  have kk := h pg e s m args below meth c A C H locs lsC ⟨hM, hls, okL_cons.mpr ⟨okR hm, (okL_cons.mp (okL_cons.mp hst).2).2⟩, hl, hP, hD, hS⟩
  have hin' : vp_in (Int32.ofInt j) (SHt p).2.1 := vpin_of h32 hj.1 hj.2
  have hlt : (Int32.ofInt j).toNatClampNeg < (SHt p).2.1 := Nat.not_le.mp fun q => hin' (Or.inr q)
  have hv : Value.ref (ω.2.1 (rft p 0) j) = va_rf (some (ω.2.1 (rft p 0) (((Int32.ofInt j).toNatClampNeg : Nat) : Int))) := by
    rw [idx_of h32 hj.1]; rfl
  have kk : W _ _ _ _ _ _ _ _ _ _ _ _ _ _ _ (F0 m (pc + 1) lsC (Value.ref (ω.2.1 (rft p 0) j) :: r.map (cvA ω))) := kk
  rw [hv] at kk
  have hK := C.2.2.2.2.2.2.2.1.1
  match k, hk, hq2 with
  | 0, _, hq2 => exact W.aald (v := va_rf _) (ty := .object "ValleyGuides$Rope") C.1 C.2.1 (hP q0 _ hq2) ((hK.2 3 _ rfl).1 (SHt p).2.1 (fun z => va_rf (some (ω.2.1 (rft p 0) z)))) rfl (fun q => by cases q) (by show ¬ (_ ∨ (arrV _ _ _).slots.size ≤ _); rw [arrV_size]; exact hin') (by show (arrV _ _ _).slots[_]? = _; rw [arrV_read _ _ hlt]) rfl rfl hd kk
  | 1, _, hq2 => exact W.aald (v := va_rf _) (ty := .array .int) C.1 C.2.1 (hP q0 _ hq2) ((hK.2 4 _ rfl).1 (SHt p).2.1 (fun z => va_rf (some (ω.2.1 (rft p 0) z)))) rfl (fun q => by cases q) (by show ¬ (_ ∨ (arrV _ _ _).slots.size ≤ _); rw [arrV_size]; exact hin') (by show (arrV _ _ _).slots[_]? = _; rw [arrV_read _ _ hlt]) rfl rfl hd kk
  | 2, _, hq2 => exact W.aald (v := va_rf _) (ty := .array .long) C.1 C.2.1 (hP q0 _ hq2) ((hK.2 5 _ rfl).1 (SHt p).2.1 (fun z => va_rf (some (ω.2.1 (rft p 0) z)))) rfl (fun q => by cases q) (by show ¬ (_ ∨ (arrV _ _ _).slots.size ≤ _); rw [arrV_size]; exact hin') (by show (arrV _ _ _).slots[_]? = _; rw [arrV_read _ _ hlt]) rfl rfl hd kk
theorem ast_world {ω : WP} {M : Mem} {A : Nat → Prop} {p q0 : Nat} {i j x : Int} (hD : va_D A (wd ω M)) (hq : WL[q0]? = some (p, i)) (h32 : in32 j) (hj : 0 ≤ j) (h0 : (SHt p).1 = 1) :
    (wd ω M).set q0 (ω.2.1 p i, .inl (ω.2.2 1, (SHt p).2.1, .inl (upd (fun z => Int32.ofInt (M p i z)) (Int32.ofInt j).toNatClampNeg (Int32.ofInt x)))) = wd ω (mset M p i j x) := by
  refine wd_set hD hq ?_ (fun p' i' h => wde_ne p' i' h)
  rw [wde_1 h0]
  congr 4
  funext z
  unfold upd
  by_cases hz : z = (Int32.ofInt j).toNatClampNeg
  · rw [if_pos hz, hz, idx_of h32 hj, mset_at]
  · rw [if_neg hz, mset_nej i (fun e => hz (by rw [o32_clamp h32]; omega))]
theorem zst_world {ω : WP} {M : Mem} {A : Nat → Prop} {p q0 : Nat} {i j x : Int} (hD : va_D A (wd ω M)) (hq : WL[q0]? = some (p, i)) (h32 : in32 j) (hj : 0 ≤ j) (h0 : (SHt p).1 = 3) (hx : x = 0 ∨ x = 1) :
    (wd ω M).set q0 (ω.2.1 p i, .inl (ω.2.2 3, (SHt p).2.1, .inl (upd (fun z => Int32.ofInt (M p i z)) (Int32.ofInt j).toNatClampNeg (vp_nar .boolean (Int32.ofInt x))))) = wd ω (mset M p i j x) := by
  refine wd_set hD hq ?_ (fun p' i' h => wde_ne p' i' h)
  rw [wde_3 h0]
  congr 4
  funext z
  unfold upd
  by_cases hz : z = (Int32.ofInt j).toNatClampNeg
  · rw [if_pos hz, hz, idx_of h32 hj, mset_at]
    rcases hx with rfl | rfl <;> decide
  · rw [if_neg hz, mset_nej i (fun e => hz (by rw [o32_clamp h32]; omega))]
theorem lst_world {ω : WP} {M : Mem} {A : Nat → Prop} {p q0 : Nat} {i j x : Int} (hD : va_D A (wd ω M)) (hq : WL[q0]? = some (p, i)) (h32 : in32 j) (hj : 0 ≤ j) (h0 : (SHt p).1 = 2) :
    (wd ω M).set q0 (ω.2.1 p i, .inl (ω.2.2 2, (SHt p).2.1, .inr (.inl (vp_updL (fun z => Int64.ofInt (M p i z)) (Int32.ofInt j).toNatClampNeg (Int64.ofInt x))))) = wd ω (mset M p i j x) := by
  refine wd_set hD hq ?_ (fun p' i' h => wde_ne p' i' h)
  rw [wde_2 h0]
  congr 5
  funext z
  unfold vp_updL
  by_cases hz : z = (Int32.ofInt j).toNatClampNeg
  · rw [if_pos hz, hz, idx_of h32 hj, mset_at]
  · rw [if_neg hz, mset_nej i (fun e => hz (by rw [o32_clamp h32]; omega))]
theorem s_iastore {p : Nat} {i j x : Int} (hd : decode (byt y) pc = .ok (.iastore, 1)) (h0 : (SHt p).1 = 1) (hj : 0 ≤ j ∧ j < ((SHt p).2.1 : Int)) (h : Vx l ω d y (pc + 1) ls r (mset M p i j x) Q) : Vx l ω d y pc ls (vI x :: vI j :: vR p i :: r) M Q := by
  intro pg e s m args below meth c A C H locs lsC ⟨hM, hls, hst, hl, hP, hD, hS⟩
  have hst2 := okL_cons.mp (okL_cons.mp hst).2
  have hin := (okL_cons.mp hst2.2).1.1 (by omega)
  have h32 : in32 j := hst2.1
  have hx32 : in32 x := (okL_cons.mp hst).1
  obtain ⟨q0, hq, hq2⟩ := wd_at ω M hin
  rw [wde_1 h0] at hq2
  refine va_iast C.1 C.2.1 C.2.2.2.2.2.2.2.1.1 hP hD hS q0 0 hq2 rfl (vpin_of h32 hj.1 hj.2) hd (fun H1 locs1 hP1 hD1 hS1 => ?_)
  rw [ast_world hD hq h32 hj.1 h0] at hP1 hD1
  exact h pg e s m args below meth c A C H1 locs1 lsC ⟨mset_ok hM (by rw [kdt_1 h0]; exact hx32), hls, (okL_cons.mp hst2.2).2, hl, hP1, hD1, hS1⟩
theorem s_bastore {p : Nat} {i j x : Int} (hd : decode (byt y) pc = .ok (.bastore, 1)) (h0 : (SHt p).1 = 3) (hj : 0 ≤ j ∧ j < ((SHt p).2.1 : Int)) (hx : x = 0 ∨ x = 1) (h : Vx l ω d y (pc + 1) ls r (mset M p i j x) Q) : Vx l ω d y pc ls (vI x :: vI j :: vR p i :: r) M Q := by
  intro pg e s m args below meth c A C H locs lsC ⟨hM, hls, hst, hl, hP, hD, hS⟩
  have hst2 := okL_cons.mp (okL_cons.mp hst).2
  have hin := (okL_cons.mp hst2.2).1.1 (by omega)
  have h32 : in32 j := hst2.1
  obtain ⟨q0, hq, hq2⟩ := wd_at ω M hin
  rw [wde_3 h0] at hq2
  refine va_zast C.1 C.2.1 C.2.2.2.2.2.2.2.1.1 hP hD hS q0 2 hq2 rfl (vpin_of h32 hj.1 hj.2) hd (fun H1 locs1 hP1 hD1 hS1 => ?_)
  rw [zst_world hD hq h32 hj.1 h0 hx] at hP1 hD1
  exact h pg e s m args below meth c A C H1 locs1 lsC ⟨mset_ok hM (by rw [kdt_3 h0]; exact hx), hls, (okL_cons.mp hst2.2).2, hl, hP1, hD1, hS1⟩
theorem s_lastore {p : Nat} {i j x : Int} (hd : decode (byt y) pc = .ok (.lastore, 1)) (h0 : (SHt p).1 = 2) (hj : 0 ≤ j ∧ j < ((SHt p).2.1 : Int)) (h : Vx l ω d y (pc + 1) ls r (mset M p i j x) Q) : Vx l ω d y pc ls (vL x :: vI j :: vR p i :: r) M Q := by
  intro pg e s m args below meth c A C H locs lsC ⟨hM, hls, hst, hl, hP, hD, hS⟩
  have hst2 := okL_cons.mp (okL_cons.mp hst).2
  have hin := (okL_cons.mp hst2.2).1.1 (by omega)
  have h32 : in32 j := hst2.1
  have hx64 : in64 x := (okL_cons.mp hst).1
  obtain ⟨q0, hq, hq2⟩ := wd_at ω M hin
  rw [wde_2 h0] at hq2
  refine va_last C.1 C.2.1 C.2.2.2.2.2.2.2.1.1 hP hD hS q0 1 hq2 rfl (vpin_of h32 hj.1 hj.2) hd (fun H1 locs1 hP1 hD1 hS1 => ?_)
  rw [lst_world hD hq h32 hj.1 h0] at hP1 hD1
  exact h pg e s m args below meth c A C H1 locs1 lsC ⟨mset_ok hM (by rw [kdt_2 h0]; exact hx64), hls, (okL_cons.mp hst2.2).2, hl, hP1, hD1, hS1⟩
theorem SH1002 : (SHt 1002).1 = 7 := by decide
theorem ok1002 : okA (vR 1002 0) := ⟨fun q => by rw [SH1002] at q; omega, fun _ => ⟨rfl, rfl⟩, fun q => by rw [SH1002] at q; omega, fun q => by rw [SH1002] at q; omega⟩
theorem SH8 : (SHt 1000).1 = 8 ∧ (SHt 1001).1 = 8 := by decide
theorem SH9 : (SHt 1010).1 = 9 ∧ (SHt 1011).1 = 9 ∧ (SHt 1010).2.1 = slen.getD 0 0 ∧ (SHt 1011).2.1 = slen.getD 1 0 := by decide
theorem okS {p : Nat} (h : p = 1000 ∨ p = 1001) : okA (vR p 0) := by
  rcases h with rfl | rfl
  · exact ⟨fun q => by rw [SH8.1] at q; omega, fun q => by rw [SH8.1] at q; omega, fun _ => ⟨Or.inl rfl, rfl⟩, fun q => by rw [SH8.1] at q; omega⟩
  · exact ⟨fun q => by rw [SH8.2] at q; omega, fun q => by rw [SH8.2] at q; omega, fun _ => ⟨Or.inr rfl, rfl⟩, fun q => by rw [SH8.2] at q; omega⟩
theorem okT {p : Nat} (h : p = 1010 ∨ p = 1011) : okA (vR p 0) := by
  rcases h with rfl | rfl
  · exact ⟨fun q => by rw [SH9.1] at q; omega, fun q => by rw [SH9.1] at q; omega, fun q => by rw [SH9.1] at q; omega, fun _ => ⟨Or.inl rfl, rfl⟩⟩
  · exact ⟨fun q => by rw [SH9.2.1] at q; omega, fun q => by rw [SH9.2.1] at q; omega, fun q => by rw [SH9.2.1] at q; omega, fun _ => ⟨Or.inr rfl, rfl⟩⟩
theorem s_getstatic {idx : Nat} (hd : decode (byt y) pc = .ok (.getstatic idx, 3)) (hw : Jvm.Cond.fieldLink (owt y) idx "ValleyGuides$Reader" "BINDS" "[I" ∈ wsA) (h : Vx l ω d y (pc + 3) ls (vR 1002 0 :: st) M Q) : Vx l ω d y pc ls st M Q := by
  intro pg e s m args below meth c A C H locs lsC ⟨hM, hls, hst, hl, hP, hD, hS⟩
  have k := h pg e s m args below meth c A C H locs lsC ⟨hM, hls, okL_cons.mpr ⟨ok1002, hst⟩, hl, hP, hD, hS⟩
  exact va_gets C.1 C.2.1 C.2.2.2.2.2.2.2.2.2.1.1 hS C.2.2.2.2.2.1 (C.2.2.2.2.2.2.1 _ hw) (fun _ z => z) hd k
theorem s_getstatic1 {idx : Nat} (hd : decode (byt y) pc = .ok (.getstatic idx, 3)) (hw : Jvm.Cond.fieldLink (owt y) idx "java/lang/String" "COMPACT_STRINGS" "Z" ∈ wsA) (h : Vx l ω d y (pc + 3) ls (vI 1 :: st) M Q) : Vx l ω d y pc ls st M Q := by
  intro pg e s m args below meth c A C H locs lsC ⟨hM, hls, hst, hl, hP, hD, hS⟩
  have k := h pg e s m args below meth c A C H locs lsC ⟨hM, hls, okL_cons.mpr ⟨(by show in32 1; unfold in32; omega), hst⟩, hl, hP, hD, hS⟩
  exact va_gets C.1 C.2.1 C.2.2.2.2.2.2.2.2.2.2.2.1 hS C.2.2.2.2.2.1 (C.2.2.2.2.2.2.1 _ hw) (fun _ z => z) hd k
theorem s_getstatic2 {idx : Nat} (hd : decode (byt y) pc = .ok (.getstatic idx, 3)) (hw : Jvm.Cond.fieldLink (owt y) idx "jdk/internal/util/Preconditions" "SIOOBE_FORMATTER" "Ljava/util/function/BiFunction;" ∈ wsA) (h : Vx l ω d y (pc + 3) ls (vU :: st) M Q) : Vx l ω d y pc ls st M Q := by
  intro pg e s m args below meth c A C H locs lsC ⟨hM, hls, hst, hl, hP, hD, hS⟩
  have k := h pg e s m args below meth c A C H locs lsC ⟨hM, hls, okL_cons.mpr ⟨trivial, hst⟩, hl, hP, hD, hS⟩
  exact va_gets C.1 C.2.1 C.2.2.2.2.2.2.2.2.2.2.2.2 hS C.2.2.2.2.2.1 (C.2.2.2.2.2.2.1 _ hw) (fun _ z => z) hd k
theorem s_getfieldV {idx p : Nat} {i : Int} (hd : decode (byt y) pc = .ok (.getfield idx, 3)) (hw : Jvm.Cond.fieldLink (owt y) idx "java/lang/String" "value" "[B" ∈ wsA) (h0 : (SHt p).1 = 8) (h : Vx l ω d y (pc + 3) ls (vR (bif Nat.beq p 1000 then 1010 else 1011) 0 :: r) M Q) : Vx l ω d y pc ls (vR p i :: r) M Q := by
  intro pg e s m args below meth c A C H locs lsC ⟨hM, hls, hst, hl, hP, hD, hS⟩
  obtain ⟨hp, rfl⟩ := (okL_cons.mp hst).1.2.2.1 h0
  rcases hp with rfl | rfl
  · have k := h pg e s m args below meth c A C H locs lsC ⟨hM, hls, okL_cons.mpr ⟨okT (Or.inl rfl), (okL_cons.mp hst).2⟩, hl, hP, hD, hS⟩
    exact vk_getf C.1 C.2.1 (C.2.2.2.2.2.2.2.2.2.2.1.1 0 (by omega)).2.2.1 hS C.2.2.2.2.2.1 (C.2.2.2.2.2.2.1 _ hw) (fun _ z => z) hd k
  · have k := h pg e s m args below meth c A C H locs lsC ⟨hM, hls, okL_cons.mpr ⟨okT (Or.inr rfl), (okL_cons.mp hst).2⟩, hl, hP, hD, hS⟩
    exact vk_getf C.1 C.2.1 (C.2.2.2.2.2.2.2.2.2.2.1.1 1 (by omega)).2.2.1 hS C.2.2.2.2.2.1 (C.2.2.2.2.2.2.1 _ hw) (fun _ z => z) hd k
theorem s_getfieldC {idx p : Nat} {i : Int} (hd : decode (byt y) pc = .ok (.getfield idx, 3)) (hw : Jvm.Cond.fieldLink (owt y) idx "java/lang/String" "coder" "B" ∈ wsA) (h0 : (SHt p).1 = 8) (h : Vx l ω d y (pc + 3) ls (vI 0 :: r) M Q) : Vx l ω d y pc ls (vR p i :: r) M Q := by
  intro pg e s m args below meth c A C H locs lsC ⟨hM, hls, hst, hl, hP, hD, hS⟩
  obtain ⟨hp, rfl⟩ := (okL_cons.mp hst).1.2.2.1 h0
  have k := h pg e s m args below meth c A C H locs lsC ⟨hM, hls, okL_cons.mpr ⟨in32_0, (okL_cons.mp hst).2⟩, hl, hP, hD, hS⟩
  rcases hp with rfl | rfl
  · exact vk_getf C.1 C.2.1 (C.2.2.2.2.2.2.2.2.2.2.1.1 0 (by omega)).2.1 hS C.2.2.2.2.2.1 (C.2.2.2.2.2.2.1 _ hw) (fun _ z => z) hd k
  · exact vk_getf C.1 C.2.1 (C.2.2.2.2.2.2.2.2.2.2.1.1 1 (by omega)).2.1 hS C.2.2.2.2.2.1 (C.2.2.2.2.2.2.1 _ hw) (fun _ z => z) hd k
theorem s_alen {p : Nat} {i : Int} (hd : decode (byt y) pc = .ok (.arraylength, 1)) (h0 : (SHt p).1 = 9) (h : Vx l ω d y (pc + 1) ls (vI ((SHt p).2.1 : Int) :: r) M Q) : Vx l ω d y pc ls (vR p i :: r) M Q := by
  intro pg e s m args below meth c A C H locs lsC ⟨hM, hls, hst, hl, hP, hD, hS⟩
  obtain ⟨hp, rfl⟩ := (okL_cons.mp hst).1.2.2.2 h0
  rcases hp with rfl | rfl
  · have k := h pg e s m args below meth c A C H locs lsC ⟨hM, hls, okL_cons.mpr ⟨(by show in32 _; unfold in32; decide), (okL_cons.mp hst).2⟩, hl, hP, hD, hS⟩
    exact va_tlen C.1 C.2.1 (C.2.2.2.2.2.2.2.2.2.2.1.1 0 (by omega)).2.2.2 hS (v := Int32.ofInt ((SHt 1010).2.1 : Int)) (by decide) hd k
  · have k := h pg e s m args below meth c A C H locs lsC ⟨hM, hls, okL_cons.mpr ⟨(by show in32 _; unfold in32; decide), (okL_cons.mp hst).2⟩, hl, hP, hD, hS⟩
    exact va_tlen C.1 C.2.1 (C.2.2.2.2.2.2.2.2.2.2.1.1 1 (by omega)).2.2.2 hS (v := Int32.ofInt ((SHt 1011).2.1 : Int)) (by decide) hd k
theorem strB_ok : ∀ i, i < 2 → ∀ j, j < slen.getD i 0 → (Int32.ofInt (strB (1010 + i) (j : Int)) = (sbyt.getD i []).getD j 0 ∧ -128 ≤ strB (1010 + i) (j : Int) ∧ strB (1010 + i) (j : Int) < 128) := by decide +kernel
theorem s_baload9 {p : Nat} {i j : Int} (hd : decode (byt y) pc = .ok (.baload, 1)) (h0 : (SHt p).1 = 9) (hj : 0 ≤ j ∧ j < ((SHt p).2.1 : Int)) (h : Vx l ω d y (pc + 1) ls (vI (strB p j) :: r) M Q) : Vx l ω d y pc ls (vI j :: vR p i :: r) M Q := by
  intro pg e s m args below meth c A C H locs lsC ⟨hM, hls, hst, hl, hP, hD, hS⟩
  obtain ⟨hp, rfl⟩ := (okL_cons.mp (okL_cons.mp hst).2).1.2.2.2 h0
  have h32 : in32 j := (okL_cons.mp hst).1
  have hi := idx_of h32 hj.1
  have key : ∀ q : Nat, q < 2 → ((SHt (1010 + q)).2.1 = slen.getD q 0) → p = 1010 + q → W pg l e (rmd d) s m args below meth c H locs 0 0 (MQ below (QcX ω (QK y Q) A) args s 0 0 A) (F0 m pc lsC ((vI j :: vR p 0 :: r).map (cvA ω))) := by
    intro q hq hz hpq
    subst hpq
    have hn : (Int32.ofInt j).toNatClampNeg < slen.getD q 0 := by rw [← hz]; omega
    obtain ⟨e1, e2, e3⟩ := strB_ok q hq _ hn
    rw [hi] at e1 e2 e3
    have k := h pg e s m args below meth c A C H locs lsC ⟨hM, hls, okL_cons.mpr ⟨(by show in32 _; unfold in32; omega), (okL_cons.mp (okL_cons.mp hst).2).2⟩, hl, hP, hD, hS⟩
    refine va_tb C.1 C.2.1 (C.2.2.2.2.2.2.2.2.2.2.1.1 q hq).2.2.2 hS (vpin_of h32 hj.1 (by rw [← hz]; exact hj.2)) (v := .int (Int32.ofInt (strB (1010 + q) j))) ?_ hd k
    show Value.int _ = _
    rw [e1]
  rcases hp with rfl | rfl
  · exact key 0 (by omega) SH9.2.2.1 rfl
  · exact key 1 (by omega) SH9.2.2.2 rfl
theorem s_ldcS {idx w a : Nat} (hd : decode (byt y) pc = .ok (.ldc idx, 2)) (hw : ((Nat.beq a 1000 && (Nat.beq idx 85 && decide (owt y = "ValleyGuides$Reader"))) || (Nat.beq a 1001 && (Nat.beq idx 77 && decide (owt y = "ValleyGuides$Reader")))) = true) (h : Vx l ω d y (pc + 2) ls (vR a 0 :: st) M Q) : Vx l ω d y pc ls st M Q := by
  intro pg e s m args below meth c A C H locs lsC ⟨hM, hls, hst, hl, hP, hD, hS⟩
  have hown := C.2.2.2.2.2.1
  have hK := C.2.2.2.2.2.2.2.1
  rcases (Bool.or_eq_true _ _).mp hw with q | q
  · simp only [Bool.and_eq_true, decide_eq_true_eq] at q
    obtain ⟨q1, q2, q3⟩ := q
    have q1 := beq_eq q1
    have q2 := beq_eq q2
    subst q1
    subst q2
    rw [q3] at hown
    exact va_ldcS C.1 C.2.1 hown hK.2.2.1 hd (h pg e s m args below meth c A C H locs lsC ⟨hM, hls, okL_cons.mpr ⟨okS (Or.inl rfl), hst⟩, hl, hP, hD, hS⟩)
  · simp only [Bool.and_eq_true, decide_eq_true_eq] at q
    obtain ⟨q1, q2, q3⟩ := q
    have q1 := beq_eq q1
    have q2 := beq_eq q2
    subst q1
    subst q2
    rw [q3] at hown
    exact va_ldcS C.1 C.2.1 hown hK.2.2.2 hd (h pg e s m args below meth c A C H locs lsC ⟨hM, hls, okL_cons.mpr ⟨okS (Or.inr rfl), hst⟩, hl, hP, hD, hS⟩)
theorem roX_in (j : Int) : in32 (roX j) := by
  unfold roX
  rcases Nat.lt_or_ge j.toNat 28 with h | h
  · have key : ∀ k, k < 28 → in32 ([0, 0, 0, 0, 1, 2, 3, 0, 0, 0, 0, 0, 0, 0, 0, 0, 0, 0, 5, 5, 6, 4, 4, 4, 0, 0, 0, 0].getD k (0 : Int)) := by
      unfold in32
      decide
    exact key _ h
  · rw [List.getD_eq_getElem?_getD, List.getElem?_eq_none (by simpa using h)]
    exact in32_0
theorem s_iaload7 {p : Nat} {i j : Int} (hd : decode (byt y) pc = .ok (.iaload, 1)) (h0 : (SHt p).1 = 7) (hj : 0 ≤ j ∧ j < 28) (h : Vx l ω d y (pc + 1) ls (vI (roX j) :: r) M Q) : Vx l ω d y pc ls (vI j :: vR p i :: r) M Q := by
  intro pg e s m args below meth c A C H locs lsC ⟨hM, hls, hst, hl, hP, hD, hS⟩
  obtain ⟨rfl, rfl⟩ := (okL_cons.mp (okL_cons.mp hst).2).1.2.1 h0
  have h32 : in32 j := (okL_cons.mp hst).1
  have k := h pg e s m args below meth c A C H locs lsC ⟨hM, hls, okL_cons.mpr ⟨roX_in j, (okL_cons.mp (okL_cons.mp hst).2).2⟩, hl, hP, hD, hS⟩
  refine va_ti C.1 C.2.1 C.2.2.2.2.2.2.2.2.2.1.2 hS (vpin_of h32 hj.1 (by omega)) (v := .int (Int32.ofInt (roX j))) ?_ hd k
  show Value.int (Int32.ofInt (roX _)) = _
  rw [idx_of h32 hj.1]
end ARRR
