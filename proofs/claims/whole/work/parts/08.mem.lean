/-! ===== rules of the memory, of returns and of calls ===== -/
theorem rf_all : (List.range 134).all (fun p => !(Nat.beq (SHt p).1 0) || (List.range (nft (SHt p).2.1)).all (fun k => Nat.beq (fkt (SHt p).2.1 k) 0 || Nat.beq (fkt (SHt p).2.1 k) 1 || Nat.beq (fkt (SHt p).2.1 k) 3 || (Nat.blt (rft p k) 134 && Nat.ble (spn p) (spn (rft p k))))) = true := by decide +kernel
theorem rf_ok {p k : Nat} (hp : p < 134) (h0 : (SHt p).1 = 0) (hk : k < nft (SHt p).2.1) (h1 : ¬ fkt (SHt p).2.1 k = 0) (h2 : ¬ fkt (SHt p).2.1 k = 1) (h3 : ¬ fkt (SHt p).2.1 k = 3) : rft p k < 134 ∧ spn p ≤ spn (rft p k) := by
  have h := List.all_eq_true.mp rf_all p (List.mem_range.mpr hp)
  rw [h0] at h
  have h : (List.range (nft (SHt p).2.1)).all (fun k => Nat.beq (fkt (SHt p).2.1 k) 0 || Nat.beq (fkt (SHt p).2.1 k) 1 || Nat.beq (fkt (SHt p).2.1 k) 3 || (Nat.blt (rft p k) 134 && Nat.ble (spn p) (spn (rft p k)))) = true := h
  have h := List.all_eq_true.mp h k (List.mem_range.mpr hk)
  simp only [beq_ne h1, beq_ne h2, beq_ne h3, Bool.false_or, Bool.and_eq_true] at h
  have q := Nat.le_of_ble_eq_true h.1
  exact ⟨by omega, Nat.le_of_ble_eq_true h.2⟩
theorem rf_arr : ∀ p, p < 134 → 3 < (SHt p).1 → (SHt p).1 < 7 → rft p 0 < 134 ∧ (SHt p).2.1 ≤ spn (rft p 0) := by decide +kernel
section MEMR
variable {l : Launch} {ω : WP} {d y pc pc' : Nat} {ls st st' r : List AV} {M : Mem} {Q : Post}
def fav (M : Mem) (p : Nat) (i : Int) (k : Nat) : AV := match fkt (SHt p).2.1 k with
  | 0 => vI (M p i k)
  | 3 => vI (M p i k)
  | 1 => vL (M p i k)
  | _ => vR (rft p k) i
theorem fav_cv (ω : WP) (M : Mem) (p : Nat) (i : Int) (k : Nat) : cvA ω (fav M p i k) = fvl ω M p i k := by
  unfold fav fvl
  rcases fkt (SHt p).2.1 k with _ | _ | _ | _ | n <;> rfl
theorem fav_ok {M : Mem} {p k : Nat} {i : Int} (hM : okM M) (h : (p, i) ∈ WL) (h0 : (SHt p).1 = 0) (hk : k < nft (SHt p).2.1) : okA (fav M p i k) := by
  have hm := hM p i k
  have e : kdt p k = fkt (SHt p).2.1 k := by
    unfold kdt
    rw [h0]
    simp
  rw [e] at hm
  have hr := rf_ok (p := p) (k := k) (mem_WL.mp h).1 h0 hk
  unfold fav
  cases hf : fkt (SHt p).2.1 k with
  | zero => rw [hf] at hm; exact hm
  | succ n =>
    rw [hf] at hm hr
    match n, hm, hr with
    | 0, hm, _ => exact hm
    | 1, _, hr =>
      have h2 := hr (by omega) (by omega) (by omega)
      have h3 := mem_WL.mp h
      exact okR (mem_WL.mpr ⟨h2.1, h3.2.1, by omega⟩)
    | 2, hm, _ => 
      have h4 : M p i k = 0 ∨ M p i k = 1 := hm
      show in32 _
      unfold in32
      omega
    | n + 3, _, hr =>
      have h2 := hr (by omega) (by omega) (by omega)
      have h3 := mem_WL.mp h
      exact okR (mem_WL.mpr ⟨h2.1, h3.2.1, by omega⟩)
theorem wde_obj {ω : WP} {M : Mem} {p : Nat} {i : Int} (h0 : (SHt p).1 = 0) : wde ω M p i = .inr ((SHt p).2.1, (List.range (nft (SHt p).2.1)).map (fvl ω M p i)) := by
  unfold wde
  rw [h0]
  rfl
theorem s_getfield {idx a b p : Nat} {i : Int} (hd : decode (byt y) pc = .ok (.getfield idx, 3)) (ha : a < 13) (hb : b < nft a) (hw : Jvm.Cond.fieldLink (owt y) idx (TXt a b).1 (TXt a b).2.1 (TXt a b).2.2.1 ∈ wsA) (h0 : (SHt p).1 = 0) (h1 : (SHt p).2.1 = a) (h : Vx l ω d y (pc + 3) ls (fav M p i b :: r) M Q) : Vx l ω d y pc ls (vR p i :: r) M Q := by
  intro pg e s m args below meth c A C H locs lsC ⟨hM, hls, hst, hl, hP, hD, hS⟩
  have hin := (okL_cons.mp hst).1.1 (by omega)
  obtain ⟨q0, hq, hq2⟩ := wd_at ω M hin
  rw [wde_obj h0, h1] at hq2
  have k := h pg e s m args below meth c A C H locs lsC ⟨hM, hls, okL_cons.mpr ⟨fav_ok hM hin h0 (by rw [h1]; exact hb), (okL_cons.mp hst).2⟩, hl, hP, hD, hS⟩
  have k : W _ _ _ _ _ _ _ _ _ _ _ _ _ _ _ (F0 m (pc + 3) lsC (cvA ω (fav M p i b) :: r.map (cvA ω))) := k
  rw [fav_cv] at k
  refine va_get C.1 C.2.1 (C := RXt a) (T := TXt a) (N := nft a) (ci := a) C.2.2.2.2.2.2.1 (uws_in ha) C.2.2.2.2.2.1 C.2.2.2.2.2.2.2.1.1 hP q0 hq2 (clx_at a ha) b hb (C.2.2.2.2.2.2.1 _ hw) (fun _ z => z) (v := fvl ω M p i b) ?_ hd k
  rw [List.getElem?_map, List.getElem?_range hb]
  rfl
theorem fvl_ne {ω : WP} {M : Mem} {p : Nat} {i x : Int} {b k : Nat} (hk : ¬ k = b) : fvl ω (mset M p i b x) p i k = fvl ω M p i k := by
  unfold fvl
  rw [mset_nej i (show ¬ (k : Int) = (b : Int) by omega)]
theorem put_world {ω : WP} {M : Mem} {A : Nat → Prop} {p q0 b : Nat} {i x : Int} {v : Value} (hD : va_D A (wd ω M)) (hq : WL[q0]? = some (p, i)) (h0 : (SHt p).1 = 0) (hb : b < nft (SHt p).2.1) (hv : fvl ω (mset M p i b x) p i b = v) :
    (wd ω M).set q0 (ω.2.1 p i, .inr ((SHt p).2.1, ((List.range (nft (SHt p).2.1)).map (fvl ω M p i)).set b v)) = wd ω (mset M p i b x) := by
  refine wd_set hD hq ?_ (fun p' i' h => wde_ne p' i' h)
  rw [wde_obj h0]
  congr 2
  apply List.ext_getElem?
  intro k
  by_cases hk : k = b
  · subst hk
    rw [List.getElem?_set_self (by simpa using hb), List.getElem?_map, List.getElem?_range hb, ← hv]
    rfl
  · rw [List.getElem?_set_ne (Ne.symm hk), List.getElem?_map, List.getElem?_map]
    by_cases hl : k < nft (SHt p).2.1
    · rw [List.getElem?_range hl]
      show some _ = some _
      rw [fvl_ne hk]
    · rw [List.getElem?_eq_none (by simpa using hl)]
      rfl
/-- a store in a field, of a value of its kind -/
theorem s_putfield {idx a b p : Nat} {i x : Int} {v : AV} (hd : decode (byt y) pc = .ok (.putfield idx, 3)) (ha : a < 13) (hb : b < nft a) (hfin : (TXt a b).2.2.2 = false) (hw : Jvm.Cond.fieldLink (owt y) idx (TXt a b).1 (TXt a b).2.1 (TXt a b).2.2.1 ∈ wsA) (h0 : (SHt p).1 = 0) (h1 : (SHt p).2.1 = a)
    (hn : okA v → narrow (tyt a b) (cvA ω v) = cvA ω v ∧ fits (tyt a b) (cvA ω v) = true ∧ okv (fkt a b) x) (hv : fvl ω (mset M p i b x) p i b = cvA ω v) (h : Vx l ω d y (pc + 3) ls r (mset M p i b x) Q) : Vx l ω d y pc ls (v :: vR p i :: r) M Q := by
  intro pg e s m args below meth c A C H locs lsC ⟨hM, hls, hst, hl, hP, hD, hS⟩
  have hin := (okL_cons.mp (okL_cons.mp hst).2).1.1 (by omega)
  obtain ⟨hn1, hn2, hn3⟩ := hn (okL_cons.mp hst).1
  obtain ⟨q0, hq, hq2⟩ := wd_at ω M hin
  rw [wde_obj h0, h1] at hq2
  have hM' : okM (mset M p i b x) := mset_ok hM (by
    have e : kdt p (b : Int) = fkt (SHt p).2.1 b := by
      unfold kdt
      rw [h0]
      simp
    rw [e, h1]
    exact hn3)
  have hbl : b < ((List.range (nft a)).map (fvl ω M p i)).length := by simpa using hb
  refine va_put C.1 C.2.1 (C := RXt a) (T := TXt a) (N := nft a) (ci := a) C.2.2.2.2.2.2.1 (uws_in ha) (tyt a) (tyt_ok a ha) (nmt_ok a ha) C.2.2.2.2.2.1 C.2.2.2.2.2.2.2.1.1 hP hD hS q0 hq2 (clx_at a ha) b hb (C.2.2.2.2.2.2.1 _ hw) (fun _ z => z) hfin (tyt_ok a ha b hb) hn1 hn2 hbl hd (fun H1 locs1 hP1 hD1 hS1 => ?_)
  have ew := put_world (x := x) hD hq h0 (by rw [h1]; exact hb) hv
  rw [h1] at ew
  rw [ew] at hP1 hD1
  exact h pg e s m args below meth c A C H1 locs1 lsC ⟨hM', hls, (okL_cons.mp (okL_cons.mp hst).2).2, hl, hP1, hD1, hS1⟩
end MEMR
