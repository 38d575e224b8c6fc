/-! ===== the run's condition is enough ===== -/
def tby (y pc : Nat) : Option Ent := bif Nat.blt y 300 then tbx y pc else none
theorem noT : ∀ y, y < 300 → (y ∈ ckl ∨ ((List.range (lnt y)).all fun pc => (tbt y pc).isNone) = true) := by decide +kernel
theorem tby_chk {y pc : Nat} {e : Ent} (h : tby y pc = some e) : chk y pc e = true ∧ y ∈ ckl := by
  unfold tby at h
  cases hy : Nat.blt y 300 with
  | false => rw [hy] at h; cases h
  | true =>
    rw [hy] at h
    have h : tbx y pc = some e := h
    have hy : y < 300 := Nat.le_of_ble_eq_true hy
    rcases noT y hy with hin | hno
    · exact ⟨chkT_sp (cka y hin) h, hin⟩
    · exfalso
      unfold tbx at h
      cases hb : Nat.blt pc (lnt y) with
      | false => rw [hb] at h; cases h
      | true =>
        rw [hb] at h
        have h : tbt y pc = some e := h
        have := List.all_eq_true.mp hno pc (List.mem_range.mpr (Nat.le_of_ble_eq_true hb))
        rw [h] at this
        cases this
abbrev Env1 : Type := Nat → Option (Nat × Spec1)
abbrev wpx (G : Env1) := wpG SHt fkt rkt szk roX tby mxt G
def GOK (l : Launch) (ω : WP) (G : Env1) : Prop := ∀ y s, G y = some s → ∀ as M Q, s.2 as M Q → Vd l ω s.1 y as M Q
def plc : List Nat → List AV → Nat → AV
  | i :: is, v :: vs, j => bif Nat.beq j i then v else plc is vs j
  | _, _, _ => vU
def plcL (n : Nat) (is : List Nat) (vs : List AV) : List AV := (List.range n).map (plc is vs)
def CutOK (l : Launch) (ω : WP) (d y : Nat) (cut : Nat → Option Cut1) (Q : Post) : Prop := ∀ pc c, cut pc = some c → ∀ vs M, c.2 vs M → Vx l ω d y pc (plcL (mxt y) c.1 vs) [] M Q
theorem gatK_sp : ∀ (is : List Nat) (ls : List AV) (k : List AV → Prop), gatK is ls k → ∃ vs, k vs ∧ ∀ j, isV (plc is vs j) → ls[j]? = some (plc is vs j)
  | [], ls, k, h => ⟨[], h, fun j hj => hj.elim⟩
  | i :: is, ls, k, h => by
    obtain ⟨a, ha, h⟩ := nthK_sp _ _ _ h
    obtain ⟨vs, h1, h2⟩ := gatK_sp is ls _ h
    refine ⟨a :: vs, h1, fun j hj => ?_⟩
    unfold plc at hj ⊢
    cases hb : Nat.beq j i with
    | true => rw [beq_eq hb]; exact ha
    | false => rw [hb] at hj; exact h2 j hj
section WPS
variable {l : Launch} {ω : WP}
theorem Vx.weak {d y pc : Nat} {ls ls' st : List AV} {M : Mem} {Q : Post} (hlen : ls'.length = mxt y) (hsub : ∀ (i : Nat) (a : AV), ls'[i]? = some a → isV a → ls[i]? = some a) (h : Vx l ω d y pc ls' st M Q) : Vx l ω d y pc ls st M Q := by
  intro pg e s m args below meth c A C H locs lsC ⟨hM, hls, hst, hl, hP, hD, hS⟩
  refine h pg e s m args below meth c A C H locs lsC ⟨hM, ?_, hst, ⟨hl.1, hlen, hl.2.2.1, fun i a h1 h2 => hl.2.2.2 i a (hsub i a h1 h2) h2⟩, hP, hD, hS⟩
  intro a ha
  obtain ⟨j, hj⟩ := List.getElem?_of_mem ha
  by_cases hV : isV a
  · exact okL_get hls (hsub j a hj hV)
  · rcases a with x | x | ⟨p, j⟩ | u
    · exact absurd trivial hV
    · exact absurd trivial hV
    · exact absurd trivial hV
    · exact trivial
theorem Vx.plc {d y pc : Nat} {ls : List AV} {is : List Nat} {vs : List AV} {M : Mem} {Q : Post} (hsub : ∀ j, isV (plc is vs j) → ls[j]? = some (plc is vs j)) (h : Vx l ω d y pc (plcL (mxt y) is vs) [] M Q) : Vx l ω d y pc ls [] M Q := by
  refine Vx.weak (by simp [plcL]) (fun i a h1 h2 => ?_) h
  unfold plcL at h1
  rw [List.getElem?_map] at h1
  cases hr : (List.range (mxt y))[i]? with
  | none => rw [hr] at h1; cases h1
  | some j =>
    rw [hr] at h1
    have hj : j = i := by
      have := List.getElem?_eq_some_iff.mp hr
      obtain ⟨_, h⟩ := this
      simp at h
      exact h.symm
    subst hj
    cases h1
    exact hsub _ h2
theorem wp_sound {G : Env1} (hG : GOK l ω G) : ∀ (n d y : Nat) (cut : Nat → Option Cut1) (first : Bool) (pc : Nat) (ls st : List AV) (M : Mem) (Q : Post), CutOK l ω d y cut Q → wpx G n d y cut first pc ls st M Q → Vx l ω d y pc ls st M Q
  | 0, _, _, _, _, _, _, _, _, _, _, h => by
    unfold wpx wpG at h
    exact h.elim
  | n + 1, d, y, cut, first, pc, ls, st, M, Q, hC, h => by
    unfold wpx wpG at h
    cases hcut : (bif first then none else cut pc) with
    | some c =>
      rw [hcut] at h
      cases st with
      | cons _ _ => exact h.elim
      | nil =>
        obtain ⟨vs, h1, h2⟩ := gatK_sp _ _ _ h
        have hc : cut pc = some c := by
          cases first with
          | true => cases hcut
          | false => exact hcut
        exact Vx.plc h2 (hC pc c hc vs M h1)
    | none =>
      rw [hcut] at h
      cases he : tby y pc with
      | none => simp only [he] at h
      | some e =>
        simp only [he] at h
        refine stp_sound (tby_chk he).1 h (fun pc' ls' st' M' hk => wp_sound hG n d y cut false pc' ls' st' M' Q hC hk) (fun y' as M' Q' hq => ?_)
        cases d with
        | zero => exact hq.elim
        | succ d' =>
          cases hg : G y' with
          | some s =>
            simp only [hg] at hq
            cases hb : Nat.ble s.1 d' with
            | false => rw [hb] at hq; exact hq.elim
            | true =>
              rw [hb] at hq
              exact ⟨s.1, Nat.succ_le_succ (Nat.le_of_ble_eq_true hb), hG y' s hg as M' Q' hq⟩
          | none =>
            simp only [hg] at hq
            refine ⟨d', Nat.le_refl _, ?_⟩
            have hq' := padK_mono _ _ _ (fun ls' => Vx l ω d' y' 0 ls' [] M' Q') (fun ls' z => wp_sound hG n d' y' (fun _ => none) true 0 ls' [] M' Q' (fun _ _ z => by cases z) z) hq
            by_cases hin : y' ∈ ckl
            · exact Vd_of (plain_all y' hin).1 (plain_all y' hin).2 hq'
            · exfalso
              obtain ⟨ls', h1, -⟩ := padK_sp ω _ _ _ hq
              cases n with
              | zero => unfold wpG at h1; exact h1.elim
              | succ n =>
                unfold wpG at h1
                simp only [cond_true] at h1
                cases he2 : tby y' 0 with
                | none => simp only [he2] at h1
                | some e2 => exact hin (tby_chk he2).2
theorem Vd_wp {G : Env1} (hG : GOK l ω G) {n d y : Nat} {cut : Nat → Option Cut1} {as : List AV} {M : Mem} {Q : Post} (hy : y ∈ ckl) (hC : CutOK l ω d y cut Q) (h : padK (mxt y) as (fun ls' => wpx G n d y cut true 0 ls' [] M Q)) : Vd l ω d y as M Q :=
  Vd_of (plain_all y hy).1 (plain_all y hy).2 (padK_mono _ _ _ _ (fun ls' z => wp_sound hG n d y cut true 0 ls' [] M Q hC z) h)
theorem GOK_none : GOK l ω (fun _ => none) := fun _ _ h => by cases h
theorem CutOK_none {d y : Nat} {Q : Post} : CutOK l ω d y (fun _ => none) Q := fun _ _ h => by cases h
end WPS
