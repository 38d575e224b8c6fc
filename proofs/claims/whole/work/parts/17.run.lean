/-! ===== the run's condition once more, by the recursor itself: what the elaborator leaves of it is what the kernel leaves of it ===== -/
abbrev WF : Type := Nat → Nat → (Nat → Option Cut1) → Bool → Nat → List AV → List AV → Mem → Post → Prop
def wpZ : WF := fun _ _ _ _ _ _ _ _ _ => False
def wpS (G : Env1) (ih : WF) : WF := fun d y cut first pc ls st M Q =>
  match (bif first then none else cut pc) with
  | some c => match st with
    | [] => gatK c.1 ls (fun vs => c.2 vs M)
    | _ :: _ => False
  | none => match tby y pc with
    | none => False
    | some e => stp SHt fkt rkt szk roX (lfd d) e ls st M (fun pc' ls' st' M' => ih d y cut false pc' ls' st' M' Q) Q
      (fun y' as M' Q' => match d with
        | 0 => False
        | d' + 1 => match G y' with
          | some s => match Nat.ble s.1 d' with
            | true => s.2 as M' Q'
            | false => False
          | none => padK (mxt y') as (fun ls' => ih d' y' (fun _ => none) true 0 ls' [] M' Q'))
def wpH (G : Env1) (n : Nat) : WF := Nat.rec (motive := fun _ => WF) wpZ (fun _ ih => wpS G ih) n
theorem wpH_eq (G : Env1) : ∀ n : Nat, wpH G n = wpx G n
  | 0 => by
    funext d y cut first pc ls st M Q
    unfold wpx wpG
    rfl
  | n + 1 => by
    have ih := wpH_eq G n
    funext d y cut first pc ls st M Q
    show wpS G (wpH G n) d y cut first pc ls st M Q = _
    rw [ih]
    unfold wpS wpx
    conv => rhs; unfold wpG
    rfl
section RUNS
variable {l : Launch} {ω : WP}
theorem Vd_run {G : Env1} (hG : GOK l ω G) (n : Nat) {d y : Nat} {cut : Nat → Option Cut1} {as : List AV} {M : Mem} {Q : Post} (hy : y ∈ ckl) (hC : CutOK l ω d y cut Q) (h : padK (mxt y) as (fun ls' => wpH G n d y cut true 0 ls' [] M Q)) : Vd l ω d y as M Q := by
  refine Vd_wp hG (n := n) hy hC ?_
  rw [wpH_eq] at h
  exact h
theorem Vx_run {G : Env1} (hG : GOK l ω G) (n : Nat) {d y pc : Nat} {cut : Nat → Option Cut1} {ls st : List AV} {M : Mem} {Q : Post} (hC : CutOK l ω d y cut Q) (h : wpH G n d y cut true pc ls st M Q) : Vx l ω d y pc ls st M Q := by
  rw [wpH_eq] at h
  exact wp_sound hG n d y cut true pc ls st M Q hC h
end RUNS
