/-! ===== one step, a run: the condition of the abstract machine is enough (by wip/gen/sound.py) ===== -/
theorem band {a b : Bool} (h : (a && b) = true) : a = true ∧ b = true := by simpa using h
theorem dlen {y pc nxt n : Nat} {ins : Instr} (hd : decode (byt y) pc = .ok (ins, nxt - pc)) (hn : Nat.beq nxt (pc + n) = true) : decode (byt y) pc = .ok (ins, n) ∧ nxt = pc + n := by
  have e := beq_eq hn
  subst e
  rw [Nat.add_sub_cancel_left] at hd
  exact ⟨hd, rfl⟩
theorem i1_sp {st : List AV} {f : Int → List AV → Prop} (h : i1 st f) : ∃ x r, st = vI x :: r ∧ f x r := by
  unfold i1 at h
  split at h
  · exact ⟨_, _, rfl, h⟩
  · exact h.elim
theorem ii_sp {st : List AV} {f : Int → Int → List AV → Prop} (h : ii st f) : ∃ x z r, st = vI z :: vI x :: r ∧ f x z r := by
  unfold ii at h
  split at h
  · exact ⟨_, _, _, rfl, h⟩
  · exact h.elim
theorem l1_sp {st : List AV} {f : Int → List AV → Prop} (h : l1 st f) : ∃ x r, st = vL x :: r ∧ f x r := by
  unfold l1 at h
  split at h
  · exact ⟨_, _, rfl, h⟩
  · exact h.elim
theorem ll_sp {st : List AV} {f : Int → Int → List AV → Prop} (h : ll st f) : ∃ x z r, st = vL z :: vL x :: r ∧ f x z r := by
  unfold ll at h
  split at h
  · exact ⟨_, _, _, rfl, h⟩
  · exact h.elim
theorem li_sp {st : List AV} {f : Int → Int → List AV → Prop} (h : li st f) : ∃ x z r, st = vI z :: vL x :: r ∧ f x z r := by
  unfold li at h
  split at h
  · exact ⟨_, _, _, rfl, h⟩
  · exact h.elim
theorem r1_sp {st : List AV} {f : Nat → Int → List AV → Prop} (h : r1 st f) : ∃ p i r, st = vR p i :: r ∧ f p i r := by
  unfold r1 at h
  split at h
  · exact ⟨_, _, _, rfl, h⟩
  · exact h.elim
theorem ri_sp {st : List AV} {f : Nat → Int → Int → List AV → Prop} (h : ri st f) : ∃ p i j r, st = vI j :: vR p i :: r ∧ f p i j r := by
  unfold ri at h
  split at h
  · exact ⟨_, _, _, _, rfl, h⟩
  · exact h.elim
theorem rii_sp {st : List AV} {f : Nat → Int → Int → Int → List AV → Prop} (h : rii st f) : ∃ p i j x r, st = vI x :: vI j :: vR p i :: r ∧ f p i j x r := by
  unfold rii at h
  split at h
  · exact ⟨_, _, _, _, _, rfl, h⟩
  · exact h.elim
theorem ril_sp {st : List AV} {f : Nat → Int → Int → Int → List AV → Prop} (h : ril st f) : ∃ p i j x r, st = vL x :: vI j :: vR p i :: r ∧ f p i j x r := by
  unfold ril at h
  split at h
  · exact ⟨_, _, _, _, _, rfl, h⟩
  · exact h.elim
theorem riri_sp {st : List AV} {f : Nat → Int → Int → Nat → Int → Int → Int → List AV → Prop} (h : riri st f) : ∃ p i s q j dd n r, st = vI n :: vI dd :: vR q j :: vI s :: vR p i :: r ∧ f p i s q j dd n r := by
  unfold riri at h
  split at h
  · exact ⟨_, _, _, _, _, _, _, _, rfl, h⟩
  · exact h.elim
theorem isI_sp {z : AV} {k : Int → Prop} (h : isI z k) : ∃ x, z = vI x ∧ k x := by
  unfold isI at h
  split at h
  · exact ⟨_, rfl, h⟩
  · exact h.elim
theorem setI_mono : ∀ (ls : List AV) (i : Nat) (v : AV) (k k' : List AV → Prop), (∀ l, k l → k' l) → setI ls i v k → setI ls i v k'
  | [], _, _, _, _, _, h => h.elim
  | a :: l, 0, v, k, k', hk, h => by
    have h : k (v :: l) := by simpa [setI] using h
    have h' := hk _ h
    simpa [setI] using h'
  | a :: l, 1, v, k, k', hk, h => by
    rcases a with x | x | z
    · exact setI_mono l 0 v (fun l' => k (vI x :: l')) _ (fun _ q => hk _ q) h
    · exact setI_mono l 0 v (fun l' => k (vU :: l')) _ (fun _ q => hk _ q) h
    · exact setI_mono l 0 v (fun l' => k (.inr (.inr z) :: l')) _ (fun _ q => hk _ q) h
  | a :: l, i + 2, v, k, k', hk, h => by
    have h : setI l (i + 1) v (fun l' => k (a :: l')) := by simpa only [setI] using h
    have h' := setI_mono l (i + 1) v (fun l' => k (a :: l')) (fun l' => k' (a :: l')) (fun _ q => hk _ q) h
    simpa only [setI] using h'
theorem setL_mono : ∀ (ls : List AV) (i : Nat) (v : AV) (k k' : List AV → Prop), (∀ l, k l → k' l) → setL ls i v k → setL ls i v k'
  | [], _, _, _, _, _, h => h.elim
  | [_], _, _, _, _, _, h => h.elim
  | a :: b :: l, 0, v, k, k', hk, h => by
    have h : k (v :: vU :: l) := by simpa [setL] using h
    have h' := hk _ h
    simpa [setL] using h'
  | a :: b :: l, 1, v, k, k', hk, h => by
    rcases a with x | x | z
    · exact setL_mono (b :: l) 0 v (fun l' => k (vI x :: l')) _ (fun _ q => hk _ q) h
    · exact setL_mono (b :: l) 0 v (fun l' => k (vU :: l')) _ (fun _ q => hk _ q) h
    · exact setL_mono (b :: l) 0 v (fun l' => k (.inr (.inr z) :: l')) _ (fun _ q => hk _ q) h
  | a :: b :: l, i + 2, v, k, k', hk, h => by
    have h : setL (b :: l) (i + 1) v (fun l' => k (a :: l')) := by simpa only [setL] using h
    have h' := setL_mono (b :: l) (i + 1) v (fun l' => k (a :: l')) (fun l' => k' (a :: l')) (fun _ q => hk _ q) h
    simpa only [setL] using h'
theorem padK_mono : ∀ (n : Nat) (as : List AV) (k k' : List AV → Prop), (∀ l, k l → k' l) → padK n as k → padK n as k'
  | 0, [], k, k', hk, h => hk _ h
  | 0, _ :: _, _, _, _, h => h.elim
  | n + 1, [], k, k', hk, h => by
    have h : padK n [] (fun l => k (vU :: l)) := by cases n <;> exact h
    have h' := padK_mono n [] _ (fun l => k' (vU :: l)) (fun _ q => hk _ q) h
    cases n <;> exact h'
  | n + 1, .inl x :: r, k, k', hk, h => by
    have h : padK n r (fun l => k (vI x :: l)) := by cases n <;> exact h
    have h' := padK_mono n r _ (fun l => k' (vI x :: l)) (fun _ q => hk _ q) h
    cases n <;> exact h'
  | 1, .inr (.inl _) :: _, _, _, _, h => h.elim
  | n + 2, .inr (.inl x) :: r, k, k', hk, h => padK_mono n r (fun l => k (vL x :: vU :: l)) (fun l => k' (vL x :: vU :: l)) (fun _ q => hk _ q) h
  | n + 1, .inr (.inr z) :: r, k, k', hk, h => by
    have h : padK n r (fun l => k (.inr (.inr z) :: l)) := by cases n <;> exact h
    have h' := padK_mono n r _ (fun l => k' (.inr (.inr z) :: l)) (fun _ q => hk _ q) h
    cases n <;> exact h'
theorem swK_sp {x : Int} {k : Nat → Prop} {kd : Prop} : ∀ (ts : List (Int × Nat)), swK ts x k kd → (∃ t, (x, t) ∈ ts ∧ k t) ∨ ((∀ t, (x, t) ∉ ts) ∧ kd)
  | [], h => Or.inr ⟨fun t h => (by cases h), h⟩
  | (v, t) :: l, h => by
    by_cases e : x = v
    · exact Or.inl ⟨t, by rw [e]; exact List.mem_cons_self, h.1 e⟩
    · rcases swK_sp l (h.2 e) with ⟨t', h1, h2⟩ | ⟨h1, h2⟩
      · exact Or.inl ⟨t', List.mem_cons_of_mem _ h1, h2⟩
      · refine Or.inr ⟨fun t' ht => ?_, h2⟩
        rcases List.mem_cons.mp ht with q | q
        · cases q; exact e rfl
        · exact h1 t' q
theorem swK_mono {x : Int} {k k' : Nat → Prop} {kd kd' : Prop} (hk : ∀ t, k t → k' t) (hkd : kd → kd') : ∀ (ts : List (Int × Nat)), swK ts x k kd → swK ts x k' kd'
  | [], h => hkd h
  | (v, t) :: l, h => ⟨fun z => hk _ (h.1 z), fun z => swK_mono hk hkd l (h.2 z)⟩
theorem no13 (p : Nat) (h0 : (SHt p).1 = 0) (h1 : (SHt p).2.1 = 13) : False := by
  rcases Nat.lt_or_ge p 1012 with h | h
  · have key : ∀ p, p < 1012 → ¬ ((SHt p).1 = 0 ∧ (SHt p).2.1 = 13) := by decide +kernel
    exact key p h ⟨h0, h1⟩
  · have hb : ∀ c, c ≤ 1012 → Nat.blt p c = false := fun c hc => by
      cases e : Nat.blt p c with
      | false => rfl
      | true => have := Nat.le_of_ble_eq_true e; omega
    have he : ∀ c, c < 1012 → Nat.beq p c = false := fun c hc => beq_ne (by omega)
    unfold SHt at h0
    simp (disch := omega) only [hb, he, cond_false] at h0
    omega
theorem nar_char {x : Int} (h0 : 0 ≤ x) (h1 : x < 65536) : narrow .char (.int (Int32.ofInt x)) = .int (Int32.ofInt x) := by
  have hu : (Int32.ofInt x).toUInt32.toNat = x.toNat := by
    show (Int32.ofInt x).toBitVec.toNat = _
    rw [Int32.toBitVec_ofInt, BitVec.toNat_ofInt]
    omega
  have e : (Int32.ofInt x).toUInt32.toUInt16.toUInt32 = (Int32.ofInt x).toUInt32 := by
    apply UInt32.toNat_inj.mp
    rw [UInt16.toNat_toUInt32, UInt32.toNat_toUInt16, hu]
    omega
  show Value.int (Int32.ofInt x).toUInt32.toUInt16.toUInt32.toInt32 = _
  rw [e]
  rfl
theorem nar_byte {x : Int} (h0 : -128 ≤ x) (h1 : x < 128) : narrow .byte (.int (Int32.ofInt x)) = .int (Int32.ofInt x) := by
  have hx : in32 x := by unfold in32; omega
  show Value.int (Int32.ofInt x).toInt8.toInt32 = _
  rw [i2b_of hx, show (x + 128) % 256 - 128 = x by omega]
theorem lfd_of {d k : Nat} {r : List AV} {P : Prop} (h1 : k ≤ d) (h2 : csum r ≤ 8) (h : P) : lfd d k r P := by
  unfold lfd
  rw [Nat.ble_eq_true_of_le h1, Nat.ble_eq_true_of_le h2]
  exact h
section SOUND
variable {l : Launch} {ω : WP} {d y pc : Nat} {ls st r : List AV} {M : Mem} {Q : Post}
theorem s_switch {dflt lo hi : Int} {offs : Array Int} {len dt : Nat} {ts : List (Int × Nat)} {x : Int} (hd : decode (byt y) pc = .ok (.tableswitch dflt lo hi offs, len)) (hdt : (pc : Int) + dflt = (dt : Int)) (hts : ts.map (fun q => (q.1, (q.2 : Int))) = (List.range offs.size).map (fun (i : Nat) => (lo + (i : Int), (pc : Int) + offs.getD i 0))) (hn : hi - lo + 1 = (offs.size : Int))
    (h : swK ts x (fun t => Vx l ω d y t ls r M Q) (Vx l ω d y dt ls r M Q)) : Vx l ω d y pc ls (vI x :: r) M Q := by
  intro pg e s m args below meth c A C H locs lsC ⟨hM, hls, hst, hl, hP, hD, hS⟩
  have hx : in32 x := (okL_cons.mp hst).1
  have hr : okL r := (okL_cons.mp hst).2
  rcases swK_sp ts h with ⟨t, ht, k⟩ | ⟨hno, k⟩
  · have h1 : (x, (t : Int)) ∈ ts.map (fun q => (q.1, (q.2 : Int))) := List.mem_map.mpr ⟨(x, t), ht, rfl⟩
    rw [hts] at h1
    obtain ⟨i, hi1, hi2⟩ := List.mem_map.mp h1
    have hi1 := List.mem_range.mp hi1
    have e1 : lo + (i : Int) = x := congrArg Prod.fst hi2
    have e2 : (pc : Int) + offs.getD i 0 = (t : Int) := congrArg Prod.snd hi2
    refine lv_tableIn (off := offs.getD i 0) (tgt := t) C.1 C.2.1 hd ?_ ?_ ?_ e2 (k pg e s m args below meth c A C H locs lsC ⟨hM, hls, hr, hl, hP, hD, hS⟩)
    · rw [o32_toInt hx]; omega
    · rw [o32_toInt hx]; omega
    · rw [o32_toInt hx, show (x - lo).toNat = i by omega, Array.getElem?_eq_getElem hi1]
      simp [Array.getD, hi1]
  · refine lv_tableOut (tgt := dt) C.1 C.2.1 hd ?_ hdt (k pg e s m args below meth c A C H locs lsC ⟨hM, hls, hr, hl, hP, hD, hS⟩)
    rw [o32_toInt hx]
    by_cases hlo : x < lo
    · exact Or.inl hlo
    · refine Or.inr (Int.not_le.mp fun hhi => ?_)
      have h1 : (x, (pc : Int) + offs.getD (x - lo).toNat 0) ∈ (List.range offs.size).map (fun (i : Nat) => (lo + (i : Int), (pc : Int) + offs.getD i 0)) :=
        List.mem_map.mpr ⟨(x - lo).toNat, List.mem_range.mpr (by omega), by rw [show lo + ((x - lo).toNat : Int) = x by omega]⟩
      rw [← hts] at h1
      obtain ⟨q, hq, he⟩ := List.mem_map.mp h1
      have : q.1 = x := congrArg Prod.fst he
      exact hno q.2 (by rw [← this]; exact hq)
set_option maxRecDepth 20000 in
theorem stp_sound {e : Ent} {k : Nat → List AV → List AV → Mem → Prop} {call : Nat → List AV → Mem → Post → Prop} (hc : chk y pc e = true) (h : stp SHt fkt rkt szk roX (lfd d) e ls st M k Q call)
    (hk : ∀ pc' ls' st' M', k pc' ls' st' M' → Vx l ω d y pc' ls' st' M' Q) (hcall : ∀ y' as M' Q', call y' as M' Q' → ∃ d', d' + 1 ≤ d ∧ Vd l ω d' y' as M' Q') : Vx l ω d y pc ls st M Q := by
  obtain ⟨ins, nxt, a, b, v, w, ts⟩ := e
  obtain ⟨hd0, hi⟩ := band (show (decide (decode (byt y) pc = .ok (ins, nxt - pc)) && chkI y pc ins nxt a b v w ts) = true from hc)
  have hd := of_decide_eq_true hd0
  clear hd0
  unfold stp at h
  cases ins <;> dsimp only at h
  case iconst n =>
    obtain ⟨h1, h2⟩ := band hi
    obtain ⟨hd', rfl⟩ := dlen hd h1
    obtain ⟨h3, h4⟩ := band h2
    exact s_iconst hd' (by rw [of_decide_eq_true h3]) (i32B_in h4) (hk _ _ _ _ h)
  case bipush n =>
    obtain ⟨h1, h2⟩ := band hi
    obtain ⟨hd', rfl⟩ := dlen hd h1
    obtain ⟨h3, h4⟩ := band h2
    exact s_bipush hd' (of_decide_eq_true h3) (i32B_in h4) (hk _ _ _ _ h)
  case sipush n =>
    obtain ⟨h1, h2⟩ := band hi
    obtain ⟨hd', rfl⟩ := dlen hd h1
    obtain ⟨h3, h4⟩ := band h2
    exact s_sipush hd' (of_decide_eq_true h3) (i32B_in h4) (hk _ _ _ _ h)
  case lconst n =>
    obtain ⟨h1, h2⟩ := band hi
    obtain ⟨hd', rfl⟩ := dlen hd h1
    obtain ⟨h3, h4⟩ := band h2
    exact s_lconst hd' (of_decide_eq_true h3) (i64B_in h4) (hk _ _ _ _ h)
  case ldc i =>
    obtain ⟨h1, h2⟩ := band hi
    obtain ⟨hd', rfl⟩ := dlen hd h1
    cases b with
    | zero =>
      obtain ⟨h3, h4⟩ := band h2
      exact s_ldc hd' (wat_in h3) (i32B_in h4) (hk _ _ _ _ h)
    | succ b => exact s_ldcS (w := 0) hd' h2 (hk _ _ _ _ h)
  case ldc_w i =>
    obtain ⟨h1, h2⟩ := band hi
    obtain ⟨hd', rfl⟩ := dlen hd h1
    obtain ⟨h3, h4⟩ := band h2
    exact s_ldc_w hd' (wat_in h3) (i32B_in h4) (hk _ _ _ _ h)
  case ldc2_w i =>
    obtain ⟨h1, h2⟩ := band hi
    obtain ⟨hd', rfl⟩ := dlen hd h1
    obtain ⟨h3, h4⟩ := band h2
    exact s_ldc2_w hd' (wat_in h3) (i64B_in h4) (hk _ _ _ _ h)
  case iload i =>
    obtain ⟨h1, h2⟩ := band hi
    obtain ⟨hd', rfl⟩ := dlen hd h1
    have ha := beq_eq h2
    obtain ⟨z, hz, h3⟩ := nthK_sp _ _ _ h
    subst ha
    obtain ⟨x, rfl, h4⟩ := isI_sp h3
    exact s_iload hd' hz (hk _ _ _ _ h4)
  case iload_n n =>
    obtain ⟨h1, h2⟩ := band hi
    obtain ⟨hd', rfl⟩ := dlen hd h1
    have ha := beq_eq h2
    obtain ⟨z, hz, h3⟩ := nthK_sp _ _ _ h
    obtain ⟨x, rfl, h4⟩ := isI_sp h3
    exact s_iload_n hd' ha hz (hk _ _ _ _ h4)
  case lload i =>
    obtain ⟨h1, h2⟩ := band hi
    obtain ⟨hd', rfl⟩ := dlen hd h1
    have ha := beq_eq h2
    obtain ⟨z, hz, h3⟩ := nthK_sp _ _ _ h
    subst ha
    rcases z with x | x | ⟨p, i⟩ | u
    · exact h3.elim
    · exact s_lload hd' hz (hk _ _ _ _ h3)
    · exact h3.elim
    · exact h3.elim
  case lload_n n =>
    obtain ⟨h1, h2⟩ := band hi
    obtain ⟨hd', rfl⟩ := dlen hd h1
    have ha := beq_eq h2
    obtain ⟨z, hz, h3⟩ := nthK_sp _ _ _ h
    rcases z with x | x | ⟨p, i⟩ | u
    · exact h3.elim
    · exact s_lload_n hd' ha hz (hk _ _ _ _ h3)
    · exact h3.elim
    · exact h3.elim
  case aload i =>
    obtain ⟨h1, h2⟩ := band hi
    obtain ⟨hd', rfl⟩ := dlen hd h1
    have ha := beq_eq h2
    obtain ⟨z, hz, h3⟩ := nthK_sp _ _ _ h
    subst ha
    rcases z with x | x | ⟨p, i⟩ | u
    · exact h3.elim
    · exact h3.elim
    · exact s_aload hd' hz (hk _ _ _ _ h3)
    · exact h3.elim
  case aload_n n =>
    obtain ⟨h1, h2⟩ := band hi
    obtain ⟨hd', rfl⟩ := dlen hd h1
    have ha := beq_eq h2
    obtain ⟨z, hz, h3⟩ := nthK_sp _ _ _ h
    rcases z with x | x | ⟨p, i⟩ | u
    · exact h3.elim
    · exact h3.elim
    · exact s_aload_n hd' ha hz (hk _ _ _ _ h3)
    · exact h3.elim
  case istore j =>
    obtain ⟨h1, h2⟩ := band hi
    obtain ⟨hd', rfl⟩ := dlen hd h1
    have ha := beq_eq h2
    subst ha
    obtain ⟨x, r, rfl, hh⟩ := i1_sp h
    clear h
    have h := hh
    clear hh
    exact s_istore hd' (setI_mono _ _ _ _ _ (fun _ q => hk _ _ _ _ q) h)
  case istore_n n =>
    obtain ⟨h1, h2⟩ := band hi
    obtain ⟨hd', rfl⟩ := dlen hd h1
    have ha := beq_eq h2
    obtain ⟨x, r, rfl, hh⟩ := i1_sp h
    clear h
    have h := hh
    clear hh
    exact s_istore_n hd' ha (setI_mono _ _ _ _ _ (fun _ q => hk _ _ _ _ q) h)
  case lstore j =>
    obtain ⟨h1, h2⟩ := band hi
    obtain ⟨hd', rfl⟩ := dlen hd h1
    have ha := beq_eq h2
    subst ha
    obtain ⟨x, r, rfl, hh⟩ := l1_sp h
    clear h
    have h := hh
    clear hh
    exact s_lstore hd' (setL_mono _ _ _ _ _ (fun _ q => hk _ _ _ _ q) h)
  case lstore_n n =>
    obtain ⟨h1, h2⟩ := band hi
    obtain ⟨hd', rfl⟩ := dlen hd h1
    have ha := beq_eq h2
    obtain ⟨x, r, rfl, hh⟩ := l1_sp h
    clear h
    have h := hh
    clear hh
    exact s_lstore_n hd' ha (setL_mono _ _ _ _ _ (fun _ q => hk _ _ _ _ q) h)
  case astore j =>
    obtain ⟨h1, h2⟩ := band hi
    obtain ⟨hd', rfl⟩ := dlen hd h1
    have ha := beq_eq h2
    subst ha
    obtain ⟨p, i, r, rfl, hh⟩ := r1_sp h
    clear h
    have h := hh
    clear hh
    exact s_astore hd' (setI_mono _ _ _ _ _ (fun _ q => hk _ _ _ _ q) h)
  case astore_n n =>
    obtain ⟨h1, h2⟩ := band hi
    obtain ⟨hd', rfl⟩ := dlen hd h1
    have ha := beq_eq h2
    obtain ⟨p, i, r, rfl, hh⟩ := r1_sp h
    clear h
    have h := hh
    clear hh
    exact s_astore_n hd' ha (setI_mono _ _ _ _ _ (fun _ q => hk _ _ _ _ q) h)
  case iinc i n =>
    obtain ⟨h1, h2⟩ := band hi
    obtain ⟨hd', rfl⟩ := dlen hd h1
    obtain ⟨h3, h4⟩ := band h2
    have ha := beq_eq h3
    subst ha
    obtain ⟨z, hz, h5⟩ := nthK_sp _ _ _ h
    obtain ⟨x, rfl, h6⟩ := isI_sp h5
    exact s_iinc hd' (by rw [of_decide_eq_true h4]) hz (setI_mono _ _ _ _ _ (fun _ q => hk _ _ _ _ q) h6)
  case iadd =>
    obtain ⟨hd', rfl⟩ := dlen hd hi
    obtain ⟨x, z, r, rfl, hh⟩ := ii_sp h
    clear h
    have h := hh
    clear hh
    exact s_iadd hd' (hk _ _ _ _ h)
  case isub =>
    obtain ⟨hd', rfl⟩ := dlen hd hi
    obtain ⟨x, z, r, rfl, hh⟩ := ii_sp h
    clear h
    have h := hh
    clear hh
    exact s_isub hd' (hk _ _ _ _ h)
  case imul =>
    obtain ⟨hd', rfl⟩ := dlen hd hi
    obtain ⟨x, z, r, rfl, hh⟩ := ii_sp h
    clear h
    have h := hh
    clear hh
    exact s_imul hd' (hk _ _ _ _ h)
  case iand =>
    obtain ⟨hd', rfl⟩ := dlen hd hi
    obtain ⟨x, z, r, rfl, hh⟩ := ii_sp h
    clear h
    have h := hh
    clear hh
    exact s_iand hd' (hk _ _ _ _ h)
  case ior =>
    obtain ⟨hd', rfl⟩ := dlen hd hi
    obtain ⟨x, z, r, rfl, hh⟩ := ii_sp h
    clear h
    have h := hh
    clear hh
    exact s_ior hd' (hk _ _ _ _ h)
  case ixor =>
    obtain ⟨hd', rfl⟩ := dlen hd hi
    obtain ⟨x, z, r, rfl, hh⟩ := ii_sp h
    clear h
    have h := hh
    clear hh
    exact s_ixor hd' (hk _ _ _ _ h)
  case ishl =>
    obtain ⟨hd', rfl⟩ := dlen hd hi
    obtain ⟨x, z, r, rfl, hh⟩ := ii_sp h
    clear h
    have h := hh
    clear hh
    exact s_ishl hd' (hk _ _ _ _ h)
  case ishr =>
    obtain ⟨hd', rfl⟩ := dlen hd hi
    obtain ⟨x, z, r, rfl, hh⟩ := ii_sp h
    clear h
    have h := hh
    clear hh
    exact s_ishr hd' (hk _ _ _ _ h)
  case iushr =>
    obtain ⟨hd', rfl⟩ := dlen hd hi
    obtain ⟨x, z, r, rfl, hh⟩ := ii_sp h
    clear h
    have h := hh
    clear hh
    exact s_iushr hd' (hk _ _ _ _ h)
  case ladd =>
    obtain ⟨hd', rfl⟩ := dlen hd hi
    obtain ⟨x, z, r, rfl, hh⟩ := ll_sp h
    clear h
    have h := hh
    clear hh
    exact s_ladd hd' (hk _ _ _ _ h)
  case lsub =>
    obtain ⟨hd', rfl⟩ := dlen hd hi
    obtain ⟨x, z, r, rfl, hh⟩ := ll_sp h
    clear h
    have h := hh
    clear hh
    exact s_lsub hd' (hk _ _ _ _ h)
  case lmul =>
    obtain ⟨hd', rfl⟩ := dlen hd hi
    obtain ⟨x, z, r, rfl, hh⟩ := ll_sp h
    clear h
    have h := hh
    clear hh
    exact s_lmul hd' (hk _ _ _ _ h)
  case land =>
    obtain ⟨hd', rfl⟩ := dlen hd hi
    obtain ⟨x, z, r, rfl, hh⟩ := ll_sp h
    clear h
    have h := hh
    clear hh
    exact s_land hd' (hk _ _ _ _ h)
  case lor =>
    obtain ⟨hd', rfl⟩ := dlen hd hi
    obtain ⟨x, z, r, rfl, hh⟩ := ll_sp h
    clear h
    have h := hh
    clear hh
    exact s_lor hd' (hk _ _ _ _ h)
  case lcmp =>
    obtain ⟨hd', rfl⟩ := dlen hd hi
    obtain ⟨x, z, r, rfl, hh⟩ := ll_sp h
    clear h
    have h := hh
    clear hh
    exact s_lcmp hd' (hk _ _ _ _ h)
  case lshr =>
    obtain ⟨hd', rfl⟩ := dlen hd hi
    obtain ⟨x, z, r, rfl, hh⟩ := li_sp h
    clear h
    have h := hh
    clear hh
    exact s_lshr hd' (hk _ _ _ _ h)
  case idiv =>
    obtain ⟨hd', rfl⟩ := dlen hd hi
    obtain ⟨x, z, r, rfl, hh⟩ := ii_sp h
    clear h
    have h := hh
    clear hh
    exact s_idiv hd' h.1 (hk _ _ _ _ h.2)
  case irem =>
    obtain ⟨hd', rfl⟩ := dlen hd hi
    obtain ⟨x, z, r, rfl, hh⟩ := ii_sp h
    clear h
    have h := hh
    clear hh
    exact s_irem hd' h.1 (hk _ _ _ _ h.2)
  case ldiv =>
    obtain ⟨hd', rfl⟩ := dlen hd hi
    obtain ⟨x, z, r, rfl, hh⟩ := ll_sp h
    clear h
    have h := hh
    clear hh
    exact s_ldiv hd' h.1 (hk _ _ _ _ h.2)
  case lrem =>
    obtain ⟨hd', rfl⟩ := dlen hd hi
    obtain ⟨x, z, r, rfl, hh⟩ := ll_sp h
    clear h
    have h := hh
    clear hh
    exact s_lrem hd' h.1 (hk _ _ _ _ h.2)
  case ineg =>
    obtain ⟨hd', rfl⟩ := dlen hd hi
    obtain ⟨x, r, rfl, hh⟩ := i1_sp h
    clear h
    have h := hh
    clear hh
    exact s_ineg hd' (hk _ _ _ _ h)
  case i2l =>
    obtain ⟨hd', rfl⟩ := dlen hd hi
    obtain ⟨x, r, rfl, hh⟩ := i1_sp h
    clear h
    have h := hh
    clear hh
    exact s_i2l hd' (hk _ _ _ _ h)
  case i2b =>
    obtain ⟨hd', rfl⟩ := dlen hd hi
    obtain ⟨x, r, rfl, hh⟩ := i1_sp h
    clear h
    have h := hh
    clear hh
    exact s_i2b hd' (hk _ _ _ _ h)
  case i2s =>
    obtain ⟨hd', rfl⟩ := dlen hd hi
    obtain ⟨x, r, rfl, hh⟩ := i1_sp h
    clear h
    have h := hh
    clear hh
    exact s_i2s hd' (hk _ _ _ _ h)
  case i2c =>
    obtain ⟨hd', rfl⟩ := dlen hd hi
    obtain ⟨x, r, rfl, hh⟩ := i1_sp h
    clear h
    have h := hh
    clear hh
    exact s_i2c hd' (hk _ _ _ _ h)
  case lneg =>
    obtain ⟨hd', rfl⟩ := dlen hd hi
    obtain ⟨x, r, rfl, hh⟩ := l1_sp h
    clear h
    have h := hh
    clear hh
    exact s_lneg hd' (hk _ _ _ _ h)
  case l2i =>
    obtain ⟨hd', rfl⟩ := dlen hd hi
    obtain ⟨x, r, rfl, hh⟩ := l1_sp h
    clear h
    have h := hh
    clear hh
    exact s_l2i hd' (hk _ _ _ _ h)
  case dup =>
    obtain ⟨hd', rfl⟩ := dlen hd hi
    cases st with
    | nil => exact h.elim
    | cons x r =>
      cases hx : is1 x with
      | false => simp only [hx] at h
      | true => simp only [hx] at h; exact s_dup hd' hx (hk _ _ _ _ h)
  case pop =>
    obtain ⟨hd', rfl⟩ := dlen hd hi
    cases st with
    | nil => exact h.elim
    | cons x r =>
      cases hx : is1 x with
      | false => simp only [hx] at h
      | true => simp only [hx] at h; exact s_pop hd' hx (hk _ _ _ _ h)
  case dup2 =>
    obtain ⟨hd', rfl⟩ := dlen hd hi
    cases st with
    | nil => exact h.elim
    | cons x r =>
      cases r with
      | nil => exact h.elim
      | cons z r =>
        cases hx : is1 x with
        | false => simp [hx] at h
        | true =>
          cases hz : is1 z with
          | false => simp [hx, hz] at h
          | true => simp only [hx, hz, Bool.and_self] at h; exact s_dup2 hd' hx hz (hk _ _ _ _ h)
  case goto off =>
    obtain ⟨h1, h2⟩ := band hi
    obtain ⟨hd', rfl⟩ := dlen hd h2
    exact s_goto hd' (of_decide_eq_true h1) (hk _ _ _ _ h)
  case ifCond cnd off =>
    obtain ⟨h1, h2⟩ := band hi
    obtain ⟨hd', rfl⟩ := dlen hd h2
    have ht := of_decide_eq_true h1
    obtain ⟨x, r, rfl, hh⟩ := i1_sp h
    clear h
    have h := hh
    clear hh
    cases cnd
    case eq => exact s_if_eq hd' ht (fun q => hk _ _ _ _ (h.1 q)) (fun q => hk _ _ _ _ (h.2 q))
    case ne => exact s_if_ne hd' ht (fun q => hk _ _ _ _ (h.1 q)) (fun q => hk _ _ _ _ (h.2 q))
    case lt => exact s_if_lt hd' ht (fun q => hk _ _ _ _ (h.1 q)) (fun q => hk _ _ _ _ (h.2 q))
    case ge => exact s_if_ge hd' ht (fun q => hk _ _ _ _ (h.1 q)) (fun q => hk _ _ _ _ (h.2 q))
    case gt => exact s_if_gt hd' ht (fun q => hk _ _ _ _ (h.1 q)) (fun q => hk _ _ _ _ (h.2 q))
    case le => exact s_if_le hd' ht (fun q => hk _ _ _ _ (h.1 q)) (fun q => hk _ _ _ _ (h.2 q))
  case if_icmp cnd off =>
    obtain ⟨h1, h2⟩ := band hi
    obtain ⟨hd', rfl⟩ := dlen hd h2
    have ht := of_decide_eq_true h1
    obtain ⟨x, z, r, rfl, hh⟩ := ii_sp h
    clear h
    have h := hh
    clear hh
    cases cnd
    case eq => exact s_icmp_eq hd' ht (fun q => hk _ _ _ _ (h.1 q)) (fun q => hk _ _ _ _ (h.2 q))
    case ne => exact s_icmp_ne hd' ht (fun q => hk _ _ _ _ (h.1 q)) (fun q => hk _ _ _ _ (h.2 q))
    case lt => exact s_icmp_lt hd' ht (fun q => hk _ _ _ _ (h.1 q)) (fun q => hk _ _ _ _ (h.2 q))
    case ge => exact s_icmp_ge hd' ht (fun q => hk _ _ _ _ (h.1 q)) (fun q => hk _ _ _ _ (h.2 q))
    case gt => exact s_icmp_gt hd' ht (fun q => hk _ _ _ _ (h.1 q)) (fun q => hk _ _ _ _ (h.2 q))
    case le => exact s_icmp_le hd' ht (fun q => hk _ _ _ _ (h.1 q)) (fun q => hk _ _ _ _ (h.2 q))
  case tableswitch dflt lo hi offs =>
    obtain ⟨h1, h2⟩ := band hi
    obtain ⟨h3, h4⟩ := band h2
    obtain ⟨x, r, rfl, hh⟩ := i1_sp h
    clear h
    have h := hh
    clear hh
    have hm : swK ts x (fun t => Vx l ω d y t ls r M Q) (Vx l ω d y a ls r M Q) := swK_mono (fun t z => hk _ _ _ _ z) (fun z => hk _ _ _ _ z) ts h
    exact s_switch hd (of_decide_eq_true h1) (of_decide_eq_true h3) (of_decide_eq_true h4) hm
  case getfield idx =>
    obtain ⟨h1, e1⟩ := band hi
    obtain ⟨hd', rfl⟩ := dlen hd h1
    obtain ⟨p, i, r, rfl, hh⟩ := r1_sp h
    clear h
    have h := hh
    clear hh
    cases ha13 : Nat.beq a 13 with
    | true =>
      have ha := beq_eq ha13
      subst ha
      cases hbb : Nat.beq (SHt p).1 0 && Nat.beq (SHt p).2.1 13 with
      | true =>
        simp only [hbb] at h
        exfalso
        obtain ⟨g1, g2⟩ := band hbb
        have f13 : ∀ n, fkt 13 n = 9 := fun _ => rfl
        exact no13 p (beq_eq g1) (beq_eq g2)
      | false =>
        simp only [hbb] at h
        cases hb8 : Nat.beq (SHt p).1 8 with
        | false => simp [hb8] at h
        | true =>
          simp only [hb8] at h
          have h8 := beq_eq hb8
          cases b with
          | zero =>
            refine s_getfieldV hd' (wat_in e1) h8 ?_
            cases hp : Nat.beq p 1000 with
            | true => simp [hp] at h; exact hk _ _ _ _ h
            | false => simp [hp] at h; exact hk _ _ _ _ h
          | succ b => exact s_getfieldC hd' (wat_in e1) h8 (hk _ _ _ _ h)
    | false =>
      rw [ha13] at e1
      obtain ⟨ha, e2⟩ := band (show (Nat.blt a 13 && (Nat.blt b (nft a) && (decide (v = (b : Int)) && wat w (.fieldLink (owt y) idx (TXt a b).1 (TXt a b).2.1 (TXt a b).2.2.1)))) = true from e1)
      obtain ⟨hb, e3⟩ := band e2
      obtain ⟨hv, e4⟩ := band e3
      have ha : a < 13 := Nat.le_of_ble_eq_true ha
      have hb : b < nft a := Nat.le_of_ble_eq_true hb
      have hv : v = (b : Int) := of_decide_eq_true hv
      subst hv
      cases hbb : Nat.beq (SHt p).1 0 && Nat.beq (SHt p).2.1 a with
      | false => simp [hbb, ha13] at h
      | true =>
        simp only [hbb] at h
        obtain ⟨g1, g2⟩ := band hbb
        have g1 := beq_eq g1
        have g2 := beq_eq g2
        refine s_getfield hd' ha hb (wat_in e4) g1 g2 (hk _ _ _ _ ?_)
        unfold fav
        rw [g2]
        rcases hf : fkt a b with _ | _ | _ | _ | n <;> rw [hf] at h <;> first | exact h | (rw [rkt_eq] at h; exact h)
  case putfield idx =>
    obtain ⟨h1, e1⟩ := band hi
    obtain ⟨hd', rfl⟩ := dlen hd h1
    obtain ⟨ha, e2⟩ := band e1
    obtain ⟨hb, e3⟩ := band e2
    obtain ⟨hv, e4⟩ := band e3
    have ha : a < 13 := Nat.le_of_ble_eq_true ha
    have hb : b < nft a := Nat.le_of_ble_eq_true hb
    have hv : v = (b : Int) := of_decide_eq_true hv
    subst hv
    obtain ⟨e5, hfl⟩ := band e4
    rcases hf : fkt a b with _ | _ | _ | _ | n <;> rw [hf] at h
    · obtain ⟨x, r0, rfl, hh⟩ := i1_sp h
      clear h
      have h := hh
      clear hh
      obtain ⟨p, i, r, rfl, hh⟩ := r1_sp h
      clear h
      have h := hh
      clear hh
      try dsimp only at h
      cases hbb : Nat.beq (SHt p).1 0 && Nat.beq (SHt p).2.1 a with
      | false => simp only [hbb] at h
      | true =>
        simp only [hbb] at h
        obtain ⟨g1, g2⟩ := band hbb
        have g1 := beq_eq g1
        have g2 := beq_eq g2
        have hfin : (TXt a b).2.2.2 = false := by
          rw [hf] at hfl
          simpa using hfl
        refine s_putfield hd' ha hb hfin (wat_in e5) g1 g2 (fun hok => ?_) ?_ (hk _ _ _ _ h)
        · rw [(fk_ty a ha b hb).1 hf, hf]
          exact ⟨rfl, rfl, hok⟩
        · unfold fvl
          rw [g2, hf]
          show _ = _
          rw [mset_at]
          rfl
    · obtain ⟨x, r0, rfl, hh⟩ := l1_sp h
      clear h
      have h := hh
      clear hh
      obtain ⟨p, i, r, rfl, hh⟩ := r1_sp h
      clear h
      have h := hh
      clear hh
      try dsimp only at h
      cases hbb : Nat.beq (SHt p).1 0 && Nat.beq (SHt p).2.1 a with
      | false => simp only [hbb] at h
      | true =>
        simp only [hbb] at h
        obtain ⟨g1, g2⟩ := band hbb
        have g1 := beq_eq g1
        have g2 := beq_eq g2
        have hfin : (TXt a b).2.2.2 = false := by
          rw [hf] at hfl
          simpa using hfl
        refine s_putfield hd' ha hb hfin (wat_in e5) g1 g2 (fun hok => ?_) ?_ (hk _ _ _ _ h)
        · rw [(fk_ty a ha b hb).2.1 hf, hf]
          exact ⟨rfl, rfl, hok⟩
        · unfold fvl
          rw [g2, hf]
          show _ = _
          rw [mset_at]
          rfl
    · exact h.elim
    · obtain ⟨x, r0, rfl, hh⟩ := i1_sp h
      clear h
      have h := hh
      clear hh
      obtain ⟨p, i, r, rfl, hh⟩ := r1_sp h
      clear h
      have h := hh
      clear hh
      try dsimp only at h
      cases hbb : Nat.beq (SHt p).1 0 && Nat.beq (SHt p).2.1 a with
      | false => simp only [hbb] at h
      | true =>
        simp only [hbb] at h
        obtain ⟨g1, g2⟩ := band hbb
        have g1 := beq_eq g1
        have g2 := beq_eq g2
        have hfin : (TXt a b).2.2.2 = false := by
          rw [hf] at hfl
          simpa using hfl
        refine s_putfield hd' ha hb hfin (wat_in e5) g1 g2 (fun hok => ?_) ?_ (hk _ _ _ _ h.2)
        · rw [(fk_ty a ha b hb).2.2 hf, hf]
          rcases h.1 with rfl | rfl
          · exact ⟨by show narrow .boolean (.int (Int32.ofInt 0)) = .int (Int32.ofInt 0); decide, by show fits .boolean (.int (Int32.ofInt 0)) = true; decide, Or.inl rfl⟩
          · exact ⟨by show narrow .boolean (.int (Int32.ofInt 1)) = .int (Int32.ofInt 1); decide, by show fits .boolean (.int (Int32.ofInt 1)) = true; decide, Or.inr rfl⟩
        · unfold fvl
          rw [g2, hf]
          show _ = _
          rw [mset_at]
          rfl
    · exact h.elim
  case iaload =>
    obtain ⟨hd', rfl⟩ := dlen hd hi
    obtain ⟨p, i, j, r, rfl, hh⟩ := ri_sp h
    clear h
    have h := hh
    clear hh
    rcases hf : (SHt p).1 with _ | _ | _ | _ | _ | _ | _ | _ | n <;> rw [hf] at h
    · exact h.elim
    · rw [szk_eq] at h; exact s_iaload hd' hf h.1 (hk _ _ _ _ h.2)
    · exact h.elim
    · exact h.elim
    · exact h.elim
    · exact h.elim
    · exact h.elim
    · exact s_iaload7 hd' hf h.1 (hk _ _ _ _ h.2)
    · exact h.elim
  case getstatic idx =>
    obtain ⟨h1, h2⟩ := band hi
    obtain ⟨hd', rfl⟩ := dlen hd h1
    rcases b with _ | _ | b
    · exact s_getstatic hd' (wat_in h2) (hk _ _ _ _ h)
    · exact s_getstatic1 hd' (wat_in h2) (hk _ _ _ _ h)
    · exact s_getstatic2 hd' (wat_in h2) (hk _ _ _ _ h)
  case arraylength =>
    obtain ⟨hd', rfl⟩ := dlen hd hi
    obtain ⟨p, i, r, rfl, hh⟩ := r1_sp h
    clear h
    have h := hh
    clear hh
    cases hbb : Nat.beq (SHt p).1 9 with
    | false => simp only [hbb] at h
    | true => simp only [hbb] at h; rw [szk_eq] at h; exact s_alen hd' (beq_eq hbb) (hk _ _ _ _ h)
  case baload =>
    obtain ⟨hd', rfl⟩ := dlen hd hi
    obtain ⟨p, i, j, r, rfl, hh⟩ := ri_sp h
    clear h
    have h := hh
    clear hh
    cases hbb : Nat.beq (SHt p).1 3 with
    | true => simp only [hbb] at h; rw [szk_eq] at h; exact s_baload hd' (beq_eq hbb) h.1 (hk _ _ _ _ h.2)
    | false =>
      simp only [hbb] at h
      cases hb9 : Nat.beq (SHt p).1 9 with
      | false => simp only [hb9] at h
      | true => simp only [hb9] at h; rw [szk_eq] at h; exact s_baload9 hd' (beq_eq hb9) h.1 (hk _ _ _ _ h.2)
  case laload =>
    obtain ⟨hd', rfl⟩ := dlen hd hi
    obtain ⟨p, i, j, r, rfl, hh⟩ := ri_sp h
    clear h
    have h := hh
    clear hh
    cases hbb : Nat.beq (SHt p).1 2 with
    | false => simp only [hbb] at h
    | true => simp only [hbb] at h; rw [szk_eq] at h; exact s_laload hd' (beq_eq hbb) h.1 (hk _ _ _ _ h.2)
  case aaload =>
    obtain ⟨hd', rfl⟩ := dlen hd hi
    obtain ⟨p, i, j, r, rfl, hh⟩ := ri_sp h
    clear h
    have h := hh
    clear hh
    cases hbb : Nat.blt 3 (SHt p).1 && Nat.blt (SHt p).1 7 with
    | false => simp only [hbb] at h
    | true =>
      simp only [hbb] at h
      obtain ⟨g1, g2⟩ := band hbb
      have g1 : 3 < (SHt p).1 := Nat.le_of_ble_eq_true g1
      have g2 : (SHt p).1 < 7 := Nat.le_of_ble_eq_true g2
      rw [szk_eq] at h
      have h3 := h.2
      rw [rkt_eq] at h3
      exact s_aaload (k := (SHt p).1 - 4) hd' (by omega) (by omega) h.1 (hk _ _ _ _ h3)
  case iastore =>
    obtain ⟨hd', rfl⟩ := dlen hd hi
    obtain ⟨p, i, j, x, r, rfl, hh⟩ := rii_sp h
    clear h
    have h := hh
    clear hh
    cases hbb : Nat.beq (SHt p).1 1 with
    | false => simp only [hbb] at h
    | true => simp only [hbb] at h; rw [szk_eq] at h; exact s_iastore hd' (beq_eq hbb) h.1 (hk _ _ _ _ h.2)
  case lastore =>
    obtain ⟨hd', rfl⟩ := dlen hd hi
    obtain ⟨p, i, j, x, r, rfl, hh⟩ := ril_sp h
    clear h
    have h := hh
    clear hh
    cases hbb : Nat.beq (SHt p).1 2 with
    | false => simp only [hbb] at h
    | true => simp only [hbb] at h; rw [szk_eq] at h; exact s_lastore hd' (beq_eq hbb) h.1 (hk _ _ _ _ h.2)
  case bastore =>
    obtain ⟨hd', rfl⟩ := dlen hd hi
    obtain ⟨p, i, j, x, r, rfl, hh⟩ := rii_sp h
    clear h
    have h := hh
    clear hh
    cases hbb : Nat.beq (SHt p).1 3 with
    | false => simp only [hbb] at h
    | true => simp only [hbb] at h; rw [szk_eq] at h; exact s_bastore hd' (beq_eq hbb) h.1.1 h.1.2 (hk _ _ _ _ h.2)
  case invokevirtual idx =>
    obtain ⟨h1, h2⟩ := band hi
    obtain ⟨hd', rfl⟩ := dlen hd h1
    obtain ⟨hw, h3⟩ := band h2
    obtain ⟨hvo, h4⟩ := band h3
    obtain ⟨hbn, hv⟩ := band h4
    have hbn := beq_eq hbn
    have hv : v = (clt a : Int) := of_decide_eq_true hv
    subst hv
    obtain ⟨as, r, rfl, hlen, hh⟩ := popK_sp _ _ _ _ h
    clear h
    have h := hh
    clear hh
    rw [List.append_nil] at h
    cases hbb : Nat.ble (csum r) 8 && rcv SHt as.reverse ((clt a : Int)).toNat with
    | false => simp only [hbb] at h
    | true =>
      simp only [hbb] at h
      obtain ⟨g1, g2⟩ := band hbb
      simp only [Int.toNat_natCast] at g2
      unfold rcv at g2
      split at g2
      case h_2 => cases g2
      case h_1 p i tl he =>
        have hrc : ((SHt p).1 = 0 ∧ (SHt p).2.1 = clt a ∧ clt a < 13) ∨ ((SHt p).1 = 8 ∧ clt a = 13) := by
          rcases (Bool.or_eq_true _ _).mp g2 with q | q
          · obtain ⟨q1, q2⟩ := band q
            refine Or.inl ⟨beq_eq q1, beq_eq q2, ?_⟩
            have hm := (MokV_of hvo).2.2.2.2.2.2.2.2.2
            rcases Nat.lt_or_ge (clt a) 13 with z | z
            · exact z
            · exact (no13 p (beq_eq q1) (by have := beq_eq q2; omega)).elim
          · obtain ⟨q1, q2⟩ := band q
            exact Or.inr ⟨beq_eq q1, beq_eq q2⟩
        have hs : as = tl.reverse ++ [vR p i] := by
          have := congrArg List.reverse he
          simpa using this
        rw [he] at h
        subst hs
        obtain ⟨d', hdd, hvd⟩ := hcall _ _ _ _ h
        rw [List.append_assoc]
        refine s_callV hd' (wat_in hw) (MokV_of hvo) (by simp at hlen; omega) hrc hdd (Nat.le_of_ble_eq_true g1) hvd (fun z M' hq => ?_)
        cases z with
        | none => exact hk _ _ _ _ hq
        | some x => exact hk _ _ _ _ hq
  case invokestatic idx =>
    obtain ⟨h1, h2⟩ := band hi
    obtain ⟨hd', rfl⟩ := dlen hd h1
    match v, h2, h with
    | .ofNat 0, h2, h =>
      obtain ⟨hw, h2⟩ := band h2
      obtain ⟨hvo, hbn⟩ := band h2
      have hbn := beq_eq hbn
      obtain ⟨as, r, rfl, hlen, hh⟩ := popK_sp _ _ _ _ h
      clear h
      have h := hh
      clear hh
      rw [List.append_nil] at h
      cases hbb : Nat.ble (csum r) 8 with
      | false => simp only [hbb] at h
      | true =>
        simp only [hbb] at h
        obtain ⟨d', hdd, hvd⟩ := hcall _ _ _ _ h
        have e : as ++ r = as.reverse.reverse ++ r := by rw [List.reverse_reverse]
        rw [e]
        rcases (Bool.or_eq_true _ _).mp hw with hw | hw
        · refine s_callS hd' (wat_in hw) (MokS_of hvo) (by simp; omega) hdd (Nat.le_of_ble_eq_true hbb) hvd (fun z M' hq => ?_)
          cases z with
          | none => exact hk _ _ _ _ hq
          | some x => exact hk _ _ _ _ hq
        · refine s_callN hd' (List.mem_of_getElem? (of_decide_eq_true hw)) (MokS_of hvo) (by simp; omega) hdd (Nat.le_of_ble_eq_true hbb) hvd (fun z M' hq => ?_)
          cases z with
          | none => exact hk _ _ _ _ hq
          | some x => exact hk _ _ _ _ hq
    | .ofNat 1, h2, h =>
      obtain ⟨x, z, r, rfl, hh⟩ := ii_sp h
      clear h
      have h := hh
      clear hh
      obtain ⟨f1, f2, f3⟩ := lfd_sp h
      exact s_max hd' (wat_in h2) (lfd_of f1 f2 (hk _ _ _ _ f3))
    | .ofNat 2, h2, h =>
      obtain ⟨x, z, r, rfl, hh⟩ := ii_sp h
      clear h
      have h := hh
      clear hh
      obtain ⟨f1, f2, f3⟩ := lfd_sp h
      exact s_min hd' (wat_in h2) (lfd_of f1 f2 (hk _ _ _ _ f3))
    | .ofNat 3, h2, h =>
      obtain ⟨x, z, r, rfl, hh⟩ := ll_sp h
      clear h
      have h := hh
      clear hh
      obtain ⟨f1, f2, f3⟩ := lfd_sp h
      exact s_maxl hd' (wat_in h2) (lfd_of f1 f2 (hk _ _ _ _ f3))
    | .ofNat 4, h2, h =>
      obtain ⟨x, z, r, rfl, hh⟩ := ll_sp h
      clear h
      have h := hh
      clear hh
      obtain ⟨f1, f2, f3⟩ := lfd_sp h
      exact s_minl hd' (wat_in h2) (lfd_of f1 f2 (hk _ _ _ _ f3))
    | .ofNat 5, h2, h =>
      obtain ⟨x, r, rfl, hh⟩ := l1_sp h
      clear h
      have h := hh
      clear hh
      obtain ⟨f1, f2, f3⟩ := lfd_sp h
      exact s_absl hd' (wat_in h2) (lfd_of f1 f2 (hk _ _ _ _ f3))
    | .ofNat 6, h2, h =>
      obtain ⟨p, i, s, q, j, dd, n, r, rfl, hh⟩ := riri_sp h
      clear h
      have h := hh
      clear hh
      cases hbb : Nat.beq (SHt p).1 1 && Nat.beq (SHt q).1 1 with
      | false => simp only [hbb] at h
      | true =>
        simp only [hbb] at h
        obtain ⟨g1, g2⟩ := band hbb
        rw [szk_eq, szk_eq] at h
        obtain ⟨f1, f2, f3⟩ := lfd_sp h.2
        exact s_copy hd' (wat_in h2) (beq_eq g1) (beq_eq g2) h.1 (lfd_of f1 f2 (hk _ _ _ _ f3))
    | .ofNat (n + 7), _, h => exact h.elim
    | .negSucc n, _, h => exact h.elim
  case ireturn =>
    obtain ⟨h1, h2⟩ := band hi
    obtain ⟨hd', rfl⟩ := dlen hd h1
    obtain ⟨x, r, rfl, hh⟩ := i1_sp h
    clear h
    have h := hh
    clear hh
    cases r with
    | cons _ _ => exact h.elim
    | nil =>
      rcases b with _ | _ | _ | b
      · exact s_ireturn hd' (of_decide_eq_true h2) (fun _ => rfl) h
      · refine s_ireturn hd' (ty := .boolean) (of_decide_eq_true h2) (fun _ => ?_) h.2
        rcases h.1 with rfl | rfl <;> decide
      · exact s_ireturn hd' (ty := .char) (of_decide_eq_true h2) (fun _ => nar_char h.1.1 h.1.2) h.2
      · exact s_ireturn hd' (ty := .byte) (of_decide_eq_true h2) (fun _ => nar_byte h.1.1 h.1.2) h.2
  case lreturn =>
    obtain ⟨h1, h2⟩ := band hi
    obtain ⟨hd', rfl⟩ := dlen hd h1
    obtain ⟨x, r, rfl, hh⟩ := l1_sp h
    clear h
    have h := hh
    clear hh
    cases r with
    | cons _ _ => exact h.elim
    | nil => exact s_lreturn hd' (of_decide_eq_true h2) h
  case return_ =>
    obtain ⟨h1, h2⟩ := band hi
    obtain ⟨hd', rfl⟩ := dlen hd h1
    cases st with
    | cons _ _ => exact h.elim
    | nil => exact s_return hd' (of_decide_eq_true h2) h
  all_goals exact h.elim
end SOUND
