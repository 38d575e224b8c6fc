/-! ===== the frame: reads, stores in rows, one instruction is sound (wip/gen/fr5.body) ===== -/
section CSTO
variable {l : Launch} {G : va_G} {tyc : Nat → ClassId} {y : Nat} {p : Program} {e : Env} {R : Room} {s : State} {m : MethodId} {args : Array Value} {below : List Frame} {meth : Method} {c : Code} {A : Nat → Prop} {Qf : State → Prop} {b1 b2 cn sn pc : Nat} {ad : Nat → Nat} {H : Heap} {locs : List Loc} {lsC : Array Slot} {ls r st : List AV} {cs : List CE}
theorem cs_get {idx a b q : Nat} {w : AV} {vs : List AV} (C : CcP G tyc y p s m args meth c A) (hR : RcP G tyc ad y A s H locs lsC ls cs) (ha : a < 13) (hb : b < nft a) (hg : cs[q]? = some (.inr (a, vs))) (hv : vs[b]? = some w) (hw : Cond.fieldLink (owt y) idx (TXt a b).1 (TXt a b).2.1 (TXt a b).2.2.1 ∈ wsA) (hd : decode (byt y) pc = .ok (.getfield idx, 3))
    (k : W p l e R s m args below meth c H locs cn sn Qf (F0 m (pc + 3) lsC (cvF ad w :: r.map (cvA (adw ad))))) : W p l e R s m args below meth c H locs cn sn Qf (F0 m pc lsC (.ref (ad q) :: r.map (cvA (adw ad)))) := by
  obtain ⟨c1, c2, c3, c4, c5, c6, c7, c8, c9, c10⟩ := C
  obtain ⟨hl, hP, hD, hS⟩ := hR
  have he : (cwd tyc ad cs)[q]? = some (ad q, .inr (a, vs.map (cvF ad))) := by rw [cwd_get, hg]; rfl
  exact va_get c1 c2 (C := RXt a) (T := TXt a) (N := nft a) (ci := a) c8 (uws_in ha) c6 c9.1 hP q he (clx_at a ha) b hb (c8 _ hw) (fun _ z => z) (v := cvF ad w) (by rw [List.getElem?_map, hv]; rfl) hd k
theorem idx_ok {j : Int} {n : Nat} (h : 0 ≤ j ∧ j < (n : Int) ∧ n ≤ 1000) : vp_in (Int32.ofInt j) n ∧ (Int32.ofInt j).toNatClampNeg = j.toNat := by
  have i : in32 j := by unfold in32; omega
  exact ⟨vpin_of i h.1 h.2.1, o32_clamp i⟩
theorem cs_iast {q n : Nat} {x j : Int} {ov : List (Nat × Int)} (C : CcP G tyc y p s m args meth c A) (hR : RcP G tyc ad y A s H locs lsC ls cs) (hg : cs[q]? = some (.inl (1, n, ov))) (hj : 0 ≤ j ∧ j < (n : Int) ∧ n ≤ 1000) (hd : decode (byt y) pc = .ok (.iastore, 1))
    (h1 : cn + b1 = cs.length) (h2 : sn + b2 = slC cs) (K : NXP2 l G tyc y p e R s m args below meth c A Qf b1 b2 cs.length ad (pc + 1) ls r (cs.set q (.inl (1, n, (j.toNat, x) :: ov)))) : W p l e R s m args below meth c H locs cn sn Qf (F0 m pc lsC (.int (Int32.ofInt x) :: .int (Int32.ofInt j) :: .ref (ad q) :: r.map (cvA (adw ad)))) := by
  obtain ⟨c1, c2, c3, c4, c5, c6, c7, c8, c9, c10⟩ := C
  obtain ⟨hl, hP, hD, hS⟩ := hR
  obtain ⟨j0, j1⟩ := idx_ok hj
  have he : (cwd tyc ad cs)[q]? = some (ad q, .inl (tyc 1, n, .inl (fun j => Int32.ofInt ((lkC ov j).getD 0)))) := by rw [cwd_get, hg]; rfl
  have hq := (List.getElem?_eq_some_iff.mp hg).1
  refine va_iast c1 c2 c9.1 hP hD hS q 0 he rfl j0 hd (fun H1 locs1 hP1 hD1 hS1 => ?_)
  have ew : (cwd tyc ad cs).set q (ad q, .inl (tyc 1, n, .inl (upd (fun j => Int32.ofInt ((lkC ov j).getD 0)) (Int32.ofInt j).toNatClampNeg (Int32.ofInt x)))) = cwd tyc ad (cs.set q (.inl (1, n, (j.toNat, x) :: ov))) := by
    rw [cwd_set hq, j1]
    congr 2
    show (Sum.inl (tyc 1, n, Sum.inl _) : va_E) = Sum.inl (tyc 1, n, Sum.inl (fun k => Int32.ofInt ((lkC ((j.toNat, x) :: ov) k).getD 0)))
    congr 4
    funext k
    unfold upd
    rw [lkC]
    by_cases ck : k = j.toNat
    · subst ck
      simp
    · have ck2 : ¬ j.toNat = k := fun z => ck z.symm
      simp [ck]
  rw [ew] at hP1 hD1
  exact K ad H1 locs1 lsC cn sn (fun _ _ => rfl) ⟨hl, hP1, hD1, hS1⟩ (by rw [List.length_set]; exact h1) (by rw [slC_set cs q _ (.inl (1, n, (j.toNat, x) :: ov)) hg rfl]; exact h2)
theorem cs_aast {q z n : Nat} {j : Int} {ov : List (Nat × Int)} {vs : List AV} (C : CcP G tyc y p s m args meth c A) (hR : RcP G tyc ad y A s H locs lsC ls cs) (hg : cs[q]? = some (.inl (4, n, ov))) (hz : cs[z]? = some (.inr (6, vs))) (hj : 0 ≤ j ∧ j < (n : Int) ∧ n ≤ 1000) (hd : decode (byt y) pc = .ok (.aastore, 1))
    (h1 : cn + b1 = cs.length) (h2 : sn + b2 = slC cs) (K : NXP2 l G tyc y p e R s m args below meth c A Qf b1 b2 cs.length ad (pc + 1) ls r (cs.set q (.inl (4, n, (j.toNat, (z : Int)) :: ov)))) : W p l e R s m args below meth c H locs cn sn Qf (F0 m pc lsC (.ref (ad z) :: .int (Int32.ofInt j) :: .ref (ad q) :: r.map (cvA (adw ad)))) := by
  obtain ⟨c1, c2, c3, c4, c5, c6, c7, c8, c9, c10⟩ := C
  obtain ⟨hl, hP, hD, hS⟩ := hR
  obtain ⟨j0, j1⟩ := idx_ok hj
  have he : (cwd tyc ad cs)[q]? = some (ad q, .inl (tyc 4, n, .inr (.inr (.inr (.inr (fun j => (lkC ov j).map (fun z => ad z.toNat))))))) := by rw [cwd_get, hg]; rfl
  have hz2 : (cwd tyc ad cs)[z]? = some (ad z, .inr (6, vs.map (cvF ad))) := by rw [cwd_get, hz]; rfl
  have hq := (List.getElem?_eq_some_iff.mp hg).1
  refine va_astq c1 c2 c9.1 hP hD hS q 3 z 6 (r := (RXt 6, TXt 6, nft 6)) he rfl hz2 (clx_at 6 (by decide)) j0 hd (fun H1 locs1 hP1 hD1 hS1 => ?_)
  have ew : (cwd tyc ad cs).set q (ad q, .inl (tyc 4, n, .inr (.inr (.inr (.inr (va_up (fun j => (lkC ov j).map (fun z => ad z.toNat)) (Int32.ofInt j).toNatClampNeg (some (ad z)))))))) = cwd tyc ad (cs.set q (.inl (4, n, (j.toNat, (z : Int)) :: ov))) := by
    rw [cwd_set hq, j1]
    congr 2
    show (Sum.inl (tyc 4, n, Sum.inr (Sum.inr (Sum.inr (Sum.inr _)))) : va_E) = Sum.inl (tyc 4, n, Sum.inr (Sum.inr (Sum.inr (Sum.inr (fun k => (lkC ((j.toNat, (z : Int)) :: ov) k).map (fun z => ad z.toNat))))))
    congr 7
    funext k
    unfold va_up
    rw [lkC]
    by_cases ck : k = j.toNat
    · subst ck
      simp
    · simp [ck]
  rw [ew] at hP1 hD1
  exact K ad H1 locs1 lsC cn sn (fun _ _ => rfl) ⟨hl, hP1, hD1, hS1⟩ (by rw [List.length_set]; exact h1) (by rw [slC_set cs q _ (.inl (4, n, (j.toNat, (z : Int)) :: ov)) hg rfl]; exact h2)
/-- one instruction -/
theorem csem_ok {en : CEnt} {pc' : Nat} {ls' st' : List AV} {cs' : List CE} (C : CcP G tyc y p s m args meth c A) (hk : chkC y pc en = true) (h : csem en ls st cs = some (pc', ls', st', cs')) (hR : RcP G tyc ad y A s H locs lsC ls cs)
    (h1 : cn + b1 = cs.length) (h2 : sn + b2 = slC cs) (hr1 : cs'.length ≤ R.cells + b1) (hr2 : slC cs' ≤ R.slots + b2) (K : NXP2 l G tyc y p e R s m args below meth c A Qf b1 b2 cs.length ad pc' ls' st' cs') : W p l e R s m args below meth c H locs cn sn Qf (F0 m pc lsC (st.map (cvA (adw ad)))) := by
  have C0 := C
  obtain ⟨c1, c2, c3, c4, c5, c6, c7, c8, c9, c10⟩ := C
  have same : ∀ lsC' pc2 ls2 st2, LVx (adw ad) lsC' (mxt y) ls2 → pc' = pc2 → ls' = ls2 → st' = st2 → cs' = cs → W p l e R s m args below meth c H locs cn sn Qf (F0 m pc2 lsC' (st2.map (cvA (adw ad)))) := by
    rintro lsC' pc2 ls2 st2 hl rfl rfl rfl rfl
    exact K ad H locs lsC' cn sn (fun _ _ => rfl) ⟨hl, hR.2.1, hR.2.2.1, hR.2.2.2⟩ h1 h2
  have hl := hR.1
  unfold csem at h
  unfold chkC at hk
  split at h
  rename_i ins nxt a b v w
  simp only [Bool.and_eq_true, decide_eq_true_eq] at hk
  obtain ⟨hd, hk⟩ := hk
  split at h
  case h_1 =>
    simp only [Bool.and_eq_true, decide_eq_true_eq] at hk
    obtain ⟨hn, rfl, hv⟩ := hk
    have hn := Nat.eq_of_beq_eq_true hn
    subst hn
    rw [Nat.add_sub_cancel_left] at hd
    cases h
    exact lv_iconst c1 c2 hd rfl (same _ _ _ (vI _ :: st) hl rfl rfl rfl rfl)
  case h_2 =>
    simp only [Bool.and_eq_true, decide_eq_true_eq] at hk
    obtain ⟨hn, hv, -⟩ := hk
    have hn := Nat.eq_of_beq_eq_true hn
    subst hn
    rw [Nat.add_sub_cancel_left] at hd
    cases h
    exact lv_bipush c1 c2 hd hv (same _ _ _ (vI _ :: st) hl rfl rfl rfl rfl)
  case h_3 =>
    simp only [Bool.and_eq_true, decide_eq_true_eq] at hk
    obtain ⟨hn, hv, -⟩ := hk
    have hn := Nat.eq_of_beq_eq_true hn
    subst hn
    rw [Nat.add_sub_cancel_left] at hd
    cases h
    exact lv_sipush c1 c2 hd hv (same _ _ _ (vI _ :: st) hl rfl rfl rfl rfl)
  case h_4 =>
    simp only [Bool.and_eq_true] at hk
    have hn := Nat.eq_of_beq_eq_true hk.1
    have hi := Nat.eq_of_beq_eq_true hk.2
    subst hn
    subst hi
    rw [Nat.add_sub_cancel_left] at hd
    split at h
    · rename_i q i hg
      cases h
      exact lv_aload c1 c2 hd (hl.2.2.2 _ _ hg trivial) (same _ _ _ (vR q i :: st) hl rfl rfl rfl rfl)
    · cases h
  case h_5 =>
    simp only [Bool.and_eq_true] at hk
    have hn := Nat.eq_of_beq_eq_true hk.1
    have hi := Nat.eq_of_beq_eq_true hk.2
    subst hn
    rw [Nat.add_sub_cancel_left] at hd
    split at h
    · rename_i q i hg
      cases h
      exact lv_aload_n c1 c2 hd hi (hl.2.2.2 _ _ hg trivial) (same _ _ _ (vR q i :: st) hl rfl rfl rfl rfl)
    · cases h
  case h_6 =>
    simp only [Bool.and_eq_true] at hk
    have hn := Nat.eq_of_beq_eq_true hk.1
    have hi := Nat.eq_of_beq_eq_true hk.2
    subst hn
    subst hi
    rw [Nat.add_sub_cancel_left] at hd
    split at h
    · rename_i x hg
      cases h
      exact lv_iload c1 c2 hd (hl.2.2.2 _ _ hg trivial) (same _ _ _ (vI x :: st) hl rfl rfl rfl rfl)
    · cases h
  case h_7 =>
    simp only [Bool.and_eq_true] at hk
    have hn := Nat.eq_of_beq_eq_true hk.1
    have hi := Nat.eq_of_beq_eq_true hk.2
    subst hn
    rw [Nat.add_sub_cancel_left] at hd
    split at h
    · rename_i x hg
      cases h
      exact lv_iload_n c1 c2 hd hi (hl.2.2.2 _ _ hg trivial) (same _ _ _ (vI x :: st) hl rfl rfl rfl rfl)
    · cases h
  case h_8 =>
    simp only [Bool.and_eq_true] at hk
    have hn := Nat.eq_of_beq_eq_true hk.1
    have hi := Nat.eq_of_beq_eq_true hk.2
    subst hn
    subst hi
    rw [Nat.add_sub_cancel_left] at hd
    split at h
    · rename_i x r
      split at h
      · rename_i hc
        cases h
        exact lv_istore c1 c2 hd hl.has (hl.2.1 ▸ hc.1) rfl (fun lsC' h' => same lsC' _ _ _ (LV_set hl hc.1 hc.2 h') rfl rfl rfl rfl)
      · cases h
    · cases h
  case h_9 =>
    simp only [Bool.and_eq_true] at hk
    have hn := Nat.eq_of_beq_eq_true hk.1
    have hi := Nat.eq_of_beq_eq_true hk.2
    subst hn
    rw [Nat.add_sub_cancel_left] at hd
    split at h
    · rename_i x r
      split at h
      · rename_i hc
        cases h
        exact lv_istore_n c1 c2 hd hi hl.has (hl.2.1 ▸ hc.1) rfl (fun lsC' h' => same lsC' _ _ _ (LV_set hl hc.1 hc.2 h') rfl rfl rfl rfl)
      · cases h
    · cases h
  case h_10 =>
    simp only [Bool.and_eq_true, decide_eq_true_eq] at hk
    have hn := Nat.eq_of_beq_eq_true hk.1
    have hi := Nat.eq_of_beq_eq_true hk.2.1
    have hv := hk.2.2
    subst hn
    subst hi
    subst hv
    rw [Nat.add_sub_cancel_left] at hd
    split at h
    · rename_i x hg
      split at h
      · rename_i hc
        cases h
        obtain ⟨k, hk2⟩ := List.getElem?_of_mem (mem_lvp (ω := adw ad) (q := (_, cvA (adw ad) (vI x))).mpr ⟨_, hg, trivial, rfl⟩)
        have hlt := (List.getElem?_eq_some_iff.mp hg).1
        exact lv_iinc c1 c2 hd hl.has (k := k) hk2 (v := Int32.ofInt (w32 (x + _))) (by rw [w32_of, Int32.ofInt_add]) (hl.2.1 ▸ hlt) rfl (fun lsC' h' => same lsC' _ _ st (LV_set hl hlt hc h') rfl rfl rfl rfl)
      · cases h
    · cases h
  case h_11 =>
    have hn := Nat.eq_of_beq_eq_true hk
    subst hn
    rw [Nat.add_sub_cancel_left] at hd
    split at h
    · rename_i q i r
      cases h
      exact lv_dup c1 c2 hd rfl (same _ _ _ (vR q i :: vR q i :: r) hl rfl rfl rfl rfl)
    · cases h
  case h_12 =>
    simp only [Bool.and_eq_true, decide_eq_true_eq] at hk
    have hn := Nat.eq_of_beq_eq_true hk.2
    subst hn
    rw [Nat.add_sub_cancel_left] at hd
    cases h
    exact lv_goto c1 c2 hd hk.1 (same _ _ _ st hl rfl rfl rfl rfl)
  case h_13 =>
    simp only [Bool.and_eq_true, decide_eq_true_eq] at hk
    have hn := Nat.eq_of_beq_eq_true hk.2
    subst hn
    rw [Nat.add_sub_cancel_left] at hd
    split at h
    · rename_i z x r
      split at h
      · rename_i hc
        have iz : in32 z := by unfold in32; omega
        have ix : in32 x := by unfold in32; omega
        refine lv_icmp_ge c1 c2 hd hk.1 (fun g => ?_) (fun g => ?_)
        · rw [o32_le iz ix] at g
          rw [if_pos g] at h
          cases h
          exact same _ _ _ _ hl rfl rfl rfl rfl
        · rw [o32_le iz ix] at g
          rw [if_neg g] at h
          cases h
          exact same _ _ _ _ hl rfl rfl rfl rfl
      · cases h
    · cases h
  case h_14 =>
    simp only [Bool.and_eq_true] at hk
    have hn := Nat.eq_of_beq_eq_true hk.1
    have hk8 := hk.2
    clear hk
    subst hn
    rw [Nat.add_sub_cancel_left] at hd
    split at h
    · rename_i n r
      split at h
      · rename_i hc
        cases h
        rw [List.length_append] at hr1
        rw [slC_app] at hr2
        rcases (by omega : a = 1 ∨ a = 2 ∨ a = 3) with rfl | rfl | rfl
        · have hk : (decide (newarray.typeOf _ = .int) && wat w (.arrayClass .int)) = true := hk8
          simp only [Bool.and_eq_true, decide_eq_true_eq] at hk
          exact cs_new C0 hR hc.2.1 hc.2.2 hk.1 (wat_in hk.2) (Or.inl ⟨rfl, rfl⟩) hd h1 h2 hr1 (by have : slC [(.inl (1, n.toNat, []) : CE)] = n.toNat + 0 := rfl; omega) K
        · have hk : (decide (newarray.typeOf _ = .long) && wat w (.arrayClass .long)) = true := hk8
          simp only [Bool.and_eq_true, decide_eq_true_eq] at hk
          exact cs_new C0 hR hc.2.1 hc.2.2 hk.1 (wat_in hk.2) (Or.inr (Or.inl ⟨rfl, rfl⟩)) hd h1 h2 hr1 (by have : slC [(.inl (2, n.toNat, []) : CE)] = n.toNat + 0 := rfl; omega) K
        · have hk : (decide (newarray.typeOf _ = .boolean) && wat w (.arrayClass .boolean)) = true := hk8
          simp only [Bool.and_eq_true, decide_eq_true_eq] at hk
          exact cs_new C0 hR hc.2.1 hc.2.2 hk.1 (wat_in hk.2) (Or.inr (Or.inr ⟨rfl, rfl⟩)) hd h1 h2 hr1 (by have : slC [(.inl (3, n.toNat, []) : CE)] = n.toNat + 0 := rfl; omega) K
      · cases h
    · cases h
  case h_15 =>
    simp only [Bool.and_eq_true] at hk
    have hn := Nat.eq_of_beq_eq_true hk.1
    have hk8 := wat_in hk.2
    subst hn
    rw [Nat.add_sub_cancel_left] at hd
    split at h
    · rename_i n r
      split at h
      · rename_i hc
        cases h
        rw [List.length_append] at hr1
        rw [slC_app] at hr2
        exact cs_anew C0 hR hc.1 hc.2 hk8 hd h1 h2 hr1 (by have : slC [(.inl (4, n.toNat, []) : CE)] = n.toNat + 0 := rfl; omega) K
      · cases h
    · cases h
  case h_16 =>
    simp only [Bool.and_eq_true] at hk
    have hn := Nat.eq_of_beq_eq_true hk.1
    have hd2 := Nat.eq_of_beq_eq_true hk.2.1
    have hk8 := hk.2.2
    clear hk
    subst hn
    subst hd2
    rw [Nat.add_sub_cancel_left] at hd
    split at h
    · rename_i k n r
      split at h
      · rename_i hc
        cases h
        rw [List.length_append, List.length_cons, List.length_replicate] at hr1
        rw [slC_app] at hr2
        have hr2 : slC cs + (n.toNat + slC (List.replicate n.toNat (.inl (a - 4, k.toNat, [])))) ≤ R.slots + b2 := hr2
        rw [slC_rep] at hr2
        have hr2 : slC cs + (n.toNat + n.toNat * k.toNat) ≤ R.slots + b2 := hr2
        rcases hc.1 with rfl | rfl
        · have hk : (wat w (.classLink (owt y) _ "[[I") && wat b (.arrayClass .int)) = true := hk8
          simp only [Bool.and_eq_true] at hk
          exact cs_mul C0 hR hc.2.1 hc.2.2.1 hc.2.2.2 (wat_in hk.1) (wat_in hk.2) c9.2.2.2.1 (Or.inl ⟨rfl, rfl⟩) hd h1 h2 (by omega) (by omega) K
        · have hk : (wat w (.classLink (owt y) _ "[[J") && wat b (.arrayClass .long)) = true := hk8
          simp only [Bool.and_eq_true] at hk
          exact cs_mul C0 hR hc.2.1 hc.2.2.1 hc.2.2.2 (wat_in hk.1) (wat_in hk.2) c9.2.2.2.2 (Or.inr ⟨rfl, rfl⟩) hd h1 h2 (by omega) (by omega) K
      · cases h
    · cases h
  case h_17 =>
    simp only [Bool.and_eq_true] at hk
    have hn := Nat.eq_of_beq_eq_true hk.1
    subst hn
    rw [Nat.add_sub_cancel_left] at hd
    split at h
    · rename_i hc
      cases h
      rw [List.length_append] at hr1
      rw [slC_app] at hr2
      have e1 : slC [(.inr (a, dfl a) : CE)] = (dfl a).length + 0 := rfl
      rw [dfl_len] at e1
      exact cs_obj C0 hR hc.1 hc.2 (wat_in hk.2.1) (wat_in hk.2.2.1) (wat_in hk.2.2.2) hd h1 h2 hr1 (by omega) K
    · cases h
  case h_18 =>
    simp only [Bool.and_eq_true, decide_eq_true_eq] at hk
    have hn := Nat.eq_of_beq_eq_true hk.1
    subst hn
    rw [Nat.add_sub_cancel_left] at hd
    split at h
    · rename_i z q i r
      split at h
      · rename_i cl vs hg
        split at h
        · rename_i hc
          obtain ⟨rfl, hc2, hc3⟩ := hc
          cases h
          exact cs_put C0 hR (blt_lt hk.2.1) (blt_lt hk.2.2.1) hc2 hg hk.2.2.2.1 (wat_in hk.2.2.2.2) hc3 hd h1 h2 K
        · cases h
      · cases h
    · cases h
  case h_19 =>
    simp only [Bool.and_eq_true] at hk
    have hn := Nat.eq_of_beq_eq_true hk.1
    subst hn
    rw [Nat.add_sub_cancel_left] at hd
    split at h
    · rename_i q i r
      split at h
      · rename_i cl vs hg
        split at h
        · rename_i z j hv
          split at h
          · rename_i hc
            subst hc
            cases h
            exact cs_get C0 hR (blt_lt hk.2.1) (blt_lt hk.2.2.1) hg hv (wat_in hk.2.2.2) hd (same _ _ _ (vR z j :: r) hl rfl rfl rfl rfl)
          · cases h
        · cases h
      · cases h
    · cases h
  case h_20 =>
    have hn := Nat.eq_of_beq_eq_true hk
    subst hn
    rw [Nat.add_sub_cancel_left] at hd
    split at h
    · rename_i x j q i r
      split at h
      · rename_i n ov hg
        split at h
        · rename_i hc
          cases h
          exact cs_iast C0 hR hg hc hd h1 h2 K
        · cases h
      · cases h
    · cases h
  case h_21 =>
    have hn := Nat.eq_of_beq_eq_true hk
    subst hn
    rw [Nat.add_sub_cancel_left] at hd
    split at h
    · rename_i z i2 j q i r
      split at h
      · rename_i n ov hg
        split at h
        · rename_i vs hz
          split at h
          · rename_i hc
            cases h
            exact cs_aast C0 hR hg hz hc hd h1 h2 K
          · cases h
        · cases h
      · cases h
    · cases h
  case h_22 => cases h
end CSTO
