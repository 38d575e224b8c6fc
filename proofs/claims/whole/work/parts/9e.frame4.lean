/-! ===== the frame: rows of rows, fields, stores (wip/gen/fr4.body) ===== -/
theorem lkC_mov {n k j : Nat} : lkC (mov n k) j = if j < k then some ((n + 1 + j : Nat) : Int) else none := by
  unfold mov
  have key : ∀ (l : List Nat), lkC (l.map fun j => (j, ((n + 1 + j : Nat) : Int))) j = if j ∈ l then some ((n + 1 + j : Nat) : Int) else none := by
    intro l
    induction l with
    | nil => rfl
    | cons x l ih =>
      rw [List.map_cons, lkC]
      by_cases c : j = x
      · subst c
        simp
      · rw [if_neg c, ih]
        simp [c]
  rw [key]
  simp only [List.mem_range]
def upM (ad : Nat → Nat) (n h : Nat) : Nat → Nat := fun k => if k < n then ad k else h + (k - n)
theorem upM_lt {ad : Nat → Nat} {n h k : Nat} (c : k < n) : upM ad n h k = ad k := by
  unfold upM
  rw [if_pos c]
theorem upM_ge {ad : Nat → Nat} {n h k : Nat} (c : ¬ k < n) : upM ad n h k = h + (k - n) := by
  unfold upM
  rw [if_neg c]
section CMUL
variable {l : Launch} {G : va_G} {tyc : Nat → ClassId} {y : Nat} {p : Program} {e : Env} {R : Room} {s : State} {m : MethodId} {args : Array Value} {below : List Frame} {meth : Method} {c : Code} {A : Nat → Prop} {Qf : State → Prop} {b1 b2 cn sn pc : Nat} {ad : Nat → Nat} {H : Heap} {locs : List Loc} {lsC : Array Slot} {ls r st : List AV} {cs : List CE}
theorem slC_rep (e : CE) : ∀ n : Nat, slC (List.replicate n e) = n * slE e
  | 0 => by simp [slC]
  | n + 1 => by
    rw [List.replicate_succ]
    show slE e + slC (List.replicate n e) = _
    rw [slC_rep e n, Nat.succ_mul]
    omega
/-- rows of rows, whatever they hold -/
theorem cs_mul {idx a : Nat} {ty : FieldType} {n k : Int} (C : CcP G tyc y p s m args meth c A) (hR : RcP G tyc ad y A s H locs lsC ls cs) (hn : 0 ≤ n ∧ n ≤ 1000) (hk : 0 ≤ k ∧ k ≤ 1000) (ha : alo cs.length ls r cs = true) (hw : Cond.classLink (owt y) idx ("[" ++ (FieldType.array ty).toString) ∈ wsA) (hw2 : Cond.arrayClass ty ∈ wsA) (ho : OA ty s) (hc : (a = 5 ∧ ty = .int) ∨ (a = 6 ∧ ty = .long)) (hd : decode (byt y) pc = .ok (.multianewarray idx 2, 4))
    (h1 : cn + b1 = cs.length) (h2 : sn + b2 = slC cs) (hr1 : cs.length + 1 + n.toNat ≤ R.cells + b1) (hr2 : slC cs + n.toNat + n.toNat * k.toNat ≤ R.slots + b2) (K : NXP2 l G tyc y p e R s m args below meth c A Qf b1 b2 cs.length ad (pc + 4) ls (vR cs.length 0 :: r) (cs ++ (.inl (a, n.toNat, mov cs.length n.toNat) :: List.replicate n.toNat (.inl (a - 4, k.toNat, []))))) : W p l e R s m args below meth c H locs cn sn Qf (F0 m pc lsC (.int (Int32.ofInt k) :: .int (Int32.ofInt n) :: r.map (cvA (adw ad)))) := by
  obtain ⟨c1, c2, c3, c4, c5, c6, c7, c8, c9, c10⟩ := C
  obtain ⟨hl, hP, hD, hS⟩ := hR
  obtain ⟨n0, n1⟩ := n_int hn
  obtain ⟨k0, k1⟩ := n_int hk
  have hdf : fits ty (defaultValue ty) = true ∧ (defaultValue ty).isDefault = true ∧ k.toNat * componentBytes ty ≤ 536870912 := by
    rcases hc with ⟨-, rfl⟩ | ⟨-, rfl⟩
    · exact ⟨rfl, rfl, by show k.toNat * 4 ≤ _; omega⟩
    · exact ⟨rfl, rfl, by show k.toNat * 8 ≤ _; omega⟩
  refine W.mnew (ty := ty) (g := F0 m pc lsC (.int (Int32.ofInt k) :: .int (Int32.ofInt n) :: r.map (cvA (adw ad)))) c1 c2 c6 (c8 _ hw) ho.use (c8 _ hw2) rfl hd rfl n0 k0 (by rw [n1]; omega) (by rw [k1]; exact hdf.2.2) (by rw [k1]; omega) hdf.1 hdf.2.1 (by rw [n1]; omega) (by rw [n1, k1]; omega) (fun cA comp H1 locs1 hcA hco z1 old out inn hlo => ?_)
  rw [n1] at z1 out inn
  rw [k1] at inn
  rw [n1, k1]
  obtain ⟨w1, w2, w3⟩ := alo_sp ha
  have ag : ∀ j, j < cs.length → upM ad cs.length H.size j = ad j := fun j hj => upM_lt hj
  have hA5 : cA = tyc a ∧ comp = tyc (a - 4) := by
    rcases hc with ⟨rfl, rfl⟩ | ⟨rfl, rfl⟩
    · have e1 : s.vm.findClass ("[" ++ (FieldType.array .int).toString) = some (tyc 5) := (c9.1.2 4 (tyc 5, .array .int) rfl).2
      have e2 : s.vm.findClass (FieldType.array .int).toString = some (tyc 1) := (c9.1.2 0 (tyc 1, .int) rfl).2
      exact ⟨Option.some.inj (hcA.symm.trans e1), Option.some.inj (hco.symm.trans e2)⟩
    · have e1 : s.vm.findClass ("[" ++ (FieldType.array .long).toString) = some (tyc 6) := (c9.1.2 5 (tyc 6, .array .long) rfl).2
      have e2 : s.vm.findClass (FieldType.array .long).toString = some (tyc 2) := (c9.1.2 1 (tyc 2, .long) rfl).2
      exact ⟨Option.some.inj (hcA.symm.trans e1), Option.some.inj (hco.symm.trans e2)⟩
  have hget : ∀ (i : Nat) (q : Nat × va_E), (cwd tyc (upM ad cs.length H.size) (cs ++ (.inl (a, n.toNat, mov cs.length n.toNat) :: List.replicate n.toNat (.inl (a - 4, k.toNat, [])))))[i]? = some q → (i < cs.length ∧ (cwd tyc ad cs)[i]? = some q) ∨ (i = cs.length ∧ q = (H.size, cenA tyc (upM ad cs.length H.size) a n.toNat (mov cs.length n.toNat))) ∨ ∃ j, j < n.toNat ∧ i = cs.length + 1 + j ∧ q = (H.size + 1 + j, cenA tyc (upM ad cs.length H.size) (a - 4) k.toNat []) := by
    intro i q hq
    rw [cwd_get] at hq
    by_cases c : i < cs.length
    · refine Or.inl ⟨c, ?_⟩
      rw [List.getElem?_append_left c] at hq
      rw [← cwd_cg ag (Nat.le_refl _) w3, cwd_get]
      exact hq
    · rw [List.getElem?_append_right (by omega)] at hq
      by_cases c2 : i = cs.length
      · refine Or.inr (Or.inl ⟨c2, ?_⟩)
        rw [c2] at hq
        simp only [Nat.sub_self, List.getElem?_cons_zero, Option.map_some, Option.some.injEq] at hq
        rw [← hq, upM_ge (by omega), Nat.sub_self]
        rfl
      · obtain ⟨j, rfl⟩ : ∃ j, i = cs.length + 1 + j := ⟨i - cs.length - 1, by omega⟩
        have e1 : cs.length + 1 + j - cs.length = j + 1 := by omega
        rw [e1, List.getElem?_cons_succ, List.getElem?_replicate] at hq
        by_cases c3 : j < n.toNat
        · rw [if_pos c3] at hq
          simp only [Option.map_some, Option.some.injEq] at hq
          refine Or.inr (Or.inr ⟨j, c3, rfl, ?_⟩)
          rw [← hq, upM_ge (by omega)]
          have e2 : H.size + (cs.length + 1 + j - cs.length) = H.size + 1 + j := by omega
          rw [e2]
          rfl
        · rw [if_neg c3] at hq
          cases hq
  have hP1 : va_P G clx (cwd tyc (upM ad cs.length H.size) (cs ++ (.inl (a, n.toNat, mov cs.length n.toNat) :: List.replicate n.toNat (.inl (a - 4, k.toNat, []))))) H1 := by
    intro i q hq
    rcases hget i q hq with ⟨c, z⟩ | ⟨c, rfl⟩ | ⟨j, hj, c, rfl⟩
    · exact (hP i q z).kept (old q.1 (hP i q z).lt)
    · have ge : ¬ a < 4 := by omega
      rcases cenA_ge (tyc := tyc) (ad := upM ad cs.length H.size) (n := n.toNat) (ov := mov cs.length n.toNat) ge with z | z
      · rw [z]
        show H1[H.size]? = some (vp_cell _ _)
        rw [vp_cell_q, out, ← hA5.1]
        congr 2
        funext j
        rw [lkC_mov]
        by_cases cj : j < n.toNat
        · rw [if_pos cj, if_pos cj]
          show _ = Value.ref (upM ad cs.length H.size ((cs.length + 1 + j : Nat) : Int).toNat)
          have e3 : cs.length + 1 + j - cs.length = 1 + j := by omega
          rw [Int.toNat_natCast, upM_ge (by omega), e3]
          exact congrArg Value.ref (Nat.add_assoc _ _ _)
        · rw [if_neg cj, if_neg cj]
          rfl
      · omega
    · have h := inn j hj
      rcases hc with ⟨rfl, rfl⟩ | ⟨rfl, rfl⟩
      · show H1[H.size + 1 + j]? = some (vp_cell (tyc 1) (k.toNat, .inl (fun j => Int32.ofInt ((lkC [] j).getD 0))))
        rw [h, vp_cell_i, hA5.2]
        rfl
      · show H1[H.size + 1 + j]? = some (vp_cell (tyc 2) (k.toNat, .inr (.inl (fun j => Int64.ofInt ((lkC [] j).getD 0)))))
        rw [h, vp_cell_l, hA5.2]
        rfl
  have hAn : ∀ q, H.size ≤ q → A q := fun q hq => c10 q (Nat.le_trans hS.1 hq)
  have hD1 : va_D A (cwd tyc (upM ad cs.length H.size) (cs ++ (.inl (a, n.toNat, mov cs.length n.toNat) :: List.replicate n.toNat (.inl (a - 4, k.toNat, []))))) := by
    refine ⟨fun i1 i2 q1 q2 g1 g2 hq => ?_, fun i q g => ?_⟩
    · rcases hget i1 q1 g1 with ⟨d1, z1⟩ | ⟨d1, rfl⟩ | ⟨j1, hj1, d1, rfl⟩ <;> rcases hget i2 q2 g2 with ⟨d2, z2⟩ | ⟨d2, rfl⟩ | ⟨j2, hj2, d2, rfl⟩
      · exact hD.1 i1 i2 q1 q2 z1 z2 hq
      · have := (hP i1 q1 z1).lt
        have hq : q1.1 = H.size := hq
        omega
      · have := (hP i1 q1 z1).lt
        have hq : q1.1 = H.size + 1 + j2 := hq
        omega
      · have := (hP i2 q2 z2).lt
        have hq : H.size = q2.1 := hq
        omega
      · omega
      · have hq : H.size = H.size + 1 + j2 := hq
        omega
      · have := (hP i2 q2 z2).lt
        have hq : H.size + 1 + j1 = q2.1 := hq
        omega
      · have hq : H.size + 1 + j1 = H.size := hq
        omega
      · have hq : H.size + 1 + j1 = H.size + 1 + j2 := hq
        omega
    · rcases hget i q g with ⟨d1, z1⟩ | ⟨d1, rfl⟩ | ⟨j1, hj1, d1, rfl⟩
      · exact hD.2 i q z1
      · exact hAn _ (Nat.le_refl _)
      · exact hAn _ (by show H.size ≤ H.size + 1 + j1; omega)
  have hS1 : va_S A s.heap H1 locs1 := ⟨Nat.le_trans hS.1 (by rw [z1]; omega), fun q q1 q2 => (old q (Nat.lt_of_lt_of_le q1 hS.1)).trans (hS.2.1 q q1 q2), fun q hq => (hlo q hq).elim (hS.2.2 q) (fun z => by rw [z]; exact hAn _ (Nat.le_refl _))⟩
  have kk := K (upM ad cs.length H.size) H1 locs1 lsC (cn + 1 + n.toNat) (sn + n.toNat + n.toNat * k.toNat) ag ⟨LV_cg ag w1 hl, hP1, hD1, hS1⟩ (by simp; omega) (by
    rw [slC_app]
    show _ = slC cs + (n.toNat + slC (List.replicate n.toNat (.inl (a - 4, k.toNat, []))))
    rw [slC_rep]
    show _ = slC cs + (n.toNat + n.toNat * k.toNat)
    omega)
  have es : (vR cs.length 0 :: r).map (cvA (adw (upM ad cs.length H.size))) = .ref H.size :: r.map (cvA (adw ad)) := by
    rw [List.map_cons, st_cg ag w2]
    show Value.ref (upM ad cs.length H.size cs.length) :: _ = _
    rw [upM_ge (by omega), Nat.sub_self]
    rfl
  rw [es] at kk
  exact kk
theorem map_set_cv {ad : Nat → Nat} {vs : List AV} {b : Nat} {w : AV} : (vs.set b w).map (cvF ad) = (vs.map (cvF ad)).set b (cvF ad w) := List.map_set
theorem cs_put {idx a b q : Nat} {w : AV} {vs : List AV} (C : CcP G tyc y p s m args meth c A) (hR : RcP G tyc ad y A s H locs lsC ls cs) (ha : a < 13) (hb : b < nft a) (hbl : b < vs.length) (hg : cs[q]? = some (.inr (a, vs))) (hown : (TXt a b).1 = owt y) (hw : Cond.fieldLink (owt y) idx (TXt a b).1 (TXt a b).2.1 (TXt a b).2.2.1 ∈ wsA) (hf : okFv (fkt a b) w = true) (hd : decode (byt y) pc = .ok (.putfield idx, 3))
    (h1 : cn + b1 = cs.length) (h2 : sn + b2 = slC cs) (K : NXP2 l G tyc y p e R s m args below meth c A Qf b1 b2 cs.length ad (pc + 3) ls r (cs.set q (.inr (a, vs.set b w)))) : W p l e R s m args below meth c H locs cn sn Qf (F0 m pc lsC (cvA (adw ad) w :: .ref (ad q) :: r.map (cvA (adw ad)))) := by
  obtain ⟨c1, c2, c3, c4, c5, c6, c7, c8, c9, c10⟩ := C
  obtain ⟨hl, hP, hD, hS⟩ := hR
  have he : (cwd tyc ad cs)[q]? = some (ad q, .inr (a, vs.map (cvF ad))) := by rw [cwd_get, hg]; rfl
  have hq := (List.getElem?_eq_some_iff.mp hg).1
  have hv : cvA (adw ad) w = cvF ad w ∧ narrow (tyt a b) (cvF ad w) = cvF ad w ∧ fits (tyt a b) (cvF ad w) = true := by
    rcases w with x | x | ⟨z, j⟩ | u
    · have t := (fk_ty a ha b hb).1 (Nat.eq_of_beq_eq_true hf)
      rw [t]
      exact ⟨rfl, rfl, rfl⟩
    · cases hf
    · exact ⟨rfl, narrow_ref (fkt2_ty a ha b hb (Nat.eq_of_beq_eq_true hf)) _⟩
    · cases hf
  have fin : ∀ (H1 : Heap) (locs1 : List Loc), va_P G clx ((cwd tyc ad cs).set q (ad q, .inr (a, (vs.map (cvF ad)).set b (cvF ad w)))) H1 → va_D A ((cwd tyc ad cs).set q (ad q, .inr (a, (vs.map (cvF ad)).set b (cvF ad w)))) → va_S A s.heap H1 locs1 → W p l e R s m args below meth c H1 locs1 cn sn Qf (F0 m (pc + 3) lsC (r.map (cvA (adw ad)))) := fun H1 locs1 hP1 hD1 hS1 => by
    have ew : (cwd tyc ad cs).set q (ad q, .inr (a, (vs.map (cvF ad)).set b (cvF ad w))) = cwd tyc ad (cs.set q (.inr (a, vs.set b w))) := by
      rw [cwd_set hq, ← map_set_cv]
      rfl
    rw [ew] at hP1 hD1
    exact K ad H1 locs1 lsC cn sn (fun _ _ => rfl) ⟨hl, hP1, hD1, hS1⟩ (by rw [List.length_set]; exact h1) (by rw [slC_set cs q _ _ hg (by show (vs.set b w).length = vs.length; rw [List.length_set])]; exact h2)
  rw [hv.1]
  by_cases hfin : (TXt a b).2.2.2 = true
  · exact va_putF c1 c2 (C := RXt a) (T := TXt a) (N := nft a) (ci := a) c8 (uws_in ha) (tyt a) (tyt_ok a ha) (nmt_ok a ha) c6 c9.1 hP hD hS q he (clx_at a ha) b hb (c8 _ hw) (fun _ z => z) hfin c7 hown (tyt_ok a ha b hb) hv.2.1 hv.2.2 (by rw [List.length_map]; exact hbl) hd fin
  · exact va_put c1 c2 (C := RXt a) (T := TXt a) (N := nft a) (ci := a) c8 (uws_in ha) (tyt a) (tyt_ok a ha) (nmt_ok a ha) c6 c9.1 hP hD hS q he (clx_at a ha) b hb (c8 _ hw) (fun _ z => z) (by cases z : (TXt a b).2.2.2 with | true => exact absurd z hfin | false => rfl) (tyt_ok a ha b hb) hv.2.1 hv.2.2 (by rw [List.length_map]; exact hbl) hd fin
end CMUL
