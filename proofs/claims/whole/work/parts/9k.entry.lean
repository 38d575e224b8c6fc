/-! ===== the frame: what the law's entry gives (wip/gen/lw5.body) ===== -/
section ENT
variable {s : State} {args : Array Value}
theorem en_ac {ty : FieldType} (hty : ty = .int ∨ ty = .long ∨ ty = .boolean) (h : (Cond.arrayClass ty).before args s = true) : ∃ cA, ArrOfT s cA ty ∧ va_RA s cA ty := by
  obtain ⟨cA, kA, comp, hname, hkA, hkind⟩ := Cond.arrayClass_spec h
  refine ⟨cA, fun N z => ⟨(fun k h => by cases h), kA, hkA, comp, hkind⟩, ?_⟩
  rcases hty with rfl | rfl | rfl <;> exact hname
theorem en_ao {t : FieldType} (h : (Cond.arrayOver (.array t)).before args s = true) : ∃ cA, ArrOfT s cA (.array t) ∧ va_RA s cA (.array t) := by
  obtain ⟨comp, cA, kA, hcomp, hidx, hkA, hkindA, hnameA⟩ := arrayOverA_spec h
  exact ⟨cA, fun N z => ⟨(fun k h => by cases h), kA, hkA, comp, hkindA⟩, hnameA⟩
theorem en_aq {C : String} (h : (Cond.arrayOver (.object C)).before args s = true) : ∃ cA, ArrOfT s cA (.object C) ∧ va_RA s cA (.object C) := by
  obtain ⟨comp, cA, kA, hcomp, hidx, hkA, hkindA, hnameA⟩ := Cond.arrayOver_spec h
  exact ⟨cA, fun N z => ⟨(fun k h => by cases h), kA, hkA, comp, hkindA⟩, kA, comp, hkA, hkindA, hcomp, hnameA⟩
theorem en_inst : ∀ c, c < 13 → Cond.instantiable (RXt c) (nft c) ∈ wsA := by decide +kernel
theorem en_words : Cond.arrayClass .int ∈ wsA ∧ Cond.arrayClass .long ∈ wsA ∧ Cond.arrayClass .boolean ∈ wsA ∧ Cond.arrayOver (.object "ValleyGuides$Rope") ∈ lw_tbl ∧ Cond.arrayOver (.array .int) ∈ lw_tbl ∧ Cond.arrayOver (.array .long) ∈ lw_tbl := by decide +kernel
theorem en_any {w : Cond} (hw : w.onTables = true) (h : w.before args s = true) : w.before #[] s = true := va_tabs hw rfl h
theorem en_KC (hts : ∀ w ∈ lw_tbl, w.before args s = true) : ∃ (G : va_G) (tyc : Nat → ClassId), KC G tyc s := by
  have hwA : ∀ w ∈ wsA, w.before args s = true := fun w h => hts w (List.mem_filter.mp h).1
  have h1 : ∀ c, ∃ (cC : ClassId), ∃ (iS : Nat → Nat), c < 13 → u_Kn s (RXt c) (TXt c) (nft c) cC iS := fun c => by
    by_cases hc : c < 13
    · obtain ⟨cC, iS, h⟩ := u_known (C := RXt c) (T := TXt c) (N := nft c) (n := nft c) hwA (uws_in hc) (hwA _ (en_inst c hc))
      exact ⟨cC, iS, fun _ => h⟩
    · exact ⟨0, fun _ => 0, fun z => absurd z hc⟩
  obtain ⟨g1, h1⟩ := Classical.axiomOfChoice h1
  obtain ⟨g2, h1⟩ := Classical.axiomOfChoice h1
  obtain ⟨w1, w2, w3, w4, w5, w6⟩ := en_words
  obtain ⟨t1, a1⟩ := en_ac (Or.inl rfl) (hwA _ w1)
  obtain ⟨t2, a2⟩ := en_ac (Or.inr (Or.inl rfl)) (hwA _ w2)
  obtain ⟨t3, a3⟩ := en_ac (Or.inr (Or.inr rfl)) (hwA _ w3)
  obtain ⟨t4, a4⟩ := en_aq (hts _ w4)
  obtain ⟨t5, a5⟩ := en_ao (hts _ w5)
  obtain ⟨t6, a6⟩ := en_ao (hts _ w6)
  refine ⟨(g1, g2), fun k => match k with
    | 1 => t1
    | 2 => t2
    | 3 => t3
    | 4 => t4
    | 5 => t5
    | _ => t6, ⟨fun c q hq => ?_, fun k q hq => ?_⟩, fun w hw hn => ?_, va_AO.of (hts _ w4), hts _ w5, hts _ w6⟩
  · have hc : c < 13 := (List.getElem?_eq_some_iff.mp hq).1
    rw [clx_at c hc] at hq
    cases hq
    exact h1 c hc
  · match k, hq with
    | 0, hq => cases hq; exact a1
    | 1, hq => cases hq; exact a2
    | 2, hq => cases hq; exact a3
    | 3, hq => cases hq; exact a4
    | 4, hq => cases hq; exact a5
    | 5, hq => cases hq; exact a6
    | k + 6, hq => cases hq
  · have h := hts w hw
    cases w <;> first | (cases hn; done) | exact en_any rfl h
abbrev tBI : Term := .static "ValleyGuides$Reader" "BINDS" "[I"
def tSt (i : Nat) : Term := .string "ValleyGuides$Reader" (if i = 0 then 85 else 77)
abbrev tSv (i : Nat) : Term := .field (tSt i) "java/lang/String" "value" "[B"
def gvN : Jvm.Cond := Jvm.Cond.and given_1 narrow_1
theorem fl_bind : Cond.arrayOf tBI .int ∈ flatC gvN ∧ Cond.eq (.length tBI) (.int 28) ∈ flatC gvN ∧ (∀ j, j < 28 → Cond.eq (.elem tBI (.int (Int32.ofNat j))) (.int (Int32.ofInt (roX (j : Int)))) ∈ flatC gvN) := by decide +kernel
theorem fl_str : ∀ i, i < 2 → Cond.exactly (tSt i) "java/lang/String" ∈ flatC gvN ∧ Cond.eq (.field (tSt i) "java/lang/String" "coder" "B") (.int 0) ∈ flatC gvN ∧ Cond.arrayOf (tSv i) .byte ∈ flatC gvN ∧ Cond.eq (.length (tSv i)) (.int (Int32.ofNat (slen.getD i 0))) ∈ flatC gvN ∧ ∀ j, j < slen.getD i 0 → Cond.eq (.elem (tSv i) (.int (Int32.ofNat j))) (.int ((sbyt.getD i []).getD j 0)) ∈ flatC gvN := by decide +kernel
theorem fl_oth : (Cond.not (Cond.eq (tSt 0) (tSt 1)) ∈ flatC gvN ∨ Cond.not (Cond.eq (tSt 1) (tSt 0)) ∈ flatC gvN) ∧ Cond.eq (.static "java/lang/String" "COMPACT_STRINGS" "Z") (.int 1) ∈ flatC gvN ∧ Cond.isRef (.static "jdk/internal/util/Preconditions" "SIOOBE_FORMATTER" "Ljava/util/function/BiFunction;") ∈ flatC gvN := by decide +kernel
theorem fl_wd : Cond.laysStatic "ValleyGuides$Reader" "BINDS" "[I" ∈ lw_tbl ∧ Cond.initialized "ValleyGuides$Reader" ∈ lw_tbl ∧ Cond.laysStatic "java/lang/String" "COMPACT_STRINGS" "Z" ∈ lw_tbl ∧ Cond.initialized "java/lang/String" ∈ lw_tbl ∧ Cond.laysStatic "jdk/internal/util/Preconditions" "SIOOBE_FORMATTER" "Ljava/util/function/BiFunction;" ∈ lw_tbl ∧ Cond.initialized "jdk/internal/util/Preconditions" ∈ lw_tbl ∧ Cond.stringRef "ValleyGuides$Reader" 85 "bar pay ask back or and not wind rain snow quarter grade people hard length day " ∈ lw_tbl ∧ Cond.stringRef "ValleyGuides$Reader" 77 "()+-*<>=;" ∈ lw_tbl := by decide +kernel
theorem en_SX {A : Nat → Prop} (hts : ∀ w ∈ lw_tbl, w.before args s = true) (hg : gvN.before args s = true) (hA : ∀ a : Nat, a < s.heap.size → ¬ A a) (b : Nat) : ∃ sp : Nat → Int → Nat, sp 2000 0 = b ∧ ∀ (G : va_G) (tyc : Nat → ClassId) (ad : Nat → Nat), va_K G clx (tyx (wpO G tyc ad sp)) s → (∀ w ∈ lw_tbl, isNest w = true → va_Nw w s) → KX (wpO G tyc ad sp) s ∧ SX (wpO G tyc ad sp) A s s.heap := by
  have hs := flat_of_before _ hg
  obtain ⟨b1, b2, b3⟩ := fl_bind
  obtain ⟨o1, o2, o3⟩ := fl_oth
  obtain ⟨w1, w2, w3, w4, w5, w6, w7, w8⟩ := fl_wd
  obtain ⟨t, ht, hT⟩ := va_Tof (tm := tBI) (ty := .int) (N := 28) (f := roV) (A := A) (by decide) (hs _ b1) (va_eqv (hs _ b2) rfl) (fun j hj => va_eqv (hs _ (b3 j hj)) rfl) hA
  have hZ := va_Zof (hts _ w1) (hts _ w2) ht hA
  obtain ⟨adK, adV, hS, hE⟩ := vk_Sof (N := 2) (tm := tSt) (len := slen) (byt := sbyt) (A := A) (by decide) (fun i h => hs _ (fl_str i h).1) (fun i h => hs _ (fl_str i h).2.1) (fun i h => hs _ (fl_str i h).2.2.1) (fun i h => hs _ (fl_str i h).2.2.2.1) (fun i h j hj => hs _ ((fl_str i h).2.2.2.2 j hj))
    (fun i j hi hj hne => by
      rcases (by omega : (i = 0 ∧ j = 1) ∨ (i = 1 ∧ j = 0)) with ⟨rfl, rfl⟩ | ⟨rfl, rfl⟩
      · exact o1.elim (fun z => Or.inl (hs _ z)) (fun z => Or.inr (hs _ z))
      · exact o1.elim (fun z => Or.inr (hs _ z)) (fun z => Or.inl (hs _ z))) hA
  have hC := va_Zof (A := A) (hts _ w3) (hts _ w4) (va_eqv (hs _ o2) rfl) hA
  have hQ := va_Zqof (A := A) (hts _ w5) (hts _ w6) (hs _ o3) hA
  obtain ⟨fl, fr, hF⟩ : ∃ fl fr : Nat, va_Z "jdk/internal/util/Preconditions" "SIOOBE_FORMATTER" "Ljava/util/function/BiFunction;" (if fl = 0 then Value.null else Value.ref fr) A s s.heap := by
    rcases hQ with h | ⟨r, h⟩
    · exact ⟨0, 0, h⟩
    · exact ⟨1, r, h⟩
  refine ⟨fun p i => if p = 2000 then b else if p = 1002 then t else if p = 1020 then (if i = 1 then fl else fr) else if p = 1000 ∨ p = 1001 then adK (p - 1000) else adV (p - 1010), rfl, fun G tyc ad hK hN => ⟨⟨hK, hN, ?_, ?_⟩, ⟨hZ, hT⟩, ?_, hC, hF⟩⟩
  · exact vk_R.of (hts _ w7) (hE 0 (by decide))
  · exact vk_R.of (hts _ w8) (hE 1 (by decide))
  · refine ⟨fun i hi => ?_, fun i j hi hj he => ?_⟩
    · have h := hS.1 i hi
      rcases (by omega : i = 0 ∨ i = 1) with rfl | rfl <;> exact h
    · refine hS.2 i j hi hj ?_
      rcases (by omega : i = 0 ∨ i = 1) with rfl | rfl <;> rcases (by omega : j = 0 ∨ j = 1) with rfl | rfl <;> exact he
end ENT
