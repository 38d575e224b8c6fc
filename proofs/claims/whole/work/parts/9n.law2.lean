/-! ===== the law: its loop (wip/gen/lw2.py) ===== -/
def lofs : Array Int := #[203, 226, 317, 350, 373, 406, 439, 482, 525, 548, 581, 614, 657, 700, 743, 796, 839, 872, 905, 928, 951, 1004, 1027, 1040, 1053, 1096, 1139, 1182, 1235, 1278, 1301, 1344, 1377, 1430, 1443, 1476, 1509, 1542, 1585, 1628, 1672, 1706, 1719, 1742, 1765, 1778, 1791]
def lsw : List (Int × Nat) := [(0, 236), (1, 259), (2, 350), (3, 383), (4, 406), (5, 439), (6, 472), (7, 515), (8, 558), (9, 581), (10, 614), (11, 647), (12, 690), (13, 733), (14, 776), (15, 829), (16, 872), (17, 905), (18, 938), (19, 961), (20, 984), (21, 1037), (22, 1060), (23, 1073), (24, 1086), (25, 1129), (26, 1172), (27, 1215), (28, 1268), (29, 1311), (30, 1334), (31, 1377), (32, 1410), (33, 1463), (34, 1476), (35, 1509), (36, 1542), (37, 1575), (38, 1618), (39, 1661), (40, 1705), (41, 1739), (42, 1752), (43, 1775), (44, 1798), (45, 1811), (46, 1824)]
theorem ld_18 : decode code 18 = .ok (Instr.iload_n 3, 1) := by decide +kernel
theorem ld_19 : decode code 19 = .ok (Instr.aload_n 0, 1) := by decide +kernel
theorem ld_20 : decode code 20 = .ok (Instr.arraylength, 1) := by decide +kernel
theorem ld_21 : decode code 21 = .ok (Instr.bipush 7, 2) := by decide +kernel
theorem ld_23 : decode code 23 = .ok (Instr.isub, 1) := by decide +kernel
theorem ld_24 : decode code 24 = .ok (Instr.if_icmp .gt 1829, 3) := by decide +kernel
theorem ld_27 : decode code 27 = .ok (Instr.aload_n 0, 1) := by decide +kernel
theorem ld_28 : decode code 28 = .ok (Instr.iload_n 3, 1) := by decide +kernel
theorem ld_29 : decode code 29 = .ok (Instr.iaload, 1) := by decide +kernel
theorem ld_30 : decode code 30 = .ok (Instr.bipush 63, 2) := by decide +kernel
theorem ld_32 : decode code 32 = .ok (Instr.iand, 1) := by decide +kernel
theorem ld_1847 : decode code 1847 = .ok (Instr.iinc 3 7, 3) := by decide +kernel
theorem ld_1850 : decode code 1850 = .ok (Instr.goto (-1832), 3) := by decide +kernel
theorem ld_1853 : decode code 1853 = .ok (Instr.iconst 1, 1) := by decide +kernel
theorem ld_1854 : decode code 1854 = .ok (Instr.ireturn, 1) := by decide +kernel
theorem ld_33 : decode code 33 = .ok (Instr.tableswitch 1814 0 46 lofs, 203) := by decide +kernel
theorem lsw_ok : lsw.map (fun q => (q.1, (q.2 : Int))) = (List.range lofs.size).map (fun (i : Nat) => ((i : Int), 33 + lofs.getD i 0)) := by decide +kernel
section LOOP
variable {l : Launch} {ω : WP} {p : Program} {e : Env} {s : State} {m : MethodId} {below : List Frame} {meth : Method} {c : Code} {b L : Nat} {xs : Nat → Int32} {A : Nat → Prop} {cn sn : Nat} {Z : State → Prop} {j : Int} {M : Mem}
theorem lj_head (C : LwCx ω p s m meth c b L xs A) (hj : 0 ≤ j ∧ j ≤ 3600) (h1 : LJ l ω p e s m below meth c b A cn sn Z 1853 j [] M) (h2 : j + 7 ≤ (L : Int) → ∀ x : Int, (∀ t, (x, t) ∈ lsw → LJ l ω p e s m below meth c b A cn sn Z t j [] M) ∧ LJ l ω p e s m below meth c b A cn sn Z 1847 j [] M) : LJ l ω p e s m below meth c b A cn sn Z 18 j [] M := by
  obtain ⟨c1, c2, c3, c4, c5, c6, c7, hK, cA, cS, cX, cb, cbA, cω, cL⟩ := C
  intro H locs lsC hM hst hj0 hl hP hD hS
  have g0 : lsC[0]? = some (.val (.ref b)) := by
    rw [← cω]
    exact hl.2.2.2 0 (vR 2000 0) rfl trivial
  have g3 : lsC[3]? = some (.val (.int (Int32.ofInt j))) := hl.2.2.2 3 (vI j) rfl trivial
  have hz : in32 ((L : Int) - 7) := by unfold in32; omega
  have ez : Int32.ofNat L - Int32.ofInt 7 = Int32.ofInt ((L : Int) - 7) := by
    rw [Int32.ofInt_sub]
    rfl
  refine lv_iload_n (i := 3) c1 c2 ld_18 rfl g3 ?_
  refine lv_aload_n (i := 0) c1 c2 ld_19 rfl g0 ?_
  refine va_slen c1 c2 cX cb cbA hS ld_20 ?_
  refine lv_bipush c1 c2 ld_21 (v := Int32.ofInt 7) (by decide) ?_
  refine lv_isub c1 c2 ld_23 ?_
  rw [ez]
  refine lv_icmp_gt (tgt := 1853) c1 c2 ld_24 rfl (fun _ => h1 H locs lsC hM hst hj0 hl hP hD hS) (fun hg => ?_)
  have hle : j + 7 ≤ (L : Int) := by
    have := Int.not_lt.mp (fun z => hg ((o32_lt hz hj0).mpr z))
    omega
  have h2 := h2 hle
  refine lv_aload_n (i := 0) c1 c2 ld_27 rfl g0 ?_
  refine lv_iload_n (i := 3) c1 c2 ld_28 rfl g3 ?_
  refine va_sld c1 c2 cX cb cbA hS (vpin_of hj0 hj.1 (by omega)) ld_29 ?_
  refine lv_bipush c1 c2 ld_30 (v := Int32.ofInt 63) (by decide) ?_
  refine lv_iand c1 c2 ld_32 ?_
  obtain ⟨x, hx⟩ : ∃ x : Int32, x = xs (Int32.ofInt j).toNatClampNeg &&& Int32.ofInt 63 := ⟨_, rfl⟩
  rw [← hx]
  by_cases hi : x.toInt < 0 ∨ 46 < x.toInt
  · exact lv_tableOut (tgt := 1847) c1 c2 ld_33 hi rfl ((h2 0).2 H locs lsC hM hst hj0 hl hP hD hS)
  · have hs : lofs.size = 47 := rfl
    have hn : x.toInt.toNat < lofs.size := by omega
    have hm : (x.toInt, 33 + lofs.getD x.toInt.toNat 0) ∈ (List.range lofs.size).map (fun (i : Nat) => ((i : Int), 33 + lofs.getD i 0)) :=
      List.mem_map.mpr ⟨x.toInt.toNat, List.mem_range.mpr hn, by rw [Int.toNat_of_nonneg (by omega)]⟩
    rw [← lsw_ok] at hm
    obtain ⟨q, hq, hqe⟩ := List.mem_map.mp hm
    have q1 : q.1 = x.toInt := congrArg Prod.fst hqe
    have q2 : (q.2 : Int) = 33 + lofs.getD x.toInt.toNat 0 := congrArg Prod.snd hqe
    have hq' : (x.toInt, q.2) ∈ lsw := by
      rw [← q1]
      exact hq
    refine lv_tableIn (off := lofs.getD x.toInt.toNat 0) (tgt := q.2) c1 c2 ld_33 (by omega) (by omega) ?_ q2.symm ((h2 x.toInt).1 q.2 hq' H locs lsC hM hst hj0 hl hP hD hS)
    rw [Int.sub_zero]
    generalize x.toInt.toNat = k at hn ⊢
    rw [Array.getElem?_eq_getElem hn]
    simp [Array.getD, hn]
theorem lj_tail (C : LwCx ω p s m meth c b L xs A) (hj : 0 ≤ j ∧ j ≤ 3600) (h : LJ l ω p e s m below meth c b A cn sn Z 18 (j + 7) [] M) : LJ l ω p e s m below meth c b A cn sn Z 1847 j [] M := by
  obtain ⟨c1, c2, c3, c4, c5, c6, c7, hK, cA, cS, cX, cb, cbA, cω, cL⟩ := C
  intro H locs lsC hM hst hj0 hl hP hD hS
  have w7 : w32 (j + 7) = j + 7 := w32_id (by unfold in32; omega)
  obtain ⟨k, hk⟩ := List.getElem?_of_mem (mem_lvp (ω := ω) (ls := lgL j) (q := (3, cvA ω (vI j))).mpr ⟨_, rfl, trivial, rfl⟩)
  refine lv_iinc c1 c2 ld_1847 hl.has (k := k) hk (v := Int32.ofInt (j + 7)) (by rw [Int32.ofInt_add]) (by decide) rfl (fun lsC' h' => ?_)
  refine lv_goto (tgt := 18) c1 c2 ld_1850 rfl ?_
  refine h H locs lsC' hM hst (by unfold in32; omega) ?_ hP hD hS
  refine store1_LV (ls := lgL j) (ls' := lgL (j + 7)) (v := vI (j + 7)) hl (fun z => z) rfl (by decide : 3 < 4) (fun i a hi ha => ?_) h'
  match i, hi with
  | 0, hi => exact Or.inr ⟨by decide, hi, fun z => absurd z.1 (by decide)⟩
  | 1, hi => exact Or.inr ⟨by decide, hi, fun z => absurd z.1 (by decide)⟩
  | 2, hi => exact Or.inr ⟨by decide, hi, fun z => by
      cases hi
      exact z.2⟩
  | 3, hi =>
    cases hi
    exact Or.inl ⟨rfl, rfl⟩
  | i + 4, hi => cases hi
end LOOP

section LOOP2
variable {l : Launch} {ω : WP} {p : Program} {e : Env} {s : State} {m : MethodId} {below : List Frame} {meth : Method} {c : Code} {b L : Nat} {xs : Nat → Int32} {A : Nat → Prop} {cn sn : Nat} {Z : State → Prop}
theorem lw_loop (C : LwCx ω p s m meth c b L xs A) (hcn : cn ≤ room_1.cells ∧ sn ≤ room_1.slots) (hend : ∀ j M, LJ l ω p e s m below meth c b A cn sn Z 1853 j [] M) : ∀ (n : Nat) (j k : Int) (M : Mem), n = (3600 - j).toNat → (0 ≤ j ∧ j ≤ 3600) → 7 * k ≤ j → Inv k M → LJ l ω p e s m below meth c b A cn sn Z 18 j [] M := by
  intro n
  induction n using Nat.strongRecOn with
  | _ n ih =>
  intro j k M hn hj hk hI
  refine lj_head C hj (hend j M) (fun hle x => ?_)
  have cL := C.2.2.2.2.2.2.2.2.2.2.2.2.2.2
  have hb : ∀ v : Int, 0 ≤ v → v ≤ 6 → 0 ≤ w32 (j + v) ∧ w32 (j + v) < (L : Int) := fun v a d => by
    rw [w32_id (by unfold in32; omega)]
    omega
  have hc : k < 512 := by omega
  have go : ∀ k' M', 7 * k' ≤ j + 7 → Inv k' M' → LJ l ω p e s m below meth c b A cn sn Z 1847 j [] M' := fun k' M' a hI' =>
    lj_tail C hj (ih (3600 - (j + 7)).toNat (by omega) (j + 7) k' M' rfl (by omega) a hI')
  refine ⟨fun t ht => ?_, go k M (by omega) hI⟩
  have hko : ∀ M', Inv (k + 1) M' → LJ l ω p e s m below meth c b A cn sn Z 1847 j [] M' := fun M' h => go (k + 1) M' (by omega) h
  simp only [lsw, List.mem_cons, Prod.mk.injEq, List.not_mem_nil, or_false] at ht
  rcases ht with ⟨-, rfl⟩ | ⟨-, rfl⟩ | ⟨-, rfl⟩ | ⟨-, rfl⟩ | ⟨-, rfl⟩ | ⟨-, rfl⟩ | ⟨-, rfl⟩ | ⟨-, rfl⟩ | ⟨-, rfl⟩ | ⟨-, rfl⟩ | ⟨-, rfl⟩ | ⟨-, rfl⟩ | ⟨-, rfl⟩ | ⟨-, rfl⟩ | ⟨-, rfl⟩ | ⟨-, rfl⟩ | ⟨-, rfl⟩ | ⟨-, rfl⟩ | ⟨-, rfl⟩ | ⟨-, rfl⟩ | ⟨-, rfl⟩ | ⟨-, rfl⟩ | ⟨-, rfl⟩ | ⟨-, rfl⟩ | ⟨-, rfl⟩ | ⟨-, rfl⟩ | ⟨-, rfl⟩ | ⟨-, rfl⟩ | ⟨-, rfl⟩ | ⟨-, rfl⟩ | ⟨-, rfl⟩ | ⟨-, rfl⟩ | ⟨-, rfl⟩ | ⟨-, rfl⟩ | ⟨-, rfl⟩ | ⟨-, rfl⟩ | ⟨-, rfl⟩ | ⟨-, rfl⟩ | ⟨-, rfl⟩ | ⟨-, rfl⟩ | ⟨-, rfl⟩ | ⟨-, rfl⟩ | ⟨-, rfl⟩ | ⟨-, rfl⟩ | ⟨-, rfl⟩ | ⟨-, rfl⟩ | ⟨-, rfl⟩
  · exact lwR_ok C hcn ltk0 hko _ _ _ _ (lc0 (ko := fun M' => Inv (k + 1) M') hb hc hI (fun _ h => h))
  · exact lwR_ok C hcn ltk1 hko _ _ _ _ (lc1 (ko := fun M' => Inv (k + 1) M') hb hc hI (fun _ h => h))
  · exact lwR_ok C hcn ltk2 hko _ _ _ _ (lc2 (ko := fun M' => Inv (k + 1) M') hb hc hI (fun _ h => h))
  · exact lwR_ok C hcn ltk3 hko _ _ _ _ (lc3 (ko := fun M' => Inv (k + 1) M') hb hc hI (fun _ h => h))
  · exact lwR_ok C hcn ltk4 hko _ _ _ _ (lc4 (ko := fun M' => Inv (k + 1) M') hb hc hI (fun _ h => h))
  · exact lwR_ok C hcn ltk5 hko _ _ _ _ (lc5 (ko := fun M' => Inv (k + 1) M') hb hc hI (fun _ h => h))
  · exact lwR_ok C hcn ltk6 hko _ _ _ _ (lc6 (ko := fun M' => Inv (k + 1) M') hb hc hI (fun _ h => h))
  · exact lwR_ok C hcn ltk7 hko _ _ _ _ (lc7 (ko := fun M' => Inv (k + 1) M') hb hc hI (fun _ h => h))
  · exact lwR_ok C hcn ltk8 hko _ _ _ _ (lc8 (ko := fun M' => Inv (k + 1) M') hb hc hI (fun _ h => h))
  · exact lwR_ok C hcn ltk9 hko _ _ _ _ (lc9 (ko := fun M' => Inv (k + 1) M') hb hc hI (fun _ h => h))
  · exact lwR_ok C hcn ltk10 hko _ _ _ _ (lc10 (ko := fun M' => Inv (k + 1) M') hb hc hI (fun _ h => h))
  · exact lwR_ok C hcn ltk11 hko _ _ _ _ (lc11 (ko := fun M' => Inv (k + 1) M') hb hc hI (fun _ h => h))
  · exact lwR_ok C hcn ltk12 hko _ _ _ _ (lc12 (ko := fun M' => Inv (k + 1) M') hb hc hI (fun _ h => h))
  · exact lwR_ok C hcn ltk13 hko _ _ _ _ (lc13 (ko := fun M' => Inv (k + 1) M') hb hc hI (fun _ h => h))
  · exact lwR_ok C hcn ltk14 hko _ _ _ _ (lc14 (ko := fun M' => Inv (k + 1) M') hb hc hI (fun _ h => h))
  · exact lwR_ok C hcn ltk15 hko _ _ _ _ (lc15 (ko := fun M' => Inv (k + 1) M') hb hc hI (fun _ h => h))
  · exact lwR_ok C hcn ltk16 hko _ _ _ _ (lc16 (ko := fun M' => Inv (k + 1) M') hb hc hI (fun _ h => h))
  · exact lwR_ok C hcn ltk17 hko _ _ _ _ (lc17 (ko := fun M' => Inv (k + 1) M') hb hc hI (fun _ h => h))
  · exact lwR_ok C hcn ltk18 hko _ _ _ _ (lc18 (ko := fun M' => Inv (k + 1) M') hb hc hI (fun _ h => h))
  · exact lwR_ok C hcn ltk19 hko _ _ _ _ (lc19 (ko := fun M' => Inv (k + 1) M') hb hc hI (fun _ h => h))
  · exact lwR_ok C hcn ltk20 hko _ _ _ _ (lc20 (ko := fun M' => Inv (k + 1) M') hb hc hI (fun _ h => h))
  · exact lwR_ok C hcn ltk21 hko _ _ _ _ (lc21 (ko := fun M' => Inv (k + 1) M') hb hc hI (fun _ h => h))
  · exact lwR_ok C hcn ltk22 hko _ _ _ _ (lc22 (ko := fun M' => Inv (k + 1) M') hb hc hI (fun _ h => h))
  · exact lwR_ok C hcn ltk23 hko _ _ _ _ (lc23 (ko := fun M' => Inv (k + 1) M') hb hc hI (fun _ h => h))
  · exact lwR_ok C hcn ltk24 hko _ _ _ _ (lc24 (ko := fun M' => Inv (k + 1) M') hb hc hI (fun _ h => h))
  · exact lwR_ok C hcn ltk25 hko _ _ _ _ (lc25 (ko := fun M' => Inv (k + 1) M') hb hc hI (fun _ h => h))
  · exact lwR_ok C hcn ltk26 hko _ _ _ _ (lc26 (ko := fun M' => Inv (k + 1) M') hb hc hI (fun _ h => h))
  · exact lwR_ok C hcn ltk27 hko _ _ _ _ (lc27 (ko := fun M' => Inv (k + 1) M') hb hc hI (fun _ h => h))
  · exact lwR_ok C hcn ltk28 hko _ _ _ _ (lc28 (ko := fun M' => Inv (k + 1) M') hb hc hI (fun _ h => h))
  · exact lwR_ok C hcn ltk29 hko _ _ _ _ (lc29 (ko := fun M' => Inv (k + 1) M') hb hc hI (fun _ h => h))
  · exact lwR_ok C hcn ltk30 hko _ _ _ _ (lc30 (ko := fun M' => Inv (k + 1) M') hb hc hI (fun _ h => h))
  · exact lwR_ok C hcn ltk31 hko _ _ _ _ (lc31 (ko := fun M' => Inv (k + 1) M') hb hc hI (fun _ h => h))
  · exact lwR_ok C hcn ltk32 hko _ _ _ _ (lc32 (ko := fun M' => Inv (k + 1) M') hb hc hI (fun _ h => h))
  · exact lwR_ok C hcn ltk33 hko _ _ _ _ (lc33 (ko := fun M' => Inv (k + 1) M') hb hc hI (fun _ h => h))
  · exact lwR_ok C hcn ltk34 hko _ _ _ _ (lc34 (ko := fun M' => Inv (k + 1) M') hb hc hI (fun _ h => h))
  · exact lwR_ok C hcn ltk35 hko _ _ _ _ (lc35 (ko := fun M' => Inv (k + 1) M') hb hc hI (fun _ h => h))
  · exact lwR_ok C hcn ltk36 hko _ _ _ _ (lc36 (ko := fun M' => Inv (k + 1) M') hb hc hI (fun _ h => h))
  · exact lwR_ok C hcn ltk37 hko _ _ _ _ (lc37 (ko := fun M' => Inv (k + 1) M') hb hc hI (fun _ h => h))
  · exact lwR_ok C hcn ltk38 hko _ _ _ _ (lc38 (ko := fun M' => Inv (k + 1) M') hb hc hI (fun _ h => h))
  · exact lwR_ok C hcn ltk39 hko _ _ _ _ (lc39 (ko := fun M' => Inv (k + 1) M') hb hc hI (fun _ h => h))
  · exact lwR_ok C hcn ltk40 hko _ _ _ _ (lc40 (ko := fun M' => Inv (k + 1) M') hb hc hI (fun _ h => h))
  · exact lwR_ok C hcn ltk41 hko _ _ _ _ (lc41 (ko := fun M' => Inv (k + 1) M') hb hc hI (fun _ h => h))
  · exact lwR_ok C hcn ltk42 hko _ _ _ _ (lc42 (ko := fun M' => Inv (k + 1) M') hb hc hI (fun _ h => h))
  · exact lwR_ok C hcn ltk43 hko _ _ _ _ (lc43 (ko := fun M' => Inv (k + 1) M') hb hc hI (fun _ h => h))
  · exact lwR_ok C hcn ltk44 hko _ _ _ _ (lc44 (ko := fun M' => Inv (k + 1) M') hb hc hI (fun _ h => h))
  · exact lwR_ok C hcn ltk45 hko _ _ _ _ (lc45 (ko := fun M' => Inv (k + 1) M') hb hc hI (fun _ h => h))
  · exact lwR_ok C hcn ltk46 hko _ _ _ _ (lc46 (ko := fun M' => Inv (k + 1) M') hb hc hI (fun _ h => h))
end LOOP2
