/-! ===== the law: its cases (wip/gen/lw1.py) ===== -/
def lkL : List (Nat × LEnt) → Nat → Option LEnt
  | [], _ => none
  | q :: r, pc => bif Nat.beq q.1 pc then some q.2 else lkL r pc
theorem lkL_mem : ∀ {l : List (Nat × LEnt)} {pc : Nat} {e : LEnt}, lkL l pc = some e → (pc, e) ∈ l
  | [], pc, e, h => by cases h
  | q :: r, pc, e, h => by
    rw [lkL] at h
    cases c : Nat.beq q.1 pc with
    | true =>
      rw [c] at h
      have h : some q.2 = some e := h
      cases h
      rw [← Nat.eq_of_beq_eq_true c]
      exact List.mem_cons_self ..
    | false =>
      rw [c] at h
      exact List.mem_cons_of_mem _ (lkL_mem h)
def lwE (ko : Mem → Prop) (pc : Nat) (st : List AV) (M : Mem) : Prop := match st with
  | [] => match Nat.beq pc 1847 with
    | true => ko M
    | false => False
  | _ :: _ => False
def lwR (l : Launch) (ω : WP) (xs : Nat → Int32) (L : Nat) (j : Int) (tb : List (Nat × LEnt)) (ko : Mem → Prop) (n : Nat) : LFu := Nat.rec (motive := fun _ => LFu) (fun _ _ _ => False) (fun _ ih => fun pc st M => match lkL tb pc with
  | some en => lwS l ω xs L j en st M ih
  | none => lwE ko pc st M) n
theorem lwR_s {l : Launch} {ω : WP} {xs : Nat → Int32} {L : Nat} {j : Int} {tb : List (Nat × LEnt)} {ko : Mem → Prop} {n pc : Nat} {st : List AV} {M : Mem} : lwR l ω xs L j tb ko (n + 1) pc st M = (match lkL tb pc with
  | some en => lwS l ω xs L j en st M (lwR l ω xs L j tb ko n)
  | none => lwE ko pc st M) := rfl
theorem lwE_ok {ko : Mem → Prop} {pc : Nat} {st : List AV} {M : Mem} (h : lwE ko pc st M) : pc = 1847 ∧ st = [] ∧ ko M := by
  unfold lwE at h
  split at h
  · split at h
    · rename_i hb
      exact ⟨Nat.eq_of_beq_eq_true hb, rfl, h⟩
    · exact h.elim
  · exact h.elim
theorem lwR_ok {l : Launch} {ω : WP} {p : Program} {e : Env} {s : State} {m : MethodId} {below : List Frame} {meth : Method} {c : Code} {b L : Nat} {xs : Nat → Int32} {A : Nat → Prop} {cn sn : Nat} {Z : State → Prop} {j : Int} {tb : List (Nat × LEnt)} {ko : Mem → Prop} (C : LwCx ω p s m meth c b L xs A) (hcn : cn ≤ room_1.cells ∧ sn ≤ room_1.slots) (htb : tb.all (fun q => chkLw q.1 q.2) = true) (hko : ∀ M, ko M → LJ l ω p e s m below meth c b A cn sn Z 1847 j [] M) : ∀ (n pc : Nat) (st : List AV) (M : Mem), lwR l ω xs L j tb ko n pc st M → LJ l ω p e s m below meth c b A cn sn Z pc j st M := by
  intro n
  induction n with
  | zero =>
    intro pc st M h
    exact False.elim h
  | succ n ih =>
    intro pc st M h
    rw [lwR_s] at h
    split at h
    · rename_i en he
      exact lw_step C hcn (List.all_eq_true.mp htb (pc, en) (lkL_mem he)) h ih
    · obtain ⟨rfl, rfl, h⟩ := lwE_ok h
      exact hko M h
theorem cmp3_self (x : Int) : cmp3 x x = 0 := by
  unfold cmp3
  rw [if_neg (Int.lt_irrefl x), if_pos rfl]
theorem xsI_in {xs : Nat → Int32} {i : Int} : in32 (xsI xs i) := t32_in _

def lt0 : List (Nat × LEnt) := [(236, (Instr.aload_n 1, 237, 1, 0, 0, 0)), (237, (Instr.aload_n 0, 238, 0, 0, 0, 0)), (238, (Instr.iload_n 3, 239, 3, 0, 0, 0)), (239, (Instr.iconst 1, 240, 0, 0, 1, 0)), (240, (Instr.iadd, 241, 0, 0, 0, 0)), (241, (Instr.iaload, 242, 0, 0, 0, 0)), (242, (Instr.invokevirtual 13, 245, 108, 2, 0, 581)), (245, (Instr.aload_n 2, 246, 2, 0, 0, 0)), (246, (Instr.aload_n 0, 247, 0, 0, 0, 0)), (247, (Instr.iload_n 3, 248, 3, 0, 0, 0)), (248, (Instr.iconst 1, 249, 0, 0, 1, 0)), (249, (Instr.iadd, 250, 0, 0, 0, 0)), (250, (Instr.iaload, 251, 0, 0, 0, 0)), (251, (Instr.invokevirtual 17, 254, 164, 2, 13, 1611)), (254, (Instr.if_icmp .eq 1593, 257, 1847, 0, 0, 0))]
theorem ltk0 : lt0.all (fun q => chkLw q.1 q.2) = true := by decide +kernel
theorem lc0 {l : Launch} {ω : WP} {xs : Nat → Int32} {L : Nat} {j c : Int} {M : Mem} {ko : Mem → Prop} (hb : ∀ v : Int, 0 ≤ v → v ≤ 6 → 0 ≤ w32 (j + v) ∧ w32 (j + v) < (L : Int)) (hc : c < 512) (hI : Inv c M) (hk : ∀ M', Inv (c + 1) M' → ko M') : lwR l ω xs L j lt0 ko 18 236 [] M := by
  conv => whnf
  repeat' first
    | (refine ⟨rfl, hb _ (by decide) (by decide), ?_⟩; conv => whnf)
    | (refine And.intro (fun _ => ?_) (fun _ => ?_) <;> first | contradiction | (conv => whnf))
    | fail
  all_goals refine ⟨rfl, by decide, _, pair_place  hc hI, ?_⟩
  all_goals rintro z M1 ⟨-, v, rfl, hV⟩ hr
  all_goals obtain ⟨x, hx⟩ := hr.1 rfl
  all_goals cases hx
  all_goals conv => whnf
  all_goals repeat' first
    | (refine ⟨rfl, hb _ (by decide) (by decide), ?_⟩; conv => whnf)
    | (refine And.intro (fun _ => ?_) (fun _ => ?_) <;> first | contradiction | (conv => whnf))
    | fail
  all_goals refine ⟨rfl, Nat.le_of_ble_eq_true rfl, _, hV, ?_⟩
  all_goals rintro z2 M2 ⟨-, rfl, hJ⟩ -
  all_goals conv => whnf
  all_goals refine ⟨fun _ => ?_, fun h => absurd rfl h⟩
  all_goals conv => whnf
  all_goals exact hk _ hJ
def lt1 : List (Nat × LEnt) := [(259, (Instr.aload_n 1, 260, 1, 0, 0, 0)), (260, (Instr.aload_n 0, 261, 0, 0, 0, 0)), (261, (Instr.iload_n 3, 262, 3, 0, 0, 0)), (262, (Instr.iconst 1, 263, 0, 0, 1, 0)), (263, (Instr.iadd, 264, 0, 0, 0, 0)), (264, (Instr.iaload, 265, 0, 0, 0, 0)), (265, (Instr.aload_n 0, 266, 0, 0, 0, 0)), (266, (Instr.iload_n 3, 267, 3, 0, 0, 0)), (267, (Instr.iconst 2, 268, 0, 0, 2, 0)), (268, (Instr.iadd, 269, 0, 0, 0, 0)), (269, (Instr.iaload, 270, 0, 0, 0, 0)), (270, (Instr.aload_n 0, 271, 0, 0, 0, 0)), (271, (Instr.iload_n 3, 272, 3, 0, 0, 0)), (272, (Instr.iconst 3, 273, 0, 0, 3, 0)), (273, (Instr.iadd, 274, 0, 0, 0, 0)), (274, (Instr.iaload, 275, 0, 0, 0, 0)), (275, (Instr.aload_n 0, 276, 0, 0, 0, 0)), (276, (Instr.iload_n 3, 277, 3, 0, 0, 0)), (277, (Instr.iconst 4, 278, 0, 0, 4, 0)), (278, (Instr.iadd, 279, 0, 0, 0, 0)), (279, (Instr.iaload, 280, 0, 0, 0, 0)), (280, (Instr.aload_n 0, 281, 0, 0, 0, 0)), (281, (Instr.iload_n 3, 282, 3, 0, 0, 0)), (282, (Instr.iconst 5, 283, 0, 0, 5, 0)), (283, (Instr.iadd, 284, 0, 0, 0, 0)), (284, (Instr.iaload, 285, 0, 0, 0, 0)), (285, (Instr.aload_n 0, 286, 0, 0, 0, 0)), (286, (Instr.iload_n 3, 287, 3, 0, 0, 0)), (287, (Instr.bipush 6, 289, 0, 0, 6, 0)), (289, (Instr.iadd, 290, 0, 0, 0, 0)), (290, (Instr.iaload, 291, 0, 0, 0, 0)), (291, (Instr.ifCond .eq 7, 294, 298, 0, 0, 0)), (294, (Instr.iconst 1, 295, 0, 0, 1, 0)), (295, (Instr.goto 4, 298, 299, 0, 0, 0)), (298, (Instr.iconst 0, 299, 0, 0, 0, 0)), (299, (Instr.invokevirtual 18, 302, 109, 7, 0, 592)), (302, (Instr.aload_n 2, 303, 2, 0, 0, 0)), (303, (Instr.aload_n 0, 304, 0, 0, 0, 0)), (304, (Instr.iload_n 3, 305, 3, 0, 0, 0)), (305, (Instr.iconst 1, 306, 0, 0, 1, 0)), (306, (Instr.iadd, 307, 0, 0, 0, 0)), (307, (Instr.iaload, 308, 0, 0, 0, 0)), (308, (Instr.aload_n 0, 309, 0, 0, 0, 0)), (309, (Instr.iload_n 3, 310, 3, 0, 0, 0)), (310, (Instr.iconst 2, 311, 0, 0, 2, 0)), (311, (Instr.iadd, 312, 0, 0, 0, 0)), (312, (Instr.iaload, 313, 0, 0, 0, 0)), (313, (Instr.aload_n 0, 314, 0, 0, 0, 0)), (314, (Instr.iload_n 3, 315, 3, 0, 0, 0)), (315, (Instr.iconst 3, 316, 0, 0, 3, 0)), (316, (Instr.iadd, 317, 0, 0, 0, 0)), (317, (Instr.iaload, 318, 0, 0, 0, 0)), (318, (Instr.aload_n 0, 319, 0, 0, 0, 0)), (319, (Instr.iload_n 3, 320, 3, 0, 0, 0)), (320, (Instr.iconst 4, 321, 0, 0, 4, 0)), (321, (Instr.iadd, 322, 0, 0, 0, 0)), (322, (Instr.iaload, 323, 0, 0, 0, 0)), (323, (Instr.aload_n 0, 324, 0, 0, 0, 0)), (324, (Instr.iload_n 3, 325, 3, 0, 0, 0)), (325, (Instr.iconst 5, 326, 0, 0, 5, 0)), (326, (Instr.iadd, 327, 0, 0, 0, 0)), (327, (Instr.iaload, 328, 0, 0, 0, 0)), (328, (Instr.aload_n 0, 329, 0, 0, 0, 0)), (329, (Instr.iload_n 3, 330, 3, 0, 0, 0)), (330, (Instr.bipush 6, 332, 0, 0, 6, 0)), (332, (Instr.iadd, 333, 0, 0, 0, 0)), (333, (Instr.iaload, 334, 0, 0, 0, 0)), (334, (Instr.ifCond .eq 7, 337, 341, 0, 0, 0)), (337, (Instr.iconst 1, 338, 0, 0, 1, 0)), (338, (Instr.goto 4, 341, 342, 0, 0, 0)), (341, (Instr.iconst 0, 342, 0, 0, 0, 0)), (342, (Instr.invokevirtual 22, 345, 165, 7, 13, 1619)), (345, (Instr.if_icmp .eq 1502, 348, 1847, 0, 0, 0))]
theorem ltk1 : lt1.all (fun q => chkLw q.1 q.2) = true := by decide +kernel
theorem lc1 {l : Launch} {ω : WP} {xs : Nat → Int32} {L : Nat} {j c : Int} {M : Mem} {ko : Mem → Prop} (hb : ∀ v : Int, 0 ≤ v → v ≤ 6 → 0 ≤ w32 (j + v) ∧ w32 (j + v) < (L : Int)) (hc : c < 512) (hI : Inv c M) (hk : ∀ M', Inv (c + 1) M' → ko M') : lwR l ω xs L j lt1 ko 76 259 [] M := by
  conv => whnf
  repeat' first
    | (refine ⟨rfl, hb _ (by decide) (by decide), ?_⟩; conv => whnf)
    | (refine And.intro (fun _ => ?_) (fun _ => ?_) <;> first | contradiction | (conv => whnf))
    | fail
  all_goals refine ⟨rfl, by decide, _, pair_step (by first | exact xsI_in | (unfold in32; decide)) (by first | exact xsI_in | (unfold in32; decide)) (by first | exact xsI_in | (unfold in32; decide)) (by first | exact xsI_in | (unfold in32; decide)) (by first | exact xsI_in | (unfold in32; decide)) (by first | exact xsI_in | (unfold in32; decide)) (by first | exact Or.inl rfl | exact Or.inr rfl) hc hI, ?_⟩
  all_goals rintro z M1 ⟨-, v, rfl, hV⟩ hr
  all_goals obtain ⟨x, hx⟩ := hr.1 rfl
  all_goals cases hx
  all_goals conv => whnf
  all_goals repeat' first
    | (refine ⟨rfl, hb _ (by decide) (by decide), ?_⟩; conv => whnf)
    | (refine And.intro (fun _ => ?_) (fun _ => ?_) <;> first | contradiction | (conv => whnf))
    | fail
  all_goals refine ⟨rfl, Nat.le_of_ble_eq_true rfl, _, hV, ?_⟩
  all_goals rintro z2 M2 ⟨-, rfl, hJ⟩ -
  all_goals conv => whnf
  all_goals refine ⟨fun _ => ?_, fun h => absurd rfl h⟩
  all_goals conv => whnf
  all_goals exact hk _ hJ
def lt2 : List (Nat × LEnt) := [(350, (Instr.aload_n 1, 351, 1, 0, 0, 0)), (351, (Instr.aload_n 0, 352, 0, 0, 0, 0)), (352, (Instr.iload_n 3, 353, 3, 0, 0, 0)), (353, (Instr.iconst 1, 354, 0, 0, 1, 0)), (354, (Instr.iadd, 355, 0, 0, 0, 0)), (355, (Instr.iaload, 356, 0, 0, 0, 0)), (356, (Instr.aload_n 0, 357, 0, 0, 0, 0)), (357, (Instr.iload_n 3, 358, 3, 0, 0, 0)), (358, (Instr.iconst 2, 359, 0, 0, 2, 0)), (359, (Instr.iadd, 360, 0, 0, 0, 0)), (360, (Instr.iaload, 361, 0, 0, 0, 0)), (361, (Instr.invokevirtual 23, 364, 110, 3, 0, 605)), (364, (Instr.aload_n 2, 365, 2, 0, 0, 0)), (365, (Instr.aload_n 0, 366, 0, 0, 0, 0)), (366, (Instr.iload_n 3, 367, 3, 0, 0, 0)), (367, (Instr.iconst 1, 368, 0, 0, 1, 0)), (368, (Instr.iadd, 369, 0, 0, 0, 0)), (369, (Instr.iaload, 370, 0, 0, 0, 0)), (370, (Instr.aload_n 0, 371, 0, 0, 0, 0)), (371, (Instr.iload_n 3, 372, 3, 0, 0, 0)), (372, (Instr.iconst 2, 373, 0, 0, 2, 0)), (373, (Instr.iadd, 374, 0, 0, 0, 0)), (374, (Instr.iaload, 375, 0, 0, 0, 0)), (375, (Instr.invokevirtual 27, 378, 166, 3, 13, 1629)), (378, (Instr.if_icmp .eq 1469, 381, 1847, 0, 0, 0))]
theorem ltk2 : lt2.all (fun q => chkLw q.1 q.2) = true := by decide +kernel
theorem lc2 {l : Launch} {ω : WP} {xs : Nat → Int32} {L : Nat} {j c : Int} {M : Mem} {ko : Mem → Prop} (hb : ∀ v : Int, 0 ≤ v → v ≤ 6 → 0 ≤ w32 (j + v) ∧ w32 (j + v) < (L : Int)) (hc : c < 512) (hI : Inv c M) (hk : ∀ M', Inv (c + 1) M' → ko M') : lwR l ω xs L j lt2 ko 28 350 [] M := by
  conv => whnf
  repeat' first
    | (refine ⟨rfl, hb _ (by decide) (by decide), ?_⟩; conv => whnf)
    | (refine And.intro (fun _ => ?_) (fun _ => ?_) <;> first | contradiction | (conv => whnf))
    | fail
  all_goals refine ⟨rfl, by decide, _, pair_stepOf (by first | exact xsI_in | (unfold in32; decide)) (by first | exact xsI_in | (unfold in32; decide)) hc hI, ?_⟩
  all_goals rintro z M1 ⟨-, v, rfl, hV⟩ hr
  all_goals obtain ⟨x, hx⟩ := hr.1 rfl
  all_goals cases hx
  all_goals conv => whnf
  all_goals repeat' first
    | (refine ⟨rfl, hb _ (by decide) (by decide), ?_⟩; conv => whnf)
    | (refine And.intro (fun _ => ?_) (fun _ => ?_) <;> first | contradiction | (conv => whnf))
    | fail
  all_goals refine ⟨rfl, Nat.le_of_ble_eq_true rfl, _, hV, ?_⟩
  all_goals rintro z2 M2 ⟨-, rfl, hJ⟩ -
  all_goals conv => whnf
  all_goals refine ⟨fun _ => ?_, fun h => absurd rfl h⟩
  all_goals conv => whnf
  all_goals exact hk _ hJ
def lt3 : List (Nat × LEnt) := [(383, (Instr.aload_n 1, 384, 1, 0, 0, 0)), (384, (Instr.aload_n 0, 385, 0, 0, 0, 0)), (385, (Instr.iload_n 3, 386, 3, 0, 0, 0)), (386, (Instr.iconst 1, 387, 0, 0, 1, 0)), (387, (Instr.iadd, 388, 0, 0, 0, 0)), (388, (Instr.iaload, 389, 0, 0, 0, 0)), (389, (Instr.invokevirtual 28, 392, 111, 2, 0, 613)), (392, (Instr.aload_n 2, 393, 2, 0, 0, 0)), (393, (Instr.aload_n 0, 394, 0, 0, 0, 0)), (394, (Instr.iload_n 3, 395, 3, 0, 0, 0)), (395, (Instr.iconst 1, 396, 0, 0, 1, 0)), (396, (Instr.iadd, 397, 0, 0, 0, 0)), (397, (Instr.iaload, 398, 0, 0, 0, 0)), (398, (Instr.invokevirtual 31, 401, 167, 2, 13, 1637)), (401, (Instr.if_icmp .eq 1446, 404, 1847, 0, 0, 0))]
theorem ltk3 : lt3.all (fun q => chkLw q.1 q.2) = true := by decide +kernel
theorem lc3 {l : Launch} {ω : WP} {xs : Nat → Int32} {L : Nat} {j c : Int} {M : Mem} {ko : Mem → Prop} (hb : ∀ v : Int, 0 ≤ v → v ≤ 6 → 0 ≤ w32 (j + v) ∧ w32 (j + v) < (L : Int)) (hc : c < 512) (hI : Inv c M) (hk : ∀ M', Inv (c + 1) M' → ko M') : lwR l ω xs L j lt3 ko 18 383 [] M := by
  conv => whnf
  repeat' first
    | (refine ⟨rfl, hb _ (by decide) (by decide), ?_⟩; conv => whnf)
    | (refine And.intro (fun _ => ?_) (fun _ => ?_) <;> first | contradiction | (conv => whnf))
    | fail
  all_goals refine ⟨rfl, by decide, _, pair_route (by first | exact xsI_in | (unfold in32; decide)) hc hI, ?_⟩
  all_goals rintro z M1 ⟨-, v, rfl, hV⟩ hr
  all_goals obtain ⟨x, hx⟩ := hr.1 rfl
  all_goals cases hx
  all_goals conv => whnf
  all_goals repeat' first
    | (refine ⟨rfl, hb _ (by decide) (by decide), ?_⟩; conv => whnf)
    | (refine And.intro (fun _ => ?_) (fun _ => ?_) <;> first | contradiction | (conv => whnf))
    | fail
  all_goals refine ⟨rfl, Nat.le_of_ble_eq_true rfl, _, hV, ?_⟩
  all_goals rintro z2 M2 ⟨-, rfl, hJ⟩ -
  all_goals conv => whnf
  all_goals refine ⟨fun _ => ?_, fun h => absurd rfl h⟩
  all_goals conv => whnf
  all_goals exact hk _ hJ
def lt4 : List (Nat × LEnt) := [(406, (Instr.aload_n 1, 407, 1, 0, 0, 0)), (407, (Instr.aload_n 0, 408, 0, 0, 0, 0)), (408, (Instr.iload_n 3, 409, 3, 0, 0, 0)), (409, (Instr.iconst 1, 410, 0, 0, 1, 0)), (410, (Instr.iadd, 411, 0, 0, 0, 0)), (411, (Instr.iaload, 412, 0, 0, 0, 0)), (412, (Instr.aload_n 0, 413, 0, 0, 0, 0)), (413, (Instr.iload_n 3, 414, 3, 0, 0, 0)), (414, (Instr.iconst 2, 415, 0, 0, 2, 0)), (415, (Instr.iadd, 416, 0, 0, 0, 0)), (416, (Instr.iaload, 417, 0, 0, 0, 0)), (417, (Instr.invokevirtual 32, 420, 112, 3, 0, 621)), (420, (Instr.aload_n 2, 421, 2, 0, 0, 0)), (421, (Instr.aload_n 0, 422, 0, 0, 0, 0)), (422, (Instr.iload_n 3, 423, 3, 0, 0, 0)), (423, (Instr.iconst 1, 424, 0, 0, 1, 0)), (424, (Instr.iadd, 425, 0, 0, 0, 0)), (425, (Instr.iaload, 426, 0, 0, 0, 0)), (426, (Instr.aload_n 0, 427, 0, 0, 0, 0)), (427, (Instr.iload_n 3, 428, 3, 0, 0, 0)), (428, (Instr.iconst 2, 429, 0, 0, 2, 0)), (429, (Instr.iadd, 430, 0, 0, 0, 0)), (430, (Instr.iaload, 431, 0, 0, 0, 0)), (431, (Instr.invokevirtual 35, 434, 170, 3, 13, 1641)), (434, (Instr.if_icmp .eq 1413, 437, 1847, 0, 0, 0))]
theorem ltk4 : lt4.all (fun q => chkLw q.1 q.2) = true := by decide +kernel
theorem lc4 {l : Launch} {ω : WP} {xs : Nat → Int32} {L : Nat} {j c : Int} {M : Mem} {ko : Mem → Prop} (hb : ∀ v : Int, 0 ≤ v → v ≤ 6 → 0 ≤ w32 (j + v) ∧ w32 (j + v) < (L : Int)) (hc : c < 512) (hI : Inv c M) (hk : ∀ M', Inv (c + 1) M' → ko M') : lwR l ω xs L j lt4 ko 28 406 [] M := by
  conv => whnf
  repeat' first
    | (refine ⟨rfl, hb _ (by decide) (by decide), ?_⟩; conv => whnf)
    | (refine And.intro (fun _ => ?_) (fun _ => ?_) <;> first | contradiction | (conv => whnf))
    | fail
  all_goals refine ⟨rfl, by decide, _, pair_on (by first | exact xsI_in | (unfold in32; decide)) (by first | exact xsI_in | (unfold in32; decide)) hc hI, ?_⟩
  all_goals rintro z M1 ⟨-, v, rfl, hV⟩ hr
  all_goals obtain ⟨x, hx⟩ := hr.1 rfl
  all_goals cases hx
  all_goals conv => whnf
  all_goals repeat' first
    | (refine ⟨rfl, hb _ (by decide) (by decide), ?_⟩; conv => whnf)
    | (refine And.intro (fun _ => ?_) (fun _ => ?_) <;> first | contradiction | (conv => whnf))
    | fail
  all_goals refine ⟨rfl, Nat.le_of_ble_eq_true rfl, _, hV, ?_⟩
  all_goals rintro z2 M2 ⟨-, rfl, hJ⟩ -
  all_goals conv => whnf
  all_goals refine ⟨fun _ => ?_, fun h => absurd rfl h⟩
  all_goals conv => whnf
  all_goals exact hk _ hJ
def lt5 : List (Nat × LEnt) := [(439, (Instr.aload_n 1, 440, 1, 0, 0, 0)), (440, (Instr.aload_n 0, 441, 0, 0, 0, 0)), (441, (Instr.iload_n 3, 442, 3, 0, 0, 0)), (442, (Instr.iconst 1, 443, 0, 0, 1, 0)), (443, (Instr.iadd, 444, 0, 0, 0, 0)), (444, (Instr.iaload, 445, 0, 0, 0, 0)), (445, (Instr.aload_n 0, 446, 0, 0, 0, 0)), (446, (Instr.iload_n 3, 447, 3, 0, 0, 0)), (447, (Instr.iconst 2, 448, 0, 0, 2, 0)), (448, (Instr.iadd, 449, 0, 0, 0, 0)), (449, (Instr.iaload, 450, 0, 0, 0, 0)), (450, (Instr.invokevirtual 36, 453, 113, 3, 0, 637)), (453, (Instr.aload_n 2, 454, 2, 0, 0, 0)), (454, (Instr.aload_n 0, 455, 0, 0, 0, 0)), (455, (Instr.iload_n 3, 456, 3, 0, 0, 0)), (456, (Instr.iconst 1, 457, 0, 0, 1, 0)), (457, (Instr.iadd, 458, 0, 0, 0, 0)), (458, (Instr.iaload, 459, 0, 0, 0, 0)), (459, (Instr.aload_n 0, 460, 0, 0, 0, 0)), (460, (Instr.iload_n 3, 461, 3, 0, 0, 0)), (461, (Instr.iconst 2, 462, 0, 0, 2, 0)), (462, (Instr.iadd, 463, 0, 0, 0, 0)), (463, (Instr.iaload, 464, 0, 0, 0, 0)), (464, (Instr.invokevirtual 39, 467, 174, 3, 13, 1657)), (467, (Instr.if_icmp .eq 1380, 470, 1847, 0, 0, 0))]
theorem ltk5 : lt5.all (fun q => chkLw q.1 q.2) = true := by decide +kernel
theorem lc5 {l : Launch} {ω : WP} {xs : Nat → Int32} {L : Nat} {j c : Int} {M : Mem} {ko : Mem → Prop} (hb : ∀ v : Int, 0 ≤ v → v ≤ 6 → 0 ≤ w32 (j + v) ∧ w32 (j + v) < (L : Int)) (hc : c < 512) (hI : Inv c M) (hk : ∀ M', Inv (c + 1) M' → ko M') : lwR l ω xs L j lt5 ko 28 439 [] M := by
  conv => whnf
  repeat' first
    | (refine ⟨rfl, hb _ (by decide) (by decide), ?_⟩; conv => whnf)
    | (refine And.intro (fun _ => ?_) (fun _ => ?_) <;> first | contradiction | (conv => whnf))
    | fail
  all_goals refine ⟨rfl, by decide, _, pair_routeOf (by first | exact xsI_in | (unfold in32; decide)) (by first | exact xsI_in | (unfold in32; decide)) hc hI, ?_⟩
  all_goals rintro z M1 ⟨-, v, rfl, hV⟩ hr
  all_goals obtain ⟨x, hx⟩ := hr.1 rfl
  all_goals cases hx
  all_goals conv => whnf
  all_goals repeat' first
    | (refine ⟨rfl, hb _ (by decide) (by decide), ?_⟩; conv => whnf)
    | (refine And.intro (fun _ => ?_) (fun _ => ?_) <;> first | contradiction | (conv => whnf))
    | fail
  all_goals refine ⟨rfl, Nat.le_of_ble_eq_true rfl, _, hV, ?_⟩
  all_goals rintro z2 M2 ⟨-, rfl, hJ⟩ -
  all_goals conv => whnf
  all_goals refine ⟨fun _ => ?_, fun h => absurd rfl h⟩
  all_goals conv => whnf
  all_goals exact hk _ hJ
def lt6 : List (Nat × LEnt) := [(472, (Instr.aload_n 1, 473, 1, 0, 0, 0)), (473, (Instr.aload_n 0, 474, 0, 0, 0, 0)), (474, (Instr.iload_n 3, 475, 3, 0, 0, 0)), (475, (Instr.iconst 1, 476, 0, 0, 1, 0)), (476, (Instr.iadd, 477, 0, 0, 0, 0)), (477, (Instr.iaload, 478, 0, 0, 0, 0)), (478, (Instr.aload_n 0, 479, 0, 0, 0, 0)), (479, (Instr.iload_n 3, 480, 3, 0, 0, 0)), (480, (Instr.iconst 2, 481, 0, 0, 2, 0)), (481, (Instr.iadd, 482, 0, 0, 0, 0)), (482, (Instr.iaload, 483, 0, 0, 0, 0)), (483, (Instr.aload_n 0, 484, 0, 0, 0, 0)), (484, (Instr.iload_n 3, 485, 3, 0, 0, 0)), (485, (Instr.iconst 3, 486, 0, 0, 3, 0)), (486, (Instr.iadd, 487, 0, 0, 0, 0)), (487, (Instr.iaload, 488, 0, 0, 0, 0)), (488, (Instr.invokevirtual 40, 491, 114, 4, 0, 660)), (491, (Instr.aload_n 2, 492, 2, 0, 0, 0)), (492, (Instr.aload_n 0, 493, 0, 0, 0, 0)), (493, (Instr.iload_n 3, 494, 3, 0, 0, 0)), (494, (Instr.iconst 1, 495, 0, 0, 1, 0)), (495, (Instr.iadd, 496, 0, 0, 0, 0)), (496, (Instr.iaload, 497, 0, 0, 0, 0)), (497, (Instr.aload_n 0, 498, 0, 0, 0, 0)), (498, (Instr.iload_n 3, 499, 3, 0, 0, 0)), (499, (Instr.iconst 2, 500, 0, 0, 2, 0)), (500, (Instr.iadd, 501, 0, 0, 0, 0)), (501, (Instr.iaload, 502, 0, 0, 0, 0)), (502, (Instr.aload_n 0, 503, 0, 0, 0, 0)), (503, (Instr.iload_n 3, 504, 3, 0, 0, 0)), (504, (Instr.iconst 3, 505, 0, 0, 3, 0)), (505, (Instr.iadd, 506, 0, 0, 0, 0)), (506, (Instr.iaload, 507, 0, 0, 0, 0)), (507, (Instr.invokevirtual 44, 510, 175, 4, 13, 1674)), (510, (Instr.if_icmp .eq 1337, 513, 1847, 0, 0, 0))]
theorem ltk6 : lt6.all (fun q => chkLw q.1 q.2) = true := by decide +kernel
theorem lc6 {l : Launch} {ω : WP} {xs : Nat → Int32} {L : Nat} {j c : Int} {M : Mem} {ko : Mem → Prop} (hb : ∀ v : Int, 0 ≤ v → v ≤ 6 → 0 ≤ w32 (j + v) ∧ w32 (j + v) < (L : Int)) (hc : c < 512) (hI : Inv c M) (hk : ∀ M', Inv (c + 1) M' → ko M') : lwR l ω xs L j lt6 ko 38 472 [] M := by
  conv => whnf
  repeat' first
    | (refine ⟨rfl, hb _ (by decide) (by decide), ?_⟩; conv => whnf)
    | (refine And.intro (fun _ => ?_) (fun _ => ?_) <;> first | contradiction | (conv => whnf))
    | fail
  all_goals refine ⟨rfl, by decide, _, pair_sheet (by first | exact xsI_in | (unfold in32; decide)) (by first | exact xsI_in | (unfold in32; decide)) (by first | exact xsI_in | (unfold in32; decide)) hc hI, ?_⟩
  all_goals rintro z M1 ⟨-, v, rfl, hV⟩ hr
  all_goals obtain ⟨x, hx⟩ := hr.1 rfl
  all_goals cases hx
  all_goals conv => whnf
  all_goals repeat' first
    | (refine ⟨rfl, hb _ (by decide) (by decide), ?_⟩; conv => whnf)
    | (refine And.intro (fun _ => ?_) (fun _ => ?_) <;> first | contradiction | (conv => whnf))
    | fail
  all_goals refine ⟨rfl, Nat.le_of_ble_eq_true rfl, _, hV, ?_⟩
  all_goals rintro z2 M2 ⟨-, rfl, hJ⟩ -
  all_goals conv => whnf
  all_goals refine ⟨fun _ => ?_, fun h => absurd rfl h⟩
  all_goals conv => whnf
  all_goals exact hk _ hJ
def lt7 : List (Nat × LEnt) := [(515, (Instr.aload_n 1, 516, 1, 0, 0, 0)), (516, (Instr.aload_n 0, 517, 0, 0, 0, 0)), (517, (Instr.iload_n 3, 518, 3, 0, 0, 0)), (518, (Instr.iconst 1, 519, 0, 0, 1, 0)), (519, (Instr.iadd, 520, 0, 0, 0, 0)), (520, (Instr.iaload, 521, 0, 0, 0, 0)), (521, (Instr.aload_n 0, 522, 0, 0, 0, 0)), (522, (Instr.iload_n 3, 523, 3, 0, 0, 0)), (523, (Instr.iconst 2, 524, 0, 0, 2, 0)), (524, (Instr.iadd, 525, 0, 0, 0, 0)), (525, (Instr.iaload, 526, 0, 0, 0, 0)), (526, (Instr.aload_n 0, 527, 0, 0, 0, 0)), (527, (Instr.iload_n 3, 528, 3, 0, 0, 0)), (528, (Instr.iconst 3, 529, 0, 0, 3, 0)), (529, (Instr.iadd, 530, 0, 0, 0, 0)), (530, (Instr.iaload, 531, 0, 0, 0, 0)), (531, (Instr.invokevirtual 45, 534, 115, 4, 0, 668)), (534, (Instr.aload_n 2, 535, 2, 0, 0, 0)), (535, (Instr.aload_n 0, 536, 0, 0, 0, 0)), (536, (Instr.iload_n 3, 537, 3, 0, 0, 0)), (537, (Instr.iconst 1, 538, 0, 0, 1, 0)), (538, (Instr.iadd, 539, 0, 0, 0, 0)), (539, (Instr.iaload, 540, 0, 0, 0, 0)), (540, (Instr.aload_n 0, 541, 0, 0, 0, 0)), (541, (Instr.iload_n 3, 542, 3, 0, 0, 0)), (542, (Instr.iconst 2, 543, 0, 0, 2, 0)), (543, (Instr.iadd, 544, 0, 0, 0, 0)), (544, (Instr.iaload, 545, 0, 0, 0, 0)), (545, (Instr.aload_n 0, 546, 0, 0, 0, 0)), (546, (Instr.iload_n 3, 547, 3, 0, 0, 0)), (547, (Instr.iconst 3, 548, 0, 0, 3, 0)), (548, (Instr.iadd, 549, 0, 0, 0, 0)), (549, (Instr.iaload, 550, 0, 0, 0, 0)), (550, (Instr.invokevirtual 48, 553, 176, 4, 13, 1680)), (553, (Instr.if_icmp .eq 1294, 556, 1847, 0, 0, 0))]
theorem ltk7 : lt7.all (fun q => chkLw q.1 q.2) = true := by decide +kernel
theorem lc7 {l : Launch} {ω : WP} {xs : Nat → Int32} {L : Nat} {j c : Int} {M : Mem} {ko : Mem → Prop} (hb : ∀ v : Int, 0 ≤ v → v ≤ 6 → 0 ≤ w32 (j + v) ∧ w32 (j + v) < (L : Int)) (hc : c < 512) (hI : Inv c M) (hk : ∀ M', Inv (c + 1) M' → ko M') : lwR l ω xs L j lt7 ko 38 515 [] M := by
  conv => whnf
  repeat' first
    | (refine ⟨rfl, hb _ (by decide) (by decide), ?_⟩; conv => whnf)
    | (refine And.intro (fun _ => ?_) (fun _ => ?_) <;> first | contradiction | (conv => whnf))
    | fail
  all_goals refine ⟨rfl, by decide, _, pair_lay (by first | exact xsI_in | (unfold in32; decide)) (by first | exact xsI_in | (unfold in32; decide)) (by first | exact xsI_in | (unfold in32; decide)) hc hI, ?_⟩
  all_goals rintro z M1 ⟨-, v, rfl, hV⟩ hr
  all_goals obtain ⟨x, hx⟩ := hr.1 rfl
  all_goals cases hx
  all_goals conv => whnf
  all_goals repeat' first
    | (refine ⟨rfl, hb _ (by decide) (by decide), ?_⟩; conv => whnf)
    | (refine And.intro (fun _ => ?_) (fun _ => ?_) <;> first | contradiction | (conv => whnf))
    | fail
  all_goals refine ⟨rfl, Nat.le_of_ble_eq_true rfl, _, hV, ?_⟩
  all_goals rintro z2 M2 ⟨-, rfl, hJ⟩ -
  all_goals conv => whnf
  all_goals refine ⟨fun _ => ?_, fun h => absurd rfl h⟩
  all_goals conv => whnf
  all_goals exact hk _ hJ
def lt8 : List (Nat × LEnt) := [(558, (Instr.aload_n 1, 559, 1, 0, 0, 0)), (559, (Instr.aload_n 0, 560, 0, 0, 0, 0)), (560, (Instr.iload_n 3, 561, 3, 0, 0, 0)), (561, (Instr.iconst 1, 562, 0, 0, 1, 0)), (562, (Instr.iadd, 563, 0, 0, 0, 0)), (563, (Instr.iaload, 564, 0, 0, 0, 0)), (564, (Instr.invokevirtual 49, 567, 116, 2, 0, 676)), (567, (Instr.aload_n 2, 568, 2, 0, 0, 0)), (568, (Instr.aload_n 0, 569, 0, 0, 0, 0)), (569, (Instr.iload_n 3, 570, 3, 0, 0, 0)), (570, (Instr.iconst 1, 571, 0, 0, 1, 0)), (571, (Instr.iadd, 572, 0, 0, 0, 0)), (572, (Instr.iaload, 573, 0, 0, 0, 0)), (573, (Instr.invokevirtual 52, 576, 177, 2, 13, 1684)), (576, (Instr.if_icmp .eq 1271, 579, 1847, 0, 0, 0))]
theorem ltk8 : lt8.all (fun q => chkLw q.1 q.2) = true := by decide +kernel
theorem lc8 {l : Launch} {ω : WP} {xs : Nat → Int32} {L : Nat} {j c : Int} {M : Mem} {ko : Mem → Prop} (hb : ∀ v : Int, 0 ≤ v → v ≤ 6 → 0 ≤ w32 (j + v) ∧ w32 (j + v) < (L : Int)) (hc : c < 512) (hI : Inv c M) (hk : ∀ M', Inv (c + 1) M' → ko M') : lwR l ω xs L j lt8 ko 18 558 [] M := by
  conv => whnf
  repeat' first
    | (refine ⟨rfl, hb _ (by decide) (by decide), ?_⟩; conv => whnf)
    | (refine And.intro (fun _ => ?_) (fun _ => ?_) <;> first | contradiction | (conv => whnf))
    | fail
  all_goals refine ⟨rfl, by decide, _, pair_tear (by first | exact xsI_in | (unfold in32; decide)) hc hI, ?_⟩
  all_goals rintro z M1 ⟨-, v, rfl, hV⟩ hr
  all_goals obtain ⟨x, hx⟩ := hr.1 rfl
  all_goals cases hx
  all_goals conv => whnf
  all_goals repeat' first
    | (refine ⟨rfl, hb _ (by decide) (by decide), ?_⟩; conv => whnf)
    | (refine And.intro (fun _ => ?_) (fun _ => ?_) <;> first | contradiction | (conv => whnf))
    | fail
  all_goals refine ⟨rfl, Nat.le_of_ble_eq_true rfl, _, hV, ?_⟩
  all_goals rintro z2 M2 ⟨-, rfl, hJ⟩ -
  all_goals conv => whnf
  all_goals refine ⟨fun _ => ?_, fun h => absurd rfl h⟩
  all_goals conv => whnf
  all_goals exact hk _ hJ
def lt9 : List (Nat × LEnt) := [(581, (Instr.aload_n 1, 582, 1, 0, 0, 0)), (582, (Instr.aload_n 0, 583, 0, 0, 0, 0)), (583, (Instr.iload_n 3, 584, 3, 0, 0, 0)), (584, (Instr.iconst 1, 585, 0, 0, 1, 0)), (585, (Instr.iadd, 586, 0, 0, 0, 0)), (586, (Instr.iaload, 587, 0, 0, 0, 0)), (587, (Instr.aload_n 0, 588, 0, 0, 0, 0)), (588, (Instr.iload_n 3, 589, 3, 0, 0, 0)), (589, (Instr.iconst 2, 590, 0, 0, 2, 0)), (590, (Instr.iadd, 591, 0, 0, 0, 0)), (591, (Instr.iaload, 592, 0, 0, 0, 0)), (592, (Instr.invokevirtual 53, 595, 117, 3, 0, 680)), (595, (Instr.aload_n 2, 596, 2, 0, 0, 0)), (596, (Instr.aload_n 0, 597, 0, 0, 0, 0)), (597, (Instr.iload_n 3, 598, 3, 0, 0, 0)), (598, (Instr.iconst 1, 599, 0, 0, 1, 0)), (599, (Instr.iadd, 600, 0, 0, 0, 0)), (600, (Instr.iaload, 601, 0, 0, 0, 0)), (601, (Instr.aload_n 0, 602, 0, 0, 0, 0)), (602, (Instr.iload_n 3, 603, 3, 0, 0, 0)), (603, (Instr.iconst 2, 604, 0, 0, 2, 0)), (604, (Instr.iadd, 605, 0, 0, 0, 0)), (605, (Instr.iaload, 606, 0, 0, 0, 0)), (606, (Instr.invokevirtual 56, 609, 180, 3, 13, 1688)), (609, (Instr.if_icmp .eq 1238, 612, 1847, 0, 0, 0))]
theorem ltk9 : lt9.all (fun q => chkLw q.1 q.2) = true := by decide +kernel
theorem lc9 {l : Launch} {ω : WP} {xs : Nat → Int32} {L : Nat} {j c : Int} {M : Mem} {ko : Mem → Prop} (hb : ∀ v : Int, 0 ≤ v → v ≤ 6 → 0 ≤ w32 (j + v) ∧ w32 (j + v) < (L : Int)) (hc : c < 512) (hI : Inv c M) (hk : ∀ M', Inv (c + 1) M' → ko M') : lwR l ω xs L j lt9 ko 28 581 [] M := by
  conv => whnf
  repeat' first
    | (refine ⟨rfl, hb _ (by decide) (by decide), ?_⟩; conv => whnf)
    | (refine And.intro (fun _ => ?_) (fun _ => ?_) <;> first | contradiction | (conv => whnf))
    | fail
  all_goals refine ⟨rfl, by decide, _, pair_weather (by first | exact xsI_in | (unfold in32; decide)) (by first | exact xsI_in | (unfold in32; decide)) hc hI, ?_⟩
  all_goals rintro z M1 ⟨-, v, rfl, hV⟩ hr
  all_goals obtain ⟨x, hx⟩ := hr.1 rfl
  all_goals cases hx
  all_goals conv => whnf
  all_goals repeat' first
    | (refine ⟨rfl, hb _ (by decide) (by decide), ?_⟩; conv => whnf)
    | (refine And.intro (fun _ => ?_) (fun _ => ?_) <;> first | contradiction | (conv => whnf))
    | fail
  all_goals refine ⟨rfl, Nat.le_of_ble_eq_true rfl, _, hV, ?_⟩
  all_goals rintro z2 M2 ⟨-, rfl, hJ⟩ -
  all_goals conv => whnf
  all_goals refine ⟨fun _ => ?_, fun h => absurd rfl h⟩
  all_goals conv => whnf
  all_goals exact hk _ hJ
def lt10 : List (Nat × LEnt) := [(614, (Instr.aload_n 1, 615, 1, 0, 0, 0)), (615, (Instr.aload_n 0, 616, 0, 0, 0, 0)), (616, (Instr.iload_n 3, 617, 3, 0, 0, 0)), (617, (Instr.iconst 1, 618, 0, 0, 1, 0)), (618, (Instr.iadd, 619, 0, 0, 0, 0)), (619, (Instr.iaload, 620, 0, 0, 0, 0)), (620, (Instr.aload_n 0, 621, 0, 0, 0, 0)), (621, (Instr.iload_n 3, 622, 3, 0, 0, 0)), (622, (Instr.iconst 2, 623, 0, 0, 2, 0)), (623, (Instr.iadd, 624, 0, 0, 0, 0)), (624, (Instr.iaload, 625, 0, 0, 0, 0)), (625, (Instr.invokevirtual 57, 628, 118, 3, 0, 700)), (628, (Instr.aload_n 2, 629, 2, 0, 0, 0)), (629, (Instr.aload_n 0, 630, 0, 0, 0, 0)), (630, (Instr.iload_n 3, 631, 3, 0, 0, 0)), (631, (Instr.iconst 1, 632, 0, 0, 1, 0)), (632, (Instr.iadd, 633, 0, 0, 0, 0)), (633, (Instr.iaload, 634, 0, 0, 0, 0)), (634, (Instr.aload_n 0, 635, 0, 0, 0, 0)), (635, (Instr.iload_n 3, 636, 3, 0, 0, 0)), (636, (Instr.iconst 2, 637, 0, 0, 2, 0)), (637, (Instr.iadd, 638, 0, 0, 0, 0)), (638, (Instr.iaload, 639, 0, 0, 0, 0)), (639, (Instr.invokevirtual 60, 642, 181, 3, 13, 1704)), (642, (Instr.if_icmp .eq 1205, 645, 1847, 0, 0, 0))]
theorem ltk10 : lt10.all (fun q => chkLw q.1 q.2) = true := by decide +kernel
theorem lc10 {l : Launch} {ω : WP} {xs : Nat → Int32} {L : Nat} {j c : Int} {M : Mem} {ko : Mem → Prop} (hb : ∀ v : Int, 0 ≤ v → v ≤ 6 → 0 ≤ w32 (j + v) ∧ w32 (j + v) < (L : Int)) (hc : c < 512) (hI : Inv c M) (hk : ∀ M', Inv (c + 1) M' → ko M') : lwR l ω xs L j lt10 ko 28 614 [] M := by
  conv => whnf
  repeat' first
    | (refine ⟨rfl, hb _ (by decide) (by decide), ?_⟩; conv => whnf)
    | (refine And.intro (fun _ => ?_) (fun _ => ?_) <;> first | contradiction | (conv => whnf))
    | fail
  all_goals refine ⟨rfl, by decide, _, pair_unknown (by first | exact xsI_in | (unfold in32; decide)) (by first | exact xsI_in | (unfold in32; decide)) hc hI, ?_⟩
  all_goals rintro z M1 ⟨-, v, rfl, hV⟩ hr
  all_goals obtain ⟨x, hx⟩ := hr.1 rfl
  all_goals cases hx
  all_goals conv => whnf
  all_goals repeat' first
    | (refine ⟨rfl, hb _ (by decide) (by decide), ?_⟩; conv => whnf)
    | (refine And.intro (fun _ => ?_) (fun _ => ?_) <;> first | contradiction | (conv => whnf))
    | fail
  all_goals refine ⟨rfl, Nat.le_of_ble_eq_true rfl, _, hV, ?_⟩
  all_goals rintro z2 M2 ⟨-, rfl, hJ⟩ -
  all_goals conv => whnf
  all_goals refine ⟨fun _ => ?_, fun h => absurd rfl h⟩
  all_goals conv => whnf
  all_goals exact hk _ hJ
def lt11 : List (Nat × LEnt) := [(647, (Instr.aload_n 1, 648, 1, 0, 0, 0)), (648, (Instr.aload_n 0, 649, 0, 0, 0, 0)), (649, (Instr.iload_n 3, 650, 3, 0, 0, 0)), (650, (Instr.iconst 1, 651, 0, 0, 1, 0)), (651, (Instr.iadd, 652, 0, 0, 0, 0)), (652, (Instr.iaload, 653, 0, 0, 0, 0)), (653, (Instr.aload_n 0, 654, 0, 0, 0, 0)), (654, (Instr.iload_n 3, 655, 3, 0, 0, 0)), (655, (Instr.iconst 2, 656, 0, 0, 2, 0)), (656, (Instr.iadd, 657, 0, 0, 0, 0)), (657, (Instr.iaload, 658, 0, 0, 0, 0)), (658, (Instr.aload_n 0, 659, 0, 0, 0, 0)), (659, (Instr.iload_n 3, 660, 3, 0, 0, 0)), (660, (Instr.iconst 3, 661, 0, 0, 3, 0)), (661, (Instr.iadd, 662, 0, 0, 0, 0)), (662, (Instr.iaload, 663, 0, 0, 0, 0)), (663, (Instr.invokevirtual 61, 666, 119, 4, 0, 705)), (666, (Instr.aload_n 2, 667, 2, 0, 0, 0)), (667, (Instr.aload_n 0, 668, 0, 0, 0, 0)), (668, (Instr.iload_n 3, 669, 3, 0, 0, 0)), (669, (Instr.iconst 1, 670, 0, 0, 1, 0)), (670, (Instr.iadd, 671, 0, 0, 0, 0)), (671, (Instr.iaload, 672, 0, 0, 0, 0)), (672, (Instr.aload_n 0, 673, 0, 0, 0, 0)), (673, (Instr.iload_n 3, 674, 3, 0, 0, 0)), (674, (Instr.iconst 2, 675, 0, 0, 2, 0)), (675, (Instr.iadd, 676, 0, 0, 0, 0)), (676, (Instr.iaload, 677, 0, 0, 0, 0)), (677, (Instr.aload_n 0, 678, 0, 0, 0, 0)), (678, (Instr.iload_n 3, 679, 3, 0, 0, 0)), (679, (Instr.iconst 3, 680, 0, 0, 3, 0)), (680, (Instr.iadd, 681, 0, 0, 0, 0)), (681, (Instr.iaload, 682, 0, 0, 0, 0)), (682, (Instr.invokevirtual 64, 685, 183, 4, 13, 1708)), (685, (Instr.if_icmp .eq 1162, 688, 1847, 0, 0, 0))]
theorem ltk11 : lt11.all (fun q => chkLw q.1 q.2) = true := by decide +kernel
theorem lc11 {l : Launch} {ω : WP} {xs : Nat → Int32} {L : Nat} {j c : Int} {M : Mem} {ko : Mem → Prop} (hb : ∀ v : Int, 0 ≤ v → v ≤ 6 → 0 ≤ w32 (j + v) ∧ w32 (j + v) < (L : Int)) (hc : c < 512) (hI : Inv c M) (hk : ∀ M', Inv (c + 1) M' → ko M') : lwR l ω xs L j lt11 ko 38 647 [] M := by
  conv => whnf
  repeat' first
    | (refine ⟨rfl, hb _ (by decide) (by decide), ?_⟩; conv => whnf)
    | (refine And.intro (fun _ => ?_) (fun _ => ?_) <;> first | contradiction | (conv => whnf))
    | fail
  all_goals refine ⟨rfl, by decide, _, pair_takes (by first | exact xsI_in | (unfold in32; decide)) (by first | exact xsI_in | (unfold in32; decide)) (by first | exact xsI_in | (unfold in32; decide)) hc hI, ?_⟩
  all_goals rintro z M1 ⟨-, v, rfl, hV⟩ hr
  all_goals obtain ⟨x, hx⟩ := hr.1 rfl
  all_goals cases hx
  all_goals conv => whnf
  all_goals repeat' first
    | (refine ⟨rfl, hb _ (by decide) (by decide), ?_⟩; conv => whnf)
    | (refine And.intro (fun _ => ?_) (fun _ => ?_) <;> first | contradiction | (conv => whnf))
    | fail
  all_goals refine ⟨rfl, Nat.le_of_ble_eq_true rfl, _, hV, ?_⟩
  all_goals rintro z2 M2 ⟨-, rfl, hJ⟩ -
  all_goals conv => whnf
  all_goals refine ⟨fun _ => ?_, fun h => absurd rfl h⟩
  all_goals conv => whnf
  all_goals exact hk _ hJ
def lt12 : List (Nat × LEnt) := [(690, (Instr.aload_n 1, 691, 1, 0, 0, 0)), (691, (Instr.aload_n 0, 692, 0, 0, 0, 0)), (692, (Instr.iload_n 3, 693, 3, 0, 0, 0)), (693, (Instr.iconst 1, 694, 0, 0, 1, 0)), (694, (Instr.iadd, 695, 0, 0, 0, 0)), (695, (Instr.iaload, 696, 0, 0, 0, 0)), (696, (Instr.aload_n 0, 697, 0, 0, 0, 0)), (697, (Instr.iload_n 3, 698, 3, 0, 0, 0)), (698, (Instr.iconst 2, 699, 0, 0, 2, 0)), (699, (Instr.iadd, 700, 0, 0, 0, 0)), (700, (Instr.iaload, 701, 0, 0, 0, 0)), (701, (Instr.aload_n 0, 702, 0, 0, 0, 0)), (702, (Instr.iload_n 3, 703, 3, 0, 0, 0)), (703, (Instr.iconst 3, 704, 0, 0, 3, 0)), (704, (Instr.iadd, 705, 0, 0, 0, 0)), (705, (Instr.iaload, 706, 0, 0, 0, 0)), (706, (Instr.invokevirtual 65, 709, 120, 4, 0, 720)), (709, (Instr.aload_n 2, 710, 2, 0, 0, 0)), (710, (Instr.aload_n 0, 711, 0, 0, 0, 0)), (711, (Instr.iload_n 3, 712, 3, 0, 0, 0)), (712, (Instr.iconst 1, 713, 0, 0, 1, 0)), (713, (Instr.iadd, 714, 0, 0, 0, 0)), (714, (Instr.iaload, 715, 0, 0, 0, 0)), (715, (Instr.aload_n 0, 716, 0, 0, 0, 0)), (716, (Instr.iload_n 3, 717, 3, 0, 0, 0)), (717, (Instr.iconst 2, 718, 0, 0, 2, 0)), (718, (Instr.iadd, 719, 0, 0, 0, 0)), (719, (Instr.iaload, 720, 0, 0, 0, 0)), (720, (Instr.aload_n 0, 721, 0, 0, 0, 0)), (721, (Instr.iload_n 3, 722, 3, 0, 0, 0)), (722, (Instr.iconst 3, 723, 0, 0, 3, 0)), (723, (Instr.iadd, 724, 0, 0, 0, 0)), (724, (Instr.iaload, 725, 0, 0, 0, 0)), (725, (Instr.invokevirtual 68, 728, 185, 4, 13, 1717)), (728, (Instr.if_icmp .eq 1119, 731, 1847, 0, 0, 0))]
theorem ltk12 : lt12.all (fun q => chkLw q.1 q.2) = true := by decide +kernel
theorem lc12 {l : Launch} {ω : WP} {xs : Nat → Int32} {L : Nat} {j c : Int} {M : Mem} {ko : Mem → Prop} (hb : ∀ v : Int, 0 ≤ v → v ≤ 6 → 0 ≤ w32 (j + v) ∧ w32 (j + v) < (L : Int)) (hc : c < 512) (hI : Inv c M) (hk : ∀ M', Inv (c + 1) M' → ko M') : lwR l ω xs L j lt12 ko 38 690 [] M := by
  conv => whnf
  repeat' first
    | (refine ⟨rfl, hb _ (by decide) (by decide), ?_⟩; conv => whnf)
    | (refine And.intro (fun _ => ?_) (fun _ => ?_) <;> first | contradiction | (conv => whnf))
    | fail
  all_goals refine ⟨rfl, by decide, _, pair_hour (by first | exact xsI_in | (unfold in32; decide)) (by first | exact xsI_in | (unfold in32; decide)) (by first | exact xsI_in | (unfold in32; decide)) hc hI, ?_⟩
  all_goals rintro z M1 ⟨-, v, rfl, hV⟩ hr
  all_goals obtain ⟨x, hx⟩ := hr.1 rfl
  all_goals cases hx
  all_goals conv => whnf
  all_goals repeat' first
    | (refine ⟨rfl, hb _ (by decide) (by decide), ?_⟩; conv => whnf)
    | (refine And.intro (fun _ => ?_) (fun _ => ?_) <;> first | contradiction | (conv => whnf))
    | fail
  all_goals refine ⟨rfl, Nat.le_of_ble_eq_true rfl, _, hV, ?_⟩
  all_goals rintro z2 M2 ⟨-, rfl, hJ⟩ -
  all_goals conv => whnf
  all_goals refine ⟨fun _ => ?_, fun h => absurd rfl h⟩
  all_goals conv => whnf
  all_goals exact hk _ hJ
def lt13 : List (Nat × LEnt) := [(733, (Instr.aload_n 1, 734, 1, 0, 0, 0)), (734, (Instr.aload_n 0, 735, 0, 0, 0, 0)), (735, (Instr.iload_n 3, 736, 3, 0, 0, 0)), (736, (Instr.iconst 1, 737, 0, 0, 1, 0)), (737, (Instr.iadd, 738, 0, 0, 0, 0)), (738, (Instr.iaload, 739, 0, 0, 0, 0)), (739, (Instr.aload_n 0, 740, 0, 0, 0, 0)), (740, (Instr.iload_n 3, 741, 3, 0, 0, 0)), (741, (Instr.iconst 2, 742, 0, 0, 2, 0)), (742, (Instr.iadd, 743, 0, 0, 0, 0)), (743, (Instr.iaload, 744, 0, 0, 0, 0)), (744, (Instr.aload_n 0, 745, 0, 0, 0, 0)), (745, (Instr.iload_n 3, 746, 3, 0, 0, 0)), (746, (Instr.iconst 3, 747, 0, 0, 3, 0)), (747, (Instr.iadd, 748, 0, 0, 0, 0)), (748, (Instr.iaload, 749, 0, 0, 0, 0)), (749, (Instr.invokevirtual 69, 752, 121, 4, 0, 729)), (752, (Instr.aload_n 2, 753, 2, 0, 0, 0)), (753, (Instr.aload_n 0, 754, 0, 0, 0, 0)), (754, (Instr.iload_n 3, 755, 3, 0, 0, 0)), (755, (Instr.iconst 1, 756, 0, 0, 1, 0)), (756, (Instr.iadd, 757, 0, 0, 0, 0)), (757, (Instr.iaload, 758, 0, 0, 0, 0)), (758, (Instr.aload_n 0, 759, 0, 0, 0, 0)), (759, (Instr.iload_n 3, 760, 3, 0, 0, 0)), (760, (Instr.iconst 2, 761, 0, 0, 2, 0)), (761, (Instr.iadd, 762, 0, 0, 0, 0)), (762, (Instr.iaload, 763, 0, 0, 0, 0)), (763, (Instr.aload_n 0, 764, 0, 0, 0, 0)), (764, (Instr.iload_n 3, 765, 3, 0, 0, 0)), (765, (Instr.iconst 3, 766, 0, 0, 3, 0)), (766, (Instr.iadd, 767, 0, 0, 0, 0)), (767, (Instr.iaload, 768, 0, 0, 0, 0)), (768, (Instr.invokevirtual 72, 771, 186, 4, 13, 1725)), (771, (Instr.if_icmp .eq 1076, 774, 1847, 0, 0, 0))]
theorem ltk13 : lt13.all (fun q => chkLw q.1 q.2) = true := by decide +kernel
theorem lc13 {l : Launch} {ω : WP} {xs : Nat → Int32} {L : Nat} {j c : Int} {M : Mem} {ko : Mem → Prop} (hb : ∀ v : Int, 0 ≤ v → v ≤ 6 → 0 ≤ w32 (j + v) ∧ w32 (j + v) < (L : Int)) (hc : c < 512) (hI : Inv c M) (hk : ∀ M', Inv (c + 1) M' → ko M') : lwR l ω xs L j lt13 ko 38 733 [] M := by
  conv => whnf
  repeat' first
    | (refine ⟨rfl, hb _ (by decide) (by decide), ?_⟩; conv => whnf)
    | (refine And.intro (fun _ => ?_) (fun _ => ?_) <;> first | contradiction | (conv => whnf))
    | fail
  all_goals refine ⟨rfl, by decide, _, pair_late (by first | exact xsI_in | (unfold in32; decide)) (by first | exact xsI_in | (unfold in32; decide)) (by first | exact xsI_in | (unfold in32; decide)) hc hI, ?_⟩
  all_goals rintro z M1 ⟨-, v, rfl, hV⟩ hr
  all_goals obtain ⟨x, hx⟩ := hr.1 rfl
  all_goals cases hx
  all_goals conv => whnf
  all_goals repeat' first
    | (refine ⟨rfl, hb _ (by decide) (by decide), ?_⟩; conv => whnf)
    | (refine And.intro (fun _ => ?_) (fun _ => ?_) <;> first | contradiction | (conv => whnf))
    | fail
  all_goals refine ⟨rfl, Nat.le_of_ble_eq_true rfl, _, hV, ?_⟩
  all_goals rintro z2 M2 ⟨-, rfl, hJ⟩ -
  all_goals conv => whnf
  all_goals refine ⟨fun _ => ?_, fun h => absurd rfl h⟩
  all_goals conv => whnf
  all_goals exact hk _ hJ
def lt14 : List (Nat × LEnt) := [(776, (Instr.aload_n 1, 777, 1, 0, 0, 0)), (777, (Instr.aload_n 0, 778, 0, 0, 0, 0)), (778, (Instr.iload_n 3, 779, 3, 0, 0, 0)), (779, (Instr.iconst 1, 780, 0, 0, 1, 0)), (780, (Instr.iadd, 781, 0, 0, 0, 0)), (781, (Instr.iaload, 782, 0, 0, 0, 0)), (782, (Instr.aload_n 0, 783, 0, 0, 0, 0)), (783, (Instr.iload_n 3, 784, 3, 0, 0, 0)), (784, (Instr.iconst 2, 785, 0, 0, 2, 0)), (785, (Instr.iadd, 786, 0, 0, 0, 0)), (786, (Instr.iaload, 787, 0, 0, 0, 0)), (787, (Instr.aload_n 0, 788, 0, 0, 0, 0)), (788, (Instr.iload_n 3, 789, 3, 0, 0, 0)), (789, (Instr.iconst 3, 790, 0, 0, 3, 0)), (790, (Instr.iadd, 791, 0, 0, 0, 0)), (791, (Instr.iaload, 792, 0, 0, 0, 0)), (792, (Instr.aload_n 0, 793, 0, 0, 0, 0)), (793, (Instr.iload_n 3, 794, 3, 0, 0, 0)), (794, (Instr.iconst 4, 795, 0, 0, 4, 0)), (795, (Instr.iadd, 796, 0, 0, 0, 0)), (796, (Instr.iaload, 797, 0, 0, 0, 0)), (797, (Instr.invokevirtual 73, 800, 122, 5, 0, 738)), (800, (Instr.aload_n 2, 801, 2, 0, 0, 0)), (801, (Instr.aload_n 0, 802, 0, 0, 0, 0)), (802, (Instr.iload_n 3, 803, 3, 0, 0, 0)), (803, (Instr.iconst 1, 804, 0, 0, 1, 0)), (804, (Instr.iadd, 805, 0, 0, 0, 0)), (805, (Instr.iaload, 806, 0, 0, 0, 0)), (806, (Instr.aload_n 0, 807, 0, 0, 0, 0)), (807, (Instr.iload_n 3, 808, 3, 0, 0, 0)), (808, (Instr.iconst 2, 809, 0, 0, 2, 0)), (809, (Instr.iadd, 810, 0, 0, 0, 0)), (810, (Instr.iaload, 811, 0, 0, 0, 0)), (811, (Instr.aload_n 0, 812, 0, 0, 0, 0)), (812, (Instr.iload_n 3, 813, 3, 0, 0, 0)), (813, (Instr.iconst 3, 814, 0, 0, 3, 0)), (814, (Instr.iadd, 815, 0, 0, 0, 0)), (815, (Instr.iaload, 816, 0, 0, 0, 0)), (816, (Instr.aload_n 0, 817, 0, 0, 0, 0)), (817, (Instr.iload_n 3, 818, 3, 0, 0, 0)), (818, (Instr.iconst 4, 819, 0, 0, 4, 0)), (819, (Instr.iadd, 820, 0, 0, 0, 0)), (820, (Instr.iaload, 821, 0, 0, 0, 0)), (821, (Instr.invokevirtual 77, 824, 188, 5, 13, 1729)), (824, (Instr.if_icmp .eq 1023, 827, 1847, 0, 0, 0))]
theorem ltk14 : lt14.all (fun q => chkLw q.1 q.2) = true := by decide +kernel
theorem lc14 {l : Launch} {ω : WP} {xs : Nat → Int32} {L : Nat} {j c : Int} {M : Mem} {ko : Mem → Prop} (hb : ∀ v : Int, 0 ≤ v → v ≤ 6 → 0 ≤ w32 (j + v) ∧ w32 (j + v) < (L : Int)) (hc : c < 512) (hI : Inv c M) (hk : ∀ M', Inv (c + 1) M' → ko M') : lwR l ω xs L j lt14 ko 48 776 [] M := by
  conv => whnf
  repeat' first
    | (refine ⟨rfl, hb _ (by decide) (by decide), ?_⟩; conv => whnf)
    | (refine And.intro (fun _ => ?_) (fun _ => ?_) <;> first | contradiction | (conv => whnf))
    | fail
  all_goals refine ⟨rfl, by decide, _, pair_way (by first | exact xsI_in | (unfold in32; decide)) (by first | exact xsI_in | (unfold in32; decide)) (by first | exact xsI_in | (unfold in32; decide)) (by first | exact xsI_in | (unfold in32; decide)) hc hI, ?_⟩
  all_goals rintro z M1 ⟨-, v, rfl, hV⟩ hr
  all_goals obtain ⟨x, hx⟩ := hr.1 rfl
  all_goals cases hx
  all_goals conv => whnf
  all_goals repeat' first
    | (refine ⟨rfl, hb _ (by decide) (by decide), ?_⟩; conv => whnf)
    | (refine And.intro (fun _ => ?_) (fun _ => ?_) <;> first | contradiction | (conv => whnf))
    | fail
  all_goals refine ⟨rfl, Nat.le_of_ble_eq_true rfl, _, hV, ?_⟩
  all_goals rintro z2 M2 ⟨-, rfl, hJ⟩ -
  all_goals conv => whnf
  all_goals refine ⟨fun _ => ?_, fun h => absurd rfl h⟩
  all_goals conv => whnf
  all_goals exact hk _ hJ
def lt15 : List (Nat × LEnt) := [(829, (Instr.aload_n 1, 830, 1, 0, 0, 0)), (830, (Instr.aload_n 0, 831, 0, 0, 0, 0)), (831, (Instr.iload_n 3, 832, 3, 0, 0, 0)), (832, (Instr.iconst 1, 833, 0, 0, 1, 0)), (833, (Instr.iadd, 834, 0, 0, 0, 0)), (834, (Instr.iaload, 835, 0, 0, 0, 0)), (835, (Instr.aload_n 0, 836, 0, 0, 0, 0)), (836, (Instr.iload_n 3, 837, 3, 0, 0, 0)), (837, (Instr.iconst 2, 838, 0, 0, 2, 0)), (838, (Instr.iadd, 839, 0, 0, 0, 0)), (839, (Instr.iaload, 840, 0, 0, 0, 0)), (840, (Instr.aload_n 0, 841, 0, 0, 0, 0)), (841, (Instr.iload_n 3, 842, 3, 0, 0, 0)), (842, (Instr.iconst 3, 843, 0, 0, 3, 0)), (843, (Instr.iadd, 844, 0, 0, 0, 0)), (844, (Instr.iaload, 845, 0, 0, 0, 0)), (845, (Instr.invokevirtual 78, 848, 123, 4, 0, 755)), (848, (Instr.aload_n 2, 849, 2, 0, 0, 0)), (849, (Instr.aload_n 0, 850, 0, 0, 0, 0)), (850, (Instr.iload_n 3, 851, 3, 0, 0, 0)), (851, (Instr.iconst 1, 852, 0, 0, 1, 0)), (852, (Instr.iadd, 853, 0, 0, 0, 0)), (853, (Instr.iaload, 854, 0, 0, 0, 0)), (854, (Instr.aload_n 0, 855, 0, 0, 0, 0)), (855, (Instr.iload_n 3, 856, 3, 0, 0, 0)), (856, (Instr.iconst 2, 857, 0, 0, 2, 0)), (857, (Instr.iadd, 858, 0, 0, 0, 0)), (858, (Instr.iaload, 859, 0, 0, 0, 0)), (859, (Instr.aload_n 0, 860, 0, 0, 0, 0)), (860, (Instr.iload_n 3, 861, 3, 0, 0, 0)), (861, (Instr.iconst 3, 862, 0, 0, 3, 0)), (862, (Instr.iadd, 863, 0, 0, 0, 0)), (863, (Instr.iaload, 864, 0, 0, 0, 0)), (864, (Instr.invokevirtual 81, 867, 190, 4, 13, 1737)), (867, (Instr.if_icmp .eq 980, 870, 1847, 0, 0, 0))]
theorem ltk15 : lt15.all (fun q => chkLw q.1 q.2) = true := by decide +kernel
theorem lc15 {l : Launch} {ω : WP} {xs : Nat → Int32} {L : Nat} {j c : Int} {M : Mem} {ko : Mem → Prop} (hb : ∀ v : Int, 0 ≤ v → v ≤ 6 → 0 ≤ w32 (j + v) ∧ w32 (j + v) < (L : Int)) (hc : c < 512) (hI : Inv c M) (hk : ∀ M', Inv (c + 1) M' → ko M') : lwR l ω xs L j lt15 ko 38 829 [] M := by
  conv => whnf
  repeat' first
    | (refine ⟨rfl, hb _ (by decide) (by decide), ?_⟩; conv => whnf)
    | (refine And.intro (fun _ => ?_) (fun _ => ?_) <;> first | contradiction | (conv => whnf))
    | fail
  all_goals refine ⟨rfl, by decide, _, pair_guide (by first | exact xsI_in | (unfold in32; decide)) (by first | exact xsI_in | (unfold in32; decide)) (by first | exact xsI_in | (unfold in32; decide)) hc hI, ?_⟩
  all_goals rintro z M1 ⟨-, v, rfl, hV⟩ hr
  all_goals obtain ⟨x, hx⟩ := hr.1 rfl
  all_goals cases hx
  all_goals conv => whnf
  all_goals repeat' first
    | (refine ⟨rfl, hb _ (by decide) (by decide), ?_⟩; conv => whnf)
    | (refine And.intro (fun _ => ?_) (fun _ => ?_) <;> first | contradiction | (conv => whnf))
    | fail
  all_goals refine ⟨rfl, Nat.le_of_ble_eq_true rfl, _, hV, ?_⟩
  all_goals rintro z2 M2 ⟨-, rfl, hJ⟩ -
  all_goals conv => whnf
  all_goals refine ⟨fun _ => ?_, fun h => absurd rfl h⟩
  all_goals conv => whnf
  all_goals exact hk _ hJ
def lt16 : List (Nat × LEnt) := [(872, (Instr.aload_n 1, 873, 1, 0, 0, 0)), (873, (Instr.aload_n 0, 874, 0, 0, 0, 0)), (874, (Instr.iload_n 3, 875, 3, 0, 0, 0)), (875, (Instr.iconst 1, 876, 0, 0, 1, 0)), (876, (Instr.iadd, 877, 0, 0, 0, 0)), (877, (Instr.iaload, 878, 0, 0, 0, 0)), (878, (Instr.aload_n 0, 879, 0, 0, 0, 0)), (879, (Instr.iload_n 3, 880, 3, 0, 0, 0)), (880, (Instr.iconst 2, 881, 0, 0, 2, 0)), (881, (Instr.iadd, 882, 0, 0, 0, 0)), (882, (Instr.iaload, 883, 0, 0, 0, 0)), (883, (Instr.invokevirtual 82, 886, 124, 3, 0, 767)), (886, (Instr.aload_n 2, 887, 2, 0, 0, 0)), (887, (Instr.aload_n 0, 888, 0, 0, 0, 0)), (888, (Instr.iload_n 3, 889, 3, 0, 0, 0)), (889, (Instr.iconst 1, 890, 0, 0, 1, 0)), (890, (Instr.iadd, 891, 0, 0, 0, 0)), (891, (Instr.iaload, 892, 0, 0, 0, 0)), (892, (Instr.aload_n 0, 893, 0, 0, 0, 0)), (893, (Instr.iload_n 3, 894, 3, 0, 0, 0)), (894, (Instr.iconst 2, 895, 0, 0, 2, 0)), (895, (Instr.iadd, 896, 0, 0, 0, 0)), (896, (Instr.iaload, 897, 0, 0, 0, 0)), (897, (Instr.invokevirtual 85, 900, 191, 3, 13, 1742)), (900, (Instr.if_icmp .eq 947, 903, 1847, 0, 0, 0))]
theorem ltk16 : lt16.all (fun q => chkLw q.1 q.2) = true := by decide +kernel
theorem lc16 {l : Launch} {ω : WP} {xs : Nat → Int32} {L : Nat} {j c : Int} {M : Mem} {ko : Mem → Prop} (hb : ∀ v : Int, 0 ≤ v → v ≤ 6 → 0 ≤ w32 (j + v) ∧ w32 (j + v) < (L : Int)) (hc : c < 512) (hI : Inv c M) (hk : ∀ M', Inv (c + 1) M' → ko M') : lwR l ω xs L j lt16 ko 28 872 [] M := by
  conv => whnf
  repeat' first
    | (refine ⟨rfl, hb _ (by decide) (by decide), ?_⟩; conv => whnf)
    | (refine And.intro (fun _ => ?_) (fun _ => ?_) <;> first | contradiction | (conv => whnf))
    | fail
  all_goals refine ⟨rfl, by decide, _, pair_papers (by first | exact xsI_in | (unfold in32; decide)) (by first | exact xsI_in | (unfold in32; decide)) hc hI, ?_⟩
  all_goals rintro z M1 ⟨-, v, rfl, hV⟩ hr
  all_goals obtain ⟨x, hx⟩ := hr.1 rfl
  all_goals cases hx
  all_goals conv => whnf
  all_goals repeat' first
    | (refine ⟨rfl, hb _ (by decide) (by decide), ?_⟩; conv => whnf)
    | (refine And.intro (fun _ => ?_) (fun _ => ?_) <;> first | contradiction | (conv => whnf))
    | fail
  all_goals refine ⟨rfl, Nat.le_of_ble_eq_true rfl, _, hV, ?_⟩
  all_goals rintro z2 M2 ⟨-, rfl, hJ⟩ -
  all_goals conv => whnf
  all_goals refine ⟨fun _ => ?_, fun h => absurd rfl h⟩
  all_goals conv => whnf
  all_goals exact hk _ hJ
def lt17 : List (Nat × LEnt) := [(905, (Instr.aload_n 1, 906, 1, 0, 0, 0)), (906, (Instr.aload_n 0, 907, 0, 0, 0, 0)), (907, (Instr.iload_n 3, 908, 3, 0, 0, 0)), (908, (Instr.iconst 1, 909, 0, 0, 1, 0)), (909, (Instr.iadd, 910, 0, 0, 0, 0)), (910, (Instr.iaload, 911, 0, 0, 0, 0)), (911, (Instr.aload_n 0, 912, 0, 0, 0, 0)), (912, (Instr.iload_n 3, 913, 3, 0, 0, 0)), (913, (Instr.iconst 2, 914, 0, 0, 2, 0)), (914, (Instr.iadd, 915, 0, 0, 0, 0)), (915, (Instr.iaload, 916, 0, 0, 0, 0)), (916, (Instr.invokevirtual 86, 919, 125, 3, 0, 776)), (919, (Instr.aload_n 2, 920, 2, 0, 0, 0)), (920, (Instr.aload_n 0, 921, 0, 0, 0, 0)), (921, (Instr.iload_n 3, 922, 3, 0, 0, 0)), (922, (Instr.iconst 1, 923, 0, 0, 1, 0)), (923, (Instr.iadd, 924, 0, 0, 0, 0)), (924, (Instr.iaload, 925, 0, 0, 0, 0)), (925, (Instr.aload_n 0, 926, 0, 0, 0, 0)), (926, (Instr.iload_n 3, 927, 3, 0, 0, 0)), (927, (Instr.iconst 2, 928, 0, 0, 2, 0)), (928, (Instr.iadd, 929, 0, 0, 0, 0)), (929, (Instr.iaload, 930, 0, 0, 0, 0)), (930, (Instr.invokevirtual 89, 933, 193, 3, 13, 1750)), (933, (Instr.if_icmp .eq 914, 936, 1847, 0, 0, 0))]
theorem ltk17 : lt17.all (fun q => chkLw q.1 q.2) = true := by decide +kernel
theorem lc17 {l : Launch} {ω : WP} {xs : Nat → Int32} {L : Nat} {j c : Int} {M : Mem} {ko : Mem → Prop} (hb : ∀ v : Int, 0 ≤ v → v ≤ 6 → 0 ≤ w32 (j + v) ∧ w32 (j + v) < (L : Int)) (hc : c < 512) (hI : Inv c M) (hk : ∀ M', Inv (c + 1) M' → ko M') : lwR l ω xs L j lt17 ko 28 905 [] M := by
  conv => whnf
  repeat' first
    | (refine ⟨rfl, hb _ (by decide) (by decide), ?_⟩; conv => whnf)
    | (refine And.intro (fun _ => ?_) (fun _ => ?_) <;> first | contradiction | (conv => whnf))
    | fail
  all_goals refine ⟨rfl, by decide, _, pair_told (by first | exact xsI_in | (unfold in32; decide)) (by first | exact xsI_in | (unfold in32; decide)) hc hI, ?_⟩
  all_goals rintro z M1 ⟨-, v, rfl, hV⟩ hr
  all_goals obtain ⟨x, hx⟩ := hr.1 rfl
  all_goals cases hx
  all_goals conv => whnf
  all_goals repeat' first
    | (refine ⟨rfl, hb _ (by decide) (by decide), ?_⟩; conv => whnf)
    | (refine And.intro (fun _ => ?_) (fun _ => ?_) <;> first | contradiction | (conv => whnf))
    | fail
  all_goals refine ⟨rfl, Nat.le_of_ble_eq_true rfl, _, hV, ?_⟩
  all_goals rintro z2 M2 ⟨-, rfl, hJ⟩ -
  all_goals conv => whnf
  all_goals refine ⟨fun _ => ?_, fun h => absurd rfl h⟩
  all_goals conv => whnf
  all_goals exact hk _ hJ
def lt18 : List (Nat × LEnt) := [(938, (Instr.aload_n 1, 939, 1, 0, 0, 0)), (939, (Instr.aload_n 0, 940, 0, 0, 0, 0)), (940, (Instr.iload_n 3, 941, 3, 0, 0, 0)), (941, (Instr.iconst 1, 942, 0, 0, 1, 0)), (942, (Instr.iadd, 943, 0, 0, 0, 0)), (943, (Instr.iaload, 944, 0, 0, 0, 0)), (944, (Instr.invokevirtual 90, 947, 126, 2, 0, 788)), (947, (Instr.aload_n 2, 948, 2, 0, 0, 0)), (948, (Instr.aload_n 0, 949, 0, 0, 0, 0)), (949, (Instr.iload_n 3, 950, 3, 0, 0, 0)), (950, (Instr.iconst 1, 951, 0, 0, 1, 0)), (951, (Instr.iadd, 952, 0, 0, 0, 0)), (952, (Instr.iaload, 953, 0, 0, 0, 0)), (953, (Instr.invokevirtual 93, 956, 194, 2, 13, 1759)), (956, (Instr.if_icmp .eq 891, 959, 1847, 0, 0, 0))]
theorem ltk18 : lt18.all (fun q => chkLw q.1 q.2) = true := by decide +kernel
theorem lc18 {l : Launch} {ω : WP} {xs : Nat → Int32} {L : Nat} {j c : Int} {M : Mem} {ko : Mem → Prop} (hb : ∀ v : Int, 0 ≤ v → v ≤ 6 → 0 ≤ w32 (j + v) ∧ w32 (j + v) < (L : Int)) (hc : c < 512) (hI : Inv c M) (hk : ∀ M', Inv (c + 1) M' → ko M') : lwR l ω xs L j lt18 ko 18 938 [] M := by
  conv => whnf
  repeat' first
    | (refine ⟨rfl, hb _ (by decide) (by decide), ?_⟩; conv => whnf)
    | (refine And.intro (fun _ => ?_) (fun _ => ?_) <;> first | contradiction | (conv => whnf))
    | fail
  all_goals refine ⟨rfl, by decide, _, pair_list (by first | exact xsI_in | (unfold in32; decide)) hc hI, ?_⟩
  all_goals rintro z M1 ⟨-, v, rfl, hV⟩ hr
  all_goals obtain ⟨x, hx⟩ := hr.1 rfl
  all_goals cases hx
  all_goals conv => whnf
  all_goals repeat' first
    | (refine ⟨rfl, hb _ (by decide) (by decide), ?_⟩; conv => whnf)
    | (refine And.intro (fun _ => ?_) (fun _ => ?_) <;> first | contradiction | (conv => whnf))
    | fail
  all_goals refine ⟨rfl, Nat.le_of_ble_eq_true rfl, _, hV, ?_⟩
  all_goals rintro z2 M2 ⟨-, rfl, hJ⟩ -
  all_goals conv => whnf
  all_goals refine ⟨fun _ => ?_, fun h => absurd rfl h⟩
  all_goals conv => whnf
  all_goals exact hk _ hJ
def lt19 : List (Nat × LEnt) := [(961, (Instr.aload_n 1, 962, 1, 0, 0, 0)), (962, (Instr.aload_n 0, 963, 0, 0, 0, 0)), (963, (Instr.iload_n 3, 964, 3, 0, 0, 0)), (964, (Instr.iconst 1, 965, 0, 0, 1, 0)), (965, (Instr.iadd, 966, 0, 0, 0, 0)), (966, (Instr.iaload, 967, 0, 0, 0, 0)), (967, (Instr.invokevirtual 94, 970, 127, 2, 0, 792)), (970, (Instr.aload_n 2, 971, 2, 0, 0, 0)), (971, (Instr.aload_n 0, 972, 0, 0, 0, 0)), (972, (Instr.iload_n 3, 973, 3, 0, 0, 0)), (973, (Instr.iconst 1, 974, 0, 0, 1, 0)), (974, (Instr.iadd, 975, 0, 0, 0, 0)), (975, (Instr.iaload, 976, 0, 0, 0, 0)), (976, (Instr.invokevirtual 97, 979, 195, 2, 13, 1763)), (979, (Instr.if_icmp .eq 868, 982, 1847, 0, 0, 0))]
theorem ltk19 : lt19.all (fun q => chkLw q.1 q.2) = true := by decide +kernel
theorem lc19 {l : Launch} {ω : WP} {xs : Nat → Int32} {L : Nat} {j c : Int} {M : Mem} {ko : Mem → Prop} (hb : ∀ v : Int, 0 ≤ v → v ≤ 6 → 0 ≤ w32 (j + v) ∧ w32 (j + v) < (L : Int)) (hc : c < 512) (hI : Inv c M) (hk : ∀ M', Inv (c + 1) M' → ko M') : lwR l ω xs L j lt19 ko 18 961 [] M := by
  conv => whnf
  repeat' first
    | (refine ⟨rfl, hb _ (by decide) (by decide), ?_⟩; conv => whnf)
    | (refine And.intro (fun _ => ?_) (fun _ => ?_) <;> first | contradiction | (conv => whnf))
    | fail
  all_goals refine ⟨rfl, by decide, _, pair_day (by first | exact xsI_in | (unfold in32; decide)) hc hI, ?_⟩
  all_goals rintro z M1 ⟨-, v, rfl, hV⟩ hr
  all_goals obtain ⟨x, hx⟩ := hr.1 rfl
  all_goals cases hx
  all_goals conv => whnf
  all_goals repeat' first
    | (refine ⟨rfl, hb _ (by decide) (by decide), ?_⟩; conv => whnf)
    | (refine And.intro (fun _ => ?_) (fun _ => ?_) <;> first | contradiction | (conv => whnf))
    | fail
  all_goals refine ⟨rfl, Nat.le_of_ble_eq_true rfl, _, hV, ?_⟩
  all_goals rintro z2 M2 ⟨-, rfl, hJ⟩ -
  all_goals conv => whnf
  all_goals refine ⟨fun _ => ?_, fun h => absurd rfl h⟩
  all_goals conv => whnf
  all_goals exact hk _ hJ
def lt20 : List (Nat × LEnt) := [(984, (Instr.aload_n 1, 985, 1, 0, 0, 0)), (985, (Instr.aload_n 0, 986, 0, 0, 0, 0)), (986, (Instr.iload_n 3, 987, 3, 0, 0, 0)), (987, (Instr.iconst 1, 988, 0, 0, 1, 0)), (988, (Instr.iadd, 989, 0, 0, 0, 0)), (989, (Instr.iaload, 990, 0, 0, 0, 0)), (990, (Instr.i2l, 991, 0, 0, 0, 0)), (991, (Instr.bipush 32, 993, 0, 0, 32, 0)), (993, (Instr.lshl, 994, 0, 0, 0, 0)), (994, (Instr.aload_n 0, 995, 0, 0, 0, 0)), (995, (Instr.iload_n 3, 996, 3, 0, 0, 0)), (996, (Instr.iconst 2, 997, 0, 0, 2, 0)), (997, (Instr.iadd, 998, 0, 0, 0, 0)), (998, (Instr.iaload, 999, 0, 0, 0, 0)), (999, (Instr.i2l, 1000, 0, 0, 0, 0)), (1000, (Instr.ldc2_w 98, 1003, 0, 0, 4294967295, 2048)), (1003, (Instr.land, 1004, 0, 0, 0, 0)), (1004, (Instr.lor, 1005, 0, 0, 0, 0)), (1005, (Instr.invokevirtual 100, 1008, 128, 2, 0, 796)), (1008, (Instr.aload_n 2, 1009, 2, 0, 0, 0)), (1009, (Instr.aload_n 0, 1010, 0, 0, 0, 0)), (1010, (Instr.iload_n 3, 1011, 3, 0, 0, 0)), (1011, (Instr.iconst 1, 1012, 0, 0, 1, 0)), (1012, (Instr.iadd, 1013, 0, 0, 0, 0)), (1013, (Instr.iaload, 1014, 0, 0, 0, 0)), (1014, (Instr.i2l, 1015, 0, 0, 0, 0)), (1015, (Instr.bipush 32, 1017, 0, 0, 32, 0)), (1017, (Instr.lshl, 1018, 0, 0, 0, 0)), (1018, (Instr.aload_n 0, 1019, 0, 0, 0, 0)), (1019, (Instr.iload_n 3, 1020, 3, 0, 0, 0)), (1020, (Instr.iconst 2, 1021, 0, 0, 2, 0)), (1021, (Instr.iadd, 1022, 0, 0, 0, 0)), (1022, (Instr.iaload, 1023, 0, 0, 0, 0)), (1023, (Instr.i2l, 1024, 0, 0, 0, 0)), (1024, (Instr.ldc2_w 98, 1027, 0, 0, 4294967295, 2048)), (1027, (Instr.land, 1028, 0, 0, 0, 0)), (1028, (Instr.lor, 1029, 0, 0, 0, 0)), (1029, (Instr.invokevirtual 104, 1032, 196, 2, 13, 1767)), (1032, (Instr.if_icmp .eq 815, 1035, 1847, 0, 0, 0))]
theorem ltk20 : lt20.all (fun q => chkLw q.1 q.2) = true := by decide +kernel
theorem lc20 {l : Launch} {ω : WP} {xs : Nat → Int32} {L : Nat} {j c : Int} {M : Mem} {ko : Mem → Prop} (hb : ∀ v : Int, 0 ≤ v → v ≤ 6 → 0 ≤ w32 (j + v) ∧ w32 (j + v) < (L : Int)) (hc : c < 512) (hI : Inv c M) (hk : ∀ M', Inv (c + 1) M' → ko M') : lwR l ω xs L j lt20 ko 42 984 [] M := by
  conv => whnf
  repeat' first
    | (refine ⟨rfl, hb _ (by decide) (by decide), ?_⟩; conv => whnf)
    | (refine And.intro (fun _ => ?_) (fun _ => ?_) <;> first | contradiction | (conv => whnf))
    | fail
  all_goals refine ⟨rfl, by decide, _, pair_feed (t64_in _) hc hI, ?_⟩
  all_goals rintro z M1 ⟨-, v, rfl, hV⟩ hr
  all_goals obtain ⟨x, hx⟩ := hr.1 rfl
  all_goals cases hx
  all_goals conv => whnf
  all_goals repeat' first
    | (refine ⟨rfl, hb _ (by decide) (by decide), ?_⟩; conv => whnf)
    | (refine And.intro (fun _ => ?_) (fun _ => ?_) <;> first | contradiction | (conv => whnf))
    | fail
  all_goals refine ⟨rfl, Nat.le_of_ble_eq_true rfl, _, hV, ?_⟩
  all_goals rintro z2 M2 ⟨-, rfl, hJ⟩ -
  all_goals conv => whnf
  all_goals refine ⟨fun _ => ?_, fun h => absurd rfl h⟩
  all_goals conv => whnf
  all_goals exact hk _ hJ
def lt21 : List (Nat × LEnt) := [(1037, (Instr.aload_n 1, 1038, 1, 0, 0, 0)), (1038, (Instr.aload_n 0, 1039, 0, 0, 0, 0)), (1039, (Instr.iload_n 3, 1040, 3, 0, 0, 0)), (1040, (Instr.iconst 1, 1041, 0, 0, 1, 0)), (1041, (Instr.iadd, 1042, 0, 0, 0, 0)), (1042, (Instr.iaload, 1043, 0, 0, 0, 0)), (1043, (Instr.invokevirtual 105, 1046, 129, 2, 0, 805)), (1046, (Instr.aload_n 2, 1047, 2, 0, 0, 0)), (1047, (Instr.aload_n 0, 1048, 0, 0, 0, 0)), (1048, (Instr.iload_n 3, 1049, 3, 0, 0, 0)), (1049, (Instr.iconst 1, 1050, 0, 0, 1, 0)), (1050, (Instr.iadd, 1051, 0, 0, 0, 0)), (1051, (Instr.iaload, 1052, 0, 0, 0, 0)), (1052, (Instr.invokevirtual 108, 1055, 197, 2, 13, 1772)), (1055, (Instr.if_icmp .eq 792, 1058, 1847, 0, 0, 0))]
theorem ltk21 : lt21.all (fun q => chkLw q.1 q.2) = true := by decide +kernel
theorem lc21 {l : Launch} {ω : WP} {xs : Nat → Int32} {L : Nat} {j c : Int} {M : Mem} {ko : Mem → Prop} (hb : ∀ v : Int, 0 ≤ v → v ≤ 6 → 0 ≤ w32 (j + v) ∧ w32 (j + v) < (L : Int)) (hc : c < 512) (hI : Inv c M) (hk : ∀ M', Inv (c + 1) M' → ko M') : lwR l ω xs L j lt21 ko 18 1037 [] M := by
  conv => whnf
  repeat' first
    | (refine ⟨rfl, hb _ (by decide) (by decide), ?_⟩; conv => whnf)
    | (refine And.intro (fun _ => ?_) (fun _ => ?_) <;> first | contradiction | (conv => whnf))
    | fail
  all_goals refine ⟨rfl, by decide, _, pair_end (by first | exact xsI_in | (unfold in32; decide)) hc hI, ?_⟩
  all_goals rintro z M1 ⟨-, v, rfl, hV⟩ hr
  all_goals obtain ⟨x, hx⟩ := hr.1 rfl
  all_goals cases hx
  all_goals conv => whnf
  all_goals repeat' first
    | (refine ⟨rfl, hb _ (by decide) (by decide), ?_⟩; conv => whnf)
    | (refine And.intro (fun _ => ?_) (fun _ => ?_) <;> first | contradiction | (conv => whnf))
    | fail
  all_goals refine ⟨rfl, Nat.le_of_ble_eq_true rfl, _, hV, ?_⟩
  all_goals rintro z2 M2 ⟨-, rfl, hJ⟩ -
  all_goals conv => whnf
  all_goals refine ⟨fun _ => ?_, fun h => absurd rfl h⟩
  all_goals conv => whnf
  all_goals exact hk _ hJ
def lt22 : List (Nat × LEnt) := [(1060, (Instr.aload_n 1, 1061, 1, 0, 0, 0)), (1061, (Instr.invokevirtual 109, 1064, 130, 1, 0, 809)), (1064, (Instr.aload_n 2, 1065, 2, 0, 0, 0)), (1065, (Instr.invokevirtual 113, 1068, 214, 1, 13, 1776)), (1068, (Instr.if_icmp .eq 779, 1071, 1847, 0, 0, 0))]
theorem ltk22 : lt22.all (fun q => chkLw q.1 q.2) = true := by decide +kernel
theorem lc22 {l : Launch} {ω : WP} {xs : Nat → Int32} {L : Nat} {j c : Int} {M : Mem} {ko : Mem → Prop} (hb : ∀ v : Int, 0 ≤ v → v ≤ 6 → 0 ≤ w32 (j + v) ∧ w32 (j + v) < (L : Int)) (hc : c < 512) (hI : Inv c M) (hk : ∀ M', Inv (c + 1) M' → ko M') : lwR l ω xs L j lt22 ko 8 1060 [] M := by
  conv => whnf
  repeat' first
    | (refine ⟨rfl, hb _ (by decide) (by decide), ?_⟩; conv => whnf)
    | (refine And.intro (fun _ => ?_) (fun _ => ?_) <;> first | contradiction | (conv => whnf))
    | fail
  all_goals refine ⟨rfl, by decide, _, pair_text  hc hI, ?_⟩
  all_goals rintro z M1 ⟨-, v, rfl, hV⟩ hr
  all_goals obtain ⟨x, hx⟩ := hr.1 rfl
  all_goals cases hx
  all_goals conv => whnf
  all_goals repeat' first
    | (refine ⟨rfl, hb _ (by decide) (by decide), ?_⟩; conv => whnf)
    | (refine And.intro (fun _ => ?_) (fun _ => ?_) <;> first | contradiction | (conv => whnf))
    | fail
  all_goals refine ⟨rfl, Nat.le_of_ble_eq_true rfl, _, hV, ?_⟩
  all_goals rintro z2 M2 ⟨-, rfl, hJ⟩ -
  all_goals conv => whnf
  all_goals refine ⟨fun _ => ?_, fun h => absurd rfl h⟩
  all_goals conv => whnf
  all_goals exact hk _ hJ
def lt23 : List (Nat × LEnt) := [(1073, (Instr.aload_n 1, 1074, 1, 0, 0, 0)), (1074, (Instr.invokevirtual 114, 1077, 131, 1, 0, 991)), (1077, (Instr.aload_n 2, 1078, 2, 0, 0, 0)), (1078, (Instr.invokevirtual 117, 1081, 215, 1, 13, 1847)), (1081, (Instr.if_icmp .eq 766, 1084, 1847, 0, 0, 0))]
theorem ltk23 : lt23.all (fun q => chkLw q.1 q.2) = true := by decide +kernel
theorem lc23 {l : Launch} {ω : WP} {xs : Nat → Int32} {L : Nat} {j c : Int} {M : Mem} {ko : Mem → Prop} (hb : ∀ v : Int, 0 ≤ v → v ≤ 6 → 0 ≤ w32 (j + v) ∧ w32 (j + v) < (L : Int)) (hc : c < 512) (hI : Inv c M) (hk : ∀ M', Inv (c + 1) M' → ko M') : lwR l ω xs L j lt23 ko 8 1073 [] M := by
  conv => whnf
  repeat' first
    | (refine ⟨rfl, hb _ (by decide) (by decide), ?_⟩; conv => whnf)
    | (refine And.intro (fun _ => ?_) (fun _ => ?_) <;> first | contradiction | (conv => whnf))
    | fail
  all_goals refine ⟨rfl, by decide, _, pair_fault  hc hI, ?_⟩
  all_goals rintro z M1 ⟨-, v, rfl, hV⟩ hr
  all_goals obtain ⟨x, hx⟩ := hr.1 rfl
  all_goals cases hx
  all_goals conv => whnf
  all_goals repeat' first
    | (refine ⟨rfl, hb _ (by decide) (by decide), ?_⟩; conv => whnf)
    | (refine And.intro (fun _ => ?_) (fun _ => ?_) <;> first | contradiction | (conv => whnf))
    | fail
  all_goals refine ⟨rfl, Nat.le_of_ble_eq_true rfl, _, hV, ?_⟩
  all_goals rintro z2 M2 ⟨-, rfl, hJ⟩ -
  all_goals conv => whnf
  all_goals refine ⟨fun _ => ?_, fun h => absurd rfl h⟩
  all_goals conv => whnf
  all_goals exact hk _ hJ
def lt24 : List (Nat × LEnt) := [(1086, (Instr.aload_n 1, 1087, 1, 0, 0, 0)), (1087, (Instr.aload_n 0, 1088, 0, 0, 0, 0)), (1088, (Instr.iload_n 3, 1089, 3, 0, 0, 0)), (1089, (Instr.iconst 1, 1090, 0, 0, 1, 0)), (1090, (Instr.iadd, 1091, 0, 0, 0, 0)), (1091, (Instr.iaload, 1092, 0, 0, 0, 0)), (1092, (Instr.aload_n 0, 1093, 0, 0, 0, 0)), (1093, (Instr.iload_n 3, 1094, 3, 0, 0, 0)), (1094, (Instr.iconst 2, 1095, 0, 0, 2, 0)), (1095, (Instr.iadd, 1096, 0, 0, 0, 0)), (1096, (Instr.iaload, 1097, 0, 0, 0, 0)), (1097, (Instr.aload_n 0, 1098, 0, 0, 0, 0)), (1098, (Instr.iload_n 3, 1099, 3, 0, 0, 0)), (1099, (Instr.iconst 3, 1100, 0, 0, 3, 0)), (1100, (Instr.iadd, 1101, 0, 0, 0, 0)), (1101, (Instr.iaload, 1102, 0, 0, 0, 0)), (1102, (Instr.invokevirtual 118, 1105, 132, 4, 0, 995)), (1105, (Instr.aload_n 2, 1106, 2, 0, 0, 0)), (1106, (Instr.aload_n 0, 1107, 0, 0, 0, 0)), (1107, (Instr.iload_n 3, 1108, 3, 0, 0, 0)), (1108, (Instr.iconst 1, 1109, 0, 0, 1, 0)), (1109, (Instr.iadd, 1110, 0, 0, 0, 0)), (1110, (Instr.iaload, 1111, 0, 0, 0, 0)), (1111, (Instr.aload_n 0, 1112, 0, 0, 0, 0)), (1112, (Instr.iload_n 3, 1113, 3, 0, 0, 0)), (1113, (Instr.iconst 2, 1114, 0, 0, 2, 0)), (1114, (Instr.iadd, 1115, 0, 0, 0, 0)), (1115, (Instr.iaload, 1116, 0, 0, 0, 0)), (1116, (Instr.aload_n 0, 1117, 0, 0, 0, 0)), (1117, (Instr.iload_n 3, 1118, 3, 0, 0, 0)), (1118, (Instr.iconst 3, 1119, 0, 0, 3, 0)), (1119, (Instr.iadd, 1120, 0, 0, 0, 0)), (1120, (Instr.iaload, 1121, 0, 0, 0, 0)), (1121, (Instr.invokevirtual 121, 1124, 221, 4, 13, 1851)), (1124, (Instr.if_icmp .eq 723, 1127, 1847, 0, 0, 0))]
theorem ltk24 : lt24.all (fun q => chkLw q.1 q.2) = true := by decide +kernel
theorem lc24 {l : Launch} {ω : WP} {xs : Nat → Int32} {L : Nat} {j c : Int} {M : Mem} {ko : Mem → Prop} (hb : ∀ v : Int, 0 ≤ v → v ≤ 6 → 0 ≤ w32 (j + v) ∧ w32 (j + v) < (L : Int)) (hc : c < 512) (hI : Inv c M) (hk : ∀ M', Inv (c + 1) M' → ko M') : lwR l ω xs L j lt24 ko 38 1086 [] M := by
  conv => whnf
  repeat' first
    | (refine ⟨rfl, hb _ (by decide) (by decide), ?_⟩; conv => whnf)
    | (refine And.intro (fun _ => ?_) (fun _ => ?_) <;> first | contradiction | (conv => whnf))
    | fail
  all_goals refine ⟨rfl, by decide, _, pair_why (by first | exact xsI_in | (unfold in32; decide)) (by first | exact xsI_in | (unfold in32; decide)) (by first | exact xsI_in | (unfold in32; decide)) hc hI, ?_⟩
  all_goals rintro z M1 ⟨-, v, rfl, hV⟩ hr
  all_goals obtain ⟨x, hx⟩ := hr.1 rfl
  all_goals cases hx
  all_goals conv => whnf
  all_goals repeat' first
    | (refine ⟨rfl, hb _ (by decide) (by decide), ?_⟩; conv => whnf)
    | (refine And.intro (fun _ => ?_) (fun _ => ?_) <;> first | contradiction | (conv => whnf))
    | fail
  all_goals refine ⟨rfl, Nat.le_of_ble_eq_true rfl, _, hV, ?_⟩
  all_goals rintro z2 M2 ⟨-, rfl, hJ⟩ -
  all_goals conv => whnf
  all_goals refine ⟨fun _ => ?_, fun h => absurd rfl h⟩
  all_goals conv => whnf
  all_goals exact hk _ hJ
def lt25 : List (Nat × LEnt) := [(1129, (Instr.aload_n 1, 1130, 1, 0, 0, 0)), (1130, (Instr.aload_n 0, 1131, 0, 0, 0, 0)), (1131, (Instr.iload_n 3, 1132, 3, 0, 0, 0)), (1132, (Instr.iconst 1, 1133, 0, 0, 1, 0)), (1133, (Instr.iadd, 1134, 0, 0, 0, 0)), (1134, (Instr.iaload, 1135, 0, 0, 0, 0)), (1135, (Instr.aload_n 0, 1136, 0, 0, 0, 0)), (1136, (Instr.iload_n 3, 1137, 3, 0, 0, 0)), (1137, (Instr.iconst 2, 1138, 0, 0, 2, 0)), (1138, (Instr.iadd, 1139, 0, 0, 0, 0)), (1139, (Instr.iaload, 1140, 0, 0, 0, 0)), (1140, (Instr.aload_n 0, 1141, 0, 0, 0, 0)), (1141, (Instr.iload_n 3, 1142, 3, 0, 0, 0)), (1142, (Instr.iconst 3, 1143, 0, 0, 3, 0)), (1143, (Instr.iadd, 1144, 0, 0, 0, 0)), (1144, (Instr.iaload, 1145, 0, 0, 0, 0)), (1145, (Instr.invokevirtual 122, 1148, 133, 4, 0, 1032)), (1148, (Instr.aload_n 2, 1149, 2, 0, 0, 0)), (1149, (Instr.aload_n 0, 1150, 0, 0, 0, 0)), (1150, (Instr.iload_n 3, 1151, 3, 0, 0, 0)), (1151, (Instr.iconst 1, 1152, 0, 0, 1, 0)), (1152, (Instr.iadd, 1153, 0, 0, 0, 0)), (1153, (Instr.iaload, 1154, 0, 0, 0, 0)), (1154, (Instr.aload_n 0, 1155, 0, 0, 0, 0)), (1155, (Instr.iload_n 3, 1156, 3, 0, 0, 0)), (1156, (Instr.iconst 2, 1157, 0, 0, 2, 0)), (1157, (Instr.iadd, 1158, 0, 0, 0, 0)), (1158, (Instr.iaload, 1159, 0, 0, 0, 0)), (1159, (Instr.aload_n 0, 1160, 0, 0, 0, 0)), (1160, (Instr.iload_n 3, 1161, 3, 0, 0, 0)), (1161, (Instr.iconst 3, 1162, 0, 0, 3, 0)), (1162, (Instr.iadd, 1163, 0, 0, 0, 0)), (1163, (Instr.iaload, 1164, 0, 0, 0, 0)), (1164, (Instr.invokevirtual 125, 1167, 223, 4, 13, 1876)), (1167, (Instr.if_icmp .eq 680, 1170, 1847, 0, 0, 0))]
theorem ltk25 : lt25.all (fun q => chkLw q.1 q.2) = true := by decide +kernel
theorem lc25 {l : Launch} {ω : WP} {xs : Nat → Int32} {L : Nat} {j c : Int} {M : Mem} {ko : Mem → Prop} (hb : ∀ v : Int, 0 ≤ v → v ≤ 6 → 0 ≤ w32 (j + v) ∧ w32 (j + v) < (L : Int)) (hc : c < 512) (hI : Inv c M) (hk : ∀ M', Inv (c + 1) M' → ko M') : lwR l ω xs L j lt25 ko 38 1129 [] M := by
  conv => whnf
  repeat' first
    | (refine ⟨rfl, hb _ (by decide) (by decide), ?_⟩; conv => whnf)
    | (refine And.intro (fun _ => ?_) (fun _ => ?_) <;> first | contradiction | (conv => whnf))
    | fail
  all_goals refine ⟨rfl, by decide, _, pair_pay (by first | exact xsI_in | (unfold in32; decide)) (by first | exact xsI_in | (unfold in32; decide)) (by first | exact xsI_in | (unfold in32; decide)) hc hI, ?_⟩
  all_goals rintro z M1 ⟨-, v, rfl, hV⟩ hr
  all_goals obtain ⟨x, hx⟩ := hr.1 rfl
  all_goals cases hx
  all_goals conv => whnf
  all_goals repeat' first
    | (refine ⟨rfl, hb _ (by decide) (by decide), ?_⟩; conv => whnf)
    | (refine And.intro (fun _ => ?_) (fun _ => ?_) <;> first | contradiction | (conv => whnf))
    | fail
  all_goals refine ⟨rfl, Nat.le_of_ble_eq_true rfl, _, hV, ?_⟩
  all_goals rintro z2 M2 ⟨-, rfl, hJ⟩ -
  all_goals conv => whnf
  all_goals refine ⟨fun _ => ?_, fun h => absurd rfl h⟩
  all_goals conv => whnf
  all_goals exact hk _ hJ
def lt26 : List (Nat × LEnt) := [(1172, (Instr.aload_n 1, 1173, 1, 0, 0, 0)), (1173, (Instr.aload_n 0, 1174, 0, 0, 0, 0)), (1174, (Instr.iload_n 3, 1175, 3, 0, 0, 0)), (1175, (Instr.iconst 1, 1176, 0, 0, 1, 0)), (1176, (Instr.iadd, 1177, 0, 0, 0, 0)), (1177, (Instr.iaload, 1178, 0, 0, 0, 0)), (1178, (Instr.aload_n 0, 1179, 0, 0, 0, 0)), (1179, (Instr.iload_n 3, 1180, 3, 0, 0, 0)), (1180, (Instr.iconst 2, 1181, 0, 0, 2, 0)), (1181, (Instr.iadd, 1182, 0, 0, 0, 0)), (1182, (Instr.iaload, 1183, 0, 0, 0, 0)), (1183, (Instr.aload_n 0, 1184, 0, 0, 0, 0)), (1184, (Instr.iload_n 3, 1185, 3, 0, 0, 0)), (1185, (Instr.iconst 3, 1186, 0, 0, 3, 0)), (1186, (Instr.iadd, 1187, 0, 0, 0, 0)), (1187, (Instr.iaload, 1188, 0, 0, 0, 0)), (1188, (Instr.invokevirtual 126, 1191, 134, 4, 0, 1042)), (1191, (Instr.aload_n 2, 1192, 2, 0, 0, 0)), (1192, (Instr.aload_n 0, 1193, 0, 0, 0, 0)), (1193, (Instr.iload_n 3, 1194, 3, 0, 0, 0)), (1194, (Instr.iconst 1, 1195, 0, 0, 1, 0)), (1195, (Instr.iadd, 1196, 0, 0, 0, 0)), (1196, (Instr.iaload, 1197, 0, 0, 0, 0)), (1197, (Instr.aload_n 0, 1198, 0, 0, 0, 0)), (1198, (Instr.iload_n 3, 1199, 3, 0, 0, 0)), (1199, (Instr.iconst 2, 1200, 0, 0, 2, 0)), (1200, (Instr.iadd, 1201, 0, 0, 0, 0)), (1201, (Instr.iaload, 1202, 0, 0, 0, 0)), (1202, (Instr.aload_n 0, 1203, 0, 0, 0, 0)), (1203, (Instr.iload_n 3, 1204, 3, 0, 0, 0)), (1204, (Instr.iconst 3, 1205, 0, 0, 3, 0)), (1205, (Instr.iadd, 1206, 0, 0, 0, 0)), (1206, (Instr.iaload, 1207, 0, 0, 0, 0)), (1207, (Instr.invokevirtual 129, 1210, 225, 4, 13, 1885)), (1210, (Instr.if_icmp .eq 637, 1213, 1847, 0, 0, 0))]
theorem ltk26 : lt26.all (fun q => chkLw q.1 q.2) = true := by decide +kernel
theorem lc26 {l : Launch} {ω : WP} {xs : Nat → Int32} {L : Nat} {j c : Int} {M : Mem} {ko : Mem → Prop} (hb : ∀ v : Int, 0 ≤ v → v ≤ 6 → 0 ≤ w32 (j + v) ∧ w32 (j + v) < (L : Int)) (hc : c < 512) (hI : Inv c M) (hk : ∀ M', Inv (c + 1) M' → ko M') : lwR l ω xs L j lt26 ko 38 1172 [] M := by
  conv => whnf
  repeat' first
    | (refine ⟨rfl, hb _ (by decide) (by decide), ?_⟩; conv => whnf)
    | (refine And.intro (fun _ => ?_) (fun _ => ?_) <;> first | contradiction | (conv => whnf))
    | fail
  all_goals refine ⟨rfl, by decide, _, pair_asked (by first | exact xsI_in | (unfold in32; decide)) (by first | exact xsI_in | (unfold in32; decide)) (by first | exact xsI_in | (unfold in32; decide)) hc hI, ?_⟩
  all_goals rintro z M1 ⟨-, v, rfl, hV⟩ hr
  all_goals obtain ⟨x, hx⟩ := hr.1 rfl
  all_goals cases hx
  all_goals conv => whnf
  all_goals repeat' first
    | (refine ⟨rfl, hb _ (by decide) (by decide), ?_⟩; conv => whnf)
    | (refine And.intro (fun _ => ?_) (fun _ => ?_) <;> first | contradiction | (conv => whnf))
    | fail
  all_goals refine ⟨rfl, Nat.le_of_ble_eq_true rfl, _, hV, ?_⟩
  all_goals rintro z2 M2 ⟨-, rfl, hJ⟩ -
  all_goals conv => whnf
  all_goals refine ⟨fun _ => ?_, fun h => absurd rfl h⟩
  all_goals conv => whnf
  all_goals exact hk _ hJ
def lt27 : List (Nat × LEnt) := [(1215, (Instr.aload_n 1, 1216, 1, 0, 0, 0)), (1216, (Instr.aload_n 0, 1217, 0, 0, 0, 0)), (1217, (Instr.iload_n 3, 1218, 3, 0, 0, 0)), (1218, (Instr.iconst 1, 1219, 0, 0, 1, 0)), (1219, (Instr.iadd, 1220, 0, 0, 0, 0)), (1220, (Instr.iaload, 1221, 0, 0, 0, 0)), (1221, (Instr.aload_n 0, 1222, 0, 0, 0, 0)), (1222, (Instr.iload_n 3, 1223, 3, 0, 0, 0)), (1223, (Instr.iconst 2, 1224, 0, 0, 2, 0)), (1224, (Instr.iadd, 1225, 0, 0, 0, 0)), (1225, (Instr.iaload, 1226, 0, 0, 0, 0)), (1226, (Instr.aload_n 0, 1227, 0, 0, 0, 0)), (1227, (Instr.iload_n 3, 1228, 3, 0, 0, 0)), (1228, (Instr.iconst 3, 1229, 0, 0, 3, 0)), (1229, (Instr.iadd, 1230, 0, 0, 0, 0)), (1230, (Instr.iaload, 1231, 0, 0, 0, 0)), (1231, (Instr.aload_n 0, 1232, 0, 0, 0, 0)), (1232, (Instr.iload_n 3, 1233, 3, 0, 0, 0)), (1233, (Instr.iconst 4, 1234, 0, 0, 4, 0)), (1234, (Instr.iadd, 1235, 0, 0, 0, 0)), (1235, (Instr.iaload, 1236, 0, 0, 0, 0)), (1236, (Instr.invokevirtual 130, 1239, 135, 5, 0, 1052)), (1239, (Instr.aload_n 2, 1240, 2, 0, 0, 0)), (1240, (Instr.aload_n 0, 1241, 0, 0, 0, 0)), (1241, (Instr.iload_n 3, 1242, 3, 0, 0, 0)), (1242, (Instr.iconst 1, 1243, 0, 0, 1, 0)), (1243, (Instr.iadd, 1244, 0, 0, 0, 0)), (1244, (Instr.iaload, 1245, 0, 0, 0, 0)), (1245, (Instr.aload_n 0, 1246, 0, 0, 0, 0)), (1246, (Instr.iload_n 3, 1247, 3, 0, 0, 0)), (1247, (Instr.iconst 2, 1248, 0, 0, 2, 0)), (1248, (Instr.iadd, 1249, 0, 0, 0, 0)), (1249, (Instr.iaload, 1250, 0, 0, 0, 0)), (1250, (Instr.aload_n 0, 1251, 0, 0, 0, 0)), (1251, (Instr.iload_n 3, 1252, 3, 0, 0, 0)), (1252, (Instr.iconst 3, 1253, 0, 0, 3, 0)), (1253, (Instr.iadd, 1254, 0, 0, 0, 0)), (1254, (Instr.iaload, 1255, 0, 0, 0, 0)), (1255, (Instr.aload_n 0, 1256, 0, 0, 0, 0)), (1256, (Instr.iload_n 3, 1257, 3, 0, 0, 0)), (1257, (Instr.iconst 4, 1258, 0, 0, 4, 0)), (1258, (Instr.iadd, 1259, 0, 0, 0, 0)), (1259, (Instr.iaload, 1260, 0, 0, 0, 0)), (1260, (Instr.invokevirtual 133, 1263, 227, 5, 13, 1893)), (1263, (Instr.if_icmp .eq 584, 1266, 1847, 0, 0, 0))]
theorem ltk27 : lt27.all (fun q => chkLw q.1 q.2) = true := by decide +kernel
theorem lc27 {l : Launch} {ω : WP} {xs : Nat → Int32} {L : Nat} {j c : Int} {M : Mem} {ko : Mem → Prop} (hb : ∀ v : Int, 0 ≤ v → v ≤ 6 → 0 ≤ w32 (j + v) ∧ w32 (j + v) < (L : Int)) (hc : c < 512) (hI : Inv c M) (hk : ∀ M', Inv (c + 1) M' → ko M') : lwR l ω xs L j lt27 ko 48 1215 [] M := by
  conv => whnf
  repeat' first
    | (refine ⟨rfl, hb _ (by decide) (by decide), ?_⟩; conv => whnf)
    | (refine And.intro (fun _ => ?_) (fun _ => ?_) <;> first | contradiction | (conv => whnf))
    | fail
  all_goals refine ⟨rfl, by decide, _, pair_turn (by first | exact xsI_in | (unfold in32; decide)) (by first | exact xsI_in | (unfold in32; decide)) (by first | exact xsI_in | (unfold in32; decide)) (by first | exact xsI_in | (unfold in32; decide)) hc hI, ?_⟩
  all_goals rintro z M1 ⟨-, v, rfl, hV⟩ hr
  all_goals obtain ⟨x, hx⟩ := hr.1 rfl
  all_goals cases hx
  all_goals conv => whnf
  all_goals repeat' first
    | (refine ⟨rfl, hb _ (by decide) (by decide), ?_⟩; conv => whnf)
    | (refine And.intro (fun _ => ?_) (fun _ => ?_) <;> first | contradiction | (conv => whnf))
    | fail
  all_goals refine ⟨rfl, Nat.le_of_ble_eq_true rfl, _, hV, ?_⟩
  all_goals rintro z2 M2 ⟨-, rfl, hJ⟩ -
  all_goals conv => whnf
  all_goals refine ⟨fun _ => ?_, fun h => absurd rfl h⟩
  all_goals conv => whnf
  all_goals exact hk _ hJ
def lt28 : List (Nat × LEnt) := [(1268, (Instr.aload_n 1, 1269, 1, 0, 0, 0)), (1269, (Instr.aload_n 0, 1270, 0, 0, 0, 0)), (1270, (Instr.iload_n 3, 1271, 3, 0, 0, 0)), (1271, (Instr.iconst 1, 1272, 0, 0, 1, 0)), (1272, (Instr.iadd, 1273, 0, 0, 0, 0)), (1273, (Instr.iaload, 1274, 0, 0, 0, 0)), (1274, (Instr.aload_n 0, 1275, 0, 0, 0, 0)), (1275, (Instr.iload_n 3, 1276, 3, 0, 0, 0)), (1276, (Instr.iconst 2, 1277, 0, 0, 2, 0)), (1277, (Instr.iadd, 1278, 0, 0, 0, 0)), (1278, (Instr.iaload, 1279, 0, 0, 0, 0)), (1279, (Instr.aload_n 0, 1280, 0, 0, 0, 0)), (1280, (Instr.iload_n 3, 1281, 3, 0, 0, 0)), (1281, (Instr.iconst 3, 1282, 0, 0, 3, 0)), (1282, (Instr.iadd, 1283, 0, 0, 0, 0)), (1283, (Instr.iaload, 1284, 0, 0, 0, 0)), (1284, (Instr.invokevirtual 134, 1287, 136, 4, 0, 1061)), (1287, (Instr.aload_n 2, 1288, 2, 0, 0, 0)), (1288, (Instr.aload_n 0, 1289, 0, 0, 0, 0)), (1289, (Instr.iload_n 3, 1290, 3, 0, 0, 0)), (1290, (Instr.iconst 1, 1291, 0, 0, 1, 0)), (1291, (Instr.iadd, 1292, 0, 0, 0, 0)), (1292, (Instr.iaload, 1293, 0, 0, 0, 0)), (1293, (Instr.aload_n 0, 1294, 0, 0, 0, 0)), (1294, (Instr.iload_n 3, 1295, 3, 0, 0, 0)), (1295, (Instr.iconst 2, 1296, 0, 0, 2, 0)), (1296, (Instr.iadd, 1297, 0, 0, 0, 0)), (1297, (Instr.iaload, 1298, 0, 0, 0, 0)), (1298, (Instr.aload_n 0, 1299, 0, 0, 0, 0)), (1299, (Instr.iload_n 3, 1300, 3, 0, 0, 0)), (1300, (Instr.iconst 3, 1301, 0, 0, 3, 0)), (1301, (Instr.iadd, 1302, 0, 0, 0, 0)), (1302, (Instr.iaload, 1303, 0, 0, 0, 0)), (1303, (Instr.invokevirtual 137, 1306, 228, 4, 13, 1901)), (1306, (Instr.if_icmp .eq 541, 1309, 1847, 0, 0, 0))]
theorem ltk28 : lt28.all (fun q => chkLw q.1 q.2) = true := by decide +kernel
theorem lc28 {l : Launch} {ω : WP} {xs : Nat → Int32} {L : Nat} {j c : Int} {M : Mem} {ko : Mem → Prop} (hb : ∀ v : Int, 0 ≤ v → v ≤ 6 → 0 ≤ w32 (j + v) ∧ w32 (j + v) < (L : Int)) (hc : c < 512) (hI : Inv c M) (hk : ∀ M', Inv (c + 1) M' → ko M') : lwR l ω xs L j lt28 ko 38 1268 [] M := by
  conv => whnf
  repeat' first
    | (refine ⟨rfl, hb _ (by decide) (by decide), ?_⟩; conv => whnf)
    | (refine And.intro (fun _ => ?_) (fun _ => ?_) <;> first | contradiction | (conv => whnf))
    | fail
  all_goals refine ⟨rfl, by decide, _, pair_go (by first | exact xsI_in | (unfold in32; decide)) (by first | exact xsI_in | (unfold in32; decide)) (by first | exact xsI_in | (unfold in32; decide)) hc hI, ?_⟩
  all_goals rintro z M1 ⟨-, v, rfl, hV⟩ hr
  all_goals obtain ⟨x, hx⟩ := hr.1 rfl
  all_goals cases hx
  all_goals conv => whnf
  all_goals repeat' first
    | (refine ⟨rfl, hb _ (by decide) (by decide), ?_⟩; conv => whnf)
    | (refine And.intro (fun _ => ?_) (fun _ => ?_) <;> first | contradiction | (conv => whnf))
    | fail
  all_goals refine ⟨rfl, Nat.le_of_ble_eq_true rfl, _, hV, ?_⟩
  all_goals rintro z2 M2 ⟨-, rfl, hJ⟩ -
  all_goals conv => whnf
  all_goals refine ⟨fun _ => ?_, fun h => absurd rfl h⟩
  all_goals conv => whnf
  all_goals exact hk _ hJ
def lt29 : List (Nat × LEnt) := [(1311, (Instr.aload_n 1, 1312, 1, 0, 0, 0)), (1312, (Instr.aload_n 0, 1313, 0, 0, 0, 0)), (1313, (Instr.iload_n 3, 1314, 3, 0, 0, 0)), (1314, (Instr.iconst 1, 1315, 0, 0, 1, 0)), (1315, (Instr.iadd, 1316, 0, 0, 0, 0)), (1316, (Instr.iaload, 1317, 0, 0, 0, 0)), (1317, (Instr.invokevirtual 138, 1320, 138, 2, 0, 1073)), (1320, (Instr.aload_n 2, 1321, 2, 0, 0, 0)), (1321, (Instr.aload_n 0, 1322, 0, 0, 0, 0)), (1322, (Instr.iload_n 3, 1323, 3, 0, 0, 0)), (1323, (Instr.iconst 1, 1324, 0, 0, 1, 0)), (1324, (Instr.iadd, 1325, 0, 0, 0, 0)), (1325, (Instr.iaload, 1326, 0, 0, 0, 0)), (1326, (Instr.invokevirtual 141, 1329, 229, 2, 13, 1905)), (1329, (Instr.if_icmp .eq 518, 1332, 1847, 0, 0, 0))]
theorem ltk29 : lt29.all (fun q => chkLw q.1 q.2) = true := by decide +kernel
theorem lc29 {l : Launch} {ω : WP} {xs : Nat → Int32} {L : Nat} {j c : Int} {M : Mem} {ko : Mem → Prop} (hb : ∀ v : Int, 0 ≤ v → v ≤ 6 → 0 ≤ w32 (j + v) ∧ w32 (j + v) < (L : Int)) (hc : c < 512) (hI : Inv c M) (hk : ∀ M', Inv (c + 1) M' → ko M') : lwR l ω xs L j lt29 ko 18 1311 [] M := by
  conv => whnf
  repeat' first
    | (refine ⟨rfl, hb _ (by decide) (by decide), ?_⟩; conv => whnf)
    | (refine And.intro (fun _ => ?_) (fun _ => ?_) <;> first | contradiction | (conv => whnf))
    | fail
  all_goals refine ⟨rfl, by decide, _, pair_person (by first | exact xsI_in | (unfold in32; decide)) hc hI, ?_⟩
  all_goals rintro z M1 ⟨-, v, rfl, hV⟩ hr
  all_goals obtain ⟨x, hx⟩ := hr.1 rfl
  all_goals cases hx
  all_goals conv => whnf
  all_goals repeat' first
    | (refine ⟨rfl, hb _ (by decide) (by decide), ?_⟩; conv => whnf)
    | (refine And.intro (fun _ => ?_) (fun _ => ?_) <;> first | contradiction | (conv => whnf))
    | fail
  all_goals refine ⟨rfl, Nat.le_of_ble_eq_true rfl, _, hV, ?_⟩
  all_goals rintro z2 M2 ⟨-, rfl, hJ⟩ -
  all_goals conv => whnf
  all_goals refine ⟨fun _ => ?_, fun h => absurd rfl h⟩
  all_goals conv => whnf
  all_goals exact hk _ hJ
def lt30 : List (Nat × LEnt) := [(1334, (Instr.aload_n 1, 1335, 1, 0, 0, 0)), (1335, (Instr.aload_n 0, 1336, 0, 0, 0, 0)), (1336, (Instr.iload_n 3, 1337, 3, 0, 0, 0)), (1337, (Instr.iconst 1, 1338, 0, 0, 1, 0)), (1338, (Instr.iadd, 1339, 0, 0, 0, 0)), (1339, (Instr.iaload, 1340, 0, 0, 0, 0)), (1340, (Instr.aload_n 0, 1341, 0, 0, 0, 0)), (1341, (Instr.iload_n 3, 1342, 3, 0, 0, 0)), (1342, (Instr.iconst 2, 1343, 0, 0, 2, 0)), (1343, (Instr.iadd, 1344, 0, 0, 0, 0)), (1344, (Instr.iaload, 1345, 0, 0, 0, 0)), (1345, (Instr.aload_n 0, 1346, 0, 0, 0, 0)), (1346, (Instr.iload_n 3, 1347, 3, 0, 0, 0)), (1347, (Instr.iconst 3, 1348, 0, 0, 3, 0)), (1348, (Instr.iadd, 1349, 0, 0, 0, 0)), (1349, (Instr.iaload, 1350, 0, 0, 0, 0)), (1350, (Instr.invokevirtual 142, 1353, 139, 4, 0, 1081)), (1353, (Instr.aload_n 2, 1354, 2, 0, 0, 0)), (1354, (Instr.aload_n 0, 1355, 0, 0, 0, 0)), (1355, (Instr.iload_n 3, 1356, 3, 0, 0, 0)), (1356, (Instr.iconst 1, 1357, 0, 0, 1, 0)), (1357, (Instr.iadd, 1358, 0, 0, 0, 0)), (1358, (Instr.iaload, 1359, 0, 0, 0, 0)), (1359, (Instr.aload_n 0, 1360, 0, 0, 0, 0)), (1360, (Instr.iload_n 3, 1361, 3, 0, 0, 0)), (1361, (Instr.iconst 2, 1362, 0, 0, 2, 0)), (1362, (Instr.iadd, 1363, 0, 0, 0, 0)), (1363, (Instr.iaload, 1364, 0, 0, 0, 0)), (1364, (Instr.aload_n 0, 1365, 0, 0, 0, 0)), (1365, (Instr.iload_n 3, 1366, 3, 0, 0, 0)), (1366, (Instr.iconst 3, 1367, 0, 0, 3, 0)), (1367, (Instr.iadd, 1368, 0, 0, 0, 0)), (1368, (Instr.iaload, 1369, 0, 0, 0, 0)), (1369, (Instr.invokevirtual 145, 1372, 230, 4, 13, 1909)), (1372, (Instr.if_icmp .eq 475, 1375, 1847, 0, 0, 0))]
theorem ltk30 : lt30.all (fun q => chkLw q.1 q.2) = true := by decide +kernel
theorem lc30 {l : Launch} {ω : WP} {xs : Nat → Int32} {L : Nat} {j c : Int} {M : Mem} {ko : Mem → Prop} (hb : ∀ v : Int, 0 ≤ v → v ≤ 6 → 0 ≤ w32 (j + v) ∧ w32 (j + v) < (L : Int)) (hc : c < 512) (hI : Inv c M) (hk : ∀ M', Inv (c + 1) M' → ko M') : lwR l ω xs L j lt30 ko 38 1334 [] M := by
  conv => whnf
  repeat' first
    | (refine ⟨rfl, hb _ (by decide) (by decide), ?_⟩; conv => whnf)
    | (refine And.intro (fun _ => ?_) (fun _ => ?_) <;> first | contradiction | (conv => whnf))
    | fail
  all_goals refine ⟨rfl, by decide, _, pair_wish (by first | exact xsI_in | (unfold in32; decide)) (by first | exact xsI_in | (unfold in32; decide)) (by first | exact xsI_in | (unfold in32; decide)) hc hI, ?_⟩
  all_goals rintro z M1 ⟨-, v, rfl, hV⟩ hr
  all_goals obtain ⟨x, hx⟩ := hr.1 rfl
  all_goals cases hx
  all_goals conv => whnf
  all_goals repeat' first
    | (refine ⟨rfl, hb _ (by decide) (by decide), ?_⟩; conv => whnf)
    | (refine And.intro (fun _ => ?_) (fun _ => ?_) <;> first | contradiction | (conv => whnf))
    | fail
  all_goals refine ⟨rfl, Nat.le_of_ble_eq_true rfl, _, hV, ?_⟩
  all_goals rintro z2 M2 ⟨-, rfl, hJ⟩ -
  all_goals conv => whnf
  all_goals refine ⟨fun _ => ?_, fun h => absurd rfl h⟩
  all_goals conv => whnf
  all_goals exact hk _ hJ
def lt31 : List (Nat × LEnt) := [(1377, (Instr.aload_n 1, 1378, 1, 0, 0, 0)), (1378, (Instr.aload_n 0, 1379, 0, 0, 0, 0)), (1379, (Instr.iload_n 3, 1380, 3, 0, 0, 0)), (1380, (Instr.iconst 1, 1381, 0, 0, 1, 0)), (1381, (Instr.iadd, 1382, 0, 0, 0, 0)), (1382, (Instr.iaload, 1383, 0, 0, 0, 0)), (1383, (Instr.aload_n 0, 1384, 0, 0, 0, 0)), (1384, (Instr.iload_n 3, 1385, 3, 0, 0, 0)), (1385, (Instr.iconst 2, 1386, 0, 0, 2, 0)), (1386, (Instr.iadd, 1387, 0, 0, 0, 0)), (1387, (Instr.iaload, 1388, 0, 0, 0, 0)), (1388, (Instr.invokevirtual 146, 1391, 140, 3, 0, 1090)), (1391, (Instr.aload_n 2, 1392, 2, 0, 0, 0)), (1392, (Instr.aload_n 0, 1393, 0, 0, 0, 0)), (1393, (Instr.iload_n 3, 1394, 3, 0, 0, 0)), (1394, (Instr.iconst 1, 1395, 0, 0, 1, 0)), (1395, (Instr.iadd, 1396, 0, 0, 0, 0)), (1396, (Instr.iaload, 1397, 0, 0, 0, 0)), (1397, (Instr.aload_n 0, 1398, 0, 0, 0, 0)), (1398, (Instr.iload_n 3, 1399, 3, 0, 0, 0)), (1399, (Instr.iconst 2, 1400, 0, 0, 2, 0)), (1400, (Instr.iadd, 1401, 0, 0, 0, 0)), (1401, (Instr.iaload, 1402, 0, 0, 0, 0)), (1402, (Instr.invokevirtual 149, 1405, 234, 3, 13, 1914)), (1405, (Instr.if_icmp .eq 442, 1408, 1847, 0, 0, 0))]
theorem ltk31 : lt31.all (fun q => chkLw q.1 q.2) = true := by decide +kernel
theorem lc31 {l : Launch} {ω : WP} {xs : Nat → Int32} {L : Nat} {j c : Int} {M : Mem} {ko : Mem → Prop} (hb : ∀ v : Int, 0 ≤ v → v ≤ 6 → 0 ≤ w32 (j + v) ∧ w32 (j + v) < (L : Int)) (hc : c < 512) (hI : Inv c M) (hk : ∀ M', Inv (c + 1) M' → ko M') : lwR l ω xs L j lt31 ko 28 1377 [] M := by
  conv => whnf
  repeat' first
    | (refine ⟨rfl, hb _ (by decide) (by decide), ?_⟩; conv => whnf)
    | (refine And.intro (fun _ => ?_) (fun _ => ?_) <;> first | contradiction | (conv => whnf))
    | fail
  all_goals refine ⟨rfl, by decide, _, pair_roping (by first | exact xsI_in | (unfold in32; decide)) (by first | exact xsI_in | (unfold in32; decide)) hc hI, ?_⟩
  all_goals rintro z M1 ⟨-, v, rfl, hV⟩ hr
  all_goals obtain ⟨x, hx⟩ := hr.1 rfl
  all_goals cases hx
  all_goals conv => whnf
  all_goals repeat' first
    | (refine ⟨rfl, hb _ (by decide) (by decide), ?_⟩; conv => whnf)
    | (refine And.intro (fun _ => ?_) (fun _ => ?_) <;> first | contradiction | (conv => whnf))
    | fail
  all_goals refine ⟨rfl, Nat.le_of_ble_eq_true rfl, _, hV, ?_⟩
  all_goals rintro z2 M2 ⟨-, rfl, hJ⟩ -
  all_goals conv => whnf
  all_goals refine ⟨fun _ => ?_, fun h => absurd rfl h⟩
  all_goals conv => whnf
  all_goals exact hk _ hJ
def lt32 : List (Nat × LEnt) := [(1410, (Instr.aload_n 1, 1411, 1, 0, 0, 0)), (1411, (Instr.aload_n 0, 1412, 0, 0, 0, 0)), (1412, (Instr.iload_n 3, 1413, 3, 0, 0, 0)), (1413, (Instr.iconst 1, 1414, 0, 0, 1, 0)), (1414, (Instr.iadd, 1415, 0, 0, 0, 0)), (1415, (Instr.iaload, 1416, 0, 0, 0, 0)), (1416, (Instr.aload_n 0, 1417, 0, 0, 0, 0)), (1417, (Instr.iload_n 3, 1418, 3, 0, 0, 0)), (1418, (Instr.iconst 2, 1419, 0, 0, 2, 0)), (1419, (Instr.iadd, 1420, 0, 0, 0, 0)), (1420, (Instr.iaload, 1421, 0, 0, 0, 0)), (1421, (Instr.aload_n 0, 1422, 0, 0, 0, 0)), (1422, (Instr.iload_n 3, 1423, 3, 0, 0, 0)), (1423, (Instr.iconst 3, 1424, 0, 0, 3, 0)), (1424, (Instr.iadd, 1425, 0, 0, 0, 0)), (1425, (Instr.iaload, 1426, 0, 0, 0, 0)), (1426, (Instr.aload_n 0, 1427, 0, 0, 0, 0)), (1427, (Instr.iload_n 3, 1428, 3, 0, 0, 0)), (1428, (Instr.iconst 4, 1429, 0, 0, 4, 0)), (1429, (Instr.iadd, 1430, 0, 0, 0, 0)), (1430, (Instr.iaload, 1431, 0, 0, 0, 0)), (1431, (Instr.invokevirtual 150, 1434, 141, 5, 0, 1137)), (1434, (Instr.aload_n 2, 1435, 2, 0, 0, 0)), (1435, (Instr.aload_n 0, 1436, 0, 0, 0, 0)), (1436, (Instr.iload_n 3, 1437, 3, 0, 0, 0)), (1437, (Instr.iconst 1, 1438, 0, 0, 1, 0)), (1438, (Instr.iadd, 1439, 0, 0, 0, 0)), (1439, (Instr.iaload, 1440, 0, 0, 0, 0)), (1440, (Instr.aload_n 0, 1441, 0, 0, 0, 0)), (1441, (Instr.iload_n 3, 1442, 3, 0, 0, 0)), (1442, (Instr.iconst 2, 1443, 0, 0, 2, 0)), (1443, (Instr.iadd, 1444, 0, 0, 0, 0)), (1444, (Instr.iaload, 1445, 0, 0, 0, 0)), (1445, (Instr.aload_n 0, 1446, 0, 0, 0, 0)), (1446, (Instr.iload_n 3, 1447, 3, 0, 0, 0)), (1447, (Instr.iconst 3, 1448, 0, 0, 3, 0)), (1448, (Instr.iadd, 1449, 0, 0, 0, 0)), (1449, (Instr.iaload, 1450, 0, 0, 0, 0)), (1450, (Instr.aload_n 0, 1451, 0, 0, 0, 0)), (1451, (Instr.iload_n 3, 1452, 3, 0, 0, 0)), (1452, (Instr.iconst 4, 1453, 0, 0, 4, 0)), (1453, (Instr.iadd, 1454, 0, 0, 0, 0)), (1454, (Instr.iaload, 1455, 0, 0, 0, 0)), (1455, (Instr.invokevirtual 153, 1458, 235, 5, 13, 1931)), (1458, (Instr.if_icmp .eq 389, 1461, 1847, 0, 0, 0))]
theorem ltk32 : lt32.all (fun q => chkLw q.1 q.2) = true := by decide +kernel
theorem lc32 {l : Launch} {ω : WP} {xs : Nat → Int32} {L : Nat} {j c : Int} {M : Mem} {ko : Mem → Prop} (hb : ∀ v : Int, 0 ≤ v → v ≤ 6 → 0 ≤ w32 (j + v) ∧ w32 (j + v) < (L : Int)) (hc : c < 512) (hI : Inv c M) (hk : ∀ M', Inv (c + 1) M' → ko M') : lwR l ω xs L j lt32 ko 48 1410 [] M := by
  conv => whnf
  repeat' first
    | (refine ⟨rfl, hb _ (by decide) (by decide), ?_⟩; conv => whnf)
    | (refine And.intro (fun _ => ?_) (fun _ => ?_) <;> first | contradiction | (conv => whnf))
    | fail
  all_goals refine ⟨rfl, by decide, _, pair_rope (by first | exact xsI_in | (unfold in32; decide)) (by first | exact xsI_in | (unfold in32; decide)) (by first | exact xsI_in | (unfold in32; decide)) (by first | exact xsI_in | (unfold in32; decide)) hc hI, ?_⟩
  all_goals rintro z M1 ⟨-, v, rfl, hV⟩ hr
  all_goals obtain ⟨x, hx⟩ := hr.1 rfl
  all_goals cases hx
  all_goals conv => whnf
  all_goals repeat' first
    | (refine ⟨rfl, hb _ (by decide) (by decide), ?_⟩; conv => whnf)
    | (refine And.intro (fun _ => ?_) (fun _ => ?_) <;> first | contradiction | (conv => whnf))
    | fail
  all_goals refine ⟨rfl, Nat.le_of_ble_eq_true rfl, _, hV, ?_⟩
  all_goals rintro z2 M2 ⟨-, rfl, hJ⟩ -
  all_goals conv => whnf
  all_goals refine ⟨fun _ => ?_, fun h => absurd rfl h⟩
  all_goals conv => whnf
  all_goals exact hk _ hJ
def lt33 : List (Nat × LEnt) := [(1463, (Instr.aload_n 1, 1464, 1, 0, 0, 0)), (1464, (Instr.invokevirtual 154, 1467, 142, 1, 0, 1145)), (1467, (Instr.aload_n 2, 1468, 2, 0, 0, 0)), (1468, (Instr.invokevirtual 157, 1471, 236, 1, 13, 1935)), (1471, (Instr.if_icmp .eq 376, 1474, 1847, 0, 0, 0))]
theorem ltk33 : lt33.all (fun q => chkLw q.1 q.2) = true := by decide +kernel
theorem lc33 {l : Launch} {ω : WP} {xs : Nat → Int32} {L : Nat} {j c : Int} {M : Mem} {ko : Mem → Prop} (hb : ∀ v : Int, 0 ≤ v → v ≤ 6 → 0 ≤ w32 (j + v) ∧ w32 (j + v) < (L : Int)) (hc : c < 512) (hI : Inv c M) (hk : ∀ M', Inv (c + 1) M' → ko M') : lwR l ω xs L j lt33 ko 8 1463 [] M := by
  conv => whnf
  repeat' first
    | (refine ⟨rfl, hb _ (by decide) (by decide), ?_⟩; conv => whnf)
    | (refine And.intro (fun _ => ?_) (fun _ => ?_) <;> first | contradiction | (conv => whnf))
    | fail
  all_goals refine ⟨rfl, by decide, _, pair_unrope  hc hI, ?_⟩
  all_goals rintro z M1 ⟨-, v, rfl, hV⟩ hr
  all_goals obtain ⟨x, hx⟩ := hr.1 rfl
  all_goals cases hx
  all_goals conv => whnf
  all_goals repeat' first
    | (refine ⟨rfl, hb _ (by decide) (by decide), ?_⟩; conv => whnf)
    | (refine And.intro (fun _ => ?_) (fun _ => ?_) <;> first | contradiction | (conv => whnf))
    | fail
  all_goals refine ⟨rfl, Nat.le_of_ble_eq_true rfl, _, hV, ?_⟩
  all_goals rintro z2 M2 ⟨-, rfl, hJ⟩ -
  all_goals conv => whnf
  all_goals refine ⟨fun _ => ?_, fun h => absurd rfl h⟩
  all_goals conv => whnf
  all_goals exact hk _ hJ
def lt34 : List (Nat × LEnt) := [(1476, (Instr.aload_n 1, 1477, 1, 0, 0, 0)), (1477, (Instr.aload_n 0, 1478, 0, 0, 0, 0)), (1478, (Instr.iload_n 3, 1479, 3, 0, 0, 0)), (1479, (Instr.iconst 1, 1480, 0, 0, 1, 0)), (1480, (Instr.iadd, 1481, 0, 0, 0, 0)), (1481, (Instr.iaload, 1482, 0, 0, 0, 0)), (1482, (Instr.aload_n 0, 1483, 0, 0, 0, 0)), (1483, (Instr.iload_n 3, 1484, 3, 0, 0, 0)), (1484, (Instr.iconst 2, 1485, 0, 0, 2, 0)), (1485, (Instr.iadd, 1486, 0, 0, 0, 0)), (1486, (Instr.iaload, 1487, 0, 0, 0, 0)), (1487, (Instr.invokevirtual 158, 1490, 143, 3, 0, 1149)), (1490, (Instr.aload_n 2, 1491, 2, 0, 0, 0)), (1491, (Instr.aload_n 0, 1492, 0, 0, 0, 0)), (1492, (Instr.iload_n 3, 1493, 3, 0, 0, 0)), (1493, (Instr.iconst 1, 1494, 0, 0, 1, 0)), (1494, (Instr.iadd, 1495, 0, 0, 0, 0)), (1495, (Instr.iaload, 1496, 0, 0, 0, 0)), (1496, (Instr.aload_n 0, 1497, 0, 0, 0, 0)), (1497, (Instr.iload_n 3, 1498, 3, 0, 0, 0)), (1498, (Instr.iconst 2, 1499, 0, 0, 2, 0)), (1499, (Instr.iadd, 1500, 0, 0, 0, 0)), (1500, (Instr.iaload, 1501, 0, 0, 0, 0)), (1501, (Instr.invokevirtual 161, 1504, 244, 3, 13, 1939)), (1504, (Instr.if_icmp .eq 343, 1507, 1847, 0, 0, 0))]
theorem ltk34 : lt34.all (fun q => chkLw q.1 q.2) = true := by decide +kernel
theorem lc34 {l : Launch} {ω : WP} {xs : Nat → Int32} {L : Nat} {j c : Int} {M : Mem} {ko : Mem → Prop} (hb : ∀ v : Int, 0 ≤ v → v ≤ 6 → 0 ≤ w32 (j + v) ∧ w32 (j + v) < (L : Int)) (hc : c < 512) (hI : Inv c M) (hk : ∀ M', Inv (c + 1) M' → ko M') : lwR l ω xs L j lt34 ko 28 1476 [] M := by
  conv => whnf
  repeat' first
    | (refine ⟨rfl, hb _ (by decide) (by decide), ?_⟩; conv => whnf)
    | (refine And.intro (fun _ => ?_) (fun _ => ?_) <;> first | contradiction | (conv => whnf))
    | fail
  all_goals refine ⟨rfl, by decide, _, pair_went (by first | exact xsI_in | (unfold in32; decide)) (by first | exact xsI_in | (unfold in32; decide)) hc hI, ?_⟩
  all_goals rintro z M1 ⟨-, v, rfl, hV⟩ hr
  all_goals obtain ⟨x, hx⟩ := hr.1 rfl
  all_goals cases hx
  all_goals conv => whnf
  all_goals repeat' first
    | (refine ⟨rfl, hb _ (by decide) (by decide), ?_⟩; conv => whnf)
    | (refine And.intro (fun _ => ?_) (fun _ => ?_) <;> first | contradiction | (conv => whnf))
    | fail
  all_goals refine ⟨rfl, Nat.le_of_ble_eq_true rfl, _, hV, ?_⟩
  all_goals rintro z2 M2 ⟨-, rfl, hJ⟩ -
  all_goals conv => whnf
  all_goals refine ⟨fun _ => ?_, fun h => absurd rfl h⟩
  all_goals conv => whnf
  all_goals exact hk _ hJ
def lt35 : List (Nat × LEnt) := [(1509, (Instr.aload_n 1, 1510, 1, 0, 0, 0)), (1510, (Instr.aload_n 0, 1511, 0, 0, 0, 0)), (1511, (Instr.iload_n 3, 1512, 3, 0, 0, 0)), (1512, (Instr.iconst 1, 1513, 0, 0, 1, 0)), (1513, (Instr.iadd, 1514, 0, 0, 0, 0)), (1514, (Instr.iaload, 1515, 0, 0, 0, 0)), (1515, (Instr.aload_n 0, 1516, 0, 0, 0, 0)), (1516, (Instr.iload_n 3, 1517, 3, 0, 0, 0)), (1517, (Instr.iconst 2, 1518, 0, 0, 2, 0)), (1518, (Instr.iadd, 1519, 0, 0, 0, 0)), (1519, (Instr.iaload, 1520, 0, 0, 0, 0)), (1520, (Instr.invokevirtual 162, 1523, 144, 3, 0, 1199)), (1523, (Instr.aload_n 2, 1524, 2, 0, 0, 0)), (1524, (Instr.aload_n 0, 1525, 0, 0, 0, 0)), (1525, (Instr.iload_n 3, 1526, 3, 0, 0, 0)), (1526, (Instr.iconst 1, 1527, 0, 0, 1, 0)), (1527, (Instr.iadd, 1528, 0, 0, 0, 0)), (1528, (Instr.iaload, 1529, 0, 0, 0, 0)), (1529, (Instr.aload_n 0, 1530, 0, 0, 0, 0)), (1530, (Instr.iload_n 3, 1531, 3, 0, 0, 0)), (1531, (Instr.iconst 2, 1532, 0, 0, 2, 0)), (1532, (Instr.iadd, 1533, 0, 0, 0, 0)), (1533, (Instr.iaload, 1534, 0, 0, 0, 0)), (1534, (Instr.invokevirtual 165, 1537, 245, 3, 13, 1971)), (1537, (Instr.if_icmp .eq 310, 1540, 1847, 0, 0, 0))]
theorem ltk35 : lt35.all (fun q => chkLw q.1 q.2) = true := by decide +kernel
theorem lc35 {l : Launch} {ω : WP} {xs : Nat → Int32} {L : Nat} {j c : Int} {M : Mem} {ko : Mem → Prop} (hb : ∀ v : Int, 0 ≤ v → v ≤ 6 → 0 ≤ w32 (j + v) ∧ w32 (j + v) < (L : Int)) (hc : c < 512) (hI : Inv c M) (hk : ∀ M', Inv (c + 1) M' → ko M') : lwR l ω xs L j lt35 ko 28 1509 [] M := by
  conv => whnf
  repeat' first
    | (refine ⟨rfl, hb _ (by decide) (by decide), ?_⟩; conv => whnf)
    | (refine And.intro (fun _ => ?_) (fun _ => ?_) <;> first | contradiction | (conv => whnf))
    | fail
  all_goals refine ⟨rfl, by decide, _, pair_stayed (by first | exact xsI_in | (unfold in32; decide)) (by first | exact xsI_in | (unfold in32; decide)) hc hI, ?_⟩
  all_goals rintro z M1 ⟨-, v, rfl, hV⟩ hr
  all_goals obtain ⟨x, hx⟩ := hr.1 rfl
  all_goals cases hx
  all_goals conv => whnf
  all_goals repeat' first
    | (refine ⟨rfl, hb _ (by decide) (by decide), ?_⟩; conv => whnf)
    | (refine And.intro (fun _ => ?_) (fun _ => ?_) <;> first | contradiction | (conv => whnf))
    | fail
  all_goals refine ⟨rfl, Nat.le_of_ble_eq_true rfl, _, hV, ?_⟩
  all_goals rintro z2 M2 ⟨-, rfl, hJ⟩ -
  all_goals conv => whnf
  all_goals refine ⟨fun _ => ?_, fun h => absurd rfl h⟩
  all_goals conv => whnf
  all_goals exact hk _ hJ
def lt36 : List (Nat × LEnt) := [(1542, (Instr.aload_n 1, 1543, 1, 0, 0, 0)), (1543, (Instr.aload_n 0, 1544, 0, 0, 0, 0)), (1544, (Instr.iload_n 3, 1545, 3, 0, 0, 0)), (1545, (Instr.iconst 1, 1546, 0, 0, 1, 0)), (1546, (Instr.iadd, 1547, 0, 0, 0, 0)), (1547, (Instr.iaload, 1548, 0, 0, 0, 0)), (1548, (Instr.aload_n 0, 1549, 0, 0, 0, 0)), (1549, (Instr.iload_n 3, 1550, 3, 0, 0, 0)), (1550, (Instr.iconst 2, 1551, 0, 0, 2, 0)), (1551, (Instr.iadd, 1552, 0, 0, 0, 0)), (1552, (Instr.iaload, 1553, 0, 0, 0, 0)), (1553, (Instr.invokevirtual 166, 1556, 145, 3, 0, 1203)), (1556, (Instr.aload_n 2, 1557, 2, 0, 0, 0)), (1557, (Instr.aload_n 0, 1558, 0, 0, 0, 0)), (1558, (Instr.iload_n 3, 1559, 3, 0, 0, 0)), (1559, (Instr.iconst 1, 1560, 0, 0, 1, 0)), (1560, (Instr.iadd, 1561, 0, 0, 0, 0)), (1561, (Instr.iaload, 1562, 0, 0, 0, 0)), (1562, (Instr.aload_n 0, 1563, 0, 0, 0, 0)), (1563, (Instr.iload_n 3, 1564, 3, 0, 0, 0)), (1564, (Instr.iconst 2, 1565, 0, 0, 2, 0)), (1565, (Instr.iadd, 1566, 0, 0, 0, 0)), (1566, (Instr.iaload, 1567, 0, 0, 0, 0)), (1567, (Instr.invokevirtual 169, 1570, 247, 3, 13, 1975)), (1570, (Instr.if_icmp .eq 277, 1573, 1847, 0, 0, 0))]
theorem ltk36 : lt36.all (fun q => chkLw q.1 q.2) = true := by decide +kernel
theorem lc36 {l : Launch} {ω : WP} {xs : Nat → Int32} {L : Nat} {j c : Int} {M : Mem} {ko : Mem → Prop} (hb : ∀ v : Int, 0 ≤ v → v ≤ 6 → 0 ≤ w32 (j + v) ∧ w32 (j + v) < (L : Int)) (hc : c < 512) (hI : Inv c M) (hk : ∀ M', Inv (c + 1) M' → ko M') : lwR l ω xs L j lt36 ko 28 1542 [] M := by
  conv => whnf
  repeat' first
    | (refine ⟨rfl, hb _ (by decide) (by decide), ?_⟩; conv => whnf)
    | (refine And.intro (fun _ => ?_) (fun _ => ?_) <;> first | contradiction | (conv => whnf))
    | fail
  all_goals refine ⟨rfl, by decide, _, pair_at (by first | exact xsI_in | (unfold in32; decide)) (by first | exact xsI_in | (unfold in32; decide)) hc hI, ?_⟩
  all_goals rintro z M1 ⟨-, v, rfl, hV⟩ hr
  all_goals obtain ⟨x, hx⟩ := hr.1 rfl
  all_goals cases hx
  all_goals conv => whnf
  all_goals repeat' first
    | (refine ⟨rfl, hb _ (by decide) (by decide), ?_⟩; conv => whnf)
    | (refine And.intro (fun _ => ?_) (fun _ => ?_) <;> first | contradiction | (conv => whnf))
    | fail
  all_goals refine ⟨rfl, Nat.le_of_ble_eq_true rfl, _, hV, ?_⟩
  all_goals rintro z2 M2 ⟨-, rfl, hJ⟩ -
  all_goals conv => whnf
  all_goals refine ⟨fun _ => ?_, fun h => absurd rfl h⟩
  all_goals conv => whnf
  all_goals exact hk _ hJ
def lt37 : List (Nat × LEnt) := [(1575, (Instr.aload_n 1, 1576, 1, 0, 0, 0)), (1576, (Instr.aload_n 0, 1577, 0, 0, 0, 0)), (1577, (Instr.iload_n 3, 1578, 3, 0, 0, 0)), (1578, (Instr.iconst 1, 1579, 0, 0, 1, 0)), (1579, (Instr.iadd, 1580, 0, 0, 0, 0)), (1580, (Instr.iaload, 1581, 0, 0, 0, 0)), (1581, (Instr.aload_n 0, 1582, 0, 0, 0, 0)), (1582, (Instr.iload_n 3, 1583, 3, 0, 0, 0)), (1583, (Instr.iconst 2, 1584, 0, 0, 2, 0)), (1584, (Instr.iadd, 1585, 0, 0, 0, 0)), (1585, (Instr.iaload, 1586, 0, 0, 0, 0)), (1586, (Instr.aload_n 0, 1587, 0, 0, 0, 0)), (1587, (Instr.iload_n 3, 1588, 3, 0, 0, 0)), (1588, (Instr.iconst 3, 1589, 0, 0, 3, 0)), (1589, (Instr.iadd, 1590, 0, 0, 0, 0)), (1590, (Instr.iaload, 1591, 0, 0, 0, 0)), (1591, (Instr.invokevirtual 170, 1594, 146, 4, 0, 1207)), (1594, (Instr.aload_n 2, 1595, 2, 0, 0, 0)), (1595, (Instr.aload_n 0, 1596, 0, 0, 0, 0)), (1596, (Instr.iload_n 3, 1597, 3, 0, 0, 0)), (1597, (Instr.iconst 1, 1598, 0, 0, 1, 0)), (1598, (Instr.iadd, 1599, 0, 0, 0, 0)), (1599, (Instr.iaload, 1600, 0, 0, 0, 0)), (1600, (Instr.aload_n 0, 1601, 0, 0, 0, 0)), (1601, (Instr.iload_n 3, 1602, 3, 0, 0, 0)), (1602, (Instr.iconst 2, 1603, 0, 0, 2, 0)), (1603, (Instr.iadd, 1604, 0, 0, 0, 0)), (1604, (Instr.iaload, 1605, 0, 0, 0, 0)), (1605, (Instr.aload_n 0, 1606, 0, 0, 0, 0)), (1606, (Instr.iload_n 3, 1607, 3, 0, 0, 0)), (1607, (Instr.iconst 3, 1608, 0, 0, 3, 0)), (1608, (Instr.iadd, 1609, 0, 0, 0, 0)), (1609, (Instr.iaload, 1610, 0, 0, 0, 0)), (1610, (Instr.invokevirtual 173, 1613, 248, 4, 13, 1983)), (1613, (Instr.if_icmp .eq 234, 1616, 1847, 0, 0, 0))]
theorem ltk37 : lt37.all (fun q => chkLw q.1 q.2) = true := by decide +kernel
theorem lc37 {l : Launch} {ω : WP} {xs : Nat → Int32} {L : Nat} {j c : Int} {M : Mem} {ko : Mem → Prop} (hb : ∀ v : Int, 0 ≤ v → v ≤ 6 → 0 ≤ w32 (j + v) ∧ w32 (j + v) < (L : Int)) (hc : c < 512) (hI : Inv c M) (hk : ∀ M', Inv (c + 1) M' → ko M') : lwR l ω xs L j lt37 ko 38 1575 [] M := by
  conv => whnf
  repeat' first
    | (refine ⟨rfl, hb _ (by decide) (by decide), ?_⟩; conv => whnf)
    | (refine And.intro (fun _ => ?_) (fun _ => ?_) <;> first | contradiction | (conv => whnf))
    | fail
  all_goals refine ⟨rfl, by decide, _, pair_near (by first | exact xsI_in | (unfold in32; decide)) (by first | exact xsI_in | (unfold in32; decide)) (by first | exact xsI_in | (unfold in32; decide)) hc hI, ?_⟩
  all_goals rintro z M1 ⟨-, v, rfl, hV⟩ hr
  all_goals obtain ⟨x, hx⟩ := hr.1 rfl
  all_goals cases hx
  all_goals conv => whnf
  all_goals repeat' first
    | (refine ⟨rfl, hb _ (by decide) (by decide), ?_⟩; conv => whnf)
    | (refine And.intro (fun _ => ?_) (fun _ => ?_) <;> first | contradiction | (conv => whnf))
    | fail
  all_goals refine ⟨rfl, Nat.le_of_ble_eq_true rfl, _, hV, ?_⟩
  all_goals rintro z2 M2 ⟨-, rfl, hJ⟩ -
  all_goals conv => whnf
  all_goals refine ⟨fun _ => ?_, fun h => absurd rfl h⟩
  all_goals conv => whnf
  all_goals exact hk _ hJ
def lt38 : List (Nat × LEnt) := [(1618, (Instr.aload_n 1, 1619, 1, 0, 0, 0)), (1619, (Instr.aload_n 0, 1620, 0, 0, 0, 0)), (1620, (Instr.iload_n 3, 1621, 3, 0, 0, 0)), (1621, (Instr.iconst 1, 1622, 0, 0, 1, 0)), (1622, (Instr.iadd, 1623, 0, 0, 0, 0)), (1623, (Instr.iaload, 1624, 0, 0, 0, 0)), (1624, (Instr.aload_n 0, 1625, 0, 0, 0, 0)), (1625, (Instr.iload_n 3, 1626, 3, 0, 0, 0)), (1626, (Instr.iconst 2, 1627, 0, 0, 2, 0)), (1627, (Instr.iadd, 1628, 0, 0, 0, 0)), (1628, (Instr.iaload, 1629, 0, 0, 0, 0)), (1629, (Instr.aload_n 0, 1630, 0, 0, 0, 0)), (1630, (Instr.iload_n 3, 1631, 3, 0, 0, 0)), (1631, (Instr.iconst 3, 1632, 0, 0, 3, 0)), (1632, (Instr.iadd, 1633, 0, 0, 0, 0)), (1633, (Instr.iaload, 1634, 0, 0, 0, 0)), (1634, (Instr.invokevirtual 174, 1637, 149, 4, 0, 1219)), (1637, (Instr.aload_n 2, 1638, 2, 0, 0, 0)), (1638, (Instr.aload_n 0, 1639, 0, 0, 0, 0)), (1639, (Instr.iload_n 3, 1640, 3, 0, 0, 0)), (1640, (Instr.iconst 1, 1641, 0, 0, 1, 0)), (1641, (Instr.iadd, 1642, 0, 0, 0, 0)), (1642, (Instr.iaload, 1643, 0, 0, 0, 0)), (1643, (Instr.aload_n 0, 1644, 0, 0, 0, 0)), (1644, (Instr.iload_n 3, 1645, 3, 0, 0, 0)), (1645, (Instr.iconst 2, 1646, 0, 0, 2, 0)), (1646, (Instr.iadd, 1647, 0, 0, 0, 0)), (1647, (Instr.iaload, 1648, 0, 0, 0, 0)), (1648, (Instr.aload_n 0, 1649, 0, 0, 0, 0)), (1649, (Instr.iload_n 3, 1650, 3, 0, 0, 0)), (1650, (Instr.iconst 3, 1651, 0, 0, 3, 0)), (1651, (Instr.iadd, 1652, 0, 0, 0, 0)), (1652, (Instr.iaload, 1653, 0, 0, 0, 0)), (1653, (Instr.invokevirtual 177, 1656, 249, 4, 13, 1988)), (1656, (Instr.if_icmp .eq 191, 1659, 1847, 0, 0, 0))]
theorem ltk38 : lt38.all (fun q => chkLw q.1 q.2) = true := by decide +kernel
theorem lc38 {l : Launch} {ω : WP} {xs : Nat → Int32} {L : Nat} {j c : Int} {M : Mem} {ko : Mem → Prop} (hb : ∀ v : Int, 0 ≤ v → v ≤ 6 → 0 ≤ w32 (j + v) ∧ w32 (j + v) < (L : Int)) (hc : c < 512) (hI : Inv c M) (hk : ∀ M', Inv (c + 1) M' → ko M') : lwR l ω xs L j lt38 ko 38 1618 [] M := by
  conv => whnf
  repeat' first
    | (refine ⟨rfl, hb _ (by decide) (by decide), ?_⟩; conv => whnf)
    | (refine And.intro (fun _ => ?_) (fun _ => ?_) <;> first | contradiction | (conv => whnf))
    | fail
  all_goals refine ⟨rfl, by decide, _, pair_entry (by first | exact xsI_in | (unfold in32; decide)) (by first | exact xsI_in | (unfold in32; decide)) (by first | exact xsI_in | (unfold in32; decide)) hc hI, ?_⟩
  all_goals rintro z M1 ⟨-, v, rfl, hV⟩ hr
  all_goals obtain ⟨x, hx⟩ := hr.1 rfl
  all_goals cases hx
  all_goals conv => whnf
  all_goals repeat' first
    | (refine ⟨rfl, hb _ (by decide) (by decide), ?_⟩; conv => whnf)
    | (refine And.intro (fun _ => ?_) (fun _ => ?_) <;> first | contradiction | (conv => whnf))
    | fail
  all_goals refine ⟨rfl, Nat.le_of_ble_eq_true rfl, _, hV, ?_⟩
  all_goals rintro z2 M2 ⟨-, rfl, hJ⟩ -
  all_goals conv => whnf
  all_goals refine ⟨fun _ => ?_, fun h => absurd rfl h⟩
  all_goals conv => whnf
  all_goals exact hk _ hJ
def lt39 : List (Nat × LEnt) := [(1661, (Instr.aload_n 1, 1662, 1, 0, 0, 0)), (1662, (Instr.aload_n 0, 1663, 0, 0, 0, 0)), (1663, (Instr.iload_n 3, 1664, 3, 0, 0, 0)), (1664, (Instr.iconst 1, 1665, 0, 0, 1, 0)), (1665, (Instr.iadd, 1666, 0, 0, 0, 0)), (1666, (Instr.iaload, 1667, 0, 0, 0, 0)), (1667, (Instr.aload_n 0, 1668, 0, 0, 0, 0)), (1668, (Instr.iload_n 3, 1669, 3, 0, 0, 0)), (1669, (Instr.iconst 2, 1670, 0, 0, 2, 0)), (1670, (Instr.iadd, 1671, 0, 0, 0, 0)), (1671, (Instr.iaload, 1672, 0, 0, 0, 0)), (1672, (Instr.aload_n 0, 1673, 0, 0, 0, 0)), (1673, (Instr.iload_n 3, 1674, 3, 0, 0, 0)), (1674, (Instr.iconst 3, 1675, 0, 0, 3, 0)), (1675, (Instr.iadd, 1676, 0, 0, 0, 0)), (1676, (Instr.iaload, 1677, 0, 0, 0, 0)), (1677, (Instr.invokevirtual 178, 1680, 150, 4, 0, 1227)), (1680, (Instr.aload_n 2, 1681, 2, 0, 0, 0)), (1681, (Instr.aload_n 0, 1682, 0, 0, 0, 0)), (1682, (Instr.iload_n 3, 1683, 3, 0, 0, 0)), (1683, (Instr.iconst 1, 1684, 0, 0, 1, 0)), (1684, (Instr.iadd, 1685, 0, 0, 0, 0)), (1685, (Instr.iaload, 1686, 0, 0, 0, 0)), (1686, (Instr.aload_n 0, 1687, 0, 0, 0, 0)), (1687, (Instr.iload_n 3, 1688, 3, 0, 0, 0)), (1688, (Instr.iconst 2, 1689, 0, 0, 2, 0)), (1689, (Instr.iadd, 1690, 0, 0, 0, 0)), (1690, (Instr.iaload, 1691, 0, 0, 0, 0)), (1691, (Instr.aload_n 0, 1692, 0, 0, 0, 0)), (1692, (Instr.iload_n 3, 1693, 3, 0, 0, 0)), (1693, (Instr.iconst 3, 1694, 0, 0, 3, 0)), (1694, (Instr.iadd, 1695, 0, 0, 0, 0)), (1695, (Instr.iaload, 1696, 0, 0, 0, 0)), (1696, (Instr.invokevirtual 182, 1699, 255, 4, 13, 1992)), (1699, (Instr.lcmp, 1700, 0, 0, 0, 0)), (1700, (Instr.ifCond .eq 147, 1703, 1847, 0, 0, 0))]
theorem ltk39 : lt39.all (fun q => chkLw q.1 q.2) = true := by decide +kernel
theorem lc39 {l : Launch} {ω : WP} {xs : Nat → Int32} {L : Nat} {j c : Int} {M : Mem} {ko : Mem → Prop} (hb : ∀ v : Int, 0 ≤ v → v ≤ 6 → 0 ≤ w32 (j + v) ∧ w32 (j + v) < (L : Int)) (hc : c < 512) (hI : Inv c M) (hk : ∀ M', Inv (c + 1) M' → ko M') : lwR l ω xs L j lt39 ko 39 1661 [] M := by
  conv => whnf
  repeat' first
    | (refine ⟨rfl, hb _ (by decide) (by decide), ?_⟩; conv => whnf)
    | (refine And.intro (fun _ => ?_) (fun _ => ?_) <;> first | contradiction | (conv => whnf))
    | fail
  all_goals refine ⟨rfl, by decide, _, pair_grade (by first | exact xsI_in | (unfold in32; decide)) (by first | exact xsI_in | (unfold in32; decide)) (by first | exact xsI_in | (unfold in32; decide)) hc hI, ?_⟩
  all_goals rintro z M1 ⟨-, v, rfl, hV⟩ hr
  all_goals obtain ⟨x, hx⟩ := hr.2 rfl
  all_goals cases hx
  all_goals conv => whnf
  all_goals repeat' first
    | (refine ⟨rfl, hb _ (by decide) (by decide), ?_⟩; conv => whnf)
    | (refine And.intro (fun _ => ?_) (fun _ => ?_) <;> first | contradiction | (conv => whnf))
    | fail
  all_goals refine ⟨rfl, Nat.le_of_ble_eq_true rfl, _, hV, ?_⟩
  all_goals rintro z2 M2 ⟨-, rfl, hJ⟩ -
  all_goals conv => whnf
  all_goals refine ⟨fun _ => ?_, fun h => absurd (cmp3_self _) h⟩
  all_goals conv => whnf
  all_goals exact hk _ hJ
def lt40 : List (Nat × LEnt) := [(1705, (Instr.aload_n 1, 1706, 1, 0, 0, 0)), (1706, (Instr.aload_n 0, 1707, 0, 0, 0, 0)), (1707, (Instr.iload_n 3, 1708, 3, 0, 0, 0)), (1708, (Instr.iconst 1, 1709, 0, 0, 1, 0)), (1709, (Instr.iadd, 1710, 0, 0, 0, 0)), (1710, (Instr.iaload, 1711, 0, 0, 0, 0)), (1711, (Instr.aload_n 0, 1712, 0, 0, 0, 0)), (1712, (Instr.iload_n 3, 1713, 3, 0, 0, 0)), (1713, (Instr.iconst 2, 1714, 0, 0, 2, 0)), (1714, (Instr.iadd, 1715, 0, 0, 0, 0)), (1715, (Instr.iaload, 1716, 0, 0, 0, 0)), (1716, (Instr.invokevirtual 183, 1719, 151, 3, 0, 1273)), (1719, (Instr.aload_n 2, 1720, 2, 0, 0, 0)), (1720, (Instr.aload_n 0, 1721, 0, 0, 0, 0)), (1721, (Instr.iload_n 3, 1722, 3, 0, 0, 0)), (1722, (Instr.iconst 1, 1723, 0, 0, 1, 0)), (1723, (Instr.iadd, 1724, 0, 0, 0, 0)), (1724, (Instr.iaload, 1725, 0, 0, 0, 0)), (1725, (Instr.aload_n 0, 1726, 0, 0, 0, 0)), (1726, (Instr.iload_n 3, 1727, 3, 0, 0, 0)), (1727, (Instr.iconst 2, 1728, 0, 0, 2, 0)), (1728, (Instr.iadd, 1729, 0, 0, 0, 0)), (1729, (Instr.iaload, 1730, 0, 0, 0, 0)), (1730, (Instr.invokevirtual 187, 1733, 256, 3, 13, 2018)), (1733, (Instr.lcmp, 1734, 0, 0, 0, 0)), (1734, (Instr.ifCond .eq 113, 1737, 1847, 0, 0, 0))]
theorem ltk40 : lt40.all (fun q => chkLw q.1 q.2) = true := by decide +kernel
theorem lc40 {l : Launch} {ω : WP} {xs : Nat → Int32} {L : Nat} {j c : Int} {M : Mem} {ko : Mem → Prop} (hb : ∀ v : Int, 0 ≤ v → v ≤ 6 → 0 ≤ w32 (j + v) ∧ w32 (j + v) < (L : Int)) (hc : c < 512) (hI : Inv c M) (hk : ∀ M', Inv (c + 1) M' → ko M') : lwR l ω xs L j lt40 ko 29 1705 [] M := by
  conv => whnf
  repeat' first
    | (refine ⟨rfl, hb _ (by decide) (by decide), ?_⟩; conv => whnf)
    | (refine And.intro (fun _ => ?_) (fun _ => ?_) <;> first | contradiction | (conv => whnf))
    | fail
  all_goals refine ⟨rfl, by decide, _, pair_over (by first | exact xsI_in | (unfold in32; decide)) (by first | exact xsI_in | (unfold in32; decide)) hc hI, ?_⟩
  all_goals rintro z M1 ⟨-, v, rfl, hV⟩ hr
  all_goals obtain ⟨x, hx⟩ := hr.2 rfl
  all_goals cases hx
  all_goals conv => whnf
  all_goals repeat' first
    | (refine ⟨rfl, hb _ (by decide) (by decide), ?_⟩; conv => whnf)
    | (refine And.intro (fun _ => ?_) (fun _ => ?_) <;> first | contradiction | (conv => whnf))
    | fail
  all_goals refine ⟨rfl, Nat.le_of_ble_eq_true rfl, _, hV, ?_⟩
  all_goals rintro z2 M2 ⟨-, rfl, hJ⟩ -
  all_goals conv => whnf
  all_goals refine ⟨fun _ => ?_, fun h => absurd (cmp3_self _) h⟩
  all_goals conv => whnf
  all_goals exact hk _ hJ
def lt41 : List (Nat × LEnt) := [(1739, (Instr.aload_n 1, 1740, 1, 0, 0, 0)), (1740, (Instr.invokevirtual 188, 1743, 152, 1, 0, 1281)), (1743, (Instr.aload_n 2, 1744, 2, 0, 0, 0)), (1744, (Instr.invokevirtual 191, 1747, 257, 1, 13, 2022)), (1747, (Instr.if_icmp .eq 100, 1750, 1847, 0, 0, 0))]
theorem ltk41 : lt41.all (fun q => chkLw q.1 q.2) = true := by decide +kernel
theorem lc41 {l : Launch} {ω : WP} {xs : Nat → Int32} {L : Nat} {j c : Int} {M : Mem} {ko : Mem → Prop} (hb : ∀ v : Int, 0 ≤ v → v ≤ 6 → 0 ≤ w32 (j + v) ∧ w32 (j + v) < (L : Int)) (hc : c < 512) (hI : Inv c M) (hk : ∀ M', Inv (c + 1) M' → ko M') : lwR l ω xs L j lt41 ko 8 1739 [] M := by
  conv => whnf
  repeat' first
    | (refine ⟨rfl, hb _ (by decide) (by decide), ?_⟩; conv => whnf)
    | (refine And.intro (fun _ => ?_) (fun _ => ?_) <;> first | contradiction | (conv => whnf))
    | fail
  all_goals refine ⟨rfl, by decide, _, pair_pieces  hc hI, ?_⟩
  all_goals rintro z M1 ⟨-, v, rfl, hV⟩ hr
  all_goals obtain ⟨x, hx⟩ := hr.1 rfl
  all_goals cases hx
  all_goals conv => whnf
  all_goals repeat' first
    | (refine ⟨rfl, hb _ (by decide) (by decide), ?_⟩; conv => whnf)
    | (refine And.intro (fun _ => ?_) (fun _ => ?_) <;> first | contradiction | (conv => whnf))
    | fail
  all_goals refine ⟨rfl, Nat.le_of_ble_eq_true rfl, _, hV, ?_⟩
  all_goals rintro z2 M2 ⟨-, rfl, hJ⟩ -
  all_goals conv => whnf
  all_goals refine ⟨fun _ => ?_, fun h => absurd rfl h⟩
  all_goals conv => whnf
  all_goals exact hk _ hJ
def lt42 : List (Nat × LEnt) := [(1752, (Instr.aload_n 1, 1753, 1, 0, 0, 0)), (1753, (Instr.aload_n 0, 1754, 0, 0, 0, 0)), (1754, (Instr.iload_n 3, 1755, 3, 0, 0, 0)), (1755, (Instr.iconst 1, 1756, 0, 0, 1, 0)), (1756, (Instr.iadd, 1757, 0, 0, 0, 0)), (1757, (Instr.iaload, 1758, 0, 0, 0, 0)), (1758, (Instr.invokevirtual 192, 1761, 153, 2, 0, 1290)), (1761, (Instr.aload_n 2, 1762, 2, 0, 0, 0)), (1762, (Instr.aload_n 0, 1763, 0, 0, 0, 0)), (1763, (Instr.iload_n 3, 1764, 3, 0, 0, 0)), (1764, (Instr.iconst 1, 1765, 0, 0, 1, 0)), (1765, (Instr.iadd, 1766, 0, 0, 0, 0)), (1766, (Instr.iaload, 1767, 0, 0, 0, 0)), (1767, (Instr.invokevirtual 195, 1770, 258, 2, 13, 2026)), (1770, (Instr.if_icmp .eq 77, 1773, 1847, 0, 0, 0))]
theorem ltk42 : lt42.all (fun q => chkLw q.1 q.2) = true := by decide +kernel
theorem lc42 {l : Launch} {ω : WP} {xs : Nat → Int32} {L : Nat} {j c : Int} {M : Mem} {ko : Mem → Prop} (hb : ∀ v : Int, 0 ≤ v → v ≤ 6 → 0 ≤ w32 (j + v) ∧ w32 (j + v) < (L : Int)) (hc : c < 512) (hI : Inv c M) (hk : ∀ M', Inv (c + 1) M' → ko M') : lwR l ω xs L j lt42 ko 18 1752 [] M := by
  conv => whnf
  repeat' first
    | (refine ⟨rfl, hb _ (by decide) (by decide), ?_⟩; conv => whnf)
    | (refine And.intro (fun _ => ?_) (fun _ => ?_) <;> first | contradiction | (conv => whnf))
    | fail
  all_goals refine ⟨rfl, by decide, _, pair_give (by first | exact xsI_in | (unfold in32; decide)) hc hI, ?_⟩
  all_goals rintro z M1 ⟨-, v, rfl, hV⟩ hr
  all_goals obtain ⟨x, hx⟩ := hr.1 rfl
  all_goals cases hx
  all_goals conv => whnf
  all_goals repeat' first
    | (refine ⟨rfl, hb _ (by decide) (by decide), ?_⟩; conv => whnf)
    | (refine And.intro (fun _ => ?_) (fun _ => ?_) <;> first | contradiction | (conv => whnf))
    | fail
  all_goals refine ⟨rfl, Nat.le_of_ble_eq_true rfl, _, hV, ?_⟩
  all_goals rintro z2 M2 ⟨-, rfl, hJ⟩ -
  all_goals conv => whnf
  all_goals refine ⟨fun _ => ?_, fun h => absurd rfl h⟩
  all_goals conv => whnf
  all_goals exact hk _ hJ
def lt43 : List (Nat × LEnt) := [(1775, (Instr.aload_n 1, 1776, 1, 0, 0, 0)), (1776, (Instr.aload_n 0, 1777, 0, 0, 0, 0)), (1777, (Instr.iload_n 3, 1778, 3, 0, 0, 0)), (1778, (Instr.iconst 1, 1779, 0, 0, 1, 0)), (1779, (Instr.iadd, 1780, 0, 0, 0, 0)), (1780, (Instr.iaload, 1781, 0, 0, 0, 0)), (1781, (Instr.invokevirtual 196, 1784, 154, 2, 0, 1296)), (1784, (Instr.aload_n 2, 1785, 2, 0, 0, 0)), (1785, (Instr.aload_n 0, 1786, 0, 0, 0, 0)), (1786, (Instr.iload_n 3, 1787, 3, 0, 0, 0)), (1787, (Instr.iconst 1, 1788, 0, 0, 1, 0)), (1788, (Instr.iadd, 1789, 0, 0, 0, 0)), (1789, (Instr.iaload, 1790, 0, 0, 0, 0)), (1790, (Instr.invokevirtual 199, 1793, 259, 2, 13, 2032)), (1793, (Instr.if_icmp .eq 54, 1796, 1847, 0, 0, 0))]
theorem ltk43 : lt43.all (fun q => chkLw q.1 q.2) = true := by decide +kernel
theorem lc43 {l : Launch} {ω : WP} {xs : Nat → Int32} {L : Nat} {j c : Int} {M : Mem} {ko : Mem → Prop} (hb : ∀ v : Int, 0 ≤ v → v ≤ 6 → 0 ≤ w32 (j + v) ∧ w32 (j + v) < (L : Int)) (hc : c < 512) (hI : Inv c M) (hk : ∀ M', Inv (c + 1) M' → ko M') : lwR l ω xs L j lt43 ko 18 1775 [] M := by
  conv => whnf
  repeat' first
    | (refine ⟨rfl, hb _ (by decide) (by decide), ?_⟩; conv => whnf)
    | (refine And.intro (fun _ => ?_) (fun _ => ?_) <;> first | contradiction | (conv => whnf))
    | fail
  all_goals refine ⟨rfl, by decide, _, pair_share (by first | exact xsI_in | (unfold in32; decide)) hc hI, ?_⟩
  all_goals rintro z M1 ⟨-, v, rfl, hV⟩ hr
  all_goals obtain ⟨x, hx⟩ := hr.1 rfl
  all_goals cases hx
  all_goals conv => whnf
  all_goals repeat' first
    | (refine ⟨rfl, hb _ (by decide) (by decide), ?_⟩; conv => whnf)
    | (refine And.intro (fun _ => ?_) (fun _ => ?_) <;> first | contradiction | (conv => whnf))
    | fail
  all_goals refine ⟨rfl, Nat.le_of_ble_eq_true rfl, _, hV, ?_⟩
  all_goals rintro z2 M2 ⟨-, rfl, hJ⟩ -
  all_goals conv => whnf
  all_goals refine ⟨fun _ => ?_, fun h => absurd rfl h⟩
  all_goals conv => whnf
  all_goals exact hk _ hJ
def lt44 : List (Nat × LEnt) := [(1798, (Instr.aload_n 1, 1799, 1, 0, 0, 0)), (1799, (Instr.invokevirtual 200, 1802, 155, 1, 0, 1305)), (1802, (Instr.aload_n 2, 1803, 2, 0, 0, 0)), (1803, (Instr.invokevirtual 203, 1806, 260, 1, 13, 2036)), (1806, (Instr.if_icmp .eq 41, 1809, 1847, 0, 0, 0))]
theorem ltk44 : lt44.all (fun q => chkLw q.1 q.2) = true := by decide +kernel
theorem lc44 {l : Launch} {ω : WP} {xs : Nat → Int32} {L : Nat} {j c : Int} {M : Mem} {ko : Mem → Prop} (hb : ∀ v : Int, 0 ≤ v → v ≤ 6 → 0 ≤ w32 (j + v) ∧ w32 (j + v) < (L : Int)) (hc : c < 512) (hI : Inv c M) (hk : ∀ M', Inv (c + 1) M' → ko M') : lwR l ω xs L j lt44 ko 8 1798 [] M := by
  conv => whnf
  repeat' first
    | (refine ⟨rfl, hb _ (by decide) (by decide), ?_⟩; conv => whnf)
    | (refine And.intro (fun _ => ?_) (fun _ => ?_) <;> first | contradiction | (conv => whnf))
    | fail
  all_goals refine ⟨rfl, by decide, _, pair_image  hc hI, ?_⟩
  all_goals rintro z M1 ⟨-, v, rfl, hV⟩ hr
  all_goals obtain ⟨x, hx⟩ := hr.1 rfl
  all_goals cases hx
  all_goals conv => whnf
  all_goals repeat' first
    | (refine ⟨rfl, hb _ (by decide) (by decide), ?_⟩; conv => whnf)
    | (refine And.intro (fun _ => ?_) (fun _ => ?_) <;> first | contradiction | (conv => whnf))
    | fail
  all_goals refine ⟨rfl, Nat.le_of_ble_eq_true rfl, _, hV, ?_⟩
  all_goals rintro z2 M2 ⟨-, rfl, hJ⟩ -
  all_goals conv => whnf
  all_goals refine ⟨fun _ => ?_, fun h => absurd rfl h⟩
  all_goals conv => whnf
  all_goals exact hk _ hJ
def lt45 : List (Nat × LEnt) := [(1811, (Instr.aload_n 1, 1812, 1, 0, 0, 0)), (1812, (Instr.invokevirtual 204, 1815, 156, 1, 0, 1318)), (1815, (Instr.aload_n 2, 1816, 2, 0, 0, 0)), (1816, (Instr.invokevirtual 207, 1819, 261, 1, 13, 2040)), (1819, (Instr.if_icmp .eq 28, 1822, 1847, 0, 0, 0))]
theorem ltk45 : lt45.all (fun q => chkLw q.1 q.2) = true := by decide +kernel
theorem lc45 {l : Launch} {ω : WP} {xs : Nat → Int32} {L : Nat} {j c : Int} {M : Mem} {ko : Mem → Prop} (hb : ∀ v : Int, 0 ≤ v → v ≤ 6 → 0 ≤ w32 (j + v) ∧ w32 (j + v) < (L : Int)) (hc : c < 512) (hI : Inv c M) (hk : ∀ M', Inv (c + 1) M' → ko M') : lwR l ω xs L j lt45 ko 8 1811 [] M := by
  conv => whnf
  repeat' first
    | (refine ⟨rfl, hb _ (by decide) (by decide), ?_⟩; conv => whnf)
    | (refine And.intro (fun _ => ?_) (fun _ => ?_) <;> first | contradiction | (conv => whnf))
    | fail
  all_goals refine ⟨rfl, by decide, _, pair_back  hc hI, ?_⟩
  all_goals rintro z M1 ⟨-, v, rfl, hV⟩ hr
  all_goals obtain ⟨x, hx⟩ := hr.1 rfl
  all_goals cases hx
  all_goals conv => whnf
  all_goals repeat' first
    | (refine ⟨rfl, hb _ (by decide) (by decide), ?_⟩; conv => whnf)
    | (refine And.intro (fun _ => ?_) (fun _ => ?_) <;> first | contradiction | (conv => whnf))
    | fail
  all_goals refine ⟨rfl, Nat.le_of_ble_eq_true rfl, _, hV, ?_⟩
  all_goals rintro z2 M2 ⟨-, rfl, hJ⟩ -
  all_goals conv => whnf
  all_goals refine ⟨fun _ => ?_, fun h => absurd rfl h⟩
  all_goals conv => whnf
  all_goals exact hk _ hJ
def lt46 : List (Nat × LEnt) := [(1824, (Instr.aload_n 1, 1825, 1, 0, 0, 0)), (1825, (Instr.aload_n 0, 1826, 0, 0, 0, 0)), (1826, (Instr.iload_n 3, 1827, 3, 0, 0, 0)), (1827, (Instr.iconst 1, 1828, 0, 0, 1, 0)), (1828, (Instr.iadd, 1829, 0, 0, 0, 0)), (1829, (Instr.iaload, 1830, 0, 0, 0, 0)), (1830, (Instr.invokevirtual 208, 1833, 157, 2, 0, 1326)), (1833, (Instr.aload_n 2, 1834, 2, 0, 0, 0)), (1834, (Instr.aload_n 0, 1835, 0, 0, 0, 0)), (1835, (Instr.iload_n 3, 1836, 3, 0, 0, 0)), (1836, (Instr.iconst 1, 1837, 0, 0, 1, 0)), (1837, (Instr.iadd, 1838, 0, 0, 0, 0)), (1838, (Instr.iaload, 1839, 0, 0, 0, 0)), (1839, (Instr.invokevirtual 211, 1842, 262, 2, 13, 2044)), (1842, (Instr.if_icmp .eq 5, 1845, 1847, 0, 0, 0))]
theorem ltk46 : lt46.all (fun q => chkLw q.1 q.2) = true := by decide +kernel
theorem lc46 {l : Launch} {ω : WP} {xs : Nat → Int32} {L : Nat} {j c : Int} {M : Mem} {ko : Mem → Prop} (hb : ∀ v : Int, 0 ≤ v → v ≤ 6 → 0 ≤ w32 (j + v) ∧ w32 (j + v) < (L : Int)) (hc : c < 512) (hI : Inv c M) (hk : ∀ M', Inv (c + 1) M' → ko M') : lwR l ω xs L j lt46 ko 18 1824 [] M := by
  conv => whnf
  repeat' first
    | (refine ⟨rfl, hb _ (by decide) (by decide), ?_⟩; conv => whnf)
    | (refine And.intro (fun _ => ?_) (fun _ => ?_) <;> first | contradiction | (conv => whnf))
    | fail
  all_goals refine ⟨rfl, by decide, _, pair_count (by first | exact xsI_in | (unfold in32; decide)) hc hI, ?_⟩
  all_goals rintro z M1 ⟨-, v, rfl, hV⟩ hr
  all_goals obtain ⟨x, hx⟩ := hr.1 rfl
  all_goals cases hx
  all_goals conv => whnf
  all_goals repeat' first
    | (refine ⟨rfl, hb _ (by decide) (by decide), ?_⟩; conv => whnf)
    | (refine And.intro (fun _ => ?_) (fun _ => ?_) <;> first | contradiction | (conv => whnf))
    | fail
  all_goals refine ⟨rfl, Nat.le_of_ble_eq_true rfl, _, hV, ?_⟩
  all_goals rintro z2 M2 ⟨-, rfl, hJ⟩ -
  all_goals conv => whnf
  all_goals refine ⟨fun _ => ?_, fun h => absurd rfl h⟩
  all_goals conv => whnf
  all_goals exact hk _ hJ
