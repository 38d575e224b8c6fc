/-! ===== text: the class's search among its names (wip/gen/tx2.body) ===== -/
def isB (T : Int → Int) : Nat → Int → Int → Bool
  | 0, _, _ => true
  | n + 1, s, f => decide (strB 1010 f = T s) && isB T n (s + 1) (f + 1)
def chkW : List Int → Int → Bool
  | [], _ => true
  | c :: l, f => decide (strB 1010 f = c) && chkW l (f + 1)
theorem isB_W {T : Int → Int} : ∀ (w : List Int) (s f : Int), chkW w f = true → isB T w.length s f = isW T s w
  | [], _, _, _ => rfl
  | c :: l, s, f, h => by
    simp only [chkW, Bool.and_eq_true, decide_eq_true_eq] at h
    rw [List.length_cons, isB, isW, isB_W l (s + 1) (f + 1) h.2, h.1]
    have e : decide (c = T s) = decide (T s = c) := by
      by_cases q : c = T s
      · rw [decide_eq_true q, decide_eq_true q.symm]
      · rw [decide_eq_false q, decide_eq_false (fun z => q z.symm)]
    rw [e]
abbrev RS := Int × Int × Int
def rdS (T : Int → Int) (s e i : Int) (st : RS) : RS := if strB 1010 i = 32 then (st.1 + 1, i + 1, if i - st.2.1 = e - s ∧ isB T (i - st.2.1).toNat s st.2.1 = true then st.1 else st.2.2) else st
def rdW (T : Int → Int) (s e : Int) : Nat → Int → RS → RS
  | 0, _, st => st
  | n + 1, i, st => rdW T s e n (i + 1) (rdS T s e i st)
theorem rdW_skip {T : Int → Int} {s e : Int} {st : RS} : ∀ (w : List Int) (m : Nat) (i : Int), chkW w i = true → (∀ c ∈ w, ¬ c = 32) → rdW T s e (w.length + m) i st = rdW T s e m (i + (w.length : Int)) st
  | [], m, i, _, _ => by
    show rdW T s e (0 + m) i st = rdW T s e m (i + 0) st
    rw [Nat.zero_add, Int.add_zero]
  | c :: l, m, i, h, hc => by
    simp only [chkW, Bool.and_eq_true, decide_eq_true_eq] at h
    have e1 : (c :: l).length + m = (l.length + m) + 1 := by simp; omega
    rw [e1, rdW, rdS, if_neg (by rw [h.1]; exact hc c (List.mem_cons_self ..)), rdW_skip l m (i + 1) h.2 (fun x hx => hc x (List.mem_cons_of_mem _ hx))]
    have e2 : ((c :: l).length : Int) = (l.length : Int) + 1 := by simp
    rw [e2]
    congr 1
    omega
theorem rdW_word {T : Int → Int} {s e k tok f : Int} (w : List Int) (m : Nat) (h : chkW (w ++ [32]) f = true) (hc : ∀ c ∈ w, ¬ c = 32) : rdW T s e (w.length + 1 + m) f (k, f, tok) = rdW T s e m (f + (w.length : Int) + 1) (k + 1, f + (w.length : Int) + 1, if e - s = (w.length : Int) ∧ isW T s w = true then k else tok) := by
  have key : ∀ (w : List Int) (f : Int), chkW (w ++ [32]) f = true → chkW w f = true ∧ strB 1010 (f + (w.length : Int)) = 32 := by
    intro w
    induction w with
    | nil =>
      intro f h
      simp only [List.nil_append, chkW, Bool.and_true, decide_eq_true_eq] at h
      refine ⟨rfl, ?_⟩
      show strB 1010 (f + 0) = 32
      rw [Int.add_zero]
      exact h
    | cons c l ih =>
      intro f h
      simp only [List.cons_append, chkW, Bool.and_eq_true, decide_eq_true_eq] at h
      have q := ih (f + 1) h.2
      refine ⟨by simp only [chkW, Bool.and_eq_true, decide_eq_true_eq]; exact ⟨h.1, q.1⟩, ?_⟩
      have e2 : ((c :: l).length : Int) = (l.length : Int) + 1 := by simp
      rw [e2, ← q.2]
      congr 1
      omega
  have q := key w f h
  have e1 : w.length + 1 + m = w.length + (1 + m) := by omega
  rw [e1, rdW_skip w (1 + m) f q.1 hc, Nat.add_comm 1 m, rdW, rdS, if_pos q.2]
  have e2 : f + (w.length : Int) - f = (w.length : Int) := by omega
  show rdW T s e m (f + (w.length : Int) + 1) (k + 1, f + (w.length : Int) + 1, if f + (w.length : Int) - f = e - s ∧ isB T (f + (w.length : Int) - f).toNat s f = true then k else tok) = _
  rw [e2, Int.toNat_natCast, isB_W w s f q.1]
  have e3 : ((w.length : Int) = e - s ∧ isW T s w = true) = (e - s = (w.length : Int) ∧ isW T s w = true) := by
    refine propext ⟨fun z => ⟨z.1.symm, z.2⟩, fun z => ⟨z.1.symm, z.2⟩⟩
  simp only [e3]
def flatL : List (Int × List Int) → List Int
  | [] => []
  | w :: r => w.2 ++ 32 :: flatL r
def numL : Int → List (Int × List Int) → Bool
  | _, [] => true
  | k, w :: r => decide (w.1 = k) && numL (k + 1) r
theorem rdW_all {T : Int → Int} {s e : Int} : ∀ (L : List (Int × List Int)) (k tok f : Int), numL k L = true → chkW (flatL L) f = true → (∀ w ∈ L, ∀ c ∈ w.2, ¬ c = 32) → (rdW T s e (flatL L).length f (k, f, tok)).2.2 = nmG T s e tok L
  | [], k, tok, f, _, _, _ => rfl
  | w :: r, k, tok, f, hn, h, hc => by
    simp only [numL, Bool.and_eq_true, decide_eq_true_eq] at hn
    have key : ∀ (v u : List Int) (f : Int), chkW (v ++ u) f = true → chkW v f = true ∧ chkW u (f + (v.length : Int)) = true := by
      intro v
      induction v with
      | nil =>
        intro u f h
        refine ⟨rfl, ?_⟩
        show chkW u (f + 0) = true
        rw [Int.add_zero]
        exact h
      | cons c l ih =>
        intro u f h
        simp only [List.cons_append, chkW, Bool.and_eq_true, decide_eq_true_eq] at h
        have q := ih u (f + 1) h.2
        refine ⟨by simp only [chkW, Bool.and_eq_true, decide_eq_true_eq]; exact ⟨h.1, q.1⟩, ?_⟩
        have e2 : ((c :: l).length : Int) = (l.length : Int) + 1 := by simp
        rw [e2, ← q.2]
        congr 1
        omega
    have e0 : flatL (w :: r) = (w.2 ++ [32]) ++ flatL r := by simp [flatL]
    rw [e0] at h
    have q := key _ _ _ h
    have e1 : (flatL (w :: r)).length = w.2.length + 1 + (flatL r).length := by rw [e0]; simp; omega
    have e2 : (((w.2 ++ [32]).length : Nat) : Int) = (w.2.length : Int) + 1 := by simp
    have q2 := q.2
    rw [e2, ← Int.add_assoc] at q2
    rw [e1, rdW_word w.2 _ q.1 (hc w (List.mem_cons_self ..)), nmG, rdW_all r (k + 1) _ _ hn.2 q2 (fun x hx => hc x (List.mem_cons_of_mem _ hx)), hn.1]
theorem rdW_80 {T : Int → Int} {s e : Int} : (rdW T s e 80 0 (0, 0, 27)).2.2 = nmF T s e wdL := by
  have h := rdW_all (T := T) (s := s) (e := e) wdL 0 27 0 (by decide) (by decide +kernel) (by decide)
  have l : (flatL wdL).length = 80 := by decide
  rw [l] at h
  rw [h]
  exact nmG_eq wdL_pw
theorem stp1_n {t n m : Int} {s : CS} (h : ¬ t = 25) : stp1 t n s = stp1 t m s := by
  unfold stp1
  rw [if_neg h, if_neg h]
theorem i2c_e {x : Int} (h : 0 ≤ x ∧ x ≤ 255) : ((Int32.ofInt x).toUInt32 % 65536).toInt32.toInt = x := by
  obtain ⟨n, rfl⟩ := Int.eq_ofNat_of_zero_le h.1
  have hn : n < 256 := by omega
  have key : ∀ k, k < 256 → ((Int32.ofInt (k : Nat)).toUInt32 % 65536).toInt32.toInt = ((k : Nat) : Int) := by decide +kernel
  exact key n hn
theorem tk_end {T : Int → Int} {u p : Int} (h : u ≤ tkS T u p) : tkT T u p = 26 ∧ tkX T u p = tkS T u p := by
  unfold tkT tkX
  rw [if_pos h, if_pos h]
  exact ⟨rfl, rfl⟩
theorem tk_al {T : Int → Int} {u p : Int} (h : tkS T u p < u) (c : 97 ≤ T (tkS T u p) ∧ T (tkS T u p) ≤ 122) : tkT T u p = nmF T (tkS T u p) (rn 97 122 T u (tkS T u p)) wdL ∧ tkX T u p = rn 97 122 T u (tkS T u p) := by
  unfold tkT tkX
  rw [if_neg (by omega), if_pos c, if_neg (by omega), if_pos c]
  exact ⟨rfl, rfl⟩
theorem tk_di {T : Int → Int} {u p : Int} (h : tkS T u p < u) (c : 48 ≤ T (tkS T u p) ∧ T (tkS T u p) ≤ 57) : tkT T u p = (if 4 < rn 48 57 T u (tkS T u p) - tkS T u p then 27 else 25) ∧ tkX T u p = rn 48 57 T u (tkS T u p) := by
  refine ⟨?_, ?_⟩
  · unfold tkT
    rw [if_neg (by omega), if_neg (by omega), if_pos c]
  · unfold tkX
    rw [if_neg (by omega), if_neg (by omega), if_pos c]
theorem tk_sg {T : Int → Int} {u p : Int} (h : tkS T u p < u) (c : ¬ (97 ≤ T (tkS T u p) ∧ T (tkS T u p) ≤ 122)) (d : ¬ (48 ≤ T (tkS T u p) ∧ T (tkS T u p) ≤ 57)) : tkT T u p = sgC (T (tkS T u p)) ∧ tkX T u p = tkS T u p + 1 := by
  unfold tkT tkX
  rw [if_neg (by omega), if_neg c, if_neg d, if_neg (by omega), if_neg c, if_neg d]
  exact ⟨rfl, rfl⟩
theorem sgC_25 {c : Int} : ¬ sgC c = 25 := by
  unfold sgC
  repeat' split
  all_goals omega
theorem nmF_25 {T : Int → Int} {s e : Int} : ¬ nmF T s e wdL = 25 := by
  have := nmF_in (T := T) (s := s) (e := e) (L := wdL) (by decide)
  omega
theorem sgC_in {c : Int} : 0 ≤ sgC c ∧ sgC c ≤ 27 := by
  unfold sgC
  repeat' split
  all_goals omega
