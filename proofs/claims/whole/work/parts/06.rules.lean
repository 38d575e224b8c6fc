/-! ===== rules: an instruction each (by wip/gen/rules.py) ===== -/
section RULES
variable {l : Launch} {ω : WP} {d y pc pc' : Nat} {ls st st' r : List AV} {M : Mem} {Q : Post}
theorem s_iconst {n v : Int} (hd : decode (byt y) pc = .ok (.iconst n, 1)) (hv : Int32.ofInt n = Int32.ofInt v) (hi : in32 v) (h : Vx l ω d y (pc + 1) ls (vI v :: st) M Q) : Vx l ω d y pc ls (st) M Q := by
  refine Vx.ch (fun hls hst => ?_) (fun hx hb hls hst hl C k => ?_) h
  · exact okL_cons.mpr ⟨hi, hst⟩
  · exact lv_iconst hx hb hd hv k
theorem s_bipush {n v : Int} (hd : decode (byt y) pc = .ok (.bipush n, 2)) (hv : (Int8.ofInt n).toInt32 = Int32.ofInt v) (hi : in32 v) (h : Vx l ω d y (pc + 2) ls (vI v :: st) M Q) : Vx l ω d y pc ls (st) M Q := by
  refine Vx.ch (fun hls hst => ?_) (fun hx hb hls hst hl C k => ?_) h
  · exact okL_cons.mpr ⟨hi, hst⟩
  · exact lv_bipush hx hb hd hv k
theorem s_sipush {n v : Int} (hd : decode (byt y) pc = .ok (.sipush n, 3)) (hv : (Int16.ofInt n).toInt32 = Int32.ofInt v) (hi : in32 v) (h : Vx l ω d y (pc + 3) ls (vI v :: st) M Q) : Vx l ω d y pc ls (st) M Q := by
  refine Vx.ch (fun hls hst => ?_) (fun hx hb hls hst hl C k => ?_) h
  · exact okL_cons.mpr ⟨hi, hst⟩
  · exact lv_sipush hx hb hd hv k
theorem s_lconst {n : Fin 2} {v : Int} (hd : decode (byt y) pc = .ok (.lconst n, 1)) (hv : Int64.ofNat (n : Nat) = Int64.ofInt v) (hi : in64 v) (h : Vx l ω d y (pc + 1) ls (vL v :: st) M Q) : Vx l ω d y pc ls (st) M Q := by
  refine Vx.ch (fun hls hst => ?_) (fun hx hb hls hst hl C k => ?_) h
  · exact okL_cons.mpr ⟨hi, hst⟩
  · exact lv_lconst hx hb hd hv k
theorem s_ldc {i : Nat} {v : Int} (hd : decode (byt y) pc = .ok (.ldc i, 2)) (hw : Jvm.Cond.constant (owt y) i (Int32.ofInt v) ∈ wsA) (hi : in32 v) (h : Vx l ω d y (pc + 2) ls (vI v :: st) M Q) : Vx l ω d y pc ls (st) M Q := by
  refine Vx.ch (fun hls hst => ?_) (fun hx hb hls hst hl C k => ?_) h
  · exact okL_cons.mpr ⟨hi, hst⟩
  · exact lv_ldc hx hb C.2.2.2.2.2.1 (C.2.2.2.2.2.2.1 _ hw) hd k
theorem s_ldc_w {i : Nat} {v : Int} (hd : decode (byt y) pc = .ok (.ldc_w i, 3)) (hw : Jvm.Cond.constant (owt y) i (Int32.ofInt v) ∈ wsA) (hi : in32 v) (h : Vx l ω d y (pc + 3) ls (vI v :: st) M Q) : Vx l ω d y pc ls (st) M Q := by
  refine Vx.ch (fun hls hst => ?_) (fun hx hb hls hst hl C k => ?_) h
  · exact okL_cons.mpr ⟨hi, hst⟩
  · exact lv_ldcw hx hb C.2.2.2.2.2.1 (C.2.2.2.2.2.2.1 _ hw) hd k
theorem s_ldc2_w {i : Nat} {v : Int} (hd : decode (byt y) pc = .ok (.ldc2_w i, 3)) (hw : Jvm.Cond.constantLong (owt y) i (Int64.ofInt v) ∈ wsA) (hi : in64 v) (h : Vx l ω d y (pc + 3) ls (vL v :: st) M Q) : Vx l ω d y pc ls (st) M Q := by
  refine Vx.ch (fun hls hst => ?_) (fun hx hb hls hst hl C k => ?_) h
  · exact okL_cons.mpr ⟨hi, hst⟩
  · exact lv_ldc2 hx hb C.2.2.2.2.2.1 (C.2.2.2.2.2.2.1 _ hw) hd k
theorem s_iload {i : Nat} {x : Int} (hd : decode (byt y) pc = .ok (.iload i, 2)) (hg : ls[i]? = some (vI x)) (h : Vx l ω d y (pc + 2) ls (vI x :: st) M Q) : Vx l ω d y pc ls (st) M Q := by
  refine Vx.ch (fun hls hst => ?_) (fun hx hb hls hst hl C k => ?_) h
  · exact okL_cons.mpr ⟨okL_get hls hg, hst⟩
  · exact lv_iload hx hb hd (hl.2.2.2 _ _ hg trivial) k
theorem s_iload_n {n : Fin 4} {i : Nat} {x : Int} (hd : decode (byt y) pc = .ok (.iload_n n, 1)) (hn : (n : Nat) = i) (hg : ls[i]? = some (vI x)) (h : Vx l ω d y (pc + 1) ls (vI x :: st) M Q) : Vx l ω d y pc ls (st) M Q := by
  refine Vx.ch (fun hls hst => ?_) (fun hx hb hls hst hl C k => ?_) h
  · exact okL_cons.mpr ⟨okL_get hls hg, hst⟩
  · exact lv_iload_n hx hb hd hn (hl.2.2.2 _ _ hg trivial) k
theorem s_lload {i : Nat} {x : Int} (hd : decode (byt y) pc = .ok (.lload i, 2)) (hg : ls[i]? = some (vL x)) (h : Vx l ω d y (pc + 2) ls (vL x :: st) M Q) : Vx l ω d y pc ls (st) M Q := by
  refine Vx.ch (fun hls hst => ?_) (fun hx hb hls hst hl C k => ?_) h
  · exact okL_cons.mpr ⟨okL_get hls hg, hst⟩
  · exact lv_lload hx hb hd (hl.2.2.2 _ _ hg trivial) k
theorem s_lload_n {n : Fin 4} {i : Nat} {x : Int} (hd : decode (byt y) pc = .ok (.lload_n n, 1)) (hn : (n : Nat) = i) (hg : ls[i]? = some (vL x)) (h : Vx l ω d y (pc + 1) ls (vL x :: st) M Q) : Vx l ω d y pc ls (st) M Q := by
  refine Vx.ch (fun hls hst => ?_) (fun hx hb hls hst hl C k => ?_) h
  · exact okL_cons.mpr ⟨okL_get hls hg, hst⟩
  · exact lv_lload_n hx hb hd hn (hl.2.2.2 _ _ hg trivial) k
theorem s_aload {i : Nat} {q : Nat} {j : Int} (hd : decode (byt y) pc = .ok (.aload i, 2)) (hg : ls[i]? = some (vR q j)) (h : Vx l ω d y (pc + 2) ls (vR q j :: st) M Q) : Vx l ω d y pc ls (st) M Q := by
  refine Vx.ch (fun hls hst => ?_) (fun hx hb hls hst hl C k => ?_) h
  · exact okL_cons.mpr ⟨okL_get hls hg, hst⟩
  · exact lv_aload hx hb hd (hl.2.2.2 _ _ hg trivial) k
theorem s_aload_n {n : Fin 4} {i : Nat} {q : Nat} {j : Int} (hd : decode (byt y) pc = .ok (.aload_n n, 1)) (hn : (n : Nat) = i) (hg : ls[i]? = some (vR q j)) (h : Vx l ω d y (pc + 1) ls (vR q j :: st) M Q) : Vx l ω d y pc ls (st) M Q := by
  refine Vx.ch (fun hls hst => ?_) (fun hx hb hls hst hl C k => ?_) h
  · exact okL_cons.mpr ⟨okL_get hls hg, hst⟩
  · exact lv_aload_n hx hb hd hn (hl.2.2.2 _ _ hg trivial) k
theorem s_iadd {x z : Int} (hd : decode (byt y) pc = .ok (.iadd, 1))  (h : Vx l ω d y (pc + 1) ls (vI (w32 (x + z)) :: r) M Q) : Vx l ω d y pc ls (vI z :: vI x :: r) M Q := by
  refine Vx.ch (fun hls hst => ?_) (fun hx hb hls hst hl C k => ?_) h
  · exact okL_cons.mpr ⟨w32_in _, (okL_cons.mp (okL_cons.mp hst).2).2⟩
  · exact lv_iadd hx hb hd (by rw [← Int32.ofInt_add, ← w32_of]; exact k)
theorem s_isub {x z : Int} (hd : decode (byt y) pc = .ok (.isub, 1))  (h : Vx l ω d y (pc + 1) ls (vI (w32 (x - z)) :: r) M Q) : Vx l ω d y pc ls (vI z :: vI x :: r) M Q := by
  refine Vx.ch (fun hls hst => ?_) (fun hx hb hls hst hl C k => ?_) h
  · exact okL_cons.mpr ⟨w32_in _, (okL_cons.mp (okL_cons.mp hst).2).2⟩
  · exact lv_isub hx hb hd (by rw [← Int32.ofInt_sub, ← w32_of]; exact k)
theorem s_imul {x z : Int} (hd : decode (byt y) pc = .ok (.imul, 1))  (h : Vx l ω d y (pc + 1) ls (vI (w32 (x * z)) :: r) M Q) : Vx l ω d y pc ls (vI z :: vI x :: r) M Q := by
  refine Vx.ch (fun hls hst => ?_) (fun hx hb hls hst hl C k => ?_) h
  · exact okL_cons.mpr ⟨w32_in _, (okL_cons.mp (okL_cons.mp hst).2).2⟩
  · exact lv_imul hx hb hd (by rw [← Int32.ofInt_mul, ← w32_of]; exact k)
theorem s_ladd {x z : Int} (hd : decode (byt y) pc = .ok (.ladd, 1))  (h : Vx l ω d y (pc + 1) ls (vL (w64 (x + z)) :: r) M Q) : Vx l ω d y pc ls (vL z :: vL x :: r) M Q := by
  refine Vx.ch (fun hls hst => ?_) (fun hx hb hls hst hl C k => ?_) h
  · exact okL_cons.mpr ⟨w64_in _, (okL_cons.mp (okL_cons.mp hst).2).2⟩
  · exact lv_ladd hx hb hd (by rw [← Int64.ofInt_add, ← w64_of]; exact k)
theorem s_lsub {x z : Int} (hd : decode (byt y) pc = .ok (.lsub, 1))  (h : Vx l ω d y (pc + 1) ls (vL (w64 (x - z)) :: r) M Q) : Vx l ω d y pc ls (vL z :: vL x :: r) M Q := by
  refine Vx.ch (fun hls hst => ?_) (fun hx hb hls hst hl C k => ?_) h
  · exact okL_cons.mpr ⟨w64_in _, (okL_cons.mp (okL_cons.mp hst).2).2⟩
  · exact lv_lsub hx hb hd (by rw [← Int64.ofInt_sub, ← w64_of]; exact k)
theorem s_lmul {x z : Int} (hd : decode (byt y) pc = .ok (.lmul, 1))  (h : Vx l ω d y (pc + 1) ls (vL (w64 (x * z)) :: r) M Q) : Vx l ω d y pc ls (vL z :: vL x :: r) M Q := by
  refine Vx.ch (fun hls hst => ?_) (fun hx hb hls hst hl C k => ?_) h
  · exact okL_cons.mpr ⟨w64_in _, (okL_cons.mp (okL_cons.mp hst).2).2⟩
  · exact lv_lmul hx hb hd (by rw [← Int64.ofInt_mul, ← w64_of]; exact k)
theorem s_ineg {x : Int} (hd : decode (byt y) pc = .ok (.ineg, 1))  (h : Vx l ω d y (pc + 1) ls (vI (w32 (-x)) :: r) M Q) : Vx l ω d y pc ls (vI x :: r) M Q := by
  refine Vx.ch (fun hls hst => ?_) (fun hx hb hls hst hl C k => ?_) h
  · exact okL_cons.mpr ⟨w32_in _, (okL_cons.mp hst).2⟩
  · exact lv_ineg hx hb hd (by rw [← Int32.ofInt_neg, ← w32_of]; exact k)
theorem s_lneg {x : Int} (hd : decode (byt y) pc = .ok (.lneg, 1))  (h : Vx l ω d y (pc + 1) ls (vL (w64 (-x)) :: r) M Q) : Vx l ω d y pc ls (vL x :: r) M Q := by
  refine Vx.ch (fun hls hst => ?_) (fun hx hb hls hst hl C k => ?_) h
  · exact okL_cons.mpr ⟨w64_in _, (okL_cons.mp hst).2⟩
  · exact lv_lneg hx hb hd (by rw [← Int64.ofInt_neg, ← w64_of]; exact k)
theorem s_idiv {x z : Int} (hd : decode (byt y) pc = .ok (.idiv, 1)) (hz : ¬ z = 0) (h : Vx l ω d y (pc + 1) ls (vI (w32 (x.tdiv z)) :: r) M Q) : Vx l ω d y pc ls (vI z :: vI x :: r) M Q := by
  refine Vx.ch (fun hls hst => ?_) (fun hx hb hls hst hl C k => ?_) h
  · exact okL_cons.mpr ⟨w32_in _, (okL_cons.mp (okL_cons.mp hst).2).2⟩
  · exact lv_idiv hx hb hd (fun e => hz ((o32_inj (okL_cons.mp hst).1 (by unfold in32; omega)).mp e)) (by rw [← o32_tdiv (okL_cons.mp (okL_cons.mp hst).2).1 (okL_cons.mp hst).1]; exact k)
theorem s_irem {x z : Int} (hd : decode (byt y) pc = .ok (.irem, 1)) (hz : ¬ z = 0) (h : Vx l ω d y (pc + 1) ls (vI (x.tmod z) :: r) M Q) : Vx l ω d y pc ls (vI z :: vI x :: r) M Q := by
  refine Vx.ch (fun hls hst => ?_) (fun hx hb hls hst hl C k => ?_) h
  · exact okL_cons.mpr ⟨tmod_in32 (okL_cons.mp (okL_cons.mp hst).2).1, (okL_cons.mp (okL_cons.mp hst).2).2⟩
  · exact lv_irem hx hb hd (fun e => hz ((o32_inj (okL_cons.mp hst).1 (by unfold in32; omega)).mp e)) (by rw [← o32_tmod (okL_cons.mp (okL_cons.mp hst).2).1 (okL_cons.mp hst).1]; exact k)
theorem s_ldiv {x z : Int} (hd : decode (byt y) pc = .ok (.ldiv, 1)) (hz : ¬ z = 0) (h : Vx l ω d y (pc + 1) ls (vL (w64 (x.tdiv z)) :: r) M Q) : Vx l ω d y pc ls (vL z :: vL x :: r) M Q := by
  refine Vx.ch (fun hls hst => ?_) (fun hx hb hls hst hl C k => ?_) h
  · exact okL_cons.mpr ⟨w64_in _, (okL_cons.mp (okL_cons.mp hst).2).2⟩
  · exact lv_ldiv hx hb hd (fun e => hz ((o64_inj (okL_cons.mp hst).1 (by unfold in64; omega)).mp e)) (by rw [← o64_tdiv (okL_cons.mp (okL_cons.mp hst).2).1 (okL_cons.mp hst).1]; exact k)
theorem s_lrem {x z : Int} (hd : decode (byt y) pc = .ok (.lrem, 1)) (hz : ¬ z = 0) (h : Vx l ω d y (pc + 1) ls (vL (x.tmod z) :: r) M Q) : Vx l ω d y pc ls (vL z :: vL x :: r) M Q := by
  refine Vx.ch (fun hls hst => ?_) (fun hx hb hls hst hl C k => ?_) h
  · exact okL_cons.mpr ⟨tmod_in64 (okL_cons.mp (okL_cons.mp hst).2).1, (okL_cons.mp (okL_cons.mp hst).2).2⟩
  · exact lv_lrem hx hb hd (fun e => hz ((o64_inj (okL_cons.mp hst).1 (by unfold in64; omega)).mp e)) (by rw [← o64_tmod (okL_cons.mp (okL_cons.mp hst).2).1 (okL_cons.mp hst).1]; exact k)
theorem s_iand {x z : Int} (hd : decode (byt y) pc = .ok (.iand, 1))  (h : Vx l ω d y (pc + 1) ls (vI (Int32.ofInt x &&& Int32.ofInt z).toInt :: r) M Q) : Vx l ω d y pc ls (vI z :: vI x :: r) M Q := by
  refine Vx.ch (fun hls hst => ?_) (fun hx hb hls hst hl C k => ?_) h
  · exact okL_cons.mpr ⟨t32_in _, (okL_cons.mp (okL_cons.mp hst).2).2⟩
  · exact lv_iand hx hb hd (by have k := k; simp only [List.map_cons, cvA, Int32.ofInt_toInt] at k; exact k)
theorem s_ior {x z : Int} (hd : decode (byt y) pc = .ok (.ior, 1))  (h : Vx l ω d y (pc + 1) ls (vI (Int32.ofInt x ||| Int32.ofInt z).toInt :: r) M Q) : Vx l ω d y pc ls (vI z :: vI x :: r) M Q := by
  refine Vx.ch (fun hls hst => ?_) (fun hx hb hls hst hl C k => ?_) h
  · exact okL_cons.mpr ⟨t32_in _, (okL_cons.mp (okL_cons.mp hst).2).2⟩
  · exact lv_ior hx hb hd (by have k := k; simp only [List.map_cons, cvA, Int32.ofInt_toInt] at k; exact k)
theorem s_ixor {x z : Int} (hd : decode (byt y) pc = .ok (.ixor, 1))  (h : Vx l ω d y (pc + 1) ls (vI (Int32.ofInt x ^^^ Int32.ofInt z).toInt :: r) M Q) : Vx l ω d y pc ls (vI z :: vI x :: r) M Q := by
  refine Vx.ch (fun hls hst => ?_) (fun hx hb hls hst hl C k => ?_) h
  · exact okL_cons.mpr ⟨t32_in _, (okL_cons.mp (okL_cons.mp hst).2).2⟩
  · exact lv_ixor hx hb hd (by have k := k; simp only [List.map_cons, cvA, Int32.ofInt_toInt] at k; exact k)
theorem s_land {x z : Int} (hd : decode (byt y) pc = .ok (.land, 1))  (h : Vx l ω d y (pc + 1) ls (vL (Int64.ofInt x &&& Int64.ofInt z).toInt :: r) M Q) : Vx l ω d y pc ls (vL z :: vL x :: r) M Q := by
  refine Vx.ch (fun hls hst => ?_) (fun hx hb hls hst hl C k => ?_) h
  · exact okL_cons.mpr ⟨t64_in _, (okL_cons.mp (okL_cons.mp hst).2).2⟩
  · exact lv_land hx hb hd (by have k := k; simp only [List.map_cons, cvA, Int64.ofInt_toInt] at k; exact k)
theorem s_lor {x z : Int} (hd : decode (byt y) pc = .ok (.lor, 1))  (h : Vx l ω d y (pc + 1) ls (vL (Int64.ofInt x ||| Int64.ofInt z).toInt :: r) M Q) : Vx l ω d y pc ls (vL z :: vL x :: r) M Q := by
  refine Vx.ch (fun hls hst => ?_) (fun hx hb hls hst hl C k => ?_) h
  · exact okL_cons.mpr ⟨t64_in _, (okL_cons.mp (okL_cons.mp hst).2).2⟩
  · exact lv_lor hx hb hd (by have k := k; simp only [List.map_cons, cvA, Int64.ofInt_toInt] at k; exact k)
theorem s_ishl {x z : Int} (hd : decode (byt y) pc = .ok (.ishl, 1))  (h : Vx l ω d y (pc + 1) ls (vI (Int32.ofInt x <<< (Int32.ofInt z &&& 31)).toInt :: r) M Q) : Vx l ω d y pc ls (vI z :: vI x :: r) M Q := by
  refine Vx.ch (fun hls hst => ?_) (fun hx hb hls hst hl C k => ?_) h
  · exact okL_cons.mpr ⟨t32_in _, (okL_cons.mp (okL_cons.mp hst).2).2⟩
  · exact lv_ishl hx hb hd (by have k := k; simp only [List.map_cons, cvA, Int32.ofInt_toInt] at k; exact k)
theorem s_ishr {x z : Int} (hd : decode (byt y) pc = .ok (.ishr, 1))  (h : Vx l ω d y (pc + 1) ls (vI (Int32.ofInt x >>> (Int32.ofInt z &&& 31)).toInt :: r) M Q) : Vx l ω d y pc ls (vI z :: vI x :: r) M Q := by
  refine Vx.ch (fun hls hst => ?_) (fun hx hb hls hst hl C k => ?_) h
  · exact okL_cons.mpr ⟨t32_in _, (okL_cons.mp (okL_cons.mp hst).2).2⟩
  · exact lv_ishr hx hb hd (by have k := k; simp only [List.map_cons, cvA, Int32.ofInt_toInt] at k; exact k)
theorem s_iushr {x z : Int} (hd : decode (byt y) pc = .ok (.iushr, 1))  (h : Vx l ω d y (pc + 1) ls (vI ((Int32.ofInt x).toUInt32 >>> ((Int32.ofInt z).toUInt32 &&& Int32.toUInt32 31)).toInt32.toInt :: r) M Q) : Vx l ω d y pc ls (vI z :: vI x :: r) M Q := by
  refine Vx.ch (fun hls hst => ?_) (fun hx hb hls hst hl C k => ?_) h
  · exact okL_cons.mpr ⟨t32_in _, (okL_cons.mp (okL_cons.mp hst).2).2⟩
  · exact lv_iushr hx hb hd (Int32.ofInt_toInt _).symm k
theorem s_lshr {x z : Int} (hd : decode (byt y) pc = .ok (.lshr, 1))  (h : Vx l ω d y (pc + 1) ls (vL (Int64.ofInt x >>> ((Int32.ofInt z).toInt64 &&& 63)).toInt :: r) M Q) : Vx l ω d y pc ls (vI z :: vL x :: r) M Q := by
  refine Vx.ch (fun hls hst => ?_) (fun hx hb hls hst hl C k => ?_) h
  · exact okL_cons.mpr ⟨t64_in _, (okL_cons.mp (okL_cons.mp hst).2).2⟩
  · exact lv_lshr hx hb hd (Int64.ofInt_toInt _).symm k
theorem cmp3_in (a b : Int) : in32 (cmp3 a b) := by unfold cmp3 in32; split <;> (try split) <;> omega
theorem lg_cmp3 {x z : Int} (hx : in64 x) (hz : in64 z) : lg_cmp (Int64.ofInt x) (Int64.ofInt z) = Int32.ofInt (cmp3 x z) := by
  unfold lg_cmp cmp3
  simp only [gt_iff_lt, o64_lt hz hx, o64_inj hx hz]
  by_cases h1 : z < x
  · rw [if_pos h1, if_neg (by omega), if_neg (by omega)]; rfl
  · by_cases h2 : x = z
    · rw [if_neg h1, if_pos h2, if_neg (by omega), if_pos h2]; rfl
    · rw [if_neg h1, if_neg h2, if_pos (by omega)]; rfl
theorem s_lcmp {x z : Int} (hd : decode (byt y) pc = .ok (.lcmp, 1))  (h : Vx l ω d y (pc + 1) ls (vI (cmp3 x z) :: r) M Q) : Vx l ω d y pc ls (vL z :: vL x :: r) M Q := by
  refine Vx.ch (fun hls hst => ?_) (fun hx hb hls hst hl C k => ?_) h
  · exact okL_cons.mpr ⟨cmp3_in _ _, (okL_cons.mp (okL_cons.mp hst).2).2⟩
  · exact W.lcmp hx hb hd (by rw [lg_cmp3 (okL_cons.mp (okL_cons.mp hst).2).1 (okL_cons.mp hst).1]; exact k)
theorem i2l_of {x : Int} (h : in32 x) : (Int32.ofInt x).toInt64 = Int64.ofInt x := by
  apply Int64.toInt_inj.1
  rw [Int32.toInt_toInt64, o32_toInt h, o64_toInt (in64_of h)]
theorem l2i_of {x : Int} (h : in64 x) : (Int64.ofInt x).toInt32 = Int32.ofInt (w32 x) := by
  apply Int32.toInt_inj.1
  rw [Int64.toInt_toInt32, o64_toInt h, o32_toInt (w32_in _), w32_bmod]
theorem i2b_of {x : Int} (h : in32 x) : (Int32.ofInt x).toInt8.toInt32 = Int32.ofInt ((x + 128) % 256 - 128) := by
  apply Int32.toInt_inj.1
  rw [Int8.toInt_toInt32, Int32.toInt_toInt8, o32_toInt h, o32_toInt (by unfold in32; omega)]
  simp only [Int.bmod_def]; omega
theorem i2s_of {x : Int} (h : in32 x) : (Int32.ofInt x).toInt16.toInt32 = Int32.ofInt ((x + 32768) % 65536 - 32768) := by
  apply Int32.toInt_inj.1
  rw [Int16.toInt_toInt32, Int32.toInt_toInt16, o32_toInt h, o32_toInt (by unfold in32; omega)]
  simp only [Int.bmod_def]; omega
theorem s_i2l {x : Int} (hd : decode (byt y) pc = .ok (.i2l, 1))  (h : Vx l ω d y (pc + 1) ls (vL x :: r) M Q) : Vx l ω d y pc ls (vI x :: r) M Q := by
  refine Vx.ch (fun hls hst => ?_) (fun hx hb hls hst hl C k => ?_) h
  · exact okL_cons.mpr ⟨in64_of (okL_cons.mp hst).1, (okL_cons.mp hst).2⟩
  · exact lv_i2l hx hb hd (i2l_of (okL_cons.mp hst).1) k
theorem s_l2i {x : Int} (hd : decode (byt y) pc = .ok (.l2i, 1))  (h : Vx l ω d y (pc + 1) ls (vI (w32 x) :: r) M Q) : Vx l ω d y pc ls (vL x :: r) M Q := by
  refine Vx.ch (fun hls hst => ?_) (fun hx hb hls hst hl C k => ?_) h
  · exact okL_cons.mpr ⟨w32_in _, (okL_cons.mp hst).2⟩
  · exact lv_l2i hx hb hd (l2i_of (okL_cons.mp hst).1) k
theorem s_i2b {x : Int} (hd : decode (byt y) pc = .ok (.i2b, 1))  (h : Vx l ω d y (pc + 1) ls (vI ((x + 128) % 256 - 128) :: r) M Q) : Vx l ω d y pc ls (vI x :: r) M Q := by
  refine Vx.ch (fun hls hst => ?_) (fun hx hb hls hst hl C k => ?_) h
  · exact okL_cons.mpr ⟨(by show in32 _; unfold in32; omega), (okL_cons.mp hst).2⟩
  · exact lv_i2b hx hb hd (i2b_of (okL_cons.mp hst).1) k
theorem s_i2s {x : Int} (hd : decode (byt y) pc = .ok (.i2s, 1))  (h : Vx l ω d y (pc + 1) ls (vI ((x + 32768) % 65536 - 32768) :: r) M Q) : Vx l ω d y pc ls (vI x :: r) M Q := by
  refine Vx.ch (fun hls hst => ?_) (fun hx hb hls hst hl C k => ?_) h
  · exact okL_cons.mpr ⟨(by show in32 _; unfold in32; omega), (okL_cons.mp hst).2⟩
  · exact lv_i2s hx hb hd (i2s_of (okL_cons.mp hst).1) k
theorem s_i2c {x : Int} (hd : decode (byt y) pc = .ok (.i2c, 1))  (h : Vx l ω d y (pc + 1) ls (vI ((Int32.ofInt x).toUInt32 % 65536).toInt32.toInt :: r) M Q) : Vx l ω d y pc ls (vI x :: r) M Q := by
  refine Vx.ch (fun hls hst => ?_) (fun hx hb hls hst hl C k => ?_) h
  · exact okL_cons.mpr ⟨t32_in _, (okL_cons.mp hst).2⟩
  · exact lv_i2c hx hb hd (Int32.ofInt_toInt _).symm k
theorem is1_cat {a : AV} (h : is1 a = true) : (cvA ω a).category = 1 := by
  rcases a with x | x | ⟨p, j⟩ | u
  · rfl
  · cases h
  · rfl
  · cases h
theorem s_dup {a : AV} (hd : decode (byt y) pc = .ok (.dup, 1)) (ha : is1 a = true) (h : Vx l ω d y (pc + 1) ls (a :: a :: r) M Q) : Vx l ω d y pc ls (a :: r) M Q := by
  refine Vx.ch (fun hls hst => ?_) (fun hx hb hls hst hl C k => ?_) h
  · exact okL_cons.mpr ⟨(okL_cons.mp hst).1, hst⟩
  · exact lv_dup hx hb hd (is1_cat ha) k
theorem s_dup2 {a b : AV} (hd : decode (byt y) pc = .ok (.dup2, 1)) (ha : is1 a = true) (hb2 : is1 b = true) (h : Vx l ω d y (pc + 1) ls (a :: b :: a :: b :: r) M Q) : Vx l ω d y pc ls (a :: b :: r) M Q := by
  refine Vx.ch (fun hls hst => ?_) (fun hx hb hls hst hl C k => ?_) h
  · exact okL_cons.mpr ⟨(okL_cons.mp hst).1, okL_cons.mpr ⟨(okL_cons.mp (okL_cons.mp hst).2).1, hst⟩⟩
  · exact lv_dup2_11 hx hb hd (is1_cat ha) (is1_cat hb2) k
theorem s_pop {a : AV} (hd : decode (byt y) pc = .ok (.pop, 1)) (ha : is1 a = true) (h : Vx l ω d y (pc + 1) ls (r) M Q) : Vx l ω d y pc ls (a :: r) M Q := by
  refine Vx.ch (fun hls hst => ?_) (fun hx hb hls hst hl C k => ?_) h
  · exact (okL_cons.mp hst).2
  · exact lv_pop hx hb hd (is1_cat ha) k
theorem s_if_eq {x off : Int} {tgt : Nat} (hd : decode (byt y) pc = .ok (.ifCond .eq off, 3)) (ht : (pc : Int) + off = (tgt : Int)) (h1 : x = 0 → Vx l ω d y tgt ls r M Q) (h2 : ¬ x = 0 → Vx l ω d y (pc + 3) ls r M Q) : Vx l ω d y pc ls (vI x :: r) M Q := by
  intro p e s m args below meth c A C H locs lsC ⟨hM, hls, hst, hl, hP, hD, hS⟩
  have hz : in32 0 := in32_0
  have hx : in32 x := (okL_cons.mp hst).1
  have hr : okL r := (okL_cons.mp hst).2
  refine lv_if_eq C.1 C.2.1 hd ht (fun h => ?_) (fun h => ?_)
  · exact h1 ((o32_inj hx hz).mp h) p e s m args below meth c A C H locs lsC ⟨hM, hls, hr, hl, hP, hD, hS⟩
  · exact h2 (fun e => h ((o32_inj hx hz).mpr e)) p e s m args below meth c A C H locs lsC ⟨hM, hls, hr, hl, hP, hD, hS⟩
theorem s_icmp_eq {x z off : Int} {tgt : Nat} (hd : decode (byt y) pc = .ok (.if_icmp .eq off, 3)) (ht : (pc : Int) + off = (tgt : Int)) (h1 : x = z → Vx l ω d y tgt ls r M Q) (h2 : ¬ x = z → Vx l ω d y (pc + 3) ls r M Q) : Vx l ω d y pc ls (vI z :: vI x :: r) M Q := by
  intro p e s m args below meth c A C H locs lsC ⟨hM, hls, hst, hl, hP, hD, hS⟩
  have hz : in32 z := (okL_cons.mp hst).1
  have hx : in32 x := (okL_cons.mp (okL_cons.mp hst).2).1
  have hr : okL r := (okL_cons.mp (okL_cons.mp hst).2).2
  refine lv_icmp_eq C.1 C.2.1 hd ht (fun h => ?_) (fun h => ?_)
  · exact h1 ((o32_inj hx hz).mp h) p e s m args below meth c A C H locs lsC ⟨hM, hls, hr, hl, hP, hD, hS⟩
  · exact h2 (fun e => h ((o32_inj hx hz).mpr e)) p e s m args below meth c A C H locs lsC ⟨hM, hls, hr, hl, hP, hD, hS⟩
theorem s_if_ne {x off : Int} {tgt : Nat} (hd : decode (byt y) pc = .ok (.ifCond .ne off, 3)) (ht : (pc : Int) + off = (tgt : Int)) (h1 : ¬ x = 0 → Vx l ω d y tgt ls r M Q) (h2 : x = 0 → Vx l ω d y (pc + 3) ls r M Q) : Vx l ω d y pc ls (vI x :: r) M Q := by
  intro p e s m args below meth c A C H locs lsC ⟨hM, hls, hst, hl, hP, hD, hS⟩
  have hz : in32 0 := in32_0
  have hx : in32 x := (okL_cons.mp hst).1
  have hr : okL r := (okL_cons.mp hst).2
  refine lv_if_ne C.1 C.2.1 hd ht (fun h => ?_) (fun h => ?_)
  · exact h1 (fun e => h ((o32_inj hx hz).mpr e)) p e s m args below meth c A C H locs lsC ⟨hM, hls, hr, hl, hP, hD, hS⟩
  · exact h2 ((o32_inj hx hz).mp h) p e s m args below meth c A C H locs lsC ⟨hM, hls, hr, hl, hP, hD, hS⟩
theorem s_icmp_ne {x z off : Int} {tgt : Nat} (hd : decode (byt y) pc = .ok (.if_icmp .ne off, 3)) (ht : (pc : Int) + off = (tgt : Int)) (h1 : ¬ x = z → Vx l ω d y tgt ls r M Q) (h2 : x = z → Vx l ω d y (pc + 3) ls r M Q) : Vx l ω d y pc ls (vI z :: vI x :: r) M Q := by
  intro p e s m args below meth c A C H locs lsC ⟨hM, hls, hst, hl, hP, hD, hS⟩
  have hz : in32 z := (okL_cons.mp hst).1
  have hx : in32 x := (okL_cons.mp (okL_cons.mp hst).2).1
  have hr : okL r := (okL_cons.mp (okL_cons.mp hst).2).2
  refine lv_icmp_ne C.1 C.2.1 hd ht (fun h => ?_) (fun h => ?_)
  · exact h1 (fun e => h ((o32_inj hx hz).mpr e)) p e s m args below meth c A C H locs lsC ⟨hM, hls, hr, hl, hP, hD, hS⟩
  · exact h2 ((o32_inj hx hz).mp h) p e s m args below meth c A C H locs lsC ⟨hM, hls, hr, hl, hP, hD, hS⟩
theorem s_if_lt {x off : Int} {tgt : Nat} (hd : decode (byt y) pc = .ok (.ifCond .lt off, 3)) (ht : (pc : Int) + off = (tgt : Int)) (h1 : x < 0 → Vx l ω d y tgt ls r M Q) (h2 : 0 ≤ x → Vx l ω d y (pc + 3) ls r M Q) : Vx l ω d y pc ls (vI x :: r) M Q := by
  intro p e s m args below meth c A C H locs lsC ⟨hM, hls, hst, hl, hP, hD, hS⟩
  have hz : in32 0 := in32_0
  have hx : in32 x := (okL_cons.mp hst).1
  have hr : okL r := (okL_cons.mp hst).2
  refine lv_if_lt C.1 C.2.1 hd ht (fun h => ?_) (fun h => ?_)
  · exact h1 ((o32_lt hx hz).mp h) p e s m args below meth c A C H locs lsC ⟨hM, hls, hr, hl, hP, hD, hS⟩
  · exact h2 (Int.not_lt.mp fun e => h ((o32_lt hx hz).mpr e)) p e s m args below meth c A C H locs lsC ⟨hM, hls, hr, hl, hP, hD, hS⟩
theorem s_icmp_lt {x z off : Int} {tgt : Nat} (hd : decode (byt y) pc = .ok (.if_icmp .lt off, 3)) (ht : (pc : Int) + off = (tgt : Int)) (h1 : x < z → Vx l ω d y tgt ls r M Q) (h2 : z ≤ x → Vx l ω d y (pc + 3) ls r M Q) : Vx l ω d y pc ls (vI z :: vI x :: r) M Q := by
  intro p e s m args below meth c A C H locs lsC ⟨hM, hls, hst, hl, hP, hD, hS⟩
  have hz : in32 z := (okL_cons.mp hst).1
  have hx : in32 x := (okL_cons.mp (okL_cons.mp hst).2).1
  have hr : okL r := (okL_cons.mp (okL_cons.mp hst).2).2
  refine lv_icmp_lt C.1 C.2.1 hd ht (fun h => ?_) (fun h => ?_)
  · exact h1 ((o32_lt hx hz).mp h) p e s m args below meth c A C H locs lsC ⟨hM, hls, hr, hl, hP, hD, hS⟩
  · exact h2 (Int.not_lt.mp fun e => h ((o32_lt hx hz).mpr e)) p e s m args below meth c A C H locs lsC ⟨hM, hls, hr, hl, hP, hD, hS⟩
theorem s_if_ge {x off : Int} {tgt : Nat} (hd : decode (byt y) pc = .ok (.ifCond .ge off, 3)) (ht : (pc : Int) + off = (tgt : Int)) (h1 : 0 ≤ x → Vx l ω d y tgt ls r M Q) (h2 : x < 0 → Vx l ω d y (pc + 3) ls r M Q) : Vx l ω d y pc ls (vI x :: r) M Q := by
  intro p e s m args below meth c A C H locs lsC ⟨hM, hls, hst, hl, hP, hD, hS⟩
  have hz : in32 0 := in32_0
  have hx : in32 x := (okL_cons.mp hst).1
  have hr : okL r := (okL_cons.mp hst).2
  refine lv_if_ge C.1 C.2.1 hd ht (fun h => ?_) (fun h => ?_)
  · exact h1 ((o32_le hz hx).mp h) p e s m args below meth c A C H locs lsC ⟨hM, hls, hr, hl, hP, hD, hS⟩
  · exact h2 (Int.not_le.mp fun e => h ((o32_le hz hx).mpr e)) p e s m args below meth c A C H locs lsC ⟨hM, hls, hr, hl, hP, hD, hS⟩
theorem s_icmp_ge {x z off : Int} {tgt : Nat} (hd : decode (byt y) pc = .ok (.if_icmp .ge off, 3)) (ht : (pc : Int) + off = (tgt : Int)) (h1 : z ≤ x → Vx l ω d y tgt ls r M Q) (h2 : x < z → Vx l ω d y (pc + 3) ls r M Q) : Vx l ω d y pc ls (vI z :: vI x :: r) M Q := by
  intro p e s m args below meth c A C H locs lsC ⟨hM, hls, hst, hl, hP, hD, hS⟩
  have hz : in32 z := (okL_cons.mp hst).1
  have hx : in32 x := (okL_cons.mp (okL_cons.mp hst).2).1
  have hr : okL r := (okL_cons.mp (okL_cons.mp hst).2).2
  refine lv_icmp_ge C.1 C.2.1 hd ht (fun h => ?_) (fun h => ?_)
  · exact h1 ((o32_le hz hx).mp h) p e s m args below meth c A C H locs lsC ⟨hM, hls, hr, hl, hP, hD, hS⟩
  · exact h2 (Int.not_le.mp fun e => h ((o32_le hz hx).mpr e)) p e s m args below meth c A C H locs lsC ⟨hM, hls, hr, hl, hP, hD, hS⟩
theorem s_if_gt {x off : Int} {tgt : Nat} (hd : decode (byt y) pc = .ok (.ifCond .gt off, 3)) (ht : (pc : Int) + off = (tgt : Int)) (h1 : 0 < x → Vx l ω d y tgt ls r M Q) (h2 : x ≤ 0 → Vx l ω d y (pc + 3) ls r M Q) : Vx l ω d y pc ls (vI x :: r) M Q := by
  intro p e s m args below meth c A C H locs lsC ⟨hM, hls, hst, hl, hP, hD, hS⟩
  have hz : in32 0 := in32_0
  have hx : in32 x := (okL_cons.mp hst).1
  have hr : okL r := (okL_cons.mp hst).2
  refine lv_if_gt C.1 C.2.1 hd ht (fun h => ?_) (fun h => ?_)
  · exact h1 ((o32_lt hz hx).mp h) p e s m args below meth c A C H locs lsC ⟨hM, hls, hr, hl, hP, hD, hS⟩
  · exact h2 (Int.not_lt.mp fun e => h ((o32_lt hz hx).mpr e)) p e s m args below meth c A C H locs lsC ⟨hM, hls, hr, hl, hP, hD, hS⟩
theorem s_icmp_gt {x z off : Int} {tgt : Nat} (hd : decode (byt y) pc = .ok (.if_icmp .gt off, 3)) (ht : (pc : Int) + off = (tgt : Int)) (h1 : z < x → Vx l ω d y tgt ls r M Q) (h2 : x ≤ z → Vx l ω d y (pc + 3) ls r M Q) : Vx l ω d y pc ls (vI z :: vI x :: r) M Q := by
  intro p e s m args below meth c A C H locs lsC ⟨hM, hls, hst, hl, hP, hD, hS⟩
  have hz : in32 z := (okL_cons.mp hst).1
  have hx : in32 x := (okL_cons.mp (okL_cons.mp hst).2).1
  have hr : okL r := (okL_cons.mp (okL_cons.mp hst).2).2
  refine lv_icmp_gt C.1 C.2.1 hd ht (fun h => ?_) (fun h => ?_)
  · exact h1 ((o32_lt hz hx).mp h) p e s m args below meth c A C H locs lsC ⟨hM, hls, hr, hl, hP, hD, hS⟩
  · exact h2 (Int.not_lt.mp fun e => h ((o32_lt hz hx).mpr e)) p e s m args below meth c A C H locs lsC ⟨hM, hls, hr, hl, hP, hD, hS⟩
theorem s_if_le {x off : Int} {tgt : Nat} (hd : decode (byt y) pc = .ok (.ifCond .le off, 3)) (ht : (pc : Int) + off = (tgt : Int)) (h1 : x ≤ 0 → Vx l ω d y tgt ls r M Q) (h2 : 0 < x → Vx l ω d y (pc + 3) ls r M Q) : Vx l ω d y pc ls (vI x :: r) M Q := by
  intro p e s m args below meth c A C H locs lsC ⟨hM, hls, hst, hl, hP, hD, hS⟩
  have hz : in32 0 := in32_0
  have hx : in32 x := (okL_cons.mp hst).1
  have hr : okL r := (okL_cons.mp hst).2
  refine lv_if_le C.1 C.2.1 hd ht (fun h => ?_) (fun h => ?_)
  · exact h1 ((o32_le hx hz).mp h) p e s m args below meth c A C H locs lsC ⟨hM, hls, hr, hl, hP, hD, hS⟩
  · exact h2 (Int.not_le.mp fun e => h ((o32_le hx hz).mpr e)) p e s m args below meth c A C H locs lsC ⟨hM, hls, hr, hl, hP, hD, hS⟩
theorem s_icmp_le {x z off : Int} {tgt : Nat} (hd : decode (byt y) pc = .ok (.if_icmp .le off, 3)) (ht : (pc : Int) + off = (tgt : Int)) (h1 : x ≤ z → Vx l ω d y tgt ls r M Q) (h2 : z < x → Vx l ω d y (pc + 3) ls r M Q) : Vx l ω d y pc ls (vI z :: vI x :: r) M Q := by
  intro p e s m args below meth c A C H locs lsC ⟨hM, hls, hst, hl, hP, hD, hS⟩
  have hz : in32 z := (okL_cons.mp hst).1
  have hx : in32 x := (okL_cons.mp (okL_cons.mp hst).2).1
  have hr : okL r := (okL_cons.mp (okL_cons.mp hst).2).2
  refine lv_icmp_le C.1 C.2.1 hd ht (fun h => ?_) (fun h => ?_)
  · exact h1 ((o32_le hx hz).mp h) p e s m args below meth c A C H locs lsC ⟨hM, hls, hr, hl, hP, hD, hS⟩
  · exact h2 (Int.not_le.mp fun e => h ((o32_le hx hz).mpr e)) p e s m args below meth c A C H locs lsC ⟨hM, hls, hr, hl, hP, hD, hS⟩
theorem s_goto {off : Int} {tgt : Nat} (hd : decode (byt y) pc = .ok (.goto off, 3)) (ht : (pc : Int) + off = (tgt : Int)) (h : Vx l ω d y tgt ls st M Q) : Vx l ω d y pc ls st M Q := by
  refine Vx.ch (fun hls hst => hst) (fun hx hb hls hst hl C k => ?_) h
  exact lv_goto hx hb hd ht k
theorem Vx.loc {ls' : List AV} (hok : okL ls → okL st → okL ls' ∧ okL st')
    (hw : ∀ {p : Program} {e : Env} {s : State} {m : MethodId} {args : Array Value} {below : List Frame} {meth : Method} {c : Code} {H : Heap} {locs : List Loc} {lsC : Array Slot} {Qf : State → Prop}, p.tables.exec = Jvm.exec → c.code = byt y → LVx ω lsC (mxt y) ls →
      (∀ lsC' : Array Slot, LVx ω lsC' (mxt y) ls' → W p l e (rmd d) s m args below meth c H locs 0 0 Qf (F0 m pc' lsC' (st'.map (cvA ω)))) → W p l e (rmd d) s m args below meth c H locs 0 0 Qf (F0 m pc lsC (st.map (cvA ω))))
    (h : Vx l ω d y pc' ls' st' M Q) : Vx l ω d y pc ls st M Q := by
  intro p e s m args below meth c A C H locs lsC ⟨hM, hls, hst, hl, hP, hD, hS⟩
  exact hw C.1 C.2.1 hl fun lsC' hl' => h p e s m args below meth c A C H locs lsC' ⟨hM, (hok hls hst).1, (hok hls hst).2, hl', hP, hD, hS⟩
theorem okL_set1 {ls' : List AV} {i : Nat} {v : AV} (h : okL ls) (hv : okA v) (hs : ∀ (j : Nat) (a : AV), ls'[j]? = some a → isV a → (j = i ∧ a = v) ∨ (¬ j = i ∧ ls[j]? = some a ∧ ¬ (j + 1 = i ∧ isLg a))) : okL ls' :=
  okL_set h hv fun j a h1 h2 => (hs j a h1 h2).elim (fun q => Or.inl q.2) (fun q => Or.inr q.2.1)
theorem okL_set2 {ls' : List AV} {i : Nat} {v : AV} (h : okL ls) (hv : okA v) (hs : ∀ (j : Nat) (a : AV), ls'[j]? = some a → isV a → (j = i ∧ a = v) ∨ (¬ j = i ∧ ¬ j = i + 1 ∧ ls[j]? = some a ∧ ¬ (j + 1 = i ∧ isLg a))) : okL ls' :=
  okL_set h hv fun j a h1 h2 => (hs j a h1 h2).elim (fun q => Or.inl q.2) (fun q => Or.inr q.2.2.1)
theorem s_istore {i : Nat} {x : Int} (hd : decode (byt y) pc = .ok (.istore i, 2))  (hk : setI ls i (vI x) (fun ls' => Vx l ω d y (pc + 2) ls' r M Q)) : Vx l ω d y pc ls (vI x :: r) M Q := by
  obtain ⟨ls', h, h1, h2, h3⟩ := setI_sp _ _ _ _ hk
  refine Vx.loc (fun hls hst => ⟨okL_set1 hls (okL_cons.mp hst).1 h3, (okL_cons.mp hst).2⟩) (fun hx hb hl kk => ?_) h
  exact lv_istore hx hb hd hl.has (hl.2.1 ▸ h2) rfl (fun lsC' h' => kk lsC' (store1_LV (v := vI x) hl (fun z => z) h1 h2 h3 h'))
theorem s_istore_n {n : Fin 4} {i : Nat} {x : Int} (hd : decode (byt y) pc = .ok (.istore_n n, 1)) (hn : (n : Nat) = i) (hk : setI ls i (vI x) (fun ls' => Vx l ω d y (pc + 1) ls' r M Q)) : Vx l ω d y pc ls (vI x :: r) M Q := by
  obtain ⟨ls', h, h1, h2, h3⟩ := setI_sp _ _ _ _ hk
  refine Vx.loc (fun hls hst => ⟨okL_set1 hls (okL_cons.mp hst).1 h3, (okL_cons.mp hst).2⟩) (fun hx hb hl kk => ?_) h
  exact lv_istore_n hx hb hd hn hl.has (hl.2.1 ▸ h2) rfl (fun lsC' h' => kk lsC' (store1_LV (v := vI x) hl (fun z => z) h1 h2 h3 h'))
theorem s_lstore {i : Nat} {x : Int} (hd : decode (byt y) pc = .ok (.lstore i, 2))  (hk : setL ls i (vL x) (fun ls' => Vx l ω d y (pc + 2) ls' r M Q)) : Vx l ω d y pc ls (vL x :: r) M Q := by
  obtain ⟨ls', h, h1, h2, h3⟩ := setL_sp _ _ _ _ hk
  refine Vx.loc (fun hls hst => ⟨okL_set2 hls (okL_cons.mp hst).1 h3, (okL_cons.mp hst).2⟩) (fun hx hb hl kk => ?_) h
  exact lv_lstore hx hb hd hl.has (hl.2.1 ▸ h2) rfl (fun lsC' h' => kk lsC' (store2_LV hl h1 h2 h3 h'))
theorem s_lstore_n {n : Fin 4} {i : Nat} {x : Int} (hd : decode (byt y) pc = .ok (.lstore_n n, 1)) (hn : (n : Nat) = i) (hk : setL ls i (vL x) (fun ls' => Vx l ω d y (pc + 1) ls' r M Q)) : Vx l ω d y pc ls (vL x :: r) M Q := by
  obtain ⟨ls', h, h1, h2, h3⟩ := setL_sp _ _ _ _ hk
  refine Vx.loc (fun hls hst => ⟨okL_set2 hls (okL_cons.mp hst).1 h3, (okL_cons.mp hst).2⟩) (fun hx hb hl kk => ?_) h
  exact lv_lstore_n hx hb hd hn hl.has (hl.2.1 ▸ h2) rfl (fun lsC' h' => kk lsC' (store2_LV hl h1 h2 h3 h'))
theorem s_astore {i : Nat} {q : Nat} {j : Int} (hd : decode (byt y) pc = .ok (.astore i, 2))  (hk : setI ls i (vR q j) (fun ls' => Vx l ω d y (pc + 2) ls' r M Q)) : Vx l ω d y pc ls (vR q j :: r) M Q := by
  obtain ⟨ls', h, h1, h2, h3⟩ := setI_sp _ _ _ _ hk
  refine Vx.loc (fun hls hst => ⟨okL_set1 hls (okL_cons.mp hst).1 h3, (okL_cons.mp hst).2⟩) (fun hx hb hl kk => ?_) h
  exact lv_astore hx hb hd hl.has (hl.2.1 ▸ h2) rfl (fun lsC' h' => kk lsC' (store1_LV (v := vR q j) hl (fun z => z) h1 h2 h3 h'))
theorem s_astore_n {n : Fin 4} {i : Nat} {q : Nat} {j : Int} (hd : decode (byt y) pc = .ok (.astore_n n, 1)) (hn : (n : Nat) = i) (hk : setI ls i (vR q j) (fun ls' => Vx l ω d y (pc + 1) ls' r M Q)) : Vx l ω d y pc ls (vR q j :: r) M Q := by
  obtain ⟨ls', h, h1, h2, h3⟩ := setI_sp _ _ _ _ hk
  refine Vx.loc (fun hls hst => ⟨okL_set1 hls (okL_cons.mp hst).1 h3, (okL_cons.mp hst).2⟩) (fun hx hb hl kk => ?_) h
  exact lv_astore_n hx hb hd hn hl.has (hl.2.1 ▸ h2) rfl (fun lsC' h' => kk lsC' (store1_LV (v := vR q j) hl (fun z => z) h1 h2 h3 h'))
theorem s_iinc {i : Nat} {n x v : Int} (hd : decode (byt y) pc = .ok (.iinc i n, 3)) (hv : Int32.ofInt n = Int32.ofInt v) (hg : ls[i]? = some (vI x)) (hk : setI ls i (vI (w32 (x + v))) (fun ls' => Vx l ω d y (pc + 3) ls' r M Q)) : Vx l ω d y pc ls r M Q := by
  obtain ⟨ls', h, h1, h2, h3⟩ := setI_sp _ _ _ _ hk
  refine Vx.loc (fun hls hst => ⟨okL_set1 (v := vI (w32 (x + v))) hls (w32_in _) h3, hst⟩) (fun hx hb hl kk => ?_) h
  obtain ⟨k, hk⟩ := List.getElem?_of_mem (mem_lvp (ω := ω) (q := (i, cvA ω (vI x))).mpr ⟨_, hg, trivial, rfl⟩)
  exact lv_iinc hx hb hd hl.has (k := k) hk (v := Int32.ofInt (w32 (x + v))) (by rw [hv, w32_of, Int32.ofInt_add]) (hl.2.1 ▸ h2) rfl (fun lsC' h' => kk lsC' (store1_LV (v := vI (w32 (x + v))) hl (fun z => z) h1 h2 h3 h'))
end RULES
