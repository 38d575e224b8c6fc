/-! ===== the frame: the fresh world (wip/gen/lw3.py) ===== -/
def csA : List CE := [.inr (11, [vR 1 0, vR 17 0, vR 25 0, vR 28 0, vR 41 0, vR 47 0, vR 53 0, vR 67 0, vR 89 0]), .inr (4, [vI (0), vR 2 0, vI (0), vR 3 0, vR 4 0, vR 5 0, vR 6 0, vR 7 0, vR 8 0, vI (0), vR 9 0, vR 10 0]), .inl (1, 12, []), .inl (1, 20, []), .inl (1, 20, []), .inl (1, 20, []), .inl (1, 20, []), .inl (1, 20, []), .inl (3, 20, []), .inl (1, 6, []), .inl (5, 6, [(0, 11), (1, 12), (2, 13), (3, 14), (4, 15), (5, 16)]), .inl (1, 6, []), .inl (1, 6, []), .inl (1, 6, []), .inl (1, 6, []), .inl (1, 6, []), .inl (1, 6, []), .inr (7, [vR 18 0, vR 19 0, vR 20 0]), .inl (1, 4, [(3, -1), (2, -1), (1, -1), (0, -1)]), .inl (1, 4, []), .inl (5, 4, [(0, 21), (1, 22), (2, 23), (3, 24)]), .inl (1, 24, []), .inl (1, 24, []), .inl (1, 24, []), .inl (1, 24, []), .inr (10, [vR 1 0, vR 17 0, vR 26 0, vR 27 0]), .inl (1, 12, []), .inl (3, 12, []), .inr (0, [vR 29 0, vR 30 0, vR 31 0, vR 32 0, vR 36 0, vI (0), vR 40 0, vI (0)]), .inl (1, 8, []), .inl (1, 8, []), .inl (1, 8, []), .inr (8, [vI (0), vR 33 0, vI (0), vI (0), vR 34 0, vR 35 0, vI (0)]), .inl (1, 8, []), .inl (1, 8, []), .inl (1, 8, []), .inr (8, [vI (0), vR 37 0, vI (0), vI (0), vR 38 0, vR 39 0, vI (0)]), .inl (1, 8, []), .inl (1, 8, []), .inl (1, 8, []), .inl (1, 8, []), .inr (5, [vR 42 0, vI (0), vI (0), vI (0), vI (0), vI (0), vI (0), vR 43 0, vI (0), vR 44 0, vR 45 0, vI (0), vR 46 0, vI (0), vI (0), vI (0), vI (0), vI (0)]), .inl (1, 240, []), .inl (1, 240, []), .inl (1, 12, []), .inl (1, 12, []), .inl (1, 240, []), .inr (2, [vR 1 0, vR 17 0, vR 32 0, vR 48 0, vR 49 0, vR 50 0, vI (0), vR 51 0, vR 52 0]), .inl (1, 240, []), .inl (1, 12, []), .inl (1, 12, []), .inl (1, 9, []), .inl (1, 240, []), .inr (9, [vI (0), vR 54 0, vR 55 0, vR 65 0, vR 66 0]), .inl (1, 9, []), .inl (5, 9, [(0, 56), (1, 57), (2, 58), (3, 59), (4, 60), (5, 61), (6, 62), (7, 63), (8, 64)]), .inl (1, 9, []), .inl (1, 9, []), .inl (1, 9, []), .inl (1, 9, []), .inl (1, 9, []), .inl (1, 9, []), .inl (1, 9, []), .inl (1, 9, []), .inl (1, 9, []), .inl (1, 512, []), .inl (1, 512, []), .inr (3, [vR 1 0, vR 25 0, vR 47 0, vI (0), vR 68 0, vR 69 0, vR 70 0, vR 71 0, vR 72 0, vI (0)]), .inl (4, 8, [(7, 87), (6, 85), (5, 83), (4, 81), (3, 79), (2, 77), (1, 75), (0, 73)]), .inl (1, 12, []), .inl (1, 12, []), .inl (1, 12, []), .inl (1, 8, []), .inr (6, [vI (0), vI (0), vI (0), vI (0), vI (0), vI (0), vI (0), vI (0), vI (0), vI (0), vI (0), vI (0), vR 74 0]), .inl (1, 96, []), .inr (6, [vI (0), vI (0), vI (0), vI (0), vI (0), vI (0), vI (0), vI (0), vI (0), vI (0), vI (0), vI (0), vR 76 0]), .inl (1, 96, []), .inr (6, [vI (0), vI (0), vI (0), vI (0), vI (0), vI (0), vI (0), vI (0), vI (0), vI (0), vI (0), vI (0), vR 78 0]), .inl (1, 96, []), .inr (6, [vI (0), vI (0), vI (0), vI (0), vI (0), vI (0), vI (0), vI (0), vI (0), vI (0), vI (0), vI (0), vR 80 0]), .inl (1, 96, []), .inr (6, [vI (0), vI (0), vI (0), vI (0), vI (0), vI (0), vI (0), vI (0), vI (0), vI (0), vI (0), vI (0), vR 82 0]), .inl (1, 96, []), .inr (6, [vI (0), vI (0), vI (0), vI (0), vI (0), vI (0), vI (0), vI (0), vI (0), vI (0), vI (0), vI (0), vR 84 0]), .inl (1, 96, []), .inr (6, [vI (0), vI (0), vI (0), vI (0), vI (0), vI (0), vI (0), vI (0), vI (0), vI (0), vI (0), vI (0), vR 86 0]), .inl (1, 96, []), .inr (6, [vI (0), vI (0), vI (0), vI (0), vI (0), vI (0), vI (0), vI (0), vI (0), vI (0), vI (0), vI (0), vR 88 0]), .inl (1, 96, []), .inr (1, [vI (0), vR 90 0, vR 91 0, vR 92 0, vR 93 0, vR 94 0, vI (0), vR 95 0, vR 110 0, vL (0)]), .inl (1, 14, []), .inl (1, 14, []), .inl (1, 14, []), .inl (1, 14, []), .inl (1, 14, []), .inl (6, 14, [(0, 96), (1, 97), (2, 98), (3, 99), (4, 100), (5, 101), (6, 102), (7, 103), (8, 104), (9, 105), (10, 106), (11, 107), (12, 108), (13, 109)]), .inl (2, 15, []), .inl (2, 15, []), .inl (2, 15, []), .inl (2, 15, []), .inl (2, 15, []), .inl (2, 15, []), .inl (2, 15, []), .inl (2, 15, []), .inl (2, 15, []), .inl (2, 15, []), .inl (2, 15, []), .inl (2, 15, []), .inl (2, 15, []), .inl (2, 15, []), .inl (2, 14, [])]
def csB : List CE := [.inr (11, [vR 1 0, vR 17 0, vR 25 0, vR 28 0, vR 41 0, vR 47 0, vR 53 0, vR 67 0, vR 89 0]), .inr (4, [vI (0), vR 2 0, vI (0), vR 3 0, vR 4 0, vR 5 0, vR 6 0, vR 7 0, vR 8 0, vI (0), vR 9 0, vR 10 0]), .inl (1, 12, []), .inl (1, 20, []), .inl (1, 20, []), .inl (1, 20, []), .inl (1, 20, []), .inl (1, 20, []), .inl (3, 20, []), .inl (1, 6, []), .inl (5, 6, [(0, 11), (1, 12), (2, 13), (3, 14), (4, 15), (5, 16)]), .inl (1, 6, []), .inl (1, 6, []), .inl (1, 6, []), .inl (1, 6, []), .inl (1, 6, []), .inl (1, 6, []), .inr (7, [vR 18 0, vR 19 0, vR 20 0]), .inl (1, 4, [(3, -1), (2, -1), (1, -1), (0, -1)]), .inl (1, 4, []), .inl (5, 4, [(0, 21), (1, 22), (2, 23), (3, 24)]), .inl (1, 24, []), .inl (1, 24, []), .inl (1, 24, []), .inl (1, 24, []), .inr (10, [vR 1 0, vR 17 0, vR 26 0, vR 27 0]), .inl (1, 12, []), .inl (3, 12, []), .inr (0, [vR 29 0, vR 30 0, vR 31 0, vR 32 0, vR 36 0, vI (0), vR 40 0, vI (0)]), .inl (1, 8, []), .inl (1, 8, []), .inl (1, 8, []), .inr (8, [vI (0), vR 33 0, vI (0), vI (0), vR 34 0, vR 35 0, vI (0)]), .inl (1, 8, []), .inl (1, 8, []), .inl (1, 8, []), .inr (8, [vI (0), vR 37 0, vI (0), vI (0), vR 38 0, vR 39 0, vI (0)]), .inl (1, 8, []), .inl (1, 8, []), .inl (1, 8, []), .inl (1, 8, []), .inr (5, [vR 42 0, vI (0), vI (0), vI (0), vI (0), vI (0), vI (0), vR 43 0, vI (0), vR 44 0, vR 45 0, vI (0), vR 46 0, vI (0), vI (0), vI (0), vI (0), vI (0)]), .inl (1, 240, []), .inl (1, 240, []), .inl (1, 12, []), .inl (1, 12, []), .inl (1, 240, []), .inr (2, [vR 1 0, vR 17 0, vR 32 0, vR 48 0, vR 49 0, vR 50 0, vI (0), vR 51 0, vR 52 0]), .inl (1, 240, []), .inl (1, 12, []), .inl (1, 12, []), .inl (1, 9, []), .inl (1, 240, []), .inr (9, [vI (0), vR 54 0, vR 55 0, vR 65 0, vR 66 0]), .inl (1, 9, []), .inl (5, 9, [(0, 56), (1, 57), (2, 58), (3, 59), (4, 60), (5, 61), (6, 62), (7, 63), (8, 64)]), .inl (1, 9, []), .inl (1, 9, []), .inl (1, 9, []), .inl (1, 9, []), .inl (1, 9, []), .inl (1, 9, []), .inl (1, 9, []), .inl (1, 9, []), .inl (1, 9, []), .inl (1, 512, []), .inl (1, 512, []), .inr (3, [vR 1 0, vR 25 0, vR 47 0, vI (0), vR 68 0, vR 69 0, vR 70 0, vR 71 0, vR 72 0, vI (0)]), .inl (4, 8, [(7, 87), (6, 85), (5, 83), (4, 81), (3, 79), (2, 77), (1, 75), (0, 73)]), .inl (1, 12, []), .inl (1, 12, []), .inl (1, 12, []), .inl (1, 8, []), .inr (6, [vI (0), vI (0), vI (0), vI (0), vI (0), vI (0), vI (0), vI (0), vI (0), vI (0), vI (0), vI (0), vR 74 0]), .inl (1, 96, []), .inr (6, [vI (0), vI (0), vI (0), vI (0), vI (0), vI (0), vI (0), vI (0), vI (0), vI (0), vI (0), vI (0), vR 76 0]), .inl (1, 96, []), .inr (6, [vI (0), vI (0), vI (0), vI (0), vI (0), vI (0), vI (0), vI (0), vI (0), vI (0), vI (0), vI (0), vR 78 0]), .inl (1, 96, []), .inr (6, [vI (0), vI (0), vI (0), vI (0), vI (0), vI (0), vI (0), vI (0), vI (0), vI (0), vI (0), vI (0), vR 80 0]), .inl (1, 96, []), .inr (6, [vI (0), vI (0), vI (0), vI (0), vI (0), vI (0), vI (0), vI (0), vI (0), vI (0), vI (0), vI (0), vR 82 0]), .inl (1, 96, []), .inr (6, [vI (0), vI (0), vI (0), vI (0), vI (0), vI (0), vI (0), vI (0), vI (0), vI (0), vI (0), vI (0), vR 84 0]), .inl (1, 96, []), .inr (6, [vI (0), vI (0), vI (0), vI (0), vI (0), vI (0), vI (0), vI (0), vI (0), vI (0), vI (0), vI (0), vR 86 0]), .inl (1, 96, []), .inr (6, [vI (0), vI (0), vI (0), vI (0), vI (0), vI (0), vI (0), vI (0), vI (0), vI (0), vI (0), vI (0), vR 88 0]), .inl (1, 96, []), .inr (1, [vI (0), vR 90 0, vR 91 0, vR 92 0, vR 93 0, vR 94 0, vI (0), vR 95 0, vR 110 0, vL (0)]), .inl (1, 14, []), .inl (1, 14, []), .inl (1, 14, []), .inl (1, 14, []), .inl (1, 14, []), .inl (6, 14, [(0, 96), (1, 97), (2, 98), (3, 99), (4, 100), (5, 101), (6, 102), (7, 103), (8, 104), (9, 105), (10, 106), (11, 107), (12, 108), (13, 109)]), .inl (2, 15, []), .inl (2, 15, []), .inl (2, 15, []), .inl (2, 15, []), .inl (2, 15, []), .inl (2, 15, []), .inl (2, 15, []), .inl (2, 15, []), .inl (2, 15, []), .inl (2, 15, []), .inl (2, 15, []), .inl (2, 15, []), .inl (2, 15, []), .inl (2, 15, []), .inl (2, 14, []), .inr (12, [vI (0), vR 112 0, vI (0), vR 113 0, vR 114 0, vR 115 0, vR 116 0, vR 117 0, vR 118 0, vI (0), vR 119 0, vR 120 0, vR 121 0, vR 122 0, vR 123 0, vR 124 0, vR 125 0, vI (0), vR 126 0, vR 127 0, vR 128 0, vR 129 0, vR 130 0, vR 131 0, vR 132 0, vI (0), vI (0), vR 133 0, vI (0), vI (0), vI (0), vI (0), vI (0), vI (0), vI (0), vI (0), vR 134 0, vR 135 0, vR 136 0, vI (0), vR 137 0, vR 138 0, vR 139 0, vI (0), vR 140 0, vI (0), vR 141 0, vR 142 0, vR 143 0, vI (0), vR 144 0, vR 145 0, vR 146 0, vR 147 0, vI (0), vR 148 0, vR 149 0, vR 150 0, vR 151 0, vR 152 0, vR 153 0, vR 154 0, vR 155 0, vR 156 0, vR 157 0, vR 158 0, vR 159 0, vR 160 0, vR 161 0, vR 162 0, vR 163 0, vR 164 0, vR 165 0, vI (0), vR 166 0, vR 167 0, vR 168 0, vR 169 0, vR 170 0, vR 171 0, vR 172 0, vL (0), vL (0), vI (-4), vR 173 0, vR 174 0, vR 175 0, vR 176 0, vI (0), vI (0)]), .inl (1, 12, []), .inl (1, 20, []), .inl (1, 20, []), .inl (1, 20, []), .inl (1, 20, []), .inl (1, 20, []), .inl (3, 20, []), .inl (1, 6, []), .inl (1, 36, []), .inl (1, 4, [(3, -4), (2, -4), (1, -4), (0, -4)]), .inl (1, 4, []), .inl (1, 96, []), .inl (1, 12, []), .inl (3, 12, []), .inl (1, 8, []), .inl (1, 8, []), .inl (1, 8, []), .inl (3, 8, []), .inl (1, 8, []), .inl (1, 8, []), .inl (1, 8, []), .inl (1, 240, []), .inl (1, 13, []), .inl (1, 13, []), .inl (1, 300, []), .inl (1, 13, []), .inl (1, 13, []), .inl (1, 300, []), .inl (1, 40, []), .inl (1, 9, []), .inl (1, 300, []), .inl (1, 8, []), .inl (1, 9, []), .inl (1, 81, []), .inl (1, 512, []), .inl (1, 512, []), .inl (1, 8, []), .inl (1, 8, []), .inl (1, 8, []), .inl (1, 8, []), .inl (3, 8, []), .inl (3, 8, []), .inl (3, 8, []), .inl (1, 8, []), .inl (1, 8, []), .inl (1, 8, []), .inl (1, 8, []), .inl (1, 8, []), .inl (1, 8, []), .inl (1, 8, []), .inl (1, 12, []), .inl (1, 12, []), .inl (1, 12, []), .inl (3, 8, []), .inl (1, 14, []), .inl (1, 14, []), .inl (1, 14, []), .inl (1, 14, []), .inl (2, 196, []), .inl (2, 14, []), .inl (1, 14, []), .inl (1, 8, []), .inl (3, 8, []), .inl (1, 8, []), .inl (1, 8, [])]
def ixT : List (List Nat) := [[0], [1], [17], [25], [28], [32], [36], [41], [47], [53], [67], [73, 75, 77, 79, 81, 83, 85, 87], [89], [111], [2], [3], [4], [5], [6], [7], [8], [9], [10], [11, 12, 13, 14, 15, 16], [18], [19], [20], [21, 22, 23, 24], [26], [27], [29], [30], [31], [40], [33], [34], [35], [37], [38], [39], [42], [43], [44], [45], [46], [48], [49], [50], [51], [52], [54], [55], [56, 57, 58, 59, 60, 61, 62, 63, 64], [65], [66], [68], [69], [70], [71], [72], [74, 76, 78, 80, 82, 84, 86, 88], [90], [91], [92], [93], [94], [95], [96, 97, 98, 99, 100, 101, 102, 103, 104, 105, 106, 107, 108, 109], [110], [112], [113], [114], [115], [116], [117], [118], [119], [120], [121], [122], [123], [124], [125], [126], [127], [128], [129], [130], [131], [132], [133], [134], [135], [136], [137], [138], [139], [140], [141], [142], [143], [144], [145], [146], [147], [148], [149], [150], [151], [152], [153], [154], [155], [156], [157], [158], [159], [160], [161], [162], [163], [164], [165], [166], [167], [168], [169], [170], [171], [172], [173], [174], [175], [176]]
def ixf (p : Nat) (i : Int) : Nat := (ixT.getD p []).getD i.toNat 0
def deqCE : DecidableEq CE := @instDecidableEqSum _ _ (fun a b => inferInstanceAs (Decidable (a = b))) (fun a b => inferInstanceAs (Decidable (a = b)))
theorem run_A : crun ctb 3000 9 103 0 [vR 0 0] [] [.inr (11, dfl 11)] = some csA := by
  refine @of_decide_eq_true _ (@Option.instDecidableEq (List CE) (@instDecidableEqList CE deqCE) _ _) ?_
  decide +kernel
theorem run_B : crun ctb 3000 9 158 0 [vR 111 0, vU] [] (csA ++ [.inr (12, dfl 12)]) = some csB := by
  refine @of_decide_eq_true _ (@Option.instDecidableEq (List CE) (@instDecidableEqList CE deqCE) _ _) ?_
  decide +kernel
theorem cs_len : csA.length = 111 ∧ csB.length = 177 ∧ slC csA ≤ 100000 ∧ slC csB ≤ 100000 ∧ slC [.inr (11, dfl 11)] ≤ slC csA ∧ slC (csA ++ [.inr (12, dfl 12)]) ≤ slC csB := by decide +kernel
def chkX (p : Nat) (i : Int) : Bool := match csB[ixf p i]? with
  | some (.inr (c, vs)) => Nat.beq (SHt p).1 0 && (Nat.beq (SHt p).2.1 c && (Nat.beq vs.length (nft c) && (List.range (nft c)).all (fun k => match vs[k]? with
    | some (.inl _) => Nat.beq (fkt c k) 0 || Nat.beq (fkt c k) 3
    | some (.inr (.inl _)) => Nat.beq (fkt c k) 1
    | some (.inr (.inr (.inl (n, _)))) => Nat.beq (fkt c k) 2 && Nat.beq n (ixf (rft p k) i) && Nat.blt (rft p k) 134
    | _ => false)))
  | some (.inl (k, n, ov)) => Nat.beq (SHt p).1 k && (Nat.blt 0 k && (Nat.blt k 7 && (Nat.beq (SHt p).2.1 n && (Nat.blt k 4 || (Nat.blt (rft p 0) 134 && (List.range n).all (fun j => match lkC ov j with
    | some z => Nat.beq z.toNat (ixf (rft p 0) (j : Int))
    | none => false))))))
  | none => false
theorem ix_ok : ∀ q ∈ WL, chkX q.1 q.2 = true := by decide +kernel
theorem ix_nd : (WL.map (fun q => ixf q.1 q.2)).Nodup := by decide +kernel
theorem ix_lt : ∀ q ∈ WL, ixf q.1 q.2 < csB.length := by decide +kernel
def cM (e : CE) (j : Int) : Int := match e with
  | .inl (k, _, ov) => if k < 4 then (lkC ov j.toNat).getD 0 else 0
  | .inr (_, vs) => match vs[j.toNat]? with
    | some (.inl x) => x
    | some (.inr (.inl x)) => x
    | _ => 0
def M0 : Mem := fun p i j => if p < 134 ∧ 0 ≤ i ∧ i < spn p then (match csB[ixf p i]? with
  | some e => cM e j
  | none => 0) else 0
def zrB (p : Nat) (e : CE) : Bool := match e with
  | .inl (k, _, ov) => !(Nat.blt k 4) || ov.all (fun q => decide (q.2 = 0))
  | .inr (_, vs) => (List.range vs.length).all (fun k => (Nat.beq p 13 && Nat.beq k 83) || (match vs[k]? with
    | some (.inl x) => decide (x = 0)
    | some (.inr (.inl x)) => decide (x = 0)
    | _ => true))
theorem zr_ok : ∀ q ∈ WL, q.1 = 24 ∨ q.1 = 78 ∨ (match csB[ixf q.1 q.2]? with
  | some e => zrB q.1 e
  | none => true) = true := by decide +kernel
theorem M0_zero (p : Nat) (i j : Int) (h1 : p ≠ 24) (h2 : p ≠ 78) (h3 : ¬ (p = 13 ∧ j = 83)) (hj : 0 ≤ j) : M0 p i j = 0 := by
  unfold M0
  by_cases c : p < 134 ∧ 0 ≤ i ∧ i < spn p
  · rw [if_pos c]
    have q := (zr_ok (p, i) (mem_WL.mpr c)).resolve_left h1 |>.resolve_left h2
    dsimp only at q
    split
    · rename_i e he
      rw [he] at q
      have q : zrB p e = true := q
      rcases e with ⟨k, n, ov⟩ | ⟨c, vs⟩
      · show (if k < 4 then (lkC ov j.toNat).getD 0 else 0) = 0
        split
        · rename_i hk
          have q : (!(Nat.blt k 4) || ov.all (fun q => decide (q.2 = 0))) = true := q
          rw [show Nat.blt k 4 = true from Nat.ble_eq_true_of_le hk] at q
          cases z : lkC ov j.toNat with
          | none => rfl
          | some x =>
            have q : ov.all (fun q => decide (q.2 = 0)) = true := q
            have w := List.all_eq_true.mp q _ (lkC_mem z)
            simpa using w
        · rfl
      · show (match vs[j.toNat]? with
          | some (.inl x) => x
          | some (.inr (.inl x)) => x
          | _ => 0) = 0
        have q : (List.range vs.length).all (fun k => (Nat.beq p 13 && Nat.beq k 83) || (match vs[k]? with
          | some (.inl x) => decide (x = 0)
          | some (.inr (.inl x)) => decide (x = 0)
          | _ => true)) = true := q
        by_cases hl : j.toNat < vs.length
        · have w := List.all_eq_true.mp q j.toNat (List.mem_range.mpr hl)
          rw [Bool.or_eq_true] at w
          rcases w with w | w
          · exfalso
            simp only [Bool.and_eq_true] at w
            have a := Nat.eq_of_beq_eq_true w.1
            have b := Nat.eq_of_beq_eq_true w.2
            exact h3 ⟨a, by omega⟩
          · split at w
            · simpa using w
            · simpa using w
            · rename_i n1 n2
              rfl
        · rw [List.getElem?_eq_none (by omega)]
    · rfl
  · rw [if_neg c]

