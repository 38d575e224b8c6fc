/-! ===== the tables, checked by the kernel, in pieces (by wip/gen/tchk.py) ===== -/
theorem good_code (y : MethodName) (b : ByteArray) (m : Nat) (r : Option FieldType) : goodWord (.code y b m r) = true := rfl
set_option maxRecDepth 20000 in
theorem cw_1 : Jvm.Cond.code (ynt 1) (byt 1) (mxt 1) (rtt 1) ∈ wsA := wsA_in 774 rfl (good_code _ _ _ _)
set_option maxRecDepth 20000 in
theorem cw_2 : Jvm.Cond.code (ynt 2) (byt 2) (mxt 2) (rtt 2) ∈ wsA := wsA_in 762 rfl (good_code _ _ _ _)
set_option maxRecDepth 20000 in
theorem cw_3 : Jvm.Cond.code (ynt 3) (byt 3) (mxt 3) (rtt 3) ∈ wsA := wsA_in 1059 rfl (good_code _ _ _ _)
set_option maxRecDepth 20000 in
theorem cw_4 : Jvm.Cond.code (ynt 4) (byt 4) (mxt 4) (rtt 4) ∈ wsA := wsA_in 1068 rfl (good_code _ _ _ _)
set_option maxRecDepth 20000 in
theorem cw_5 : Jvm.Cond.code (ynt 5) (byt 5) (mxt 5) (rtt 5) ∈ wsA := wsA_in 1072 rfl (good_code _ _ _ _)
set_option maxRecDepth 20000 in
theorem cw_6 : Jvm.Cond.code (ynt 6) (byt 6) (mxt 6) (rtt 6) ∈ wsA := wsA_in 1312 rfl (good_code _ _ _ _)
set_option maxRecDepth 20000 in
theorem cw_7 : Jvm.Cond.code (ynt 7) (byt 7) (mxt 7) (rtt 7) ∈ wsA := wsA_in 1325 rfl (good_code _ _ _ _)
set_option maxRecDepth 20000 in
theorem cw_9 : Jvm.Cond.code (ynt 9) (byt 9) (mxt 9) (rtt 9) ∈ wsA := wsA_in 1226 rfl (good_code _ _ _ _)
set_option maxRecDepth 20000 in
theorem cw_10 : Jvm.Cond.code (ynt 10) (byt 10) (mxt 10) (rtt 10) ∈ wsA := wsA_in 1239 rfl (good_code _ _ _ _)
set_option maxRecDepth 20000 in
theorem cw_11 : Jvm.Cond.code (ynt 11) (byt 11) (mxt 11) (rtt 11) ∈ wsA := wsA_in 1289 rfl (good_code _ _ _ _)
set_option maxRecDepth 20000 in
theorem cw_12 : Jvm.Cond.code (ynt 12) (byt 12) (mxt 12) (rtt 12) ∈ wsA := wsA_in 1235 rfl (good_code _ _ _ _)
set_option maxRecDepth 20000 in
theorem cw_13 : Jvm.Cond.code (ynt 13) (byt 13) (mxt 13) (rtt 13) ∈ wsA := wsA_in 1244 rfl (good_code _ _ _ _)
set_option maxRecDepth 20000 in
theorem cw_14 : Jvm.Cond.code (ynt 14) (byt 14) (mxt 14) (rtt 14) ∈ wsA := wsA_in 1248 rfl (good_code _ _ _ _)
set_option maxRecDepth 20000 in
theorem cw_15 : Jvm.Cond.code (ynt 15) (byt 15) (mxt 15) (rtt 15) ∈ wsA := wsA_in 1252 rfl (good_code _ _ _ _)
set_option maxRecDepth 20000 in
theorem cw_16 : Jvm.Cond.code (ynt 16) (byt 16) (mxt 16) (rtt 16) ∈ wsA := wsA_in 1256 rfl (good_code _ _ _ _)
set_option maxRecDepth 20000 in
theorem cw_17 : Jvm.Cond.code (ynt 17) (byt 17) (mxt 17) (rtt 17) ∈ wsA := wsA_in 1260 rfl (good_code _ _ _ _)
set_option maxRecDepth 20000 in
theorem cw_18 : Jvm.Cond.code (ynt 18) (byt 18) (mxt 18) (rtt 18) ∈ wsA := wsA_in 1280 rfl (good_code _ _ _ _)
set_option maxRecDepth 20000 in
theorem cw_19 : Jvm.Cond.code (ynt 19) (byt 19) (mxt 19) (rtt 19) ∈ wsA := wsA_in 1265 rfl (good_code _ _ _ _)
set_option maxRecDepth 20000 in
theorem cw_20 : Jvm.Cond.code (ynt 20) (byt 20) (mxt 20) (rtt 20) ∈ wsA := wsA_in 1272 rfl (good_code _ _ _ _)
set_option maxRecDepth 20000 in
theorem cw_22 : Jvm.Cond.code (ynt 22) (byt 22) (mxt 22) (rtt 22) ∈ wsA := wsA_in 986 rfl (good_code _ _ _ _)
set_option maxRecDepth 20000 in
theorem cw_23 : Jvm.Cond.code (ynt 23) (byt 23) (mxt 23) (rtt 23) ∈ wsA := wsA_in 1006 rfl (good_code _ _ _ _)
set_option maxRecDepth 20000 in
theorem cw_24 : Jvm.Cond.code (ynt 24) (byt 24) (mxt 24) (rtt 24) ∈ wsA := wsA_in 1014 rfl (good_code _ _ _ _)
set_option maxRecDepth 20000 in
theorem cw_25 : Jvm.Cond.code (ynt 25) (byt 25) (mxt 25) (rtt 25) ∈ wsA := wsA_in 1039 rfl (good_code _ _ _ _)
set_option maxRecDepth 20000 in
theorem cw_26 : Jvm.Cond.code (ynt 26) (byt 26) (mxt 26) (rtt 26) ∈ wsA := wsA_in 1049 rfl (good_code _ _ _ _)
set_option maxRecDepth 20000 in
theorem cw_27 : Jvm.Cond.code (ynt 27) (byt 27) (mxt 27) (rtt 27) ∈ wsA := wsA_in 1018 rfl (good_code _ _ _ _)
set_option maxRecDepth 20000 in
theorem cw_28 : Jvm.Cond.code (ynt 28) (byt 28) (mxt 28) (rtt 28) ∈ wsA := wsA_in 1023 rfl (good_code _ _ _ _)
set_option maxRecDepth 20000 in
theorem cw_30 : Jvm.Cond.code (ynt 30) (byt 30) (mxt 30) (rtt 30) ∈ wsA := wsA_in 1156 rfl (good_code _ _ _ _)
set_option maxRecDepth 20000 in
theorem cw_31 : Jvm.Cond.code (ynt 31) (byt 31) (mxt 31) (rtt 31) ∈ wsA := wsA_in 1144 rfl (good_code _ _ _ _)
set_option maxRecDepth 20000 in
theorem cw_32 : Jvm.Cond.code (ynt 32) (byt 32) (mxt 32) (rtt 32) ∈ wsA := wsA_in 1333 rfl (good_code _ _ _ _)
set_option maxRecDepth 20000 in
theorem cw_33 : Jvm.Cond.code (ynt 33) (byt 33) (mxt 33) (rtt 33) ∈ wsA := wsA_in 1161 rfl (good_code _ _ _ _)
set_option maxRecDepth 20000 in
theorem cw_34 : Jvm.Cond.code (ynt 34) (byt 34) (mxt 34) (rtt 34) ∈ wsA := wsA_in 1169 rfl (good_code _ _ _ _)
set_option maxRecDepth 20000 in
theorem cw_35 : Jvm.Cond.code (ynt 35) (byt 35) (mxt 35) (rtt 35) ∈ wsA := wsA_in 1174 rfl (good_code _ _ _ _)
set_option maxRecDepth 20000 in
theorem cw_36 : Jvm.Cond.code (ynt 36) (byt 36) (mxt 36) (rtt 36) ∈ wsA := wsA_in 1178 rfl (good_code _ _ _ _)
set_option maxRecDepth 20000 in
theorem cw_37 : Jvm.Cond.code (ynt 37) (byt 37) (mxt 37) (rtt 37) ∈ wsA := wsA_in 1182 rfl (good_code _ _ _ _)
set_option maxRecDepth 20000 in
theorem cw_38 : Jvm.Cond.code (ynt 38) (byt 38) (mxt 38) (rtt 38) ∈ wsA := wsA_in 1194 rfl (good_code _ _ _ _)
set_option maxRecDepth 20000 in
theorem cw_39 : Jvm.Cond.code (ynt 39) (byt 39) (mxt 39) (rtt 39) ∈ wsA := wsA_in 1186 rfl (good_code _ _ _ _)
set_option maxRecDepth 20000 in
theorem cw_40 : Jvm.Cond.code (ynt 40) (byt 40) (mxt 40) (rtt 40) ∈ wsA := wsA_in 1198 rfl (good_code _ _ _ _)
set_option maxRecDepth 20000 in
theorem cw_42 : Jvm.Cond.code (ynt 42) (byt 42) (mxt 42) (rtt 42) ∈ wsA := wsA_in 599 rfl (good_code _ _ _ _)
set_option maxRecDepth 20000 in
theorem cw_43 : Jvm.Cond.code (ynt 43) (byt 43) (mxt 43) (rtt 43) ∈ wsA := wsA_in 612 rfl (good_code _ _ _ _)
set_option maxRecDepth 20000 in
theorem cw_44 : Jvm.Cond.code (ynt 44) (byt 44) (mxt 44) (rtt 44) ∈ wsA := wsA_in 628 rfl (good_code _ _ _ _)
set_option maxRecDepth 20000 in
theorem cw_45 : Jvm.Cond.code (ynt 45) (byt 45) (mxt 45) (rtt 45) ∈ wsA := wsA_in 591 rfl (good_code _ _ _ _)
set_option maxRecDepth 20000 in
theorem cw_46 : Jvm.Cond.code (ynt 46) (byt 46) (mxt 46) (rtt 46) ∈ wsA := wsA_in 604 rfl (good_code _ _ _ _)
set_option maxRecDepth 20000 in
theorem cw_47 : Jvm.Cond.code (ynt 47) (byt 47) (mxt 47) (rtt 47) ∈ wsA := wsA_in 620 rfl (good_code _ _ _ _)
set_option maxRecDepth 20000 in
theorem cw_48 : Jvm.Cond.code (ynt 48) (byt 48) (mxt 48) (rtt 48) ∈ wsA := wsA_in 636 rfl (good_code _ _ _ _)
set_option maxRecDepth 20000 in
theorem cw_49 : Jvm.Cond.code (ynt 49) (byt 49) (mxt 49) (rtt 49) ∈ wsA := wsA_in 644 rfl (good_code _ _ _ _)
set_option maxRecDepth 20000 in
theorem cw_50 : Jvm.Cond.code (ynt 50) (byt 50) (mxt 50) (rtt 50) ∈ wsA := wsA_in 632 rfl (good_code _ _ _ _)
set_option maxRecDepth 20000 in
theorem cw_51 : Jvm.Cond.code (ynt 51) (byt 51) (mxt 51) (rtt 51) ∈ wsA := wsA_in 648 rfl (good_code _ _ _ _)
set_option maxRecDepth 20000 in
theorem cw_52 : Jvm.Cond.code (ynt 52) (byt 52) (mxt 52) (rtt 52) ∈ wsA := wsA_in 655 rfl (good_code _ _ _ _)
set_option maxRecDepth 20000 in
theorem cw_53 : Jvm.Cond.code (ynt 53) (byt 53) (mxt 53) (rtt 53) ∈ wsA := wsA_in 659 rfl (good_code _ _ _ _)
set_option maxRecDepth 20000 in
theorem cw_55 : Jvm.Cond.code (ynt 55) (byt 55) (mxt 55) (rtt 55) ∈ wsA := wsA_in 803 rfl (good_code _ _ _ _)
set_option maxRecDepth 20000 in
theorem cw_56 : Jvm.Cond.code (ynt 56) (byt 56) (mxt 56) (rtt 56) ∈ wsA := wsA_in 816 rfl (good_code _ _ _ _)
set_option maxRecDepth 20000 in
theorem cw_57 : Jvm.Cond.code (ynt 57) (byt 57) (mxt 57) (rtt 57) ∈ wsA := wsA_in 820 rfl (good_code _ _ _ _)
set_option maxRecDepth 20000 in
theorem cw_58 : Jvm.Cond.code (ynt 58) (byt 58) (mxt 58) (rtt 58) ∈ wsA := wsA_in 825 rfl (good_code _ _ _ _)
set_option maxRecDepth 20000 in
theorem cw_59 : Jvm.Cond.code (ynt 59) (byt 59) (mxt 59) (rtt 59) ∈ wsA := wsA_in 878 rfl (good_code _ _ _ _)
set_option maxRecDepth 20000 in
theorem cw_60 : Jvm.Cond.code (ynt 60) (byt 60) (mxt 60) (rtt 60) ∈ wsA := wsA_in 882 rfl (good_code _ _ _ _)
set_option maxRecDepth 20000 in
theorem cw_61 : Jvm.Cond.code (ynt 61) (byt 61) (mxt 61) (rtt 61) ∈ wsA := wsA_in 944 rfl (good_code _ _ _ _)
set_option maxRecDepth 20000 in
theorem cw_62 : Jvm.Cond.code (ynt 62) (byt 62) (mxt 62) (rtt 62) ∈ wsA := wsA_in 948 rfl (good_code _ _ _ _)
set_option maxRecDepth 20000 in
theorem cw_63 : Jvm.Cond.code (ynt 63) (byt 63) (mxt 63) (rtt 63) ∈ wsA := wsA_in 952 rfl (good_code _ _ _ _)
set_option maxRecDepth 20000 in
theorem cw_64 : Jvm.Cond.code (ynt 64) (byt 64) (mxt 64) (rtt 64) ∈ wsA := wsA_in 964 rfl (good_code _ _ _ _)
set_option maxRecDepth 20000 in
theorem cw_65 : Jvm.Cond.code (ynt 65) (byt 65) (mxt 65) (rtt 65) ∈ wsA := wsA_in 978 rfl (good_code _ _ _ _)
set_option maxRecDepth 20000 in
theorem cw_66 : Jvm.Cond.code (ynt 66) (byt 66) (mxt 66) (rtt 66) ∈ wsA := wsA_in 968 rfl (good_code _ _ _ _)
set_option maxRecDepth 20000 in
theorem cw_67 : Jvm.Cond.code (ynt 67) (byt 67) (mxt 67) (rtt 67) ∈ wsA := wsA_in 982 rfl (good_code _ _ _ _)
set_option maxRecDepth 20000 in
theorem cw_68 : Jvm.Cond.code (ynt 68) (byt 68) (mxt 68) (rtt 68) ∈ wsA := wsA_in 974 rfl (good_code _ _ _ _)
set_option maxRecDepth 20000 in
theorem cw_69 : Jvm.Cond.code (ynt 69) (byt 69) (mxt 69) (rtt 69) ∈ wsA := wsA_in 956 rfl (good_code _ _ _ _)
set_option maxRecDepth 20000 in
theorem cw_70 : Jvm.Cond.code (ynt 70) (byt 70) (mxt 70) (rtt 70) ∈ wsA := wsA_in 960 rfl (good_code _ _ _ _)
set_option maxRecDepth 20000 in
theorem cw_72 : Jvm.Cond.code (ynt 72) (byt 72) (mxt 72) (rtt 72) ∈ wsA := wsA_in 1165 rfl (good_code _ _ _ _)
set_option maxRecDepth 20000 in
theorem cw_74 : Jvm.Cond.code (ynt 74) (byt 74) (mxt 74) (rtt 74) ∈ wsA := wsA_in 667 rfl (good_code _ _ _ _)
set_option maxRecDepth 20000 in
theorem cw_75 : Jvm.Cond.code (ynt 75) (byt 75) (mxt 75) (rtt 75) ∈ wsA := wsA_in 675 rfl (good_code _ _ _ _)
set_option maxRecDepth 20000 in
theorem cw_76 : Jvm.Cond.code (ynt 76) (byt 76) (mxt 76) (rtt 76) ∈ wsA := wsA_in 691 rfl (good_code _ _ _ _)
set_option maxRecDepth 20000 in
theorem cw_77 : Jvm.Cond.code (ynt 77) (byt 77) (mxt 77) (rtt 77) ∈ wsA := wsA_in 687 rfl (good_code _ _ _ _)
set_option maxRecDepth 20000 in
theorem cw_79 : Jvm.Cond.code (ynt 79) (byt 79) (mxt 79) (rtt 79) ∈ wsA := wsA_in 787 rfl (good_code _ _ _ _)
set_option maxRecDepth 20000 in
theorem cw_80 : Jvm.Cond.code (ynt 80) (byt 80) (mxt 80) (rtt 80) ∈ wsA := wsA_in 783 rfl (good_code _ _ _ _)
set_option maxRecDepth 20000 in
theorem cw_81 : Jvm.Cond.code (ynt 81) (byt 81) (mxt 81) (rtt 81) ∈ wsA := wsA_in 766 rfl (good_code _ _ _ _)
set_option maxRecDepth 20000 in
theorem cw_82 : Jvm.Cond.code (ynt 82) (byt 82) (mxt 82) (rtt 82) ∈ wsA := wsA_in 1304 rfl (good_code _ _ _ _)
set_option maxRecDepth 20000 in
theorem cw_83 : Jvm.Cond.code (ynt 83) (byt 83) (mxt 83) (rtt 83) ∈ wsA := wsA_in 1316 rfl (good_code _ _ _ _)
set_option maxRecDepth 20000 in
theorem cw_85 : Jvm.Cond.code (ynt 85) (byt 85) (mxt 85) (rtt 85) ∈ wsA := wsA_in 1088 rfl (good_code _ _ _ _)
set_option maxRecDepth 20000 in
theorem cw_86 : Jvm.Cond.code (ynt 86) (byt 86) (mxt 86) (rtt 86) ∈ wsA := wsA_in 1080 rfl (good_code _ _ _ _)
set_option maxRecDepth 20000 in
theorem cw_87 : Jvm.Cond.code (ynt 87) (byt 87) (mxt 87) (rtt 87) ∈ wsA := wsA_in 1101 rfl (good_code _ _ _ _)
set_option maxRecDepth 20000 in
theorem cw_88 : Jvm.Cond.code (ynt 88) (byt 88) (mxt 88) (rtt 88) ∈ wsA := wsA_in 1097 rfl (good_code _ _ _ _)
set_option maxRecDepth 20000 in
theorem cw_89 : Jvm.Cond.code (ynt 89) (byt 89) (mxt 89) (rtt 89) ∈ wsA := wsA_in 1106 rfl (good_code _ _ _ _)
set_option maxRecDepth 20000 in
theorem cw_90 : Jvm.Cond.code (ynt 90) (byt 90) (mxt 90) (rtt 90) ∈ wsA := wsA_in 1124 rfl (good_code _ _ _ _)
set_option maxRecDepth 20000 in
theorem cw_91 : Jvm.Cond.code (ynt 91) (byt 91) (mxt 91) (rtt 91) ∈ wsA := wsA_in 1120 rfl (good_code _ _ _ _)
set_option maxRecDepth 20000 in
theorem cw_92 : Jvm.Cond.code (ynt 92) (byt 92) (mxt 92) (rtt 92) ∈ wsA := wsA_in 1116 rfl (good_code _ _ _ _)
set_option maxRecDepth 20000 in
theorem cw_93 : Jvm.Cond.code (ynt 93) (byt 93) (mxt 93) (rtt 93) ∈ wsA := wsA_in 1132 rfl (good_code _ _ _ _)
set_option maxRecDepth 20000 in
theorem cw_94 : Jvm.Cond.code (ynt 94) (byt 94) (mxt 94) (rtt 94) ∈ wsA := wsA_in 1136 rfl (good_code _ _ _ _)
set_option maxRecDepth 20000 in
theorem cw_95 : Jvm.Cond.code (ynt 95) (byt 95) (mxt 95) (rtt 95) ∈ wsA := wsA_in 1128 rfl (good_code _ _ _ _)
set_option maxRecDepth 20000 in
theorem cw_97 : Jvm.Cond.code (ynt 97) (byt 97) (mxt 97) (rtt 97) ∈ wsA := wsA_in 718 rfl (good_code _ _ _ _)
set_option maxRecDepth 20000 in
theorem cw_98 : Jvm.Cond.code (ynt 98) (byt 98) (mxt 98) (rtt 98) ∈ wsA := wsA_in 727 rfl (good_code _ _ _ _)
set_option maxRecDepth 20000 in
theorem cw_99 : Jvm.Cond.code (ynt 99) (byt 99) (mxt 99) (rtt 99) ∈ wsA := wsA_in 736 rfl (good_code _ _ _ _)
set_option maxRecDepth 20000 in
theorem cw_100 : Jvm.Cond.code (ynt 100) (byt 100) (mxt 100) (rtt 100) ∈ wsA := wsA_in 745 rfl (good_code _ _ _ _)
set_option maxRecDepth 20000 in
theorem cw_101 : Jvm.Cond.code (ynt 101) (byt 101) (mxt 101) (rtt 101) ∈ wsA := wsA_in 749 rfl (good_code _ _ _ _)
set_option maxRecDepth 20000 in
theorem cw_102 : Jvm.Cond.code (ynt 102) (byt 102) (mxt 102) (rtt 102) ∈ wsA := wsA_in 753 rfl (good_code _ _ _ _)
set_option maxRecDepth 20000 in
theorem cw_104 : Jvm.Cond.code (ynt 104) (byt 104) (mxt 104) (rtt 104) ∈ wsA := wsA_in 587 rfl (good_code _ _ _ _)
set_option maxRecDepth 20000 in
theorem cw_105 : Jvm.Cond.code (ynt 105) (byt 105) (mxt 105) (rtt 105) ∈ wsA := wsA_in 694 rfl (good_code _ _ _ _)
set_option maxRecDepth 20000 in
theorem cw_106 : Jvm.Cond.code (ynt 106) (byt 106) (mxt 106) (rtt 106) ∈ wsA := wsA_in 711 rfl (good_code _ _ _ _)
set_option maxRecDepth 20000 in
theorem cw_107 : Jvm.Cond.code (ynt 107) (byt 107) (mxt 107) (rtt 107) ∈ wsA := wsA_in 714 rfl (good_code _ _ _ _)
set_option maxRecDepth 20000 in
theorem cw_108 : Jvm.Cond.code (ynt 108) (byt 108) (mxt 108) (rtt 108) ∈ wsA := wsA_in 584 rfl (good_code _ _ _ _)
set_option maxRecDepth 20000 in
theorem cw_109 : Jvm.Cond.code (ynt 109) (byt 109) (mxt 109) (rtt 109) ∈ wsA := wsA_in 595 rfl (good_code _ _ _ _)
set_option maxRecDepth 20000 in
theorem cw_110 : Jvm.Cond.code (ynt 110) (byt 110) (mxt 110) (rtt 110) ∈ wsA := wsA_in 608 rfl (good_code _ _ _ _)
set_option maxRecDepth 20000 in
theorem cw_111 : Jvm.Cond.code (ynt 111) (byt 111) (mxt 111) (rtt 111) ∈ wsA := wsA_in 616 rfl (good_code _ _ _ _)
set_option maxRecDepth 20000 in
theorem cw_112 : Jvm.Cond.code (ynt 112) (byt 112) (mxt 112) (rtt 112) ∈ wsA := wsA_in 624 rfl (good_code _ _ _ _)
set_option maxRecDepth 20000 in
theorem cw_113 : Jvm.Cond.code (ynt 113) (byt 113) (mxt 113) (rtt 113) ∈ wsA := wsA_in 640 rfl (good_code _ _ _ _)
set_option maxRecDepth 20000 in
theorem cw_114 : Jvm.Cond.code (ynt 114) (byt 114) (mxt 114) (rtt 114) ∈ wsA := wsA_in 663 rfl (good_code _ _ _ _)
set_option maxRecDepth 20000 in
theorem cw_115 : Jvm.Cond.code (ynt 115) (byt 115) (mxt 115) (rtt 115) ∈ wsA := wsA_in 671 rfl (good_code _ _ _ _)
set_option maxRecDepth 20000 in
theorem cw_116 : Jvm.Cond.code (ynt 116) (byt 116) (mxt 116) (rtt 116) ∈ wsA := wsA_in 679 rfl (good_code _ _ _ _)
set_option maxRecDepth 20000 in
theorem cw_117 : Jvm.Cond.code (ynt 117) (byt 117) (mxt 117) (rtt 117) ∈ wsA := wsA_in 683 rfl (good_code _ _ _ _)
set_option maxRecDepth 20000 in
theorem cw_118 : Jvm.Cond.code (ynt 118) (byt 118) (mxt 118) (rtt 118) ∈ wsA := wsA_in 703 rfl (good_code _ _ _ _)
set_option maxRecDepth 20000 in
theorem cw_119 : Jvm.Cond.code (ynt 119) (byt 119) (mxt 119) (rtt 119) ∈ wsA := wsA_in 708 rfl (good_code _ _ _ _)
set_option maxRecDepth 20000 in
theorem cw_120 : Jvm.Cond.code (ynt 120) (byt 120) (mxt 120) (rtt 120) ∈ wsA := wsA_in 723 rfl (good_code _ _ _ _)
set_option maxRecDepth 20000 in
theorem cw_121 : Jvm.Cond.code (ynt 121) (byt 121) (mxt 121) (rtt 121) ∈ wsA := wsA_in 732 rfl (good_code _ _ _ _)
set_option maxRecDepth 20000 in
theorem cw_122 : Jvm.Cond.code (ynt 122) (byt 122) (mxt 122) (rtt 122) ∈ wsA := wsA_in 741 rfl (good_code _ _ _ _)
set_option maxRecDepth 20000 in
theorem cw_123 : Jvm.Cond.code (ynt 123) (byt 123) (mxt 123) (rtt 123) ∈ wsA := wsA_in 758 rfl (good_code _ _ _ _)
set_option maxRecDepth 20000 in
theorem cw_124 : Jvm.Cond.code (ynt 124) (byt 124) (mxt 124) (rtt 124) ∈ wsA := wsA_in 770 rfl (good_code _ _ _ _)
set_option maxRecDepth 20000 in
theorem cw_125 : Jvm.Cond.code (ynt 125) (byt 125) (mxt 125) (rtt 125) ∈ wsA := wsA_in 779 rfl (good_code _ _ _ _)
set_option maxRecDepth 20000 in
theorem cw_126 : Jvm.Cond.code (ynt 126) (byt 126) (mxt 126) (rtt 126) ∈ wsA := wsA_in 791 rfl (good_code _ _ _ _)
set_option maxRecDepth 20000 in
theorem cw_127 : Jvm.Cond.code (ynt 127) (byt 127) (mxt 127) (rtt 127) ∈ wsA := wsA_in 795 rfl (good_code _ _ _ _)
set_option maxRecDepth 20000 in
theorem cw_128 : Jvm.Cond.code (ynt 128) (byt 128) (mxt 128) (rtt 128) ∈ wsA := wsA_in 799 rfl (good_code _ _ _ _)
set_option maxRecDepth 20000 in
theorem cw_129 : Jvm.Cond.code (ynt 129) (byt 129) (mxt 129) (rtt 129) ∈ wsA := wsA_in 808 rfl (good_code _ _ _ _)
set_option maxRecDepth 20000 in
theorem cw_130 : Jvm.Cond.code (ynt 130) (byt 130) (mxt 130) (rtt 130) ∈ wsA := wsA_in 812 rfl (good_code _ _ _ _)
set_option maxRecDepth 20000 in
theorem cw_131 : Jvm.Cond.code (ynt 131) (byt 131) (mxt 131) (rtt 131) ∈ wsA := wsA_in 994 rfl (good_code _ _ _ _)
set_option maxRecDepth 20000 in
theorem cw_132 : Jvm.Cond.code (ynt 132) (byt 132) (mxt 132) (rtt 132) ∈ wsA := wsA_in 998 rfl (good_code _ _ _ _)
set_option maxRecDepth 20000 in
theorem cw_133 : Jvm.Cond.code (ynt 133) (byt 133) (mxt 133) (rtt 133) ∈ wsA := wsA_in 1035 rfl (good_code _ _ _ _)
set_option maxRecDepth 20000 in
theorem cw_134 : Jvm.Cond.code (ynt 134) (byt 134) (mxt 134) (rtt 134) ∈ wsA := wsA_in 1045 rfl (good_code _ _ _ _)
set_option maxRecDepth 20000 in
theorem cw_135 : Jvm.Cond.code (ynt 135) (byt 135) (mxt 135) (rtt 135) ∈ wsA := wsA_in 1055 rfl (good_code _ _ _ _)
set_option maxRecDepth 20000 in
theorem cw_136 : Jvm.Cond.code (ynt 136) (byt 136) (mxt 136) (rtt 136) ∈ wsA := wsA_in 1064 rfl (good_code _ _ _ _)
set_option maxRecDepth 20000 in
theorem cw_137 : Jvm.Cond.code (ynt 137) (byt 137) (mxt 137) (rtt 137) ∈ wsA := wsA_in 1002 rfl (good_code _ _ _ _)
set_option maxRecDepth 20000 in
theorem cw_138 : Jvm.Cond.code (ynt 138) (byt 138) (mxt 138) (rtt 138) ∈ wsA := wsA_in 1076 rfl (good_code _ _ _ _)
set_option maxRecDepth 20000 in
theorem cw_139 : Jvm.Cond.code (ynt 139) (byt 139) (mxt 139) (rtt 139) ∈ wsA := wsA_in 1084 rfl (good_code _ _ _ _)
set_option maxRecDepth 20000 in
theorem cw_140 : Jvm.Cond.code (ynt 140) (byt 140) (mxt 140) (rtt 140) ∈ wsA := wsA_in 1093 rfl (good_code _ _ _ _)
set_option maxRecDepth 20000 in
theorem cw_141 : Jvm.Cond.code (ynt 141) (byt 141) (mxt 141) (rtt 141) ∈ wsA := wsA_in 1140 rfl (good_code _ _ _ _)
set_option maxRecDepth 20000 in
theorem cw_142 : Jvm.Cond.code (ynt 142) (byt 142) (mxt 142) (rtt 142) ∈ wsA := wsA_in 1148 rfl (good_code _ _ _ _)
set_option maxRecDepth 20000 in
theorem cw_143 : Jvm.Cond.code (ynt 143) (byt 143) (mxt 143) (rtt 143) ∈ wsA := wsA_in 1152 rfl (good_code _ _ _ _)
set_option maxRecDepth 20000 in
theorem cw_144 : Jvm.Cond.code (ynt 144) (byt 144) (mxt 144) (rtt 144) ∈ wsA := wsA_in 1202 rfl (good_code _ _ _ _)
set_option maxRecDepth 20000 in
theorem cw_145 : Jvm.Cond.code (ynt 145) (byt 145) (mxt 145) (rtt 145) ∈ wsA := wsA_in 1206 rfl (good_code _ _ _ _)
set_option maxRecDepth 20000 in
theorem cw_146 : Jvm.Cond.code (ynt 146) (byt 146) (mxt 146) (rtt 146) ∈ wsA := wsA_in 1210 rfl (good_code _ _ _ _)
set_option maxRecDepth 20000 in
theorem cw_147 : Jvm.Cond.code (ynt 147) (byt 147) (mxt 147) (rtt 147) ∈ wsA := wsA_in 1214 rfl (good_code _ _ _ _)
set_option maxRecDepth 20000 in
theorem cw_148 : Jvm.Cond.code (ynt 148) (byt 148) (mxt 148) (rtt 148) ∈ wsA := wsA_in 1218 rfl (good_code _ _ _ _)
set_option maxRecDepth 20000 in
theorem cw_149 : Jvm.Cond.code (ynt 149) (byt 149) (mxt 149) (rtt 149) ∈ wsA := wsA_in 1222 rfl (good_code _ _ _ _)
set_option maxRecDepth 20000 in
theorem cw_150 : Jvm.Cond.code (ynt 150) (byt 150) (mxt 150) (rtt 150) ∈ wsA := wsA_in 1230 rfl (good_code _ _ _ _)
set_option maxRecDepth 20000 in
theorem cw_151 : Jvm.Cond.code (ynt 151) (byt 151) (mxt 151) (rtt 151) ∈ wsA := wsA_in 1276 rfl (good_code _ _ _ _)
set_option maxRecDepth 20000 in
theorem cw_152 : Jvm.Cond.code (ynt 152) (byt 152) (mxt 152) (rtt 152) ∈ wsA := wsA_in 1284 rfl (good_code _ _ _ _)
set_option maxRecDepth 20000 in
theorem cw_153 : Jvm.Cond.code (ynt 153) (byt 153) (mxt 153) (rtt 153) ∈ wsA := wsA_in 1293 rfl (good_code _ _ _ _)
set_option maxRecDepth 20000 in
theorem cw_154 : Jvm.Cond.code (ynt 154) (byt 154) (mxt 154) (rtt 154) ∈ wsA := wsA_in 1299 rfl (good_code _ _ _ _)
set_option maxRecDepth 20000 in
theorem cw_155 : Jvm.Cond.code (ynt 155) (byt 155) (mxt 155) (rtt 155) ∈ wsA := wsA_in 1308 rfl (good_code _ _ _ _)
set_option maxRecDepth 20000 in
theorem cw_156 : Jvm.Cond.code (ynt 156) (byt 156) (mxt 156) (rtt 156) ∈ wsA := wsA_in 1321 rfl (good_code _ _ _ _)
set_option maxRecDepth 20000 in
theorem cw_157 : Jvm.Cond.code (ynt 157) (byt 157) (mxt 157) (rtt 157) ∈ wsA := wsA_in 1329 rfl (good_code _ _ _ _)
set_option maxRecDepth 20000 in
theorem cw_159 : Jvm.Cond.code (ynt 159) (byt 159) (mxt 159) (rtt 159) ∈ wsA := wsA_in 1618 rfl (good_code _ _ _ _)
set_option maxRecDepth 20000 in
theorem cw_160 : Jvm.Cond.code (ynt 160) (byt 160) (mxt 160) (rtt 160) ∈ wsA := wsA_in 1703 rfl (good_code _ _ _ _)
set_option maxRecDepth 20000 in
theorem cw_161 : Jvm.Cond.code (ynt 161) (byt 161) (mxt 161) (rtt 161) ∈ wsA := wsA_in 1626 rfl (good_code _ _ _ _)
set_option maxRecDepth 20000 in
theorem cw_162 : Jvm.Cond.code (ynt 162) (byt 162) (mxt 162) (rtt 162) ∈ wsA := wsA_in 1636 rfl (good_code _ _ _ _)
set_option maxRecDepth 20000 in
theorem cw_163 : Jvm.Cond.code (ynt 163) (byt 163) (mxt 163) (rtt 163) ∈ wsA := wsA_in 1648 rfl (good_code _ _ _ _)
set_option maxRecDepth 20000 in
theorem cw_164 : Jvm.Cond.code (ynt 164) (byt 164) (mxt 164) (rtt 164) ∈ wsA := wsA_in 1614 rfl (good_code _ _ _ _)
set_option maxRecDepth 20000 in
theorem cw_165 : Jvm.Cond.code (ynt 165) (byt 165) (mxt 165) (rtt 165) ∈ wsA := wsA_in 1622 rfl (good_code _ _ _ _)
set_option maxRecDepth 20000 in
theorem cw_166 : Jvm.Cond.code (ynt 166) (byt 166) (mxt 166) (rtt 166) ∈ wsA := wsA_in 1632 rfl (good_code _ _ _ _)
set_option maxRecDepth 20000 in
theorem cw_167 : Jvm.Cond.code (ynt 167) (byt 167) (mxt 167) (rtt 167) ∈ wsA := wsA_in 1640 rfl (good_code _ _ _ _)
set_option maxRecDepth 20000 in
theorem cw_168 : Jvm.Cond.code (ynt 168) (byt 168) (mxt 168) (rtt 168) ∈ wsA := wsA_in 1656 rfl (good_code _ _ _ _)
set_option maxRecDepth 20000 in
theorem cw_169 : Jvm.Cond.code (ynt 169) (byt 169) (mxt 169) (rtt 169) ∈ wsA := wsA_in 1652 rfl (good_code _ _ _ _)
set_option maxRecDepth 20000 in
theorem cw_170 : Jvm.Cond.code (ynt 170) (byt 170) (mxt 170) (rtt 170) ∈ wsA := wsA_in 1644 rfl (good_code _ _ _ _)
set_option maxRecDepth 20000 in
theorem cw_171 : Jvm.Cond.code (ynt 171) (byt 171) (mxt 171) (rtt 171) ∈ wsA := wsA_in 1665 rfl (good_code _ _ _ _)
set_option maxRecDepth 20000 in
theorem cw_172 : Jvm.Cond.code (ynt 172) (byt 172) (mxt 172) (rtt 172) ∈ wsA := wsA_in 1669 rfl (good_code _ _ _ _)
set_option maxRecDepth 20000 in
theorem cw_173 : Jvm.Cond.code (ynt 173) (byt 173) (mxt 173) (rtt 173) ∈ wsA := wsA_in 1673 rfl (good_code _ _ _ _)
set_option maxRecDepth 20000 in
theorem cw_174 : Jvm.Cond.code (ynt 174) (byt 174) (mxt 174) (rtt 174) ∈ wsA := wsA_in 1660 rfl (good_code _ _ _ _)
set_option maxRecDepth 20000 in
theorem cw_175 : Jvm.Cond.code (ynt 175) (byt 175) (mxt 175) (rtt 175) ∈ wsA := wsA_in 1677 rfl (good_code _ _ _ _)
set_option maxRecDepth 20000 in
theorem cw_176 : Jvm.Cond.code (ynt 176) (byt 176) (mxt 176) (rtt 176) ∈ wsA := wsA_in 1683 rfl (good_code _ _ _ _)
set_option maxRecDepth 20000 in
theorem cw_177 : Jvm.Cond.code (ynt 177) (byt 177) (mxt 177) (rtt 177) ∈ wsA := wsA_in 1687 rfl (good_code _ _ _ _)
set_option maxRecDepth 20000 in
theorem cw_178 : Jvm.Cond.code (ynt 178) (byt 178) (mxt 178) (rtt 178) ∈ wsA := wsA_in 1700 rfl (good_code _ _ _ _)
set_option maxRecDepth 20000 in
theorem cw_179 : Jvm.Cond.code (ynt 179) (byt 179) (mxt 179) (rtt 179) ∈ wsA := wsA_in 1696 rfl (good_code _ _ _ _)
set_option maxRecDepth 20000 in
theorem cw_180 : Jvm.Cond.code (ynt 180) (byt 180) (mxt 180) (rtt 180) ∈ wsA := wsA_in 1691 rfl (good_code _ _ _ _)
set_option maxRecDepth 20000 in
theorem cw_181 : Jvm.Cond.code (ynt 181) (byt 181) (mxt 181) (rtt 181) ∈ wsA := wsA_in 1707 rfl (good_code _ _ _ _)
set_option maxRecDepth 20000 in
theorem cw_182 : Jvm.Cond.code (ynt 182) (byt 182) (mxt 182) (rtt 182) ∈ wsA := wsA_in 1716 rfl (good_code _ _ _ _)
set_option maxRecDepth 20000 in
theorem cw_183 : Jvm.Cond.code (ynt 183) (byt 183) (mxt 183) (rtt 183) ∈ wsA := wsA_in 1711 rfl (good_code _ _ _ _)
set_option maxRecDepth 20000 in
theorem cw_184 : Jvm.Cond.code (ynt 184) (byt 184) (mxt 184) (rtt 184) ∈ wsA := wsA_in 1724 rfl (good_code _ _ _ _)
set_option maxRecDepth 20000 in
theorem cw_185 : Jvm.Cond.code (ynt 185) (byt 185) (mxt 185) (rtt 185) ∈ wsA := wsA_in 1720 rfl (good_code _ _ _ _)
set_option maxRecDepth 20000 in
theorem cw_186 : Jvm.Cond.code (ynt 186) (byt 186) (mxt 186) (rtt 186) ∈ wsA := wsA_in 1728 rfl (good_code _ _ _ _)
set_option maxRecDepth 20000 in
theorem cw_187 : Jvm.Cond.code (ynt 187) (byt 187) (mxt 187) (rtt 187) ∈ wsA := wsA_in 1736 rfl (good_code _ _ _ _)
set_option maxRecDepth 20000 in
theorem cw_188 : Jvm.Cond.code (ynt 188) (byt 188) (mxt 188) (rtt 188) ∈ wsA := wsA_in 1732 rfl (good_code _ _ _ _)
set_option maxRecDepth 20000 in
theorem cw_189 : Jvm.Cond.code (ynt 189) (byt 189) (mxt 189) (rtt 189) ∈ wsA := wsA_in 1749 rfl (good_code _ _ _ _)
set_option maxRecDepth 20000 in
theorem cw_190 : Jvm.Cond.code (ynt 190) (byt 190) (mxt 190) (rtt 190) ∈ wsA := wsA_in 1740 rfl (good_code _ _ _ _)
set_option maxRecDepth 20000 in
theorem cw_191 : Jvm.Cond.code (ynt 191) (byt 191) (mxt 191) (rtt 191) ∈ wsA := wsA_in 1745 rfl (good_code _ _ _ _)
set_option maxRecDepth 20000 in
theorem cw_192 : Jvm.Cond.code (ynt 192) (byt 192) (mxt 192) (rtt 192) ∈ wsA := wsA_in 1758 rfl (good_code _ _ _ _)
set_option maxRecDepth 20000 in
theorem cw_193 : Jvm.Cond.code (ynt 193) (byt 193) (mxt 193) (rtt 193) ∈ wsA := wsA_in 1753 rfl (good_code _ _ _ _)
set_option maxRecDepth 20000 in
theorem cw_194 : Jvm.Cond.code (ynt 194) (byt 194) (mxt 194) (rtt 194) ∈ wsA := wsA_in 1762 rfl (good_code _ _ _ _)
set_option maxRecDepth 20000 in
theorem cw_195 : Jvm.Cond.code (ynt 195) (byt 195) (mxt 195) (rtt 195) ∈ wsA := wsA_in 1766 rfl (good_code _ _ _ _)
set_option maxRecDepth 20000 in
theorem cw_196 : Jvm.Cond.code (ynt 196) (byt 196) (mxt 196) (rtt 196) ∈ wsA := wsA_in 1770 rfl (good_code _ _ _ _)
set_option maxRecDepth 20000 in
theorem cw_197 : Jvm.Cond.code (ynt 197) (byt 197) (mxt 197) (rtt 197) ∈ wsA := wsA_in 1775 rfl (good_code _ _ _ _)
set_option maxRecDepth 20000 in
theorem cw_198 : Jvm.Cond.code (ynt 198) (byt 198) (mxt 198) (rtt 198) ∈ wsA := wsA_in 1809 rfl (good_code _ _ _ _)
set_option maxRecDepth 20000 in
theorem cw_199 : Jvm.Cond.code (ynt 199) (byt 199) (mxt 199) (rtt 199) ∈ wsA := wsA_in 1787 rfl (good_code _ _ _ _)
set_option maxRecDepth 20000 in
theorem cw_200 : Jvm.Cond.code (ynt 200) (byt 200) (mxt 200) (rtt 200) ∈ wsA := wsA_in 1797 rfl (good_code _ _ _ _)
set_option maxRecDepth 20000 in
theorem cw_201 : Jvm.Cond.code (ynt 201) (byt 201) (mxt 201) (rtt 201) ∈ wsA := wsA_in 1805 rfl (good_code _ _ _ _)
set_option maxRecDepth 20000 in
theorem cw_202 : Jvm.Cond.code (ynt 202) (byt 202) (mxt 202) (rtt 202) ∈ wsA := wsA_in 1793 rfl (good_code _ _ _ _)
set_option maxRecDepth 20000 in
theorem cw_203 : Jvm.Cond.code (ynt 203) (byt 203) (mxt 203) (rtt 203) ∈ wsA := wsA_in 1801 rfl (good_code _ _ _ _)
set_option maxRecDepth 20000 in
theorem cw_204 : Jvm.Cond.code (ynt 204) (byt 204) (mxt 204) (rtt 204) ∈ wsA := wsA_in 1783 rfl (good_code _ _ _ _)
set_option maxRecDepth 20000 in
theorem cw_205 : Jvm.Cond.code (ynt 205) (byt 205) (mxt 205) (rtt 205) ∈ wsA := wsA_in 1823 rfl (good_code _ _ _ _)
set_option maxRecDepth 20000 in
theorem cw_206 : Jvm.Cond.code (ynt 206) (byt 206) (mxt 206) (rtt 206) ∈ wsA := wsA_in 1846 rfl (good_code _ _ _ _)
set_option maxRecDepth 20000 in
theorem cw_207 : Jvm.Cond.code (ynt 207) (byt 207) (mxt 207) (rtt 207) ∈ wsA := wsA_in 1827 rfl (good_code _ _ _ _)
set_option maxRecDepth 20000 in
theorem cw_208 : Jvm.Cond.code (ynt 208) (byt 208) (mxt 208) (rtt 208) ∈ wsA := wsA_in 1830 rfl (good_code _ _ _ _)
set_option maxRecDepth 20000 in
theorem cw_209 : Jvm.Cond.code (ynt 209) (byt 209) (mxt 209) (rtt 209) ∈ wsA := wsA_in 1819 rfl (good_code _ _ _ _)
set_option maxRecDepth 20000 in
theorem cw_210 : Jvm.Cond.code (ynt 210) (byt 210) (mxt 210) (rtt 210) ∈ wsA := wsA_in 1834 rfl (good_code _ _ _ _)
set_option maxRecDepth 20000 in
theorem cw_211 : Jvm.Cond.code (ynt 211) (byt 211) (mxt 211) (rtt 211) ∈ wsA := wsA_in 1842 rfl (good_code _ _ _ _)
set_option maxRecDepth 20000 in
theorem cw_212 : Jvm.Cond.code (ynt 212) (byt 212) (mxt 212) (rtt 212) ∈ wsA := wsA_in 1838 rfl (good_code _ _ _ _)
set_option maxRecDepth 20000 in
theorem cw_213 : Jvm.Cond.code (ynt 213) (byt 213) (mxt 213) (rtt 213) ∈ wsA := wsA_in 1815 rfl (good_code _ _ _ _)
set_option maxRecDepth 20000 in
theorem cw_214 : Jvm.Cond.code (ynt 214) (byt 214) (mxt 214) (rtt 214) ∈ wsA := wsA_in 1779 rfl (good_code _ _ _ _)
set_option maxRecDepth 20000 in
theorem cw_215 : Jvm.Cond.code (ynt 215) (byt 215) (mxt 215) (rtt 215) ∈ wsA := wsA_in 1850 rfl (good_code _ _ _ _)
set_option maxRecDepth 20000 in
theorem cw_216 : Jvm.Cond.code (ynt 216) (byt 216) (mxt 216) (rtt 216) ∈ wsA := wsA_in 1862 rfl (good_code _ _ _ _)
set_option maxRecDepth 20000 in
theorem cw_217 : Jvm.Cond.code (ynt 217) (byt 217) (mxt 217) (rtt 217) ∈ wsA := wsA_in 1873 rfl (good_code _ _ _ _)
set_option maxRecDepth 20000 in
theorem cw_218 : Jvm.Cond.code (ynt 218) (byt 218) (mxt 218) (rtt 218) ∈ wsA := wsA_in 1870 rfl (good_code _ _ _ _)
set_option maxRecDepth 20000 in
theorem cw_219 : Jvm.Cond.code (ynt 219) (byt 219) (mxt 219) (rtt 219) ∈ wsA := wsA_in 1858 rfl (good_code _ _ _ _)
set_option maxRecDepth 20000 in
theorem cw_220 : Jvm.Cond.code (ynt 220) (byt 220) (mxt 220) (rtt 220) ∈ wsA := wsA_in 1866 rfl (good_code _ _ _ _)
set_option maxRecDepth 20000 in
theorem cw_221 : Jvm.Cond.code (ynt 221) (byt 221) (mxt 221) (rtt 221) ∈ wsA := wsA_in 1854 rfl (good_code _ _ _ _)
set_option maxRecDepth 20000 in
theorem cw_222 : Jvm.Cond.code (ynt 222) (byt 222) (mxt 222) (rtt 222) ∈ wsA := wsA_in 1883 rfl (good_code _ _ _ _)
set_option maxRecDepth 20000 in
theorem cw_223 : Jvm.Cond.code (ynt 223) (byt 223) (mxt 223) (rtt 223) ∈ wsA := wsA_in 1879 rfl (good_code _ _ _ _)
set_option maxRecDepth 20000 in
theorem cw_224 : Jvm.Cond.code (ynt 224) (byt 224) (mxt 224) (rtt 224) ∈ wsA := wsA_in 1892 rfl (good_code _ _ _ _)
set_option maxRecDepth 20000 in
theorem cw_225 : Jvm.Cond.code (ynt 225) (byt 225) (mxt 225) (rtt 225) ∈ wsA := wsA_in 1888 rfl (good_code _ _ _ _)
set_option maxRecDepth 20000 in
theorem cw_226 : Jvm.Cond.code (ynt 226) (byt 226) (mxt 226) (rtt 226) ∈ wsA := wsA_in 1900 rfl (good_code _ _ _ _)
set_option maxRecDepth 20000 in
theorem cw_227 : Jvm.Cond.code (ynt 227) (byt 227) (mxt 227) (rtt 227) ∈ wsA := wsA_in 1896 rfl (good_code _ _ _ _)
set_option maxRecDepth 20000 in
theorem cw_228 : Jvm.Cond.code (ynt 228) (byt 228) (mxt 228) (rtt 228) ∈ wsA := wsA_in 1904 rfl (good_code _ _ _ _)
set_option maxRecDepth 20000 in
theorem cw_229 : Jvm.Cond.code (ynt 229) (byt 229) (mxt 229) (rtt 229) ∈ wsA := wsA_in 1908 rfl (good_code _ _ _ _)
set_option maxRecDepth 20000 in
theorem cw_230 : Jvm.Cond.code (ynt 230) (byt 230) (mxt 230) (rtt 230) ∈ wsA := wsA_in 1912 rfl (good_code _ _ _ _)
set_option maxRecDepth 20000 in
theorem cw_231 : Jvm.Cond.code (ynt 231) (byt 231) (mxt 231) (rtt 231) ∈ wsA := wsA_in 1930 rfl (good_code _ _ _ _)
set_option maxRecDepth 20000 in
theorem cw_232 : Jvm.Cond.code (ynt 232) (byt 232) (mxt 232) (rtt 232) ∈ wsA := wsA_in 1927 rfl (good_code _ _ _ _)
set_option maxRecDepth 20000 in
theorem cw_233 : Jvm.Cond.code (ynt 233) (byt 233) (mxt 233) (rtt 233) ∈ wsA := wsA_in 1922 rfl (good_code _ _ _ _)
set_option maxRecDepth 20000 in
theorem cw_234 : Jvm.Cond.code (ynt 234) (byt 234) (mxt 234) (rtt 234) ∈ wsA := wsA_in 1917 rfl (good_code _ _ _ _)
set_option maxRecDepth 20000 in
theorem cw_235 : Jvm.Cond.code (ynt 235) (byt 235) (mxt 235) (rtt 235) ∈ wsA := wsA_in 1934 rfl (good_code _ _ _ _)
set_option maxRecDepth 20000 in
theorem cw_236 : Jvm.Cond.code (ynt 236) (byt 236) (mxt 236) (rtt 236) ∈ wsA := wsA_in 1938 rfl (good_code _ _ _ _)
set_option maxRecDepth 20000 in
theorem cw_237 : Jvm.Cond.code (ynt 237) (byt 237) (mxt 237) (rtt 237) ∈ wsA := wsA_in 1954 rfl (good_code _ _ _ _)
set_option maxRecDepth 20000 in
theorem cw_238 : Jvm.Cond.code (ynt 238) (byt 238) (mxt 238) (rtt 238) ∈ wsA := wsA_in 1962 rfl (good_code _ _ _ _)
set_option maxRecDepth 20000 in
theorem cw_239 : Jvm.Cond.code (ynt 239) (byt 239) (mxt 239) (rtt 239) ∈ wsA := wsA_in 1970 rfl (good_code _ _ _ _)
set_option maxRecDepth 20000 in
theorem cw_240 : Jvm.Cond.code (ynt 240) (byt 240) (mxt 240) (rtt 240) ∈ wsA := wsA_in 1966 rfl (good_code _ _ _ _)
set_option maxRecDepth 20000 in
theorem cw_241 : Jvm.Cond.code (ynt 241) (byt 241) (mxt 241) (rtt 241) ∈ wsA := wsA_in 1958 rfl (good_code _ _ _ _)
set_option maxRecDepth 20000 in
theorem cw_242 : Jvm.Cond.code (ynt 242) (byt 242) (mxt 242) (rtt 242) ∈ wsA := wsA_in 1950 rfl (good_code _ _ _ _)
set_option maxRecDepth 20000 in
theorem cw_243 : Jvm.Cond.code (ynt 243) (byt 243) (mxt 243) (rtt 243) ∈ wsA := wsA_in 1946 rfl (good_code _ _ _ _)
set_option maxRecDepth 20000 in
theorem cw_244 : Jvm.Cond.code (ynt 244) (byt 244) (mxt 244) (rtt 244) ∈ wsA := wsA_in 1942 rfl (good_code _ _ _ _)
set_option maxRecDepth 20000 in
theorem cw_245 : Jvm.Cond.code (ynt 245) (byt 245) (mxt 245) (rtt 245) ∈ wsA := wsA_in 1974 rfl (good_code _ _ _ _)
set_option maxRecDepth 20000 in
theorem cw_246 : Jvm.Cond.code (ynt 246) (byt 246) (mxt 246) (rtt 246) ∈ wsA := wsA_in 1982 rfl (good_code _ _ _ _)
set_option maxRecDepth 20000 in
theorem cw_247 : Jvm.Cond.code (ynt 247) (byt 247) (mxt 247) (rtt 247) ∈ wsA := wsA_in 1978 rfl (good_code _ _ _ _)
set_option maxRecDepth 20000 in
theorem cw_248 : Jvm.Cond.code (ynt 248) (byt 248) (mxt 248) (rtt 248) ∈ wsA := wsA_in 1986 rfl (good_code _ _ _ _)
set_option maxRecDepth 20000 in
theorem cw_249 : Jvm.Cond.code (ynt 249) (byt 249) (mxt 249) (rtt 249) ∈ wsA := wsA_in 1991 rfl (good_code _ _ _ _)
set_option maxRecDepth 20000 in
theorem cw_250 : Jvm.Cond.code (ynt 250) (byt 250) (mxt 250) (rtt 250) ∈ wsA := wsA_in 2000 rfl (good_code _ _ _ _)
set_option maxRecDepth 20000 in
theorem cw_251 : Jvm.Cond.code (ynt 251) (byt 251) (mxt 251) (rtt 251) ∈ wsA := wsA_in 2009 rfl (good_code _ _ _ _)
set_option maxRecDepth 20000 in
theorem cw_252 : Jvm.Cond.code (ynt 252) (byt 252) (mxt 252) (rtt 252) ∈ wsA := wsA_in 2013 rfl (good_code _ _ _ _)
set_option maxRecDepth 20000 in
theorem cw_253 : Jvm.Cond.code (ynt 253) (byt 253) (mxt 253) (rtt 253) ∈ wsA := wsA_in 2017 rfl (good_code _ _ _ _)
set_option maxRecDepth 20000 in
theorem cw_254 : Jvm.Cond.code (ynt 254) (byt 254) (mxt 254) (rtt 254) ∈ wsA := wsA_in 2005 rfl (good_code _ _ _ _)
set_option maxRecDepth 20000 in
theorem cw_255 : Jvm.Cond.code (ynt 255) (byt 255) (mxt 255) (rtt 255) ∈ wsA := wsA_in 1995 rfl (good_code _ _ _ _)
set_option maxRecDepth 20000 in
theorem cw_256 : Jvm.Cond.code (ynt 256) (byt 256) (mxt 256) (rtt 256) ∈ wsA := wsA_in 2021 rfl (good_code _ _ _ _)
set_option maxRecDepth 20000 in
theorem cw_257 : Jvm.Cond.code (ynt 257) (byt 257) (mxt 257) (rtt 257) ∈ wsA := wsA_in 2025 rfl (good_code _ _ _ _)
set_option maxRecDepth 20000 in
theorem cw_258 : Jvm.Cond.code (ynt 258) (byt 258) (mxt 258) (rtt 258) ∈ wsA := wsA_in 2029 rfl (good_code _ _ _ _)
set_option maxRecDepth 20000 in
theorem cw_259 : Jvm.Cond.code (ynt 259) (byt 259) (mxt 259) (rtt 259) ∈ wsA := wsA_in 2035 rfl (good_code _ _ _ _)
set_option maxRecDepth 20000 in
theorem cw_260 : Jvm.Cond.code (ynt 260) (byt 260) (mxt 260) (rtt 260) ∈ wsA := wsA_in 2039 rfl (good_code _ _ _ _)
set_option maxRecDepth 20000 in
theorem cw_261 : Jvm.Cond.code (ynt 261) (byt 261) (mxt 261) (rtt 261) ∈ wsA := wsA_in 2043 rfl (good_code _ _ _ _)
set_option maxRecDepth 20000 in
theorem cw_262 : Jvm.Cond.code (ynt 262) (byt 262) (mxt 262) (rtt 262) ∈ wsA := wsA_in 2047 rfl (good_code _ _ _ _)
set_option maxRecDepth 20000 in
theorem cw_263 : Jvm.Cond.code (ynt 263) (byt 263) (mxt 263) (rtt 263) ∈ wsA := wsA_in 830 rfl (good_code _ _ _ _)
set_option maxRecDepth 20000 in
theorem cw_264 : Jvm.Cond.code (ynt 264) (byt 264) (mxt 264) (rtt 264) ∈ wsA := wsA_in 840 rfl (good_code _ _ _ _)
set_option maxRecDepth 20000 in
theorem cw_265 : Jvm.Cond.code (ynt 265) (byt 265) (mxt 265) (rtt 265) ∈ wsA := wsA_in 889 rfl (good_code _ _ _ _)
set_option maxRecDepth 20000 in
theorem cw_266 : Jvm.Cond.code (ynt 266) (byt 266) (mxt 266) (rtt 266) ∈ wsA := wsA_in 893 rfl (good_code _ _ _ _)
set_option maxRecDepth 20000 in
theorem cw_267 : Jvm.Cond.code (ynt 267) (byt 267) (mxt 267) (rtt 267) ∈ wsA := wsA_in 834 rfl (good_code _ _ _ _)
set_option maxRecDepth 20000 in
theorem cw_268 : Jvm.Cond.code (ynt 268) (byt 268) (mxt 268) (rtt 268) ∈ wsA := wsA_in 844 rfl (good_code _ _ _ _)
set_option maxRecDepth 20000 in
theorem cw_269 : Jvm.Cond.code (ynt 269) (byt 269) (mxt 269) (rtt 269) ∈ wsA := wsA_in 850 rfl (good_code _ _ _ _)
set_option maxRecDepth 20000 in
theorem cw_271 : Jvm.Cond.code (ynt 271) (byt 271) (mxt 271) (rtt 271) ∈ wsA := wsA_in 847 rfl (good_code _ _ _ _)
set_option maxRecDepth 20000 in
theorem cw_272 : Jvm.Cond.code (ynt 272) (byt 272) (mxt 272) (rtt 272) ∈ wsA := wsA_in 900 rfl (good_code _ _ _ _)
set_option maxRecDepth 20000 in
theorem cw_273 : Jvm.Cond.code (ynt 273) (byt 273) (mxt 273) (rtt 273) ∈ wsA := wsA_in 897 rfl (good_code _ _ _ _)
set_option maxRecDepth 20000 in
theorem cw_274 : Jvm.Cond.code (ynt 274) (byt 274) (mxt 274) (rtt 274) ∈ wsA := wsA_in 905 rfl (good_code _ _ _ _)
set_option maxRecDepth 20000 in
theorem cw_284 : Jvm.Cond.code (ynt 284) (byt 284) (mxt 284) (rtt 284) ∈ wsA := wsA_in 855 rfl (good_code _ _ _ _)
set_option maxRecDepth 20000 in
theorem cw_286 : Jvm.Cond.code (ynt 286) (byt 286) (mxt 286) (rtt 286) ∈ wsA := wsA_in 1109 rfl (good_code _ _ _ _)
def cwl_0 : List Nat := [1, 2, 3, 4, 5, 6, 7, 9, 10, 11, 12, 13, 14, 15, 16, 17]
theorem cwa_0 : ∀ y ∈ cwl_0, Jvm.Cond.code (ynt y) (byt y) (mxt y) (rtt y) ∈ wsA := List.forall_mem_cons.mpr ⟨cw_1, List.forall_mem_cons.mpr ⟨cw_2, List.forall_mem_cons.mpr ⟨cw_3, List.forall_mem_cons.mpr ⟨cw_4, List.forall_mem_cons.mpr ⟨cw_5, List.forall_mem_cons.mpr ⟨cw_6, List.forall_mem_cons.mpr ⟨cw_7, List.forall_mem_cons.mpr ⟨cw_9, List.forall_mem_cons.mpr ⟨cw_10, List.forall_mem_cons.mpr ⟨cw_11, List.forall_mem_cons.mpr ⟨cw_12, List.forall_mem_cons.mpr ⟨cw_13, List.forall_mem_cons.mpr ⟨cw_14, List.forall_mem_cons.mpr ⟨cw_15, List.forall_mem_cons.mpr ⟨cw_16, List.forall_mem_cons.mpr ⟨cw_17, fun _ h => absurd h List.not_mem_nil⟩⟩⟩⟩⟩⟩⟩⟩⟩⟩⟩⟩⟩⟩⟩⟩
def cwl_1 : List Nat := [18, 19, 20, 22, 23, 24, 25, 26, 27, 28, 30, 31, 32, 33, 34, 35]
theorem cwa_1 : ∀ y ∈ cwl_1, Jvm.Cond.code (ynt y) (byt y) (mxt y) (rtt y) ∈ wsA := List.forall_mem_cons.mpr ⟨cw_18, List.forall_mem_cons.mpr ⟨cw_19, List.forall_mem_cons.mpr ⟨cw_20, List.forall_mem_cons.mpr ⟨cw_22, List.forall_mem_cons.mpr ⟨cw_23, List.forall_mem_cons.mpr ⟨cw_24, List.forall_mem_cons.mpr ⟨cw_25, List.forall_mem_cons.mpr ⟨cw_26, List.forall_mem_cons.mpr ⟨cw_27, List.forall_mem_cons.mpr ⟨cw_28, List.forall_mem_cons.mpr ⟨cw_30, List.forall_mem_cons.mpr ⟨cw_31, List.forall_mem_cons.mpr ⟨cw_32, List.forall_mem_cons.mpr ⟨cw_33, List.forall_mem_cons.mpr ⟨cw_34, List.forall_mem_cons.mpr ⟨cw_35, fun _ h => absurd h List.not_mem_nil⟩⟩⟩⟩⟩⟩⟩⟩⟩⟩⟩⟩⟩⟩⟩⟩
def cwl_2 : List Nat := [36, 37, 38, 39, 40, 42, 43, 44, 45, 46, 47, 48, 49, 50, 51, 52]
theorem cwa_2 : ∀ y ∈ cwl_2, Jvm.Cond.code (ynt y) (byt y) (mxt y) (rtt y) ∈ wsA := List.forall_mem_cons.mpr ⟨cw_36, List.forall_mem_cons.mpr ⟨cw_37, List.forall_mem_cons.mpr ⟨cw_38, List.forall_mem_cons.mpr ⟨cw_39, List.forall_mem_cons.mpr ⟨cw_40, List.forall_mem_cons.mpr ⟨cw_42, List.forall_mem_cons.mpr ⟨cw_43, List.forall_mem_cons.mpr ⟨cw_44, List.forall_mem_cons.mpr ⟨cw_45, List.forall_mem_cons.mpr ⟨cw_46, List.forall_mem_cons.mpr ⟨cw_47, List.forall_mem_cons.mpr ⟨cw_48, List.forall_mem_cons.mpr ⟨cw_49, List.forall_mem_cons.mpr ⟨cw_50, List.forall_mem_cons.mpr ⟨cw_51, List.forall_mem_cons.mpr ⟨cw_52, fun _ h => absurd h List.not_mem_nil⟩⟩⟩⟩⟩⟩⟩⟩⟩⟩⟩⟩⟩⟩⟩⟩
def cwl_3 : List Nat := [53, 55, 56, 57, 58, 59, 60, 61, 62, 63, 64, 65, 66, 67, 68, 69]
theorem cwa_3 : ∀ y ∈ cwl_3, Jvm.Cond.code (ynt y) (byt y) (mxt y) (rtt y) ∈ wsA := List.forall_mem_cons.mpr ⟨cw_53, List.forall_mem_cons.mpr ⟨cw_55, List.forall_mem_cons.mpr ⟨cw_56, List.forall_mem_cons.mpr ⟨cw_57, List.forall_mem_cons.mpr ⟨cw_58, List.forall_mem_cons.mpr ⟨cw_59, List.forall_mem_cons.mpr ⟨cw_60, List.forall_mem_cons.mpr ⟨cw_61, List.forall_mem_cons.mpr ⟨cw_62, List.forall_mem_cons.mpr ⟨cw_63, List.forall_mem_cons.mpr ⟨cw_64, List.forall_mem_cons.mpr ⟨cw_65, List.forall_mem_cons.mpr ⟨cw_66, List.forall_mem_cons.mpr ⟨cw_67, List.forall_mem_cons.mpr ⟨cw_68, List.forall_mem_cons.mpr ⟨cw_69, fun _ h => absurd h List.not_mem_nil⟩⟩⟩⟩⟩⟩⟩⟩⟩⟩⟩⟩⟩⟩⟩⟩
def cwl_4 : List Nat := [70, 72, 74, 75, 76, 77, 79, 80, 81, 82, 83, 85, 86, 87, 88, 89]
theorem cwa_4 : ∀ y ∈ cwl_4, Jvm.Cond.code (ynt y) (byt y) (mxt y) (rtt y) ∈ wsA := List.forall_mem_cons.mpr ⟨cw_70, List.forall_mem_cons.mpr ⟨cw_72, List.forall_mem_cons.mpr ⟨cw_74, List.forall_mem_cons.mpr ⟨cw_75, List.forall_mem_cons.mpr ⟨cw_76, List.forall_mem_cons.mpr ⟨cw_77, List.forall_mem_cons.mpr ⟨cw_79, List.forall_mem_cons.mpr ⟨cw_80, List.forall_mem_cons.mpr ⟨cw_81, List.forall_mem_cons.mpr ⟨cw_82, List.forall_mem_cons.mpr ⟨cw_83, List.forall_mem_cons.mpr ⟨cw_85, List.forall_mem_cons.mpr ⟨cw_86, List.forall_mem_cons.mpr ⟨cw_87, List.forall_mem_cons.mpr ⟨cw_88, List.forall_mem_cons.mpr ⟨cw_89, fun _ h => absurd h List.not_mem_nil⟩⟩⟩⟩⟩⟩⟩⟩⟩⟩⟩⟩⟩⟩⟩⟩
def cwl_5 : List Nat := [90, 91, 92, 93, 94, 95, 97, 98, 99, 100, 101, 102, 104, 105, 106, 107]
theorem cwa_5 : ∀ y ∈ cwl_5, Jvm.Cond.code (ynt y) (byt y) (mxt y) (rtt y) ∈ wsA := List.forall_mem_cons.mpr ⟨cw_90, List.forall_mem_cons.mpr ⟨cw_91, List.forall_mem_cons.mpr ⟨cw_92, List.forall_mem_cons.mpr ⟨cw_93, List.forall_mem_cons.mpr ⟨cw_94, List.forall_mem_cons.mpr ⟨cw_95, List.forall_mem_cons.mpr ⟨cw_97, List.forall_mem_cons.mpr ⟨cw_98, List.forall_mem_cons.mpr ⟨cw_99, List.forall_mem_cons.mpr ⟨cw_100, List.forall_mem_cons.mpr ⟨cw_101, List.forall_mem_cons.mpr ⟨cw_102, List.forall_mem_cons.mpr ⟨cw_104, List.forall_mem_cons.mpr ⟨cw_105, List.forall_mem_cons.mpr ⟨cw_106, List.forall_mem_cons.mpr ⟨cw_107, fun _ h => absurd h List.not_mem_nil⟩⟩⟩⟩⟩⟩⟩⟩⟩⟩⟩⟩⟩⟩⟩⟩
def cwl_6 : List Nat := [108, 109, 110, 111, 112, 113, 114, 115, 116, 117, 118, 119, 120, 121, 122, 123]
theorem cwa_6 : ∀ y ∈ cwl_6, Jvm.Cond.code (ynt y) (byt y) (mxt y) (rtt y) ∈ wsA := List.forall_mem_cons.mpr ⟨cw_108, List.forall_mem_cons.mpr ⟨cw_109, List.forall_mem_cons.mpr ⟨cw_110, List.forall_mem_cons.mpr ⟨cw_111, List.forall_mem_cons.mpr ⟨cw_112, List.forall_mem_cons.mpr ⟨cw_113, List.forall_mem_cons.mpr ⟨cw_114, List.forall_mem_cons.mpr ⟨cw_115, List.forall_mem_cons.mpr ⟨cw_116, List.forall_mem_cons.mpr ⟨cw_117, List.forall_mem_cons.mpr ⟨cw_118, List.forall_mem_cons.mpr ⟨cw_119, List.forall_mem_cons.mpr ⟨cw_120, List.forall_mem_cons.mpr ⟨cw_121, List.forall_mem_cons.mpr ⟨cw_122, List.forall_mem_cons.mpr ⟨cw_123, fun _ h => absurd h List.not_mem_nil⟩⟩⟩⟩⟩⟩⟩⟩⟩⟩⟩⟩⟩⟩⟩⟩
def cwl_7 : List Nat := [124, 125, 126, 127, 128, 129, 130, 131, 132, 133, 134, 135, 136, 137, 138, 139]
theorem cwa_7 : ∀ y ∈ cwl_7, Jvm.Cond.code (ynt y) (byt y) (mxt y) (rtt y) ∈ wsA := List.forall_mem_cons.mpr ⟨cw_124, List.forall_mem_cons.mpr ⟨cw_125, List.forall_mem_cons.mpr ⟨cw_126, List.forall_mem_cons.mpr ⟨cw_127, List.forall_mem_cons.mpr ⟨cw_128, List.forall_mem_cons.mpr ⟨cw_129, List.forall_mem_cons.mpr ⟨cw_130, List.forall_mem_cons.mpr ⟨cw_131, List.forall_mem_cons.mpr ⟨cw_132, List.forall_mem_cons.mpr ⟨cw_133, List.forall_mem_cons.mpr ⟨cw_134, List.forall_mem_cons.mpr ⟨cw_135, List.forall_mem_cons.mpr ⟨cw_136, List.forall_mem_cons.mpr ⟨cw_137, List.forall_mem_cons.mpr ⟨cw_138, List.forall_mem_cons.mpr ⟨cw_139, fun _ h => absurd h List.not_mem_nil⟩⟩⟩⟩⟩⟩⟩⟩⟩⟩⟩⟩⟩⟩⟩⟩
def cwl_8 : List Nat := [140, 141, 142, 143, 144, 145, 146, 147, 148, 149, 150, 151, 152, 153, 154, 155]
theorem cwa_8 : ∀ y ∈ cwl_8, Jvm.Cond.code (ynt y) (byt y) (mxt y) (rtt y) ∈ wsA := List.forall_mem_cons.mpr ⟨cw_140, List.forall_mem_cons.mpr ⟨cw_141, List.forall_mem_cons.mpr ⟨cw_142, List.forall_mem_cons.mpr ⟨cw_143, List.forall_mem_cons.mpr ⟨cw_144, List.forall_mem_cons.mpr ⟨cw_145, List.forall_mem_cons.mpr ⟨cw_146, List.forall_mem_cons.mpr ⟨cw_147, List.forall_mem_cons.mpr ⟨cw_148, List.forall_mem_cons.mpr ⟨cw_149, List.forall_mem_cons.mpr ⟨cw_150, List.forall_mem_cons.mpr ⟨cw_151, List.forall_mem_cons.mpr ⟨cw_152, List.forall_mem_cons.mpr ⟨cw_153, List.forall_mem_cons.mpr ⟨cw_154, List.forall_mem_cons.mpr ⟨cw_155, fun _ h => absurd h List.not_mem_nil⟩⟩⟩⟩⟩⟩⟩⟩⟩⟩⟩⟩⟩⟩⟩⟩
def cwl_9 : List Nat := [156, 157, 159, 160, 161, 162, 163, 164, 165, 166, 167, 168, 169, 170, 171, 172]
theorem cwa_9 : ∀ y ∈ cwl_9, Jvm.Cond.code (ynt y) (byt y) (mxt y) (rtt y) ∈ wsA := List.forall_mem_cons.mpr ⟨cw_156, List.forall_mem_cons.mpr ⟨cw_157, List.forall_mem_cons.mpr ⟨cw_159, List.forall_mem_cons.mpr ⟨cw_160, List.forall_mem_cons.mpr ⟨cw_161, List.forall_mem_cons.mpr ⟨cw_162, List.forall_mem_cons.mpr ⟨cw_163, List.forall_mem_cons.mpr ⟨cw_164, List.forall_mem_cons.mpr ⟨cw_165, List.forall_mem_cons.mpr ⟨cw_166, List.forall_mem_cons.mpr ⟨cw_167, List.forall_mem_cons.mpr ⟨cw_168, List.forall_mem_cons.mpr ⟨cw_169, List.forall_mem_cons.mpr ⟨cw_170, List.forall_mem_cons.mpr ⟨cw_171, List.forall_mem_cons.mpr ⟨cw_172, fun _ h => absurd h List.not_mem_nil⟩⟩⟩⟩⟩⟩⟩⟩⟩⟩⟩⟩⟩⟩⟩⟩
def cwl_10 : List Nat := [173, 174, 175, 176, 177, 178, 179, 180, 181, 182, 183, 184, 185, 186, 187, 188]
theorem cwa_10 : ∀ y ∈ cwl_10, Jvm.Cond.code (ynt y) (byt y) (mxt y) (rtt y) ∈ wsA := List.forall_mem_cons.mpr ⟨cw_173, List.forall_mem_cons.mpr ⟨cw_174, List.forall_mem_cons.mpr ⟨cw_175, List.forall_mem_cons.mpr ⟨cw_176, List.forall_mem_cons.mpr ⟨cw_177, List.forall_mem_cons.mpr ⟨cw_178, List.forall_mem_cons.mpr ⟨cw_179, List.forall_mem_cons.mpr ⟨cw_180, List.forall_mem_cons.mpr ⟨cw_181, List.forall_mem_cons.mpr ⟨cw_182, List.forall_mem_cons.mpr ⟨cw_183, List.forall_mem_cons.mpr ⟨cw_184, List.forall_mem_cons.mpr ⟨cw_185, List.forall_mem_cons.mpr ⟨cw_186, List.forall_mem_cons.mpr ⟨cw_187, List.forall_mem_cons.mpr ⟨cw_188, fun _ h => absurd h List.not_mem_nil⟩⟩⟩⟩⟩⟩⟩⟩⟩⟩⟩⟩⟩⟩⟩⟩
def cwl_11 : List Nat := [189, 190, 191, 192, 193, 194, 195, 196, 197, 198, 199, 200, 201, 202, 203, 204]
theorem cwa_11 : ∀ y ∈ cwl_11, Jvm.Cond.code (ynt y) (byt y) (mxt y) (rtt y) ∈ wsA := List.forall_mem_cons.mpr ⟨cw_189, List.forall_mem_cons.mpr ⟨cw_190, List.forall_mem_cons.mpr ⟨cw_191, List.forall_mem_cons.mpr ⟨cw_192, List.forall_mem_cons.mpr ⟨cw_193, List.forall_mem_cons.mpr ⟨cw_194, List.forall_mem_cons.mpr ⟨cw_195, List.forall_mem_cons.mpr ⟨cw_196, List.forall_mem_cons.mpr ⟨cw_197, List.forall_mem_cons.mpr ⟨cw_198, List.forall_mem_cons.mpr ⟨cw_199, List.forall_mem_cons.mpr ⟨cw_200, List.forall_mem_cons.mpr ⟨cw_201, List.forall_mem_cons.mpr ⟨cw_202, List.forall_mem_cons.mpr ⟨cw_203, List.forall_mem_cons.mpr ⟨cw_204, fun _ h => absurd h List.not_mem_nil⟩⟩⟩⟩⟩⟩⟩⟩⟩⟩⟩⟩⟩⟩⟩⟩
def cwl_12 : List Nat := [205, 206, 207, 208, 209, 210, 211, 212, 213, 214, 215, 216, 217, 218, 219, 220]
theorem cwa_12 : ∀ y ∈ cwl_12, Jvm.Cond.code (ynt y) (byt y) (mxt y) (rtt y) ∈ wsA := List.forall_mem_cons.mpr ⟨cw_205, List.forall_mem_cons.mpr ⟨cw_206, List.forall_mem_cons.mpr ⟨cw_207, List.forall_mem_cons.mpr ⟨cw_208, List.forall_mem_cons.mpr ⟨cw_209, List.forall_mem_cons.mpr ⟨cw_210, List.forall_mem_cons.mpr ⟨cw_211, List.forall_mem_cons.mpr ⟨cw_212, List.forall_mem_cons.mpr ⟨cw_213, List.forall_mem_cons.mpr ⟨cw_214, List.forall_mem_cons.mpr ⟨cw_215, List.forall_mem_cons.mpr ⟨cw_216, List.forall_mem_cons.mpr ⟨cw_217, List.forall_mem_cons.mpr ⟨cw_218, List.forall_mem_cons.mpr ⟨cw_219, List.forall_mem_cons.mpr ⟨cw_220, fun _ h => absurd h List.not_mem_nil⟩⟩⟩⟩⟩⟩⟩⟩⟩⟩⟩⟩⟩⟩⟩⟩
def cwl_13 : List Nat := [221, 222, 223, 224, 225, 226, 227, 228, 229, 230, 231, 232, 233, 234, 235, 236]
theorem cwa_13 : ∀ y ∈ cwl_13, Jvm.Cond.code (ynt y) (byt y) (mxt y) (rtt y) ∈ wsA := List.forall_mem_cons.mpr ⟨cw_221, List.forall_mem_cons.mpr ⟨cw_222, List.forall_mem_cons.mpr ⟨cw_223, List.forall_mem_cons.mpr ⟨cw_224, List.forall_mem_cons.mpr ⟨cw_225, List.forall_mem_cons.mpr ⟨cw_226, List.forall_mem_cons.mpr ⟨cw_227, List.forall_mem_cons.mpr ⟨cw_228, List.forall_mem_cons.mpr ⟨cw_229, List.forall_mem_cons.mpr ⟨cw_230, List.forall_mem_cons.mpr ⟨cw_231, List.forall_mem_cons.mpr ⟨cw_232, List.forall_mem_cons.mpr ⟨cw_233, List.forall_mem_cons.mpr ⟨cw_234, List.forall_mem_cons.mpr ⟨cw_235, List.forall_mem_cons.mpr ⟨cw_236, fun _ h => absurd h List.not_mem_nil⟩⟩⟩⟩⟩⟩⟩⟩⟩⟩⟩⟩⟩⟩⟩⟩
def cwl_14 : List Nat := [237, 238, 239, 240, 241, 242, 243, 244, 245, 246, 247, 248, 249, 250, 251, 252]
theorem cwa_14 : ∀ y ∈ cwl_14, Jvm.Cond.code (ynt y) (byt y) (mxt y) (rtt y) ∈ wsA := List.forall_mem_cons.mpr ⟨cw_237, List.forall_mem_cons.mpr ⟨cw_238, List.forall_mem_cons.mpr ⟨cw_239, List.forall_mem_cons.mpr ⟨cw_240, List.forall_mem_cons.mpr ⟨cw_241, List.forall_mem_cons.mpr ⟨cw_242, List.forall_mem_cons.mpr ⟨cw_243, List.forall_mem_cons.mpr ⟨cw_244, List.forall_mem_cons.mpr ⟨cw_245, List.forall_mem_cons.mpr ⟨cw_246, List.forall_mem_cons.mpr ⟨cw_247, List.forall_mem_cons.mpr ⟨cw_248, List.forall_mem_cons.mpr ⟨cw_249, List.forall_mem_cons.mpr ⟨cw_250, List.forall_mem_cons.mpr ⟨cw_251, List.forall_mem_cons.mpr ⟨cw_252, fun _ h => absurd h List.not_mem_nil⟩⟩⟩⟩⟩⟩⟩⟩⟩⟩⟩⟩⟩⟩⟩⟩
def cwl_15 : List Nat := [253, 254, 255, 256, 257, 258, 259, 260, 261, 262, 263, 264, 265, 266, 267, 268]
theorem cwa_15 : ∀ y ∈ cwl_15, Jvm.Cond.code (ynt y) (byt y) (mxt y) (rtt y) ∈ wsA := List.forall_mem_cons.mpr ⟨cw_253, List.forall_mem_cons.mpr ⟨cw_254, List.forall_mem_cons.mpr ⟨cw_255, List.forall_mem_cons.mpr ⟨cw_256, List.forall_mem_cons.mpr ⟨cw_257, List.forall_mem_cons.mpr ⟨cw_258, List.forall_mem_cons.mpr ⟨cw_259, List.forall_mem_cons.mpr ⟨cw_260, List.forall_mem_cons.mpr ⟨cw_261, List.forall_mem_cons.mpr ⟨cw_262, List.forall_mem_cons.mpr ⟨cw_263, List.forall_mem_cons.mpr ⟨cw_264, List.forall_mem_cons.mpr ⟨cw_265, List.forall_mem_cons.mpr ⟨cw_266, List.forall_mem_cons.mpr ⟨cw_267, List.forall_mem_cons.mpr ⟨cw_268, fun _ h => absurd h List.not_mem_nil⟩⟩⟩⟩⟩⟩⟩⟩⟩⟩⟩⟩⟩⟩⟩⟩
def cwl_16 : List Nat := [269, 271, 272, 273, 274, 284, 286]
theorem cwa_16 : ∀ y ∈ cwl_16, Jvm.Cond.code (ynt y) (byt y) (mxt y) (rtt y) ∈ wsA := List.forall_mem_cons.mpr ⟨cw_269, List.forall_mem_cons.mpr ⟨cw_271, List.forall_mem_cons.mpr ⟨cw_272, List.forall_mem_cons.mpr ⟨cw_273, List.forall_mem_cons.mpr ⟨cw_274, List.forall_mem_cons.mpr ⟨cw_284, List.forall_mem_cons.mpr ⟨cw_286, fun _ h => absurd h List.not_mem_nil⟩⟩⟩⟩⟩⟩⟩
def cwl : List Nat := cwl_0 ++ (cwl_1 ++ (cwl_2 ++ (cwl_3 ++ (cwl_4 ++ (cwl_5 ++ (cwl_6 ++ (cwl_7 ++ (cwl_8 ++ (cwl_9 ++ (cwl_10 ++ (cwl_11 ++ (cwl_12 ++ (cwl_13 ++ (cwl_14 ++ (cwl_15 ++ (cwl_16))))))))))))))))
theorem cwa : ∀ y ∈ cwl, Jvm.Cond.code (ynt y) (byt y) (mxt y) (rtt y) ∈ wsA := List.forall_mem_append.mpr ⟨cwa_0, List.forall_mem_append.mpr ⟨cwa_1, List.forall_mem_append.mpr ⟨cwa_2, List.forall_mem_append.mpr ⟨cwa_3, List.forall_mem_append.mpr ⟨cwa_4, List.forall_mem_append.mpr ⟨cwa_5, List.forall_mem_append.mpr ⟨cwa_6, List.forall_mem_append.mpr ⟨cwa_7, List.forall_mem_append.mpr ⟨cwa_8, List.forall_mem_append.mpr ⟨cwa_9, List.forall_mem_append.mpr ⟨cwa_10, List.forall_mem_append.mpr ⟨cwa_11, List.forall_mem_append.mpr ⟨cwa_12, List.forall_mem_append.mpr ⟨cwa_13, List.forall_mem_append.mpr ⟨cwa_14, List.forall_mem_append.mpr ⟨cwa_15, cwa_16⟩⟩⟩⟩⟩⟩⟩⟩⟩⟩⟩⟩⟩⟩⟩⟩
def vl_0 : List Nat := [1, 2, 3, 4, 5, 6, 7, 9, 10, 11, 12, 13, 14, 15, 16, 17]
theorem va_0_chk : ∀ y ∈ vl_0, chkV y = true := by decide +kernel
def vl_1 : List Nat := [18, 19, 20, 22, 23, 24, 25, 26, 27, 28, 30, 31, 32, 33, 34, 35]
theorem va_1_chk : ∀ y ∈ vl_1, chkV y = true := by decide +kernel
def vl_2 : List Nat := [36, 37, 38, 39, 40, 42, 43, 44, 45, 46, 47, 48, 49, 50, 51, 52]
theorem va_2_chk : ∀ y ∈ vl_2, chkV y = true := by decide +kernel
def vl_3 : List Nat := [53, 55, 56, 57, 58, 59, 60, 61, 62, 63, 64, 65, 66, 67, 68, 69]
theorem va_3_chk : ∀ y ∈ vl_3, chkV y = true := by decide +kernel
def vl_4 : List Nat := [70, 72, 74, 75, 76, 77, 79, 80, 81, 82, 83, 85, 86, 87, 88, 89]
theorem va_4_chk : ∀ y ∈ vl_4, chkV y = true := by decide +kernel
def vl_5 : List Nat := [90, 91, 92, 93, 94, 95, 97, 98, 99, 100, 101, 102, 108, 109, 110, 111]
theorem va_5_chk : ∀ y ∈ vl_5, chkV y = true := by decide +kernel
def vl_6 : List Nat := [112, 113, 114, 115, 116, 117, 118, 119, 120, 121, 122, 123, 124, 125, 126, 127]
theorem va_6_chk : ∀ y ∈ vl_6, chkV y = true := by decide +kernel
def vl_7 : List Nat := [128, 129, 130, 131, 132, 133, 134, 135, 136, 137, 138, 139, 140, 141, 142, 143]
theorem va_7_chk : ∀ y ∈ vl_7, chkV y = true := by decide +kernel
def vl_8 : List Nat := [144, 145, 146, 147, 148, 149, 150, 151, 152, 153, 154, 155, 156, 157, 161, 162]
theorem va_8_chk : ∀ y ∈ vl_8, chkV y = true := by decide +kernel
def vl_9 : List Nat := [163, 164, 165, 166, 167, 168, 169, 170, 171, 172, 173, 174, 175, 176, 177, 178]
theorem va_9_chk : ∀ y ∈ vl_9, chkV y = true := by decide +kernel
def vl_10 : List Nat := [179, 180, 181, 182, 183, 184, 185, 186, 187, 188, 189, 190, 191, 192, 193, 194]
theorem va_10_chk : ∀ y ∈ vl_10, chkV y = true := by decide +kernel
def vl_11 : List Nat := [195, 196, 197, 198, 199, 200, 201, 202, 203, 204, 205, 206, 207, 209, 210, 211]
theorem va_11_chk : ∀ y ∈ vl_11, chkV y = true := by decide +kernel
def vl_12 : List Nat := [212, 213, 214, 215, 216, 218, 219, 220, 221, 222, 223, 224, 225, 226, 227, 228]
theorem va_12_chk : ∀ y ∈ vl_12, chkV y = true := by decide +kernel
def vl_13 : List Nat := [229, 230, 232, 233, 234, 235, 236, 237, 238, 239, 240, 241, 242, 243, 244, 245]
theorem va_13_chk : ∀ y ∈ vl_13, chkV y = true := by decide +kernel
def vl_14 : List Nat := [246, 247, 248, 249, 250, 251, 252, 253, 254, 255, 256, 257, 258, 259, 260, 261]
theorem va_14_chk : ∀ y ∈ vl_14, chkV y = true := by decide +kernel
def vl_15 : List Nat := [262, 263, 264, 265, 266, 267, 268]
theorem va_15_chk : ∀ y ∈ vl_15, chkV y = true := by decide +kernel
def vll : List Nat := vl_0 ++ (vl_1 ++ (vl_2 ++ (vl_3 ++ (vl_4 ++ (vl_5 ++ (vl_6 ++ (vl_7 ++ (vl_8 ++ (vl_9 ++ (vl_10 ++ (vl_11 ++ (vl_12 ++ (vl_13 ++ (vl_14 ++ (vl_15)))))))))))))))
theorem vla : ∀ y ∈ vll, chkV y = true := List.forall_mem_append.mpr ⟨va_0_chk, List.forall_mem_append.mpr ⟨va_1_chk, List.forall_mem_append.mpr ⟨va_2_chk, List.forall_mem_append.mpr ⟨va_3_chk, List.forall_mem_append.mpr ⟨va_4_chk, List.forall_mem_append.mpr ⟨va_5_chk, List.forall_mem_append.mpr ⟨va_6_chk, List.forall_mem_append.mpr ⟨va_7_chk, List.forall_mem_append.mpr ⟨va_8_chk, List.forall_mem_append.mpr ⟨va_9_chk, List.forall_mem_append.mpr ⟨va_10_chk, List.forall_mem_append.mpr ⟨va_11_chk, List.forall_mem_append.mpr ⟨va_12_chk, List.forall_mem_append.mpr ⟨va_13_chk, List.forall_mem_append.mpr ⟨va_14_chk, va_15_chk⟩⟩⟩⟩⟩⟩⟩⟩⟩⟩⟩⟩⟩⟩⟩
def sll : List Nat := [104, 105, 106, 107, 159, 160, 208, 217, 231, 269, 271, 272, 273, 274, 284, 286]
theorem sla : ∀ y ∈ sll, chkS y = true := by decide +kernel
theorem v_in : ∀ y, y < 300 → (vOK y = true → y ∈ vll ∧ y ∈ cwl) := by decide +kernel
theorem s_in : ∀ y, y < 300 → (sOK y = true → y ∈ sll ∧ y ∈ cwl) := by decide +kernel
theorem MokV_of {y : Nat} (h : vOK y = true) : MokV y (npt y) := by
  have hl : y < 300 := by
    unfold vOK at h
    simp only [Bool.and_eq_true] at h
    have := Nat.le_of_ble_eq_true h.1
    omega
  obtain ⟨i1, i2⟩ := v_in y hl h
  have h1 := vla y i1
  unfold chkV at h1
  simp only [Bool.and_eq_true, decide_eq_true_eq] at h1
  obtain ⟨a, b, c, e⟩ := h1
  exact ⟨wat_in a, wat_in b, wat_in c, cwa y i2, e⟩
theorem MokS_of {y : Nat} (h : sOK y = true) : MokS y (npt y) := by
  have hl : y < 300 := by
    unfold sOK at h
    simp only [Bool.and_eq_true] at h
    have := Nat.le_of_ble_eq_true h.1
    omega
  obtain ⟨i1, i2⟩ := s_in y hl h
  have h1 := sla y i1
  unfold chkS at h1
  simp only [Bool.and_eq_true, decide_eq_true_eq] at h1
  obtain ⟨a, b, e⟩ := h1
  exact ⟨wat_in a, wat_in b, cwa y i2, e⟩
