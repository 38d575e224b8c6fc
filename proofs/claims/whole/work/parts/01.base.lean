-- ===== PART A: goes FIRST, ahead of the names: the tables' words, and 'selects' of the private methods out of them =====
/-- a private method of a class that the tables say can be made, by its rows of tables_1 -/
def lw_okq (q : MethodName × Nat) : Prop := (q.1.cls ≠ "java/lang/invoke/MethodHandle" ∧ q.1.cls ≠ "java/lang/invoke/VarHandle") ∧ Cond.instantiable q.1.cls q.2 ∈ tables_1 ∧ Cond.privateMethod q.1 ∈ tables_1 ∧ Cond.instanceMethod q.1 ∈ tables_1
theorem lw_p0 : lw_okq (⟨"ValleyGuides", "isCase", "(III)Z"⟩, 9) := ⟨⟨by decide +kernel, by decide +kernel⟩, List.mem_of_getElem? (i := 23) (by decide +kernel), List.mem_of_getElem? (i := 945) (by decide +kernel), List.mem_of_getElem? (i := 946) (by decide +kernel)⟩
theorem lw_p1 : lw_okq (⟨"ValleyGuides", "guideAt", "(III)I"⟩, 9) := ⟨⟨by decide +kernel, by decide +kernel⟩, List.mem_of_getElem? (i := 23) (by decide +kernel), List.mem_of_getElem? (i := 1157) (by decide +kernel), List.mem_of_getElem? (i := 1158) (by decide +kernel)⟩
theorem lw_p2 : lw_okq (⟨"ValleyGuides", "ropeAt", "(III)I"⟩, 9) := ⟨⟨by decide +kernel, by decide +kernel⟩, List.mem_of_getElem? (i := 23) (by decide +kernel), List.mem_of_getElem? (i := 1161) (by decide +kernel), List.mem_of_getElem? (i := 1162) (by decide +kernel)⟩
theorem lw_p3 : lw_okq (⟨"ValleyGuidesModel", "isPlace", "(I)Z"⟩, 90) := ⟨⟨by decide +kernel, by decide +kernel⟩, List.mem_of_getElem? (i := 1280) (by decide +kernel), List.mem_of_getElem? (i := 1569) (by decide +kernel), List.mem_of_getElem? (i := 1570) (by decide +kernel)⟩
theorem lw_p4 : lw_okq (⟨"ValleyGuidesModel", "isStep", "(I)Z"⟩, 90) := ⟨⟨by decide +kernel, by decide +kernel⟩, List.mem_of_getElem? (i := 1280) (by decide +kernel), List.mem_of_getElem? (i := 1579) (by decide +kernel), List.mem_of_getElem? (i := 1580) (by decide +kernel)⟩
theorem lw_p5 : lw_okq (⟨"ValleyGuidesModel", "isRoute", "(I)Z"⟩, 90) := ⟨⟨by decide +kernel, by decide +kernel⟩, List.mem_of_getElem? (i := 1280) (by decide +kernel), List.mem_of_getElem? (i := 1591) (by decide +kernel), List.mem_of_getElem? (i := 1592) (by decide +kernel)⟩
theorem lw_p6 : lw_okq (⟨"ValleyGuidesModel", "endOf", "(I)I"⟩, 90) := ⟨⟨by decide +kernel, by decide +kernel⟩, List.mem_of_getElem? (i := 1280) (by decide +kernel), List.mem_of_getElem? (i := 1595) (by decide +kernel), List.mem_of_getElem? (i := 1596) (by decide +kernel)⟩
theorem lw_p7 : lw_okq (⟨"ValleyGuidesModel", "stepAt", "(II)I"⟩, 90) := ⟨⟨by decide +kernel, by decide +kernel⟩, List.mem_of_getElem? (i := 1280) (by decide +kernel), List.mem_of_getElem? (i := 1599) (by decide +kernel), List.mem_of_getElem? (i := 1600) (by decide +kernel)⟩
theorem lw_p8 : lw_okq (⟨"ValleyGuidesModel", "greatestHard", "(I)I"⟩, 90) := ⟨⟨by decide +kernel, by decide +kernel⟩, List.mem_of_getElem? (i := 1280) (by decide +kernel), List.mem_of_getElem? (i := 1608) (by decide +kernel), List.mem_of_getElem? (i := 1609) (by decide +kernel)⟩
theorem lw_p9 : lw_okq (⟨"ValleyGuidesModel", "sumHard", "(I)I"⟩, 90) := ⟨⟨by decide +kernel, by decide +kernel⟩, List.mem_of_getElem? (i := 1280) (by decide +kernel), List.mem_of_getElem? (i := 1612) (by decide +kernel), List.mem_of_getElem? (i := 1613) (by decide +kernel)⟩
theorem lw_p10 : lw_okq (⟨"ValleyGuidesModel", "sumLength", "(I)I"⟩, 90) := ⟨⟨by decide +kernel, by decide +kernel⟩, List.mem_of_getElem? (i := 1280) (by decide +kernel), List.mem_of_getElem? (i := 1616) (by decide +kernel), List.mem_of_getElem? (i := 1617) (by decide +kernel)⟩
theorem lw_p11 : lw_okq (⟨"ValleyGuidesModel", "weatherOf", "(II)I"⟩, 90) := ⟨⟨by decide +kernel, by decide +kernel⟩, List.mem_of_getElem? (i := 1280) (by decide +kernel), List.mem_of_getElem? (i := 1639) (by decide +kernel), List.mem_of_getElem? (i := 1640) (by decide +kernel)⟩
theorem lw_p12 : lw_okq (⟨"ValleyGuidesModel", "faultOf", "(II)I"⟩, 90) := ⟨⟨by decide +kernel, by decide +kernel⟩, List.mem_of_getElem? (i := 1280) (by decide +kernel), List.mem_of_getElem? (i := 1643) (by decide +kernel), List.mem_of_getElem? (i := 1644) (by decide +kernel)⟩
theorem lw_p13 : lw_okq (⟨"ValleyGuidesModel", "takesOf", "(III)I"⟩, 90) := ⟨⟨by decide +kernel, by decide +kernel⟩, List.mem_of_getElem? (i := 1280) (by decide +kernel), List.mem_of_getElem? (i := 1659) (by decide +kernel), List.mem_of_getElem? (i := 1660) (by decide +kernel)⟩
theorem lw_p14 : lw_okq (⟨"ValleyGuidesModel", "hourOf", "(III)I"⟩, 90) := ⟨⟨by decide +kernel, by decide +kernel⟩, List.mem_of_getElem? (i := 1280) (by decide +kernel), List.mem_of_getElem? (i := 1667) (by decide +kernel), List.mem_of_getElem? (i := 1668) (by decide +kernel)⟩
theorem lw_p15 : lw_okq (⟨"ValleyGuidesModel", "wayOf", "(IIII)I"⟩, 90) := ⟨⟨by decide +kernel, by decide +kernel⟩, List.mem_of_getElem? (i := 1280) (by decide +kernel), List.mem_of_getElem? (i := 1679) (by decide +kernel), List.mem_of_getElem? (i := 1680) (by decide +kernel)⟩
def lw_privs_1 : List (MethodName × Nat) := [(⟨"ValleyGuides", "isCase", "(III)Z"⟩, 9), (⟨"ValleyGuides", "guideAt", "(III)I"⟩, 9), (⟨"ValleyGuides", "ropeAt", "(III)I"⟩, 9), (⟨"ValleyGuidesModel", "isPlace", "(I)Z"⟩, 90), (⟨"ValleyGuidesModel", "isStep", "(I)Z"⟩, 90), (⟨"ValleyGuidesModel", "isRoute", "(I)Z"⟩, 90), (⟨"ValleyGuidesModel", "endOf", "(I)I"⟩, 90), (⟨"ValleyGuidesModel", "stepAt", "(II)I"⟩, 90), (⟨"ValleyGuidesModel", "greatestHard", "(I)I"⟩, 90), (⟨"ValleyGuidesModel", "sumHard", "(I)I"⟩, 90), (⟨"ValleyGuidesModel", "sumLength", "(I)I"⟩, 90), (⟨"ValleyGuidesModel", "weatherOf", "(II)I"⟩, 90), (⟨"ValleyGuidesModel", "faultOf", "(II)I"⟩, 90), (⟨"ValleyGuidesModel", "takesOf", "(III)I"⟩, 90), (⟨"ValleyGuidesModel", "hourOf", "(III)I"⟩, 90), (⟨"ValleyGuidesModel", "wayOf", "(IIII)I"⟩, 90)]
theorem lw_r1 : ∀ q ∈ lw_privs_1, lw_okq q := List.forall_mem_cons.mpr ⟨lw_p0, List.forall_mem_cons.mpr ⟨lw_p1, List.forall_mem_cons.mpr ⟨lw_p2, List.forall_mem_cons.mpr ⟨lw_p3, List.forall_mem_cons.mpr ⟨lw_p4, List.forall_mem_cons.mpr ⟨lw_p5, List.forall_mem_cons.mpr ⟨lw_p6, List.forall_mem_cons.mpr ⟨lw_p7, List.forall_mem_cons.mpr ⟨lw_p8, List.forall_mem_cons.mpr ⟨lw_p9, List.forall_mem_cons.mpr ⟨lw_p10, List.forall_mem_cons.mpr ⟨lw_p11, List.forall_mem_cons.mpr ⟨lw_p12, List.forall_mem_cons.mpr ⟨lw_p13, List.forall_mem_cons.mpr ⟨lw_p14, List.forall_mem_cons.mpr ⟨lw_p15, fun _ h => absurd h List.not_mem_nil⟩⟩⟩⟩⟩⟩⟩⟩⟩⟩⟩⟩⟩⟩⟩⟩
theorem lw_p16 : lw_okq (⟨"ValleyGuidesModel", "isGuide", "(I)Z"⟩, 90) := ⟨⟨by decide +kernel, by decide +kernel⟩, List.mem_of_getElem? (i := 1280) (by decide +kernel), List.mem_of_getElem? (i := 1692) (by decide +kernel), List.mem_of_getElem? (i := 1693) (by decide +kernel)⟩
theorem lw_p17 : lw_okq (⟨"ValleyGuidesModel", "placeInList", "(I)I"⟩, 90) := ⟨⟨by decide +kernel, by decide +kernel⟩, List.mem_of_getElem? (i := 1280) (by decide +kernel), List.mem_of_getElem? (i := 1701) (by decide +kernel), List.mem_of_getElem? (i := 1702) (by decide +kernel)⟩
theorem lw_p18 : lw_okq (⟨"ValleyGuidesModel", "next", "()V"⟩, 90) := ⟨⟨by decide +kernel, by decide +kernel⟩, List.mem_of_getElem? (i := 1280) (by decide +kernel), List.mem_of_getElem? (i := 1726) (by decide +kernel), List.mem_of_getElem? (i := 1727) (by decide +kernel)⟩
theorem lw_p19 : lw_okq (⟨"ValleyGuidesModel", "look", "(I)I"⟩, 90) := ⟨⟨by decide +kernel, by decide +kernel⟩, List.mem_of_getElem? (i := 1280) (by decide +kernel), List.mem_of_getElem? (i := 1730) (by decide +kernel), List.mem_of_getElem? (i := 1731) (by decide +kernel)⟩
theorem lw_p20 : lw_okq (⟨"ValleyGuidesModel", "nameNow", "()I"⟩, 90) := ⟨⟨by decide +kernel, by decide +kernel⟩, List.mem_of_getElem? (i := 1280) (by decide +kernel), List.mem_of_getElem? (i := 1736) (by decide +kernel), List.mem_of_getElem? (i := 1737) (by decide +kernel)⟩
theorem lw_p21 : lw_okq (⟨"ValleyGuidesModel", "is", "(IIIII)Z"⟩, 90) := ⟨⟨by decide +kernel, by decide +kernel⟩, List.mem_of_getElem? (i := 1280) (by decide +kernel), List.mem_of_getElem? (i := 1740) (by decide +kernel), List.mem_of_getElem? (i := 1741) (by decide +kernel)⟩
theorem lw_p22 : lw_okq (⟨"ValleyGuidesModel", "variableNow", "()I"⟩, 90) := ⟨⟨by decide +kernel, by decide +kernel⟩, List.mem_of_getElem? (i := 1280) (by decide +kernel), List.mem_of_getElem? (i := 1744) (by decide +kernel), List.mem_of_getElem? (i := 1745) (by decide +kernel)⟩
theorem lw_p23 : lw_okq (⟨"ValleyGuidesModel", "goesWith", "(III)Z"⟩, 90) := ⟨⟨by decide +kernel, by decide +kernel⟩, List.mem_of_getElem? (i := 1280) (by decide +kernel), List.mem_of_getElem? (i := 1748) (by decide +kernel), List.mem_of_getElem? (i := 1749) (by decide +kernel)⟩
theorem lw_p24 : lw_okq (⟨"ValleyGuidesModel", "wants", "(ZI)V"⟩, 90) := ⟨⟨by decide +kernel, by decide +kernel⟩, List.mem_of_getElem? (i := 1280) (by decide +kernel), List.mem_of_getElem? (i := 1752) (by decide +kernel), List.mem_of_getElem? (i := 1753) (by decide +kernel)⟩
theorem lw_p25 : lw_okq (⟨"ValleyGuidesModel", "readLine", "()V"⟩, 90) := ⟨⟨by decide +kernel, by decide +kernel⟩, List.mem_of_getElem? (i := 1280) (by decide +kernel), List.mem_of_getElem? (i := 1758) (by decide +kernel), List.mem_of_getElem? (i := 1759) (by decide +kernel)⟩
theorem lw_p26 : lw_okq (⟨"ValleyGuidesModel", "readSum", "()V"⟩, 90) := ⟨⟨by decide +kernel, by decide +kernel⟩, List.mem_of_getElem? (i := 1280) (by decide +kernel), List.mem_of_getElem? (i := 1762) (by decide +kernel), List.mem_of_getElem? (i := 1763) (by decide +kernel)⟩
theorem lw_p27 : lw_okq (⟨"ValleyGuidesModel", "isSign", "(I)Z"⟩, 90) := ⟨⟨by decide +kernel, by decide +kernel⟩, List.mem_of_getElem? (i := 1280) (by decide +kernel), List.mem_of_getElem? (i := 1766) (by decide +kernel), List.mem_of_getElem? (i := 1767) (by decide +kernel)⟩
theorem lw_p28 : lw_okq (⟨"ValleyGuidesModel", "code", "(I)V"⟩, 90) := ⟨⟨by decide +kernel, by decide +kernel⟩, List.mem_of_getElem? (i := 1280) (by decide +kernel), List.mem_of_getElem? (i := 1770) (by decide +kernel), List.mem_of_getElem? (i := 1771) (by decide +kernel)⟩
theorem lw_p29 : lw_okq (⟨"ValleyGuidesModel", "pops", "(I)V"⟩, 90) := ⟨⟨by decide +kernel, by decide +kernel⟩, List.mem_of_getElem? (i := 1280) (by decide +kernel), List.mem_of_getElem? (i := 1777) (by decide +kernel), List.mem_of_getElem? (i := 1778) (by decide +kernel)⟩
theorem lw_p30 : lw_okq (⟨"ValleyGuidesModel", "readTest", "()V"⟩, 90) := ⟨⟨by decide +kernel, by decide +kernel⟩, List.mem_of_getElem? (i := 1280) (by decide +kernel), List.mem_of_getElem? (i := 1781) (by decide +kernel), List.mem_of_getElem? (i := 1782) (by decide +kernel)⟩
theorem lw_p31 : lw_okq (⟨"ValleyGuidesModel", "readOne", "()V"⟩, 90) := ⟨⟨by decide +kernel, by decide +kernel⟩, List.mem_of_getElem? (i := 1280) (by decide +kernel), List.mem_of_getElem? (i := 1785) (by decide +kernel), List.mem_of_getElem? (i := 1786) (by decide +kernel)⟩
def lw_privs_2 : List (MethodName × Nat) := [(⟨"ValleyGuidesModel", "isGuide", "(I)Z"⟩, 90), (⟨"ValleyGuidesModel", "placeInList", "(I)I"⟩, 90), (⟨"ValleyGuidesModel", "next", "()V"⟩, 90), (⟨"ValleyGuidesModel", "look", "(I)I"⟩, 90), (⟨"ValleyGuidesModel", "nameNow", "()I"⟩, 90), (⟨"ValleyGuidesModel", "is", "(IIIII)Z"⟩, 90), (⟨"ValleyGuidesModel", "variableNow", "()I"⟩, 90), (⟨"ValleyGuidesModel", "goesWith", "(III)Z"⟩, 90), (⟨"ValleyGuidesModel", "wants", "(ZI)V"⟩, 90), (⟨"ValleyGuidesModel", "readLine", "()V"⟩, 90), (⟨"ValleyGuidesModel", "readSum", "()V"⟩, 90), (⟨"ValleyGuidesModel", "isSign", "(I)Z"⟩, 90), (⟨"ValleyGuidesModel", "code", "(I)V"⟩, 90), (⟨"ValleyGuidesModel", "pops", "(I)V"⟩, 90), (⟨"ValleyGuidesModel", "readTest", "()V"⟩, 90), (⟨"ValleyGuidesModel", "readOne", "()V"⟩, 90)]
theorem lw_r2 : ∀ q ∈ lw_privs_2, lw_okq q := List.forall_mem_cons.mpr ⟨lw_p16, List.forall_mem_cons.mpr ⟨lw_p17, List.forall_mem_cons.mpr ⟨lw_p18, List.forall_mem_cons.mpr ⟨lw_p19, List.forall_mem_cons.mpr ⟨lw_p20, List.forall_mem_cons.mpr ⟨lw_p21, List.forall_mem_cons.mpr ⟨lw_p22, List.forall_mem_cons.mpr ⟨lw_p23, List.forall_mem_cons.mpr ⟨lw_p24, List.forall_mem_cons.mpr ⟨lw_p25, List.forall_mem_cons.mpr ⟨lw_p26, List.forall_mem_cons.mpr ⟨lw_p27, List.forall_mem_cons.mpr ⟨lw_p28, List.forall_mem_cons.mpr ⟨lw_p29, List.forall_mem_cons.mpr ⟨lw_p30, List.forall_mem_cons.mpr ⟨lw_p31, fun _ h => absurd h List.not_mem_nil⟩⟩⟩⟩⟩⟩⟩⟩⟩⟩⟩⟩⟩⟩⟩⟩
theorem lw_p32 : lw_okq (⟨"ValleyGuidesModel", "isName", "(I)Z"⟩, 90) := ⟨⟨by decide +kernel, by decide +kernel⟩, List.mem_of_getElem? (i := 1280) (by decide +kernel), List.mem_of_getElem? (i := 1789) (by decide +kernel), List.mem_of_getElem? (i := 1790) (by decide +kernel)⟩
theorem lw_p33 : lw_okq (⟨"ValleyGuidesModel", "isAsked", "(III)Z"⟩, 90) := ⟨⟨by decide +kernel, by decide +kernel⟩, List.mem_of_getElem? (i := 1280) (by decide +kernel), List.mem_of_getElem? (i := 1801) (by decide +kernel), List.mem_of_getElem? (i := 1802) (by decide +kernel)⟩
theorem lw_p34 : lw_okq (⟨"ValleyGuidesModel", "sets", "(III)V"⟩, 90) := ⟨⟨by decide +kernel, by decide +kernel⟩, List.mem_of_getElem? (i := 1280) (by decide +kernel), List.mem_of_getElem? (i := 1805) (by decide +kernel), List.mem_of_getElem? (i := 1806) (by decide +kernel)⟩
theorem lw_p35 : lw_okq (⟨"ValleyGuidesModel", "whyNow", "()I"⟩, 90) := ⟨⟨by decide +kernel, by decide +kernel⟩, List.mem_of_getElem? (i := 1280) (by decide +kernel), List.mem_of_getElem? (i := 1809) (by decide +kernel), List.mem_of_getElem? (i := 1810) (by decide +kernel)⟩
theorem lw_p36 : lw_okq (⟨"ValleyGuidesModel", "worked", "(I)I"⟩, 90) := ⟨⟨by decide +kernel, by decide +kernel⟩, List.mem_of_getElem? (i := 1280) (by decide +kernel), List.mem_of_getElem? (i := 1813) (by decide +kernel), List.mem_of_getElem? (i := 1814) (by decide +kernel)⟩
theorem lw_p37 : lw_okq (⟨"ValleyGuidesModel", "payNow", "()I"⟩, 90) := ⟨⟨by decide +kernel, by decide +kernel⟩, List.mem_of_getElem? (i := 1280) (by decide +kernel), List.mem_of_getElem? (i := 1826) (by decide +kernel), List.mem_of_getElem? (i := 1827) (by decide +kernel)⟩
theorem lw_p38 : lw_okq (⟨"ValleyGuidesModel", "askedNow", "()I"⟩, 90) := ⟨⟨by decide +kernel, by decide +kernel⟩, List.mem_of_getElem? (i := 1280) (by decide +kernel), List.mem_of_getElem? (i := 1835) (by decide +kernel), List.mem_of_getElem? (i := 1836) (by decide +kernel)⟩
theorem lw_p39 : lw_okq (⟨"ValleyGuidesModel", "findTurn", "()I"⟩, 90) := ⟨⟨by decide +kernel, by decide +kernel⟩, List.mem_of_getElem? (i := 1280) (by decide +kernel), List.mem_of_getElem? (i := 1843) (by decide +kernel), List.mem_of_getElem? (i := 1844) (by decide +kernel)⟩
theorem lw_p40 : lw_okq (⟨"ValleyGuidesModel", "findRoping", "(I)V"⟩, 90) := ⟨⟨by decide +kernel, by decide +kernel⟩, List.mem_of_getElem? (i := 1280) (by decide +kernel), List.mem_of_getElem? (i := 1865) (by decide +kernel), List.mem_of_getElem? (i := 1866) (by decide +kernel)⟩
theorem lw_p41 : lw_okq (⟨"ValleyGuidesModel", "ropeWorth", "(II)I"⟩, 90) := ⟨⟨by decide +kernel, by decide +kernel⟩, List.mem_of_getElem? (i := 1280) (by decide +kernel), List.mem_of_getElem? (i := 1870) (by decide +kernel), List.mem_of_getElem? (i := 1871) (by decide +kernel)⟩
theorem lw_p42 : lw_okq (⟨"ValleyGuidesModel", "goesTo", "(I)V"⟩, 90) := ⟨⟨by decide +kernel, by decide +kernel⟩, List.mem_of_getElem? (i := 1280) (by decide +kernel), List.mem_of_getElem? (i := 1889) (by decide +kernel), List.mem_of_getElem? (i := 1890) (by decide +kernel)⟩
theorem lw_p43 : lw_okq (⟨"ValleyGuidesModel", "quarter", "(I)V"⟩, 90) := ⟨⟨by decide +kernel, by decide +kernel⟩, List.mem_of_getElem? (i := 1280) (by decide +kernel), List.mem_of_getElem? (i := 1893) (by decide +kernel), List.mem_of_getElem? (i := 1894) (by decide +kernel)⟩
theorem lw_p44 : lw_okq (⟨"ValleyGuidesModel", "comes", "(III)V"⟩, 90) := ⟨⟨by decide +kernel, by decide +kernel⟩, List.mem_of_getElem? (i := 1280) (by decide +kernel), List.mem_of_getElem? (i := 1897) (by decide +kernel), List.mem_of_getElem? (i := 1898) (by decide +kernel)⟩
theorem lw_p45 : lw_okq (⟨"ValleyGuidesModel", "decides", "(II)V"⟩, 90) := ⟨⟨by decide +kernel, by decide +kernel⟩, List.mem_of_getElem? (i := 1280) (by decide +kernel), List.mem_of_getElem? (i := 1901) (by decide +kernel), List.mem_of_getElem? (i := 1902) (by decide +kernel)⟩
theorem lw_p46 : lw_okq (⟨"ValleyGuidesModel", "done", "(II)V"⟩, 90) := ⟨⟨by decide +kernel, by decide +kernel⟩, List.mem_of_getElem? (i := 1280) (by decide +kernel), List.mem_of_getElem? (i := 1905) (by decide +kernel), List.mem_of_getElem? (i := 1906) (by decide +kernel)⟩
theorem lw_p47 : lw_okq (⟨"ValleyGuidesModel", "isCalledBack", "(II)Z"⟩, 90) := ⟨⟨by decide +kernel, by decide +kernel⟩, List.mem_of_getElem? (i := 1280) (by decide +kernel), List.mem_of_getElem? (i := 1909) (by decide +kernel), List.mem_of_getElem? (i := 1910) (by decide +kernel)⟩
def lw_privs_3 : List (MethodName × Nat) := [(⟨"ValleyGuidesModel", "isName", "(I)Z"⟩, 90), (⟨"ValleyGuidesModel", "isAsked", "(III)Z"⟩, 90), (⟨"ValleyGuidesModel", "sets", "(III)V"⟩, 90), (⟨"ValleyGuidesModel", "whyNow", "()I"⟩, 90), (⟨"ValleyGuidesModel", "worked", "(I)I"⟩, 90), (⟨"ValleyGuidesModel", "payNow", "()I"⟩, 90), (⟨"ValleyGuidesModel", "askedNow", "()I"⟩, 90), (⟨"ValleyGuidesModel", "findTurn", "()I"⟩, 90), (⟨"ValleyGuidesModel", "findRoping", "(I)V"⟩, 90), (⟨"ValleyGuidesModel", "ropeWorth", "(II)I"⟩, 90), (⟨"ValleyGuidesModel", "goesTo", "(I)V"⟩, 90), (⟨"ValleyGuidesModel", "quarter", "(I)V"⟩, 90), (⟨"ValleyGuidesModel", "comes", "(III)V"⟩, 90), (⟨"ValleyGuidesModel", "decides", "(II)V"⟩, 90), (⟨"ValleyGuidesModel", "done", "(II)V"⟩, 90), (⟨"ValleyGuidesModel", "isCalledBack", "(II)Z"⟩, 90)]
theorem lw_r3 : ∀ q ∈ lw_privs_3, lw_okq q := List.forall_mem_cons.mpr ⟨lw_p32, List.forall_mem_cons.mpr ⟨lw_p33, List.forall_mem_cons.mpr ⟨lw_p34, List.forall_mem_cons.mpr ⟨lw_p35, List.forall_mem_cons.mpr ⟨lw_p36, List.forall_mem_cons.mpr ⟨lw_p37, List.forall_mem_cons.mpr ⟨lw_p38, List.forall_mem_cons.mpr ⟨lw_p39, List.forall_mem_cons.mpr ⟨lw_p40, List.forall_mem_cons.mpr ⟨lw_p41, List.forall_mem_cons.mpr ⟨lw_p42, List.forall_mem_cons.mpr ⟨lw_p43, List.forall_mem_cons.mpr ⟨lw_p44, List.forall_mem_cons.mpr ⟨lw_p45, List.forall_mem_cons.mpr ⟨lw_p46, List.forall_mem_cons.mpr ⟨lw_p47, fun _ h => absurd h List.not_mem_nil⟩⟩⟩⟩⟩⟩⟩⟩⟩⟩⟩⟩⟩⟩⟩⟩
theorem lw_p48 : lw_okq (⟨"ValleyGuidesModel", "bearsOne", "(I)Z"⟩, 90) := ⟨⟨by decide +kernel, by decide +kernel⟩, List.mem_of_getElem? (i := 1280) (by decide +kernel), List.mem_of_getElem? (i := 1913) (by decide +kernel), List.mem_of_getElem? (i := 1914) (by decide +kernel)⟩
theorem lw_p49 : lw_okq (⟨"ValleyGuidesModel", "where", "(I)I"⟩, 90) := ⟨⟨by decide +kernel, by decide +kernel⟩, List.mem_of_getElem? (i := 1280) (by decide +kernel), List.mem_of_getElem? (i := 1925) (by decide +kernel), List.mem_of_getElem? (i := 1926) (by decide +kernel)⟩
theorem lw_p50 : lw_okq (⟨"ValleyGuidesModel", "findLots", "()V"⟩, 90) := ⟨⟨by decide +kernel, by decide +kernel⟩, List.mem_of_getElem? (i := 1280) (by decide +kernel), List.mem_of_getElem? (i := 1943) (by decide +kernel), List.mem_of_getElem? (i := 1944) (by decide +kernel)⟩
theorem lw_p51 : lw_okq (⟨"ValleyGuidesModel", "findGrade", "(I)V"⟩, 90) := ⟨⟨by decide +kernel, by decide +kernel⟩, List.mem_of_getElem? (i := 1280) (by decide +kernel), List.mem_of_getElem? (i := 1948) (by decide +kernel), List.mem_of_getElem? (i := 1949) (by decide +kernel)⟩
theorem lw_p52 : lw_okq (⟨"ValleyGuidesModel", "rootOf", "(I)I"⟩, 90) := ⟨⟨by decide +kernel, by decide +kernel⟩, List.mem_of_getElem? (i := 1280) (by decide +kernel), List.mem_of_getElem? (i := 1952) (by decide +kernel), List.mem_of_getElem? (i := 1953) (by decide +kernel)⟩
theorem lw_p53 : lw_okq (⟨"ValleyGuidesModel", "adds", "(IIJ)V"⟩, 90) := ⟨⟨by decide +kernel, by decide +kernel⟩, List.mem_of_getElem? (i := 1280) (by decide +kernel), List.mem_of_getElem? (i := 1956) (by decide +kernel), List.mem_of_getElem? (i := 1957) (by decide +kernel)⟩
theorem lw_p54 : lw_okq (⟨"ValleyGuidesModel", "lowest", "(JJ)V"⟩, 90) := ⟨⟨by decide +kernel, by decide +kernel⟩, List.mem_of_getElem? (i := 1280) (by decide +kernel), List.mem_of_getElem? (i := 1960) (by decide +kernel), List.mem_of_getElem? (i := 1961) (by decide +kernel)⟩
def lw_privs_4 : List (MethodName × Nat) := [(⟨"ValleyGuidesModel", "bearsOne", "(I)Z"⟩, 90), (⟨"ValleyGuidesModel", "where", "(I)I"⟩, 90), (⟨"ValleyGuidesModel", "findLots", "()V"⟩, 90), (⟨"ValleyGuidesModel", "findGrade", "(I)V"⟩, 90), (⟨"ValleyGuidesModel", "rootOf", "(I)I"⟩, 90), (⟨"ValleyGuidesModel", "adds", "(IIJ)V"⟩, 90), (⟨"ValleyGuidesModel", "lowest", "(JJ)V"⟩, 90)]
theorem lw_r4 : ∀ q ∈ lw_privs_4, lw_okq q := List.forall_mem_cons.mpr ⟨lw_p48, List.forall_mem_cons.mpr ⟨lw_p49, List.forall_mem_cons.mpr ⟨lw_p50, List.forall_mem_cons.mpr ⟨lw_p51, List.forall_mem_cons.mpr ⟨lw_p52, List.forall_mem_cons.mpr ⟨lw_p53, List.forall_mem_cons.mpr ⟨lw_p54, fun _ h => absurd h List.not_mem_nil⟩⟩⟩⟩⟩⟩⟩
def lw_privs : List (MethodName × Nat) := lw_privs_1 ++ (lw_privs_2 ++ (lw_privs_3 ++ (lw_privs_4)))
def lw_tbl : List Cond := k2_sels lw_privs ++ tables_1
theorem lw_privs_ok : ∀ q ∈ lw_privs, lw_okq q := by
  show ∀ q ∈ lw_privs_1 ++ (lw_privs_2 ++ (lw_privs_3 ++ (lw_privs_4))), lw_okq q
  exact List.forall_mem_append.mpr ⟨lw_r1, List.forall_mem_append.mpr ⟨lw_r2, List.forall_mem_append.mpr ⟨lw_r3, lw_r4⟩⟩⟩
def RX0 : String := "ValleyGuides$Guild"
def TX0 : u_T := fun k => match k with
  | 0 => ("ValleyGuides$Guild", "grades", "[I", true)
  | 1 => ("ValleyGuides$Guild", "strength", "[I", true)
  | 2 => ("ValleyGuides$Guild", "papersTo", "[I", true)
  | 3 => ("ValleyGuides$Guild", "now", "LValleyGuides$Standing;", true)
  | 4 => ("ValleyGuides$Guild", "image", "LValleyGuides$Standing;", true)
  | 5 => ("ValleyGuides$Guild", "imaged", "Z", false)
  | 6 => ("ValleyGuides$Guild", "turns", "[I", true)
  | _ => ("ValleyGuides$Guild", "turning", "I", false)
def tyX0 : Nat → FieldType := fun k => match k with
  | 0 => .array .int
  | 1 => .array .int
  | 2 => .array .int
  | 3 => .object "ValleyGuides$Standing"
  | 4 => .object "ValleyGuides$Standing"
  | 5 => .boolean
  | 6 => .array .int
  | _ => .int
abbrev wsX00 : List Cond := u_ws RX0 TX0 8
theorem nmX0 : ∀ a, a < 8 → ∀ b, b < 8 → a ≠ b → (TX0 a).2.1 ≠ (TX0 b).2.1 := by decide +kernel
theorem tyX0_ok : ∀ k, k < 8 → parseFieldDescriptor (TX0 k).2.2.1 = some (tyX0 k) := by decide +kernel
abbrev cX0_init : ByteArray := prog_2_method_1_code
def yX0_init : MethodName := ⟨RX0, "<init>", "()V"⟩
abbrev cX0_has : ByteArray := prog_2_method_2_code
def yX0_has : MethodName := ⟨RX0, "has", "(I)Z"⟩
abbrev cX0_join : ByteArray := prog_2_method_3_code
def yX0_join : MethodName := ⟨RX0, "join", "(III)I"⟩
abbrev cX0_findTurn : ByteArray := prog_2_method_4_code
def yX0_findTurn : MethodName := ⟨RX0, "findTurn", "(II)Z"⟩
abbrev cX0_sendTurn : ByteArray := prog_2_method_5_code
def yX0_sendTurn : MethodName := ⟨RX0, "sendTurn", "(I)V"⟩
abbrev cX0_moveTurnBehind : ByteArray := prog_2_method_6_code
def yX0_moveTurnBehind : MethodName := ⟨RX0, "moveTurnBehind", "()V"⟩
abbrev cX0_takeImage : ByteArray := prog_2_method_7_code
def yX0_takeImage : MethodName := ⟨RX0, "takeImage", "()V"⟩
abbrev cX0_goBack : ByteArray := prog_2_method_8_code
def yX0_goBack : MethodName := ⟨RX0, "goBack", "()V"⟩
def RX1 : String := "ValleyGuides$Hours"
def TX1 : u_T := fun k => match k with
  | 0 => ("ValleyGuides$Hours", "count", "I", false)
  | 1 => ("ValleyGuides$Hours", "route", "[I", true)
  | 2 => ("ValleyGuides$Hours", "guide", "[I", true)
  | 3 => ("ValleyGuides$Hours", "quarters", "[I", true)
  | 4 => ("ValleyGuides$Hours", "piece", "[I", true)
  | 5 => ("ValleyGuides$Hours", "column", "[I", true)
  | 6 => ("ValleyGuides$Hours", "columns", "I", false)
  | 7 => ("ValleyGuides$Hours", "rows", "[[J", true)
  | 8 => ("ValleyGuides$Hours", "top", "[J", true)
  | _ => ("ValleyGuides$Hours", "bottom", "J", false)
def tyX1 : Nat → FieldType := fun k => match k with
  | 0 => .int
  | 1 => .array .int
  | 2 => .array .int
  | 3 => .array .int
  | 4 => .array .int
  | 5 => .array .int
  | 6 => .int
  | 7 => .array (.array .long)
  | 8 => .array .long
  | _ => .long
abbrev wsX10 : List Cond := u_ws RX1 TX1 10
theorem nmX1 : ∀ a, a < 10 → ∀ b, b < 10 → a ≠ b → (TX1 a).2.1 ≠ (TX1 b).2.1 := by decide +kernel
theorem tyX1_ok : ∀ k, k < 10 → parseFieldDescriptor (TX1 k).2.2.1 = some (tyX1 k) := by decide +kernel
abbrev cX1_init : ByteArray := prog_3_method_1_code
def yX1_init : MethodName := ⟨RX1, "<init>", "()V"⟩
abbrev cX1_add : ByteArray := prog_3_method_2_code
def yX1_add : MethodName := ⟨RX1, "add", "(III)I"⟩
abbrev cX1_findPieces : ByteArray := prog_3_method_3_code
def yX1_findPieces : MethodName := ⟨RX1, "findPieces", "()V"⟩
abbrev cX1_countPieces : ByteArray := prog_3_method_4_code
def yX1_countPieces : MethodName := ⟨RX1, "countPieces", "()I"⟩
abbrev cX1_solve : ByteArray := prog_3_method_5_code
def yX1_solve : MethodName := ⟨RX1, "solve", "()V"⟩
abbrev cX1_setColumns : ByteArray := prog_3_method_6_code
def yX1_setColumns : MethodName := ⟨RX1, "setColumns", "()V"⟩
abbrev cX1_setRows : ByteArray := prog_3_method_7_code
def yX1_setRows : MethodName := ⟨RX1, "setRows", "()V"⟩
abbrev cX1_addTo : ByteArray := prog_3_method_8_code
def yX1_addTo : MethodName := ⟨RX1, "addTo", "(III)V"⟩
abbrev cX1_clearColumn : ByteArray := prog_3_method_9_code
def yX1_clearColumn : MethodName := ⟨RX1, "clearColumn", "(I)V"⟩
abbrev cX1_clearCell : ByteArray := prog_3_method_10_code
def yX1_clearCell : MethodName := ⟨RX1, "clearCell", "(IIJ)V"⟩
abbrev cX1_topOver : ByteArray := prog_3_method_11_code
def yX1_topOver : MethodName := ⟨RX1, "topOver", "(I)J"⟩
abbrev cX1_partOf : ByteArray := prog_3_method_12_code
def yX1_partOf : MethodName := ⟨RX1, "partOf", "(JI)J"⟩
abbrev cX1_commonOf : ByteArray := prog_3_method_13_code
def yX1_commonOf : MethodName := ⟨RX1, "commonOf", "(JJ)J"⟩
def RX2 : String := "ValleyGuides$Judge"
def TX2 : u_T := fun k => match k with
  | 0 => ("ValleyGuides$Judge", "net", "LValleyGuides$Net;", true)
  | 1 => ("ValleyGuides$Judge", "sky", "LValleyGuides$Sky;", true)
  | 2 => ("ValleyGuides$Judge", "standing", "LValleyGuides$Standing;", true)
  | 3 => ("ValleyGuides$Judge", "code", "[I", true)
  | 4 => ("ValleyGuides$Judge", "kind", "[I", true)
  | 5 => ("ValleyGuides$Judge", "ends", "[I", true)
  | 6 => ("ValleyGuides$Judge", "lines", "I", false)
  | 7 => ("ValleyGuides$Judge", "variables", "[I", true)
  | _ => ("ValleyGuides$Judge", "stack", "[I", true)
def tyX2 : Nat → FieldType := fun k => match k with
  | 0 => .object "ValleyGuides$Net"
  | 1 => .object "ValleyGuides$Sky"
  | 2 => .object "ValleyGuides$Standing"
  | 3 => .array .int
  | 4 => .array .int
  | 5 => .array .int
  | 6 => .int
  | 7 => .array .int
  | _ => .array .int
abbrev wsX20 : List Cond := u_ws RX2 TX2 9
theorem nmX2 : ∀ a, a < 9 → ∀ b, b < 9 → a ≠ b → (TX2 a).2.1 ≠ (TX2 b).2.1 := by decide +kernel
theorem tyX2_ok : ∀ k, k < 9 → parseFieldDescriptor (TX2 k).2.2.1 = some (tyX2 k) := by decide +kernel
abbrev cX2_init : ByteArray := prog_4_method_1_code
def yX2_init : MethodName := ⟨RX2, "<init>", "(LValleyGuides$Net;LValleyGuides$Sky;LValleyGuides$Standing;)V"⟩
abbrev cX2_adopt : ByteArray := prog_4_method_2_code
def yX2_adopt : MethodName := ⟨RX2, "adopt", "(LValleyGuides$Reader;)V"⟩
abbrev cX2_hear : ByteArray := prog_4_method_3_code
def yX2_hear : MethodName := ⟨RX2, "hear", "(III)V"⟩
abbrev cX2_firstHolding : ByteArray := prog_4_method_4_code
def yX2_firstHolding : MethodName := ⟨RX2, "firstHolding", "(I)I"⟩
abbrev cX2_sumPaid : ByteArray := prog_4_method_5_code
def yX2_sumPaid : MethodName := ⟨RX2, "sumPaid", "()I"⟩
abbrev cX2_guidesAsked : ByteArray := prog_4_method_6_code
def yX2_guidesAsked : MethodName := ⟨RX2, "guidesAsked", "()I"⟩
abbrev cX2_worked : ByteArray := prog_4_method_7_code
def yX2_worked : MethodName := ⟨RX2, "worked", "(I)I"⟩
abbrev cX2_joined : ByteArray := prog_4_method_8_code
def yX2_joined : MethodName := ⟨RX2, "joined", "(IJJ)J"⟩
def RX3 : String := "ValleyGuides$March"
def TX3 : u_T := fun k => match k with
  | 0 => ("ValleyGuides$March", "net", "LValleyGuides$Net;", true)
  | 1 => ("ValleyGuides$March", "walks", "LValleyGuides$Walks;", true)
  | 2 => ("ValleyGuides$March", "judge", "LValleyGuides$Judge;", true)
  | 3 => ("ValleyGuides$March", "count", "I", false)
  | 4 => ("ValleyGuides$March", "ropes", "[LValleyGuides$Rope;", true)
  | 5 => ("ValleyGuides$March", "bedsTaken", "[I", true)
  | 6 => ("ValleyGuides$March", "lyingOut", "[I", true)
  | 7 => ("ValleyGuides$March", "arrivals", "[I", true)
  | 8 => ("ValleyGuides$March", "queue", "[I", true)
  | _ => ("ValleyGuides$March", "queued", "I", false)
def tyX3 : Nat → FieldType := fun k => match k with
  | 0 => .object "ValleyGuides$Net"
  | 1 => .object "ValleyGuides$Walks"
  | 2 => .object "ValleyGuides$Judge"
  | 3 => .int
  | 4 => .array (.object "ValleyGuides$Rope")
  | 5 => .array .int
  | 6 => .array .int
  | 7 => .array .int
  | 8 => .array .int
  | _ => .int
abbrev wsX30 : List Cond := u_ws RX3 TX3 10
theorem nmX3 : ∀ a, a < 10 → ∀ b, b < 10 → a ≠ b → (TX3 a).2.1 ≠ (TX3 b).2.1 := by decide +kernel
theorem tyX3_ok : ∀ k, k < 10 → parseFieldDescriptor (TX3 k).2.2.1 = some (tyX3 k) := by decide +kernel
abbrev cX3_init : ByteArray := prog_5_method_1_code
def yX3_init : MethodName := ⟨RX3, "<init>", "(LValleyGuides$Net;LValleyGuides$Walks;LValleyGuides$Judge;)V"⟩
abbrev cX3_has : ByteArray := prog_5_method_2_code
def yX3_has : MethodName := ⟨RX3, "has", "(I)Z"⟩
abbrev cX3_add : ByteArray := prog_5_method_3_code
def yX3_add : MethodName := ⟨RX3, "add", "(IIII)I"⟩
abbrev cX3_countTurned : ByteArray := prog_5_method_4_code
def yX3_countTurned : MethodName := ⟨RX3, "countTurned", "()I"⟩
abbrev cX3_stepDay : ByteArray := prog_5_method_5_code
def yX3_stepDay : MethodName := ⟨RX3, "stepDay", "()V"⟩
abbrev cX3_letCome : ByteArray := prog_5_method_6_code
def yX3_letCome : MethodName := ⟨RX3, "letCome", "(I)V"⟩
abbrev cX3_come : ByteArray := prog_5_method_7_code
def yX3_come : MethodName := ⟨RX3, "come", "(II)V"⟩
abbrev cX3_letGo : ByteArray := prog_5_method_8_code
def yX3_letGo : MethodName := ⟨RX3, "letGo", "(I)V"⟩
abbrev cX3_waits : ByteArray := prog_5_method_9_code
def yX3_waits : MethodName := ⟨RX3, "waits", "(LValleyGuides$Rope;I)Z"⟩
abbrev cX3_isBearing : ByteArray := prog_5_method_10_code
def yX3_isBearing : MethodName := ⟨RX3, "isBearing", "(I)Z"⟩
abbrev cX3_finish : ByteArray := prog_5_method_11_code
def yX3_finish : MethodName := ⟨RX3, "finish", "(LValleyGuides$Rope;I)V"⟩
abbrev cX3_look : ByteArray := prog_5_method_12_code
def yX3_look : MethodName := ⟨RX3, "look", "(I)V"⟩
def RX4 : String := "ValleyGuides$Net"
def TX4 : u_T := fun k => match k with
  | 0 => ("ValleyGuides$Net", "places", "I", false)
  | 1 => ("ValleyGuides$Net", "beds", "[I", true)
  | 2 => ("ValleyGuides$Net", "steps", "I", false)
  | 3 => ("ValleyGuides$Net", "from", "[I", true)
  | 4 => ("ValleyGuides$Net", "to", "[I", true)
  | 5 => ("ValleyGuides$Net", "sort", "[I", true)
  | 6 => ("ValleyGuides$Net", "length", "[I", true)
  | 7 => ("ValleyGuides$Net", "hard", "[I", true)
  | 8 => ("ValleyGuides$Net", "narrow", "[Z", true)
  | 9 => ("ValleyGuides$Net", "routes", "I", false)
  | 10 => ("ValleyGuides$Net", "stepsIn", "[I", true)
  | _ => ("ValleyGuides$Net", "rows", "[[I", true)
def tyX4 : Nat → FieldType := fun k => match k with
  | 0 => .int
  | 1 => .array .int
  | 2 => .int
  | 3 => .array .int
  | 4 => .array .int
  | 5 => .array .int
  | 6 => .array .int
  | 7 => .array .int
  | 8 => .array .boolean
  | 9 => .int
  | 10 => .array .int
  | _ => .array (.array .int)
abbrev wsX40 : List Cond := u_ws RX4 TX4 12
theorem nmX4 : ∀ a, a < 12 → ∀ b, b < 12 → a ≠ b → (TX4 a).2.1 ≠ (TX4 b).2.1 := by decide +kernel
theorem tyX4_ok : ∀ k, k < 12 → parseFieldDescriptor (TX4 k).2.2.1 = some (tyX4 k) := by decide +kernel
abbrev cX4_init : ByteArray := prog_6_method_1_code
def yX4_init : MethodName := ⟨RX4, "<init>", "()V"⟩
abbrev cX4_hasPlace : ByteArray := prog_6_method_2_code
def yX4_hasPlace : MethodName := ⟨RX4, "hasPlace", "(I)Z"⟩
abbrev cX4_hasStep : ByteArray := prog_6_method_3_code
def yX4_hasStep : MethodName := ⟨RX4, "hasStep", "(I)Z"⟩
abbrev cX4_hasRoute : ByteArray := prog_6_method_4_code
def yX4_hasRoute : MethodName := ⟨RX4, "hasRoute", "(I)Z"⟩
abbrev cX4_addPlace : ByteArray := prog_6_method_5_code
def yX4_addPlace : MethodName := ⟨RX4, "addPlace", "(I)I"⟩
abbrev cX4_addStep : ByteArray := prog_6_method_6_code
def yX4_addStep : MethodName := ⟨RX4, "addStep", "(IIZ)I"⟩
abbrev cX4_addRoute : ByteArray := prog_6_method_7_code
def yX4_addRoute : MethodName := ⟨RX4, "addRoute", "(I)I"⟩
abbrev cX4_lengthen : ByteArray := prog_6_method_8_code
def yX4_lengthen : MethodName := ⟨RX4, "lengthen", "(II)I"⟩
abbrev cX4_beginOf : ByteArray := prog_6_method_9_code
def yX4_beginOf : MethodName := ⟨RX4, "beginOf", "(I)I"⟩
abbrev cX4_endOf : ByteArray := prog_6_method_10_code
def yX4_endOf : MethodName := ⟨RX4, "endOf", "(I)I"⟩
abbrev cX4_greatestHard : ByteArray := prog_6_method_11_code
def yX4_greatestHard : MethodName := ⟨RX4, "greatestHard", "(I)I"⟩
abbrev cX4_sumOfHard : ByteArray := prog_6_method_12_code
def yX4_sumOfHard : MethodName := ⟨RX4, "sumOfHard", "(I)I"⟩
abbrev cX4_sumOfLength : ByteArray := prog_6_method_13_code
def yX4_sumOfLength : MethodName := ⟨RX4, "sumOfLength", "(I)I"⟩
def RX5 : String := "ValleyGuides$Reader"
def TX5 : u_T := fun k => match k with
  | 0 => ("ValleyGuides$Reader", "tape", "[I", true)
  | 1 => ("ValleyGuides$Reader", "used", "I", false)
  | 2 => ("ValleyGuides$Reader", "next", "I", false)
  | 3 => ("ValleyGuides$Reader", "start", "I", false)
  | 4 => ("ValleyGuides$Reader", "token", "I", false)
  | 5 => ("ValleyGuides$Reader", "number", "I", false)
  | 6 => ("ValleyGuides$Reader", "fault", "I", false)
  | 7 => ("ValleyGuides$Reader", "code", "[I", true)
  | 8 => ("ValleyGuides$Reader", "coded", "I", false)
  | 9 => ("ValleyGuides$Reader", "kind", "[I", true)
  | 10 => ("ValleyGuides$Reader", "ends", "[I", true)
  | 11 => ("ValleyGuides$Reader", "lines", "I", false)
  | 12 => ("ValleyGuides$Reader", "waiting", "[I", true)
  | 13 => ("ValleyGuides$Reader", "waits", "I", false)
  | 14 => ("ValleyGuides$Reader", "state", "I", false)
  | 15 => ("ValleyGuides$Reader", "side", "I", false)
  | 16 => ("ValleyGuides$Reader", "open", "I", false)
  | _ => ("ValleyGuides$Reader", "notMayStand", "Z", false)
def tyX5 : Nat → FieldType := fun k => match k with
  | 0 => .array .int
  | 1 => .int
  | 2 => .int
  | 3 => .int
  | 4 => .int
  | 5 => .int
  | 6 => .int
  | 7 => .array .int
  | 8 => .int
  | 9 => .array .int
  | 10 => .array .int
  | 11 => .int
  | 12 => .array .int
  | 13 => .int
  | 14 => .int
  | 15 => .int
  | 16 => .int
  | _ => .boolean
abbrev wsX50 : List Cond := u_ws RX5 TX5 18
theorem nmX5 : ∀ a, a < 18 → ∀ b, b < 18 → a ≠ b → (TX5 a).2.1 ≠ (TX5 b).2.1 := by decide +kernel
theorem tyX5_ok : ∀ k, k < 18 → parseFieldDescriptor (TX5 k).2.2.1 = some (tyX5 k) := by decide +kernel
abbrev cX5_init : ByteArray := prog_7_method_1_code
def yX5_init : MethodName := ⟨RX5, "<init>", "()V"⟩
abbrev cX5_append : ByteArray := prog_7_method_2_code
def yX5_append : MethodName := ⟨RX5, "append", "(J)V"⟩
abbrev cX5_readAll : ByteArray := prog_7_method_3_code
def yX5_readAll : MethodName := ⟨RX5, "readAll", "()V"⟩
abbrev cX5_readToken : ByteArray := prog_7_method_4_code
def yX5_readToken : MethodName := ⟨RX5, "readToken", "()V"⟩
abbrev cX5_readName : ByteArray := prog_7_method_5_code
def yX5_readName : MethodName := ⟨RX5, "readName", "()V"⟩
abbrev cX5_isName : ByteArray := prog_7_method_6_code
def yX5_isName : MethodName := ⟨RX5, "isName", "(II)Z"⟩
abbrev cX5_readNumber : ByteArray := prog_7_method_7_code
def yX5_readNumber : MethodName := ⟨RX5, "readNumber", "()V"⟩
abbrev cX5_take : ByteArray := prog_7_method_8_code
def yX5_take : MethodName := ⟨RX5, "take", "()I"⟩
abbrev cX5_takeName : ByteArray := prog_7_method_9_code
def yX5_takeName : MethodName := ⟨RX5, "takeName", "()I"⟩
abbrev cX5_takeValue : ByteArray := prog_7_method_10_code
def yX5_takeValue : MethodName := ⟨RX5, "takeValue", "()I"⟩
abbrev cX5_takeSign : ByteArray := prog_7_method_11_code
def yX5_takeSign : MethodName := ⟨RX5, "takeSign", "()I"⟩
abbrev cX5_takeClose : ByteArray := prog_7_method_12_code
def yX5_takeClose : MethodName := ⟨RX5, "takeClose", "()I"⟩
abbrev cX5_join : ByteArray := prog_7_method_13_code
def yX5_join : MethodName := ⟨RX5, "join", "()V"⟩
abbrev cX5_endLine : ByteArray := prog_7_method_14_code
def yX5_endLine : MethodName := ⟨RX5, "endLine", "()V"⟩
abbrev cX5_writeWaiting : ByteArray := prog_7_method_15_code
def yX5_writeWaiting : MethodName := ⟨RX5, "writeWaiting", "(I)V"⟩
abbrev cX5_putOff : ByteArray := prog_7_method_16_code
def yX5_putOff : MethodName := ⟨RX5, "putOff", "(I)V"⟩
abbrev cX5_write : ByteArray := prog_7_method_17_code
def yX5_write : MethodName := ⟨RX5, "write", "(I)V"⟩
def RX6 : String := "ValleyGuides$Rope"
def TX6 : u_T := fun k => match k with
  | 0 => ("ValleyGuides$Rope", "route", "I", false)
  | 1 => ("ValleyGuides$Rope", "strength", "I", false)
  | 2 => ("ValleyGuides$Rope", "start", "I", false)
  | 3 => ("ValleyGuides$Rope", "people", "I", false)
  | 4 => ("ValleyGuides$Rope", "step", "I", false)
  | 5 => ("ValleyGuides$Rope", "until", "I", false)
  | 6 => ("ValleyGuides$Rope", "spot", "I", false)
  | 7 => ("ValleyGuides$Rope", "behind", "I", false)
  | 8 => ("ValleyGuides$Rope", "doneIn", "I", false)
  | 9 => ("ValleyGuides$Rope", "turned", "Z", false)
  | 10 => ("ValleyGuides$Rope", "waited", "I", false)
  | 11 => ("ValleyGuides$Rope", "bedded", "I", false)
  | _ => ("ValleyGuides$Rope", "seen", "[I", true)
def tyX6 : Nat → FieldType := fun k => match k with
  | 0 => .int
  | 1 => .int
  | 2 => .int
  | 3 => .int
  | 4 => .int
  | 5 => .int
  | 6 => .int
  | 7 => .int
  | 8 => .int
  | 9 => .boolean
  | 10 => .int
  | 11 => .int
  | _ => .array .int
abbrev wsX60 : List Cond := u_ws RX6 TX6 13
theorem nmX6 : ∀ a, a < 13 → ∀ b, b < 13 → a ≠ b → (TX6 a).2.1 ≠ (TX6 b).2.1 := by decide +kernel
theorem tyX6_ok : ∀ k, k < 13 → parseFieldDescriptor (TX6 k).2.2.1 = some (tyX6 k) := by decide +kernel
abbrev cX6_init : ByteArray := prog_8_method_1_code
def yX6_init : MethodName := ⟨RX6, "<init>", "()V"⟩
abbrev cX6_reset : ByteArray := prog_8_method_2_code
def yX6_reset : MethodName := ⟨RX6, "reset", "()V"⟩
def RX7 : String := "ValleyGuides$Sky"
def TX7 : u_T := fun k => match k with
  | 0 => ("ValleyGuides$Sky", "lane", "[I", true)
  | 1 => ("ValleyGuides$Sky", "size", "[I", true)
  | _ => ("ValleyGuides$Sky", "cells", "[[I", true)
def tyX7 : Nat → FieldType := fun k => match k with
  | 0 => .array .int
  | 1 => .array .int
  | _ => .array (.array .int)
abbrev wsX70 : List Cond := u_ws RX7 TX7 3
theorem nmX7 : ∀ a, a < 3 → ∀ b, b < 3 → a ≠ b → (TX7 a).2.1 ≠ (TX7 b).2.1 := by decide +kernel
theorem tyX7_ok : ∀ k, k < 3 → parseFieldDescriptor (TX7 k).2.2.1 = some (tyX7 k) := by decide +kernel
abbrev cX7_init : ByteArray := prog_9_method_1_code
def yX7_init : MethodName := ⟨RX7, "<init>", "()V"⟩
abbrev cX7_renew : ByteArray := prog_9_method_2_code
def yX7_renew : MethodName := ⟨RX7, "renew", "(III)V"⟩
abbrev cX7_setCell : ByteArray := prog_9_method_3_code
def yX7_setCell : MethodName := ⟨RX7, "setCell", "(III)V"⟩
abbrev cX7_faultAt : ByteArray := prog_9_method_4_code
def yX7_faultAt : MethodName := ⟨RX7, "faultAt", "(II)I"⟩
abbrev cX7_valueAt : ByteArray := prog_9_method_5_code
def yX7_valueAt : MethodName := ⟨RX7, "valueAt", "(II)I"⟩
def RX8 : String := "ValleyGuides$Standing"
def TX8 : u_T := fun k => match k with
  | 0 => ("ValleyGuides$Standing", "guides", "I", false)
  | 1 => ("ValleyGuides$Standing", "order", "[I", true)
  | 2 => ("ValleyGuides$Standing", "date", "I", false)
  | 3 => ("ValleyGuides$Standing", "out", "I", false)
  | 4 => ("ValleyGuides$Standing", "paid", "[I", true)
  | 5 => ("ValleyGuides$Standing", "shared", "[I", true)
  | _ => ("ValleyGuides$Standing", "purse", "I", false)
def tyX8 : Nat → FieldType := fun k => match k with
  | 0 => .int
  | 1 => .array .int
  | 2 => .int
  | 3 => .int
  | 4 => .array .int
  | 5 => .array .int
  | _ => .int
abbrev wsX80 : List Cond := u_ws RX8 TX8 7
theorem nmX8 : ∀ a, a < 7 → ∀ b, b < 7 → a ≠ b → (TX8 a).2.1 ≠ (TX8 b).2.1 := by decide +kernel
theorem tyX8_ok : ∀ k, k < 7 → parseFieldDescriptor (TX8 k).2.2.1 = some (tyX8 k) := by decide +kernel
abbrev cX8_init : ByteArray := prog_10_method_1_code
def yX8_init : MethodName := ⟨RX8, "<init>", "()V"⟩
abbrev cX8_isOut : ByteArray := prog_10_method_2_code
def yX8_isOut : MethodName := ⟨RX8, "isOut", "(I)Z"⟩
abbrev cX8_placeOf : ByteArray := prog_10_method_3_code
def yX8_placeOf : MethodName := ⟨RX8, "placeOf", "(I)I"⟩
abbrev cX8_addLast : ByteArray := prog_10_method_4_code
def yX8_addLast : MethodName := ⟨RX8, "addLast", "()I"⟩
abbrev cX8_shareOut : ByteArray := prog_10_method_5_code
def yX8_shareOut : MethodName := ⟨RX8, "shareOut", "(II)V"⟩
abbrev cX8_copyFrom : ByteArray := prog_10_method_6_code
def yX8_copyFrom : MethodName := ⟨RX8, "copyFrom", "(LValleyGuides$Standing;)V"⟩
def RX9 : String := "ValleyGuides$Strangers"
def TX9 : u_T := fun k => match k with
  | 0 => ("ValleyGuides$Strangers", "people", "I", false)
  | 1 => ("ValleyGuides$Strangers", "strength", "[I", true)
  | 2 => ("ValleyGuides$Strangers", "wishes", "[[I", true)
  | 3 => ("ValleyGuides$Strangers", "worth", "[I", true)
  | _ => ("ValleyGuides$Strangers", "firstRope", "[I", true)
def tyX9 : Nat → FieldType := fun k => match k with
  | 0 => .int
  | 1 => .array .int
  | 2 => .array (.array .int)
  | 3 => .array .int
  | _ => .array .int
abbrev wsX90 : List Cond := u_ws RX9 TX9 5
theorem nmX9 : ∀ a, a < 5 → ∀ b, b < 5 → a ≠ b → (TX9 a).2.1 ≠ (TX9 b).2.1 := by decide +kernel
theorem tyX9_ok : ∀ k, k < 5 → parseFieldDescriptor (TX9 k).2.2.1 = some (tyX9 k) := by decide +kernel
abbrev cX9_init : ByteArray := prog_11_method_1_code
def yX9_init : MethodName := ⟨RX9, "<init>", "()V"⟩
abbrev cX9_has : ByteArray := prog_11_method_2_code
def yX9_has : MethodName := ⟨RX9, "has", "(I)Z"⟩
abbrev cX9_add : ByteArray := prog_11_method_3_code
def yX9_add : MethodName := ⟨RX9, "add", "(I)I"⟩
abbrev cX9_all : ByteArray := prog_11_method_4_code
def yX9_all : MethodName := ⟨RX9, "all", "()I"⟩
abbrev cX9_findRoping : ByteArray := prog_11_method_5_code
def yX9_findRoping : MethodName := ⟨RX9, "findRoping", "(I)Z"⟩
abbrev cX9_tryRopes : ByteArray := prog_11_method_6_code
def yX9_tryRopes : MethodName := ⟨RX9, "tryRopes", "(II)V"⟩
abbrev cX9_tryThrees : ByteArray := prog_11_method_7_code
def yX9_tryThrees : MethodName := ⟨RX9, "tryThrees", "(IIII)V"⟩
abbrev cX9_tryRope : ByteArray := prog_11_method_8_code
def yX9_tryRope : MethodName := ⟨RX9, "tryRope", "(III)V"⟩
abbrev cX9_bond : ByteArray := prog_11_method_9_code
def yX9_bond : MethodName := ⟨RX9, "bond", "(II)I"⟩
abbrev cX9_bestWorth : ByteArray := prog_11_method_10_code
def yX9_bestWorth : MethodName := ⟨RX9, "bestWorth", "()I"⟩
abbrev cX9_ropesInBest : ByteArray := prog_11_method_11_code
def yX9_ropesInBest : MethodName := ⟨RX9, "ropesInBest", "()I"⟩
abbrev cX9_ropeWith : ByteArray := prog_11_method_12_code
def yX9_ropeWith : MethodName := ⟨RX9, "ropeWith", "(I)I"⟩
def RX10 : String := "ValleyGuides$Walks"
def TX10 : u_T := fun k => match k with
  | 0 => ("ValleyGuides$Walks", "net", "LValleyGuides$Net;", true)
  | 1 => ("ValleyGuides$Walks", "sky", "LValleyGuides$Sky;", true)
  | 2 => ("ValleyGuides$Walks", "reached", "[I", true)
  | _ => ("ValleyGuides$Walks", "left", "[Z", true)
def tyX10 : Nat → FieldType := fun k => match k with
  | 0 => .object "ValleyGuides$Net"
  | 1 => .object "ValleyGuides$Sky"
  | 2 => .array .int
  | _ => .array .boolean
abbrev wsX100 : List Cond := u_ws RX10 TX10 4
theorem nmX10 : ∀ a, a < 4 → ∀ b, b < 4 → a ≠ b → (TX10 a).2.1 ≠ (TX10 b).2.1 := by decide +kernel
theorem tyX10_ok : ∀ k, k < 4 → parseFieldDescriptor (TX10 k).2.2.1 = some (tyX10 k) := by decide +kernel
abbrev cX10_init : ByteArray := prog_12_method_1_code
def yX10_init : MethodName := ⟨RX10, "<init>", "(LValleyGuides$Net;LValleyGuides$Sky;)V"⟩
abbrev cX10_stepTime : ByteArray := prog_12_method_2_code
def yX10_stepTime : MethodName := ⟨RX10, "stepTime", "(III)I"⟩
abbrev cX10_routeEnd : ByteArray := prog_12_method_3_code
def yX10_routeEnd : MethodName := ⟨RX10, "routeEnd", "(III)I"⟩
abbrev cX10_lastBegin : ByteArray := prog_12_method_4_code
def yX10_lastBegin : MethodName := ⟨RX10, "lastBegin", "(III)I"⟩
abbrev cX10_arrival : ByteArray := prog_12_method_5_code
def yX10_arrival : MethodName := ⟨RX10, "arrival", "(IIII)I"⟩
abbrev cX10_nearestNotLeft : ByteArray := prog_12_method_6_code
def yX10_nearestNotLeft : MethodName := ⟨RX10, "nearestNotLeft", "()I"⟩
abbrev cX10_leave : ByteArray := prog_12_method_7_code
def yX10_leave : MethodName := ⟨RX10, "leave", "(II)V"⟩
def RX11 : String := "ValleyGuides"
def TX11 : u_T := fun k => match k with
  | 0 => ("ValleyGuides", "net", "LValleyGuides$Net;", true)
  | 1 => ("ValleyGuides", "sky", "LValleyGuides$Sky;", true)
  | 2 => ("ValleyGuides", "walks", "LValleyGuides$Walks;", true)
  | 3 => ("ValleyGuides", "guild", "LValleyGuides$Guild;", true)
  | 4 => ("ValleyGuides", "reader", "LValleyGuides$Reader;", true)
  | 5 => ("ValleyGuides", "judge", "LValleyGuides$Judge;", true)
  | 6 => ("ValleyGuides", "strangers", "LValleyGuides$Strangers;", true)
  | 7 => ("ValleyGuides", "march", "LValleyGuides$March;", true)
  | _ => ("ValleyGuides", "hours", "LValleyGuides$Hours;", true)
def tyX11 : Nat → FieldType := fun k => match k with
  | 0 => .object "ValleyGuides$Net"
  | 1 => .object "ValleyGuides$Sky"
  | 2 => .object "ValleyGuides$Walks"
  | 3 => .object "ValleyGuides$Guild"
  | 4 => .object "ValleyGuides$Reader"
  | 5 => .object "ValleyGuides$Judge"
  | 6 => .object "ValleyGuides$Strangers"
  | 7 => .object "ValleyGuides$March"
  | _ => .object "ValleyGuides$Hours"
abbrev wsX110 : List Cond := u_ws RX11 TX11 9
theorem nmX11 : ∀ a, a < 9 → ∀ b, b < 9 → a ≠ b → (TX11 a).2.1 ≠ (TX11 b).2.1 := by decide +kernel
theorem tyX11_ok : ∀ k, k < 9 → parseFieldDescriptor (TX11 k).2.2.1 = some (tyX11 k) := by decide +kernel
abbrev cX11_init : ByteArray := prog_1_method_1_code
def yX11_init : MethodName := ⟨RX11, "<init>", "()V"⟩
abbrev cX11_within : ByteArray := prog_1_method_2_code
def yX11_within : MethodName := ⟨RX11, "within", "(III)Z"⟩
abbrev cX11_held : ByteArray := prog_1_method_3_code
def yX11_held : MethodName := ⟨RX11, "held", "(III)I"⟩
abbrev cX11_isStrength : ByteArray := prog_1_method_4_code
def yX11_isStrength : MethodName := ⟨RX11, "isStrength", "(I)Z"⟩
abbrev cX11_isQuarter : ByteArray := prog_1_method_5_code
def yX11_isQuarter : MethodName := ⟨RX11, "isQuarter", "(I)Z"⟩
abbrev cX11_place : ByteArray := prog_1_method_6_code
def yX11_place : MethodName := ⟨RX11, "place", "(I)I"⟩
abbrev cX11_step : ByteArray := prog_1_method_7_code
def yX11_step : MethodName := ⟨RX11, "step", "(IIIIIZ)I"⟩
abbrev cX11_stepOf : ByteArray := prog_1_method_8_code
def yX11_stepOf : MethodName := ⟨RX11, "stepOf", "(II)I"⟩
abbrev cX11_route : ByteArray := prog_1_method_9_code
def yX11_route : MethodName := ⟨RX11, "route", "(I)I"⟩
abbrev cX11_on : ByteArray := prog_1_method_10_code
def yX11_on : MethodName := ⟨RX11, "on", "(II)I"⟩
abbrev cX11_routeOf : ByteArray := prog_1_method_11_code
def yX11_routeOf : MethodName := ⟨RX11, "routeOf", "(II)I"⟩
abbrev cX11_sheet : ByteArray := prog_1_method_12_code
def yX11_sheet : MethodName := ⟨RX11, "sheet", "(III)I"⟩
abbrev cX11_lay : ByteArray := prog_1_method_13_code
def yX11_lay : MethodName := ⟨RX11, "lay", "(III)I"⟩
abbrev cX11_tear : ByteArray := prog_1_method_14_code
def yX11_tear : MethodName := ⟨RX11, "tear", "(I)I"⟩
abbrev cX11_weather : ByteArray := prog_1_method_15_code
def yX11_weather : MethodName := ⟨RX11, "weather", "(II)I"⟩
abbrev cX11_unknown : ByteArray := prog_1_method_16_code
def yX11_unknown : MethodName := ⟨RX11, "unknown", "(II)I"⟩
abbrev cX11_takes : ByteArray := prog_1_method_17_code
def yX11_takes : MethodName := ⟨RX11, "takes", "(III)I"⟩
abbrev cX11_hour : ByteArray := prog_1_method_18_code
def yX11_hour : MethodName := ⟨RX11, "hour", "(III)I"⟩
abbrev cX11_late : ByteArray := prog_1_method_19_code
def yX11_late : MethodName := ⟨RX11, "late", "(III)I"⟩
abbrev cX11_way : ByteArray := prog_1_method_20_code
def yX11_way : MethodName := ⟨RX11, "way", "(IIII)I"⟩
abbrev cX11_guide : ByteArray := prog_1_method_21_code
def yX11_guide : MethodName := ⟨RX11, "guide", "(III)I"⟩
abbrev cX11_papers : ByteArray := prog_1_method_22_code
def yX11_papers : MethodName := ⟨RX11, "papers", "(II)I"⟩
abbrev cX11_told : ByteArray := prog_1_method_23_code
def yX11_told : MethodName := ⟨RX11, "told", "(II)I"⟩
abbrev cX11_list : ByteArray := prog_1_method_24_code
def yX11_list : MethodName := ⟨RX11, "list", "(I)I"⟩
abbrev cX11_day : ByteArray := prog_1_method_25_code
def yX11_day : MethodName := ⟨RX11, "day", "(I)I"⟩
abbrev cX11_feed : ByteArray := prog_1_method_26_code
def yX11_feed : MethodName := ⟨RX11, "feed", "(J)I"⟩
abbrev cX11_end : ByteArray := prog_1_method_27_code
def yX11_end : MethodName := ⟨RX11, "end", "(I)I"⟩
abbrev cX11_text : ByteArray := prog_1_method_28_code
def yX11_text : MethodName := ⟨RX11, "text", "()I"⟩
abbrev cX11_fault : ByteArray := prog_1_method_29_code
def yX11_fault : MethodName := ⟨RX11, "fault", "()I"⟩
abbrev cX11_why : ByteArray := prog_1_method_30_code
def yX11_why : MethodName := ⟨RX11, "why", "(III)I"⟩
abbrev cX11_pay : ByteArray := prog_1_method_31_code
def yX11_pay : MethodName := ⟨RX11, "pay", "(III)I"⟩
abbrev cX11_asked : ByteArray := prog_1_method_32_code
def yX11_asked : MethodName := ⟨RX11, "asked", "(III)I"⟩
abbrev cX11_turn : ByteArray := prog_1_method_33_code
def yX11_turn : MethodName := ⟨RX11, "turn", "(IIII)I"⟩
abbrev cX11_go : ByteArray := prog_1_method_34_code
def yX11_go : MethodName := ⟨RX11, "go", "(III)I"⟩
abbrev cX11_isCase : ByteArray := prog_1_method_35_code
def yX11_isCase : MethodName := ⟨RX11, "isCase", "(III)Z"⟩
abbrev cX11_person : ByteArray := prog_1_method_36_code
def yX11_person : MethodName := ⟨RX11, "person", "(I)I"⟩
abbrev cX11_wish : ByteArray := prog_1_method_37_code
def yX11_wish : MethodName := ⟨RX11, "wish", "(III)I"⟩
abbrev cX11_roping : ByteArray := prog_1_method_38_code
def yX11_roping : MethodName := ⟨RX11, "roping", "(II)I"⟩
abbrev cX11_rope : ByteArray := prog_1_method_39_code
def yX11_rope : MethodName := ⟨RX11, "rope", "(IIII)I"⟩
abbrev cX11_unrope : ByteArray := prog_1_method_40_code
def yX11_unrope : MethodName := ⟨RX11, "unrope", "()I"⟩
abbrev cX11_went : ByteArray := prog_1_method_41_code
def yX11_went : MethodName := ⟨RX11, "went", "(II)I"⟩
abbrev cX11_stayed : ByteArray := prog_1_method_42_code
def yX11_stayed : MethodName := ⟨RX11, "stayed", "(II)I"⟩
abbrev cX11_at : ByteArray := prog_1_method_43_code
def yX11_at : MethodName := ⟨RX11, "at", "(II)I"⟩
abbrev cX11_near : ByteArray := prog_1_method_44_code
def yX11_near : MethodName := ⟨RX11, "near", "(III)I"⟩
abbrev cX11_guideAt : ByteArray := prog_1_method_45_code
def yX11_guideAt : MethodName := ⟨RX11, "guideAt", "(III)I"⟩
abbrev cX11_ropeAt : ByteArray := prog_1_method_46_code
def yX11_ropeAt : MethodName := ⟨RX11, "ropeAt", "(III)I"⟩
abbrev cX11_entry : ByteArray := prog_1_method_47_code
def yX11_entry : MethodName := ⟨RX11, "entry", "(III)I"⟩
abbrev cX11_grade : ByteArray := prog_1_method_48_code
def yX11_grade : MethodName := ⟨RX11, "grade", "(III)J"⟩
abbrev cX11_over : ByteArray := prog_1_method_49_code
def yX11_over : MethodName := ⟨RX11, "over", "(II)J"⟩
abbrev cX11_pieces : ByteArray := prog_1_method_50_code
def yX11_pieces : MethodName := ⟨RX11, "pieces", "()I"⟩
abbrev cX11_give : ByteArray := prog_1_method_51_code
def yX11_give : MethodName := ⟨RX11, "give", "(I)I"⟩
abbrev cX11_share : ByteArray := prog_1_method_52_code
def yX11_share : MethodName := ⟨RX11, "share", "(I)I"⟩
abbrev cX11_image : ByteArray := prog_1_method_53_code
def yX11_image : MethodName := ⟨RX11, "image", "()I"⟩
abbrev cX11_back : ByteArray := prog_1_method_54_code
def yX11_back : MethodName := ⟨RX11, "back", "()I"⟩
abbrev cX11_count : ByteArray := prog_1_method_55_code
def yX11_count : MethodName := ⟨RX11, "count", "(I)I"⟩
def RX12 : String := "ValleyGuidesModel"
def TX12 : u_T := fun k => match k with
  | 0 => ("ValleyGuidesModel", "places", "I", false)
  | 1 => ("ValleyGuidesModel", "beds", "[I", true)
  | 2 => ("ValleyGuidesModel", "steps", "I", false)
  | 3 => ("ValleyGuidesModel", "sFrom", "[I", true)
  | 4 => ("ValleyGuidesModel", "sTo", "[I", true)
  | 5 => ("ValleyGuidesModel", "sorts", "[I", true)
  | 6 => ("ValleyGuidesModel", "lengths", "[I", true)
  | 7 => ("ValleyGuidesModel", "hards", "[I", true)
  | 8 => ("ValleyGuidesModel", "isNarrow", "[Z", true)
  | 9 => ("ValleyGuidesModel", "routes", "I", false)
  | 10 => ("ValleyGuidesModel", "rMany", "[I", true)
  | 11 => ("ValleyGuidesModel", "rSteps", "[I", true)
  | 12 => ("ValleyGuidesModel", "lanes", "[I", true)
  | 13 => ("ValleyGuidesModel", "sizes", "[I", true)
  | 14 => ("ValleyGuidesModel", "cells", "[I", true)
  | 15 => ("ValleyGuidesModel", "there", "[I", true)
  | 16 => ("ValleyGuidesModel", "isLeft", "[Z", true)
  | 17 => ("ValleyGuidesModel", "guides", "I", false)
  | 18 => ("ValleyGuidesModel", "gGrade", "[I", true)
  | 19 => ("ValleyGuidesModel", "gStrength", "[I", true)
  | 20 => ("ValleyGuidesModel", "gPapers", "[I", true)
  | 21 => ("ValleyGuidesModel", "isOut", "[Z", true)
  | 22 => ("ValleyGuidesModel", "paid", "[I", true)
  | 23 => ("ValleyGuidesModel", "given", "[I", true)
  | 24 => ("ValleyGuidesModel", "order", "[I", true)
  | 25 => ("ValleyGuidesModel", "today", "I", false)
  | 26 => ("ValleyGuidesModel", "purse", "I", false)
  | 27 => ("ValleyGuidesModel", "tape", "[I", true)
  | 28 => ("ValleyGuidesModel", "taped", "I", false)
  | 29 => ("ValleyGuidesModel", "pos", "I", false)
  | 30 => ("ValleyGuidesModel", "from", "I", false)
  | 31 => ("ValleyGuidesModel", "sort", "I", false)
  | 32 => ("ValleyGuidesModel", "value", "I", false)
  | 33 => ("ValleyGuidesModel", "fault", "I", false)
  | 34 => ("ValleyGuidesModel", "wrongAt", "I", false)
  | 35 => ("ValleyGuidesModel", "lines", "I", false)
  | 36 => ("ValleyGuidesModel", "lSort", "[I", true)
  | 37 => ("ValleyGuidesModel", "lBegin", "[I", true)
  | 38 => ("ValleyGuidesModel", "codes", "[I", true)
  | 39 => ("ValleyGuidesModel", "dLines", "I", false)
  | 40 => ("ValleyGuidesModel", "dSort", "[I", true)
  | 41 => ("ValleyGuidesModel", "dBegin", "[I", true)
  | 42 => ("ValleyGuidesModel", "draft", "[I", true)
  | 43 => ("ValleyGuidesModel", "drafted", "I", false)
  | 44 => ("ValleyGuidesModel", "waiting", "[I", true)
  | 45 => ("ValleyGuidesModel", "waitingMany", "I", false)
  | 46 => ("ValleyGuidesModel", "variables", "[I", true)
  | 47 => ("ValleyGuidesModel", "stack", "[I", true)
  | 48 => ("ValleyGuidesModel", "who", "[I", true)
  | 49 => ("ValleyGuidesModel", "people", "I", false)
  | 50 => ("ValleyGuidesModel", "strengths", "[I", true)
  | 51 => ("ValleyGuidesModel", "wishes", "[I", true)
  | 52 => ("ValleyGuidesModel", "worths", "[I", true)
  | 53 => ("ValleyGuidesModel", "firsts", "[I", true)
  | 54 => ("ValleyGuidesModel", "ropes", "I", false)
  | 55 => ("ValleyGuidesModel", "oRoute", "[I", true)
  | 56 => ("ValleyGuidesModel", "oStrength", "[I", true)
  | 57 => ("ValleyGuidesModel", "oStart", "[I", true)
  | 58 => ("ValleyGuidesModel", "oPeople", "[I", true)
  | 59 => ("ValleyGuidesModel", "hasBegun", "[Z", true)
  | 60 => ("ValleyGuidesModel", "isDone", "[Z", true)
  | 61 => ("ValleyGuidesModel", "hasTurned", "[Z", true)
  | 62 => ("ValleyGuidesModel", "behind", "[I", true)
  | 63 => ("ValleyGuidesModel", "place", "[I", true)
  | 64 => ("ValleyGuidesModel", "cameAt", "[I", true)
  | 65 => ("ValleyGuidesModel", "until", "[I", true)
  | 66 => ("ValleyGuidesModel", "doneAt", "[I", true)
  | 67 => ("ValleyGuidesModel", "waited", "[I", true)
  | 68 => ("ValleyGuidesModel", "inBeds", "[I", true)
  | 69 => ("ValleyGuidesModel", "bedsTaken", "[I", true)
  | 70 => ("ValleyGuidesModel", "lieOut", "[I", true)
  | 71 => ("ValleyGuidesModel", "comings", "[I", true)
  | 72 => ("ValleyGuidesModel", "isDecided", "[Z", true)
  | 73 => ("ValleyGuidesModel", "entries", "I", false)
  | 74 => ("ValleyGuidesModel", "eRoute", "[I", true)
  | 75 => ("ValleyGuidesModel", "eGuide", "[I", true)
  | 76 => ("ValleyGuidesModel", "eQuarters", "[I", true)
  | 77 => ("ValleyGuidesModel", "lots", "[I", true)
  | 78 => ("ValleyGuidesModel", "square", "[J", true)
  | 79 => ("ValleyGuidesModel", "right", "[J", true)
  | 80 => ("ValleyGuidesModel", "spots", "[I", true)
  | 81 => ("ValleyGuidesModel", "over", "J", false)
  | 82 => ("ValleyGuidesModel", "under", "J", false)
  | 83 => ("ValleyGuidesModel", "iGuides", "I", false)
  | 84 => ("ValleyGuidesModel", "iOrder", "[I", true)
  | 85 => ("ValleyGuidesModel", "iOut", "[Z", true)
  | 86 => ("ValleyGuidesModel", "iPaid", "[I", true)
  | 87 => ("ValleyGuidesModel", "iGiven", "[I", true)
  | 88 => ("ValleyGuidesModel", "iToday", "I", false)
  | _ => ("ValleyGuidesModel", "iPurse", "I", false)
def tyX12 : Nat → FieldType := fun k => match k with
  | 0 => .int
  | 1 => .array .int
  | 2 => .int
  | 3 => .array .int
  | 4 => .array .int
  | 5 => .array .int
  | 6 => .array .int
  | 7 => .array .int
  | 8 => .array .boolean
  | 9 => .int
  | 10 => .array .int
  | 11 => .array .int
  | 12 => .array .int
  | 13 => .array .int
  | 14 => .array .int
  | 15 => .array .int
  | 16 => .array .boolean
  | 17 => .int
  | 18 => .array .int
  | 19 => .array .int
  | 20 => .array .int
  | 21 => .array .boolean
  | 22 => .array .int
  | 23 => .array .int
  | 24 => .array .int
  | 25 => .int
  | 26 => .int
  | 27 => .array .int
  | 28 => .int
  | 29 => .int
  | 30 => .int
  | 31 => .int
  | 32 => .int
  | 33 => .int
  | 34 => .int
  | 35 => .int
  | 36 => .array .int
  | 37 => .array .int
  | 38 => .array .int
  | 39 => .int
  | 40 => .array .int
  | 41 => .array .int
  | 42 => .array .int
  | 43 => .int
  | 44 => .array .int
  | 45 => .int
  | 46 => .array .int
  | 47 => .array .int
  | 48 => .array .int
  | 49 => .int
  | 50 => .array .int
  | 51 => .array .int
  | 52 => .array .int
  | 53 => .array .int
  | 54 => .int
  | 55 => .array .int
  | 56 => .array .int
  | 57 => .array .int
  | 58 => .array .int
  | 59 => .array .boolean
  | 60 => .array .boolean
  | 61 => .array .boolean
  | 62 => .array .int
  | 63 => .array .int
  | 64 => .array .int
  | 65 => .array .int
  | 66 => .array .int
  | 67 => .array .int
  | 68 => .array .int
  | 69 => .array .int
  | 70 => .array .int
  | 71 => .array .int
  | 72 => .array .boolean
  | 73 => .int
  | 74 => .array .int
  | 75 => .array .int
  | 76 => .array .int
  | 77 => .array .int
  | 78 => .array .long
  | 79 => .array .long
  | 80 => .array .int
  | 81 => .long
  | 82 => .long
  | 83 => .int
  | 84 => .array .int
  | 85 => .array .boolean
  | 86 => .array .int
  | 87 => .array .int
  | 88 => .int
  | _ => .int
abbrev wsX120 : List Cond := u_ws RX12 TX12 90
theorem nmX12 : ∀ a, a < 90 → ∀ b, b < 90 → a ≠ b → (TX12 a).2.1 ≠ (TX12 b).2.1 := by decide +kernel
theorem tyX12_ok : ∀ k, k < 90 → parseFieldDescriptor (TX12 k).2.2.1 = some (tyX12 k) := by decide +kernel
abbrev cX12_init : ByteArray := prog_14_method_1_code
def yX12_init : MethodName := ⟨RX12, "<init>", "()V"⟩
abbrev cX12_in : ByteArray := prog_14_method_3_code
def yX12_in : MethodName := ⟨RX12, "in", "(JJJ)Z"⟩
abbrev cX12_held : ByteArray := prog_14_method_4_code
def yX12_held : MethodName := ⟨RX12, "held", "(III)I"⟩
abbrev cX12_isPlace : ByteArray := prog_14_method_5_code
def yX12_isPlace : MethodName := ⟨RX12, "isPlace", "(I)Z"⟩
abbrev cX12_isStep : ByteArray := prog_14_method_6_code
def yX12_isStep : MethodName := ⟨RX12, "isStep", "(I)Z"⟩
abbrev cX12_isRoute : ByteArray := prog_14_method_7_code
def yX12_isRoute : MethodName := ⟨RX12, "isRoute", "(I)Z"⟩
abbrev cX12_place : ByteArray := prog_14_method_8_code
def yX12_place : MethodName := ⟨RX12, "place", "(I)I"⟩
abbrev cX12_step : ByteArray := prog_14_method_9_code
def yX12_step : MethodName := ⟨RX12, "step", "(IIIIIZ)I"⟩
abbrev cX12_stepOf : ByteArray := prog_14_method_10_code
def yX12_stepOf : MethodName := ⟨RX12, "stepOf", "(II)I"⟩
abbrev cX12_route : ByteArray := prog_14_method_11_code
def yX12_route : MethodName := ⟨RX12, "route", "(I)I"⟩
abbrev cX12_stepAt : ByteArray := prog_14_method_12_code
def yX12_stepAt : MethodName := ⟨RX12, "stepAt", "(II)I"⟩
abbrev cX12_endOf : ByteArray := prog_14_method_13_code
def yX12_endOf : MethodName := ⟨RX12, "endOf", "(I)I"⟩
abbrev cX12_on : ByteArray := prog_14_method_14_code
def yX12_on : MethodName := ⟨RX12, "on", "(II)I"⟩
abbrev cX12_greatestHard : ByteArray := prog_14_method_15_code
def yX12_greatestHard : MethodName := ⟨RX12, "greatestHard", "(I)I"⟩
abbrev cX12_sumHard : ByteArray := prog_14_method_16_code
def yX12_sumHard : MethodName := ⟨RX12, "sumHard", "(I)I"⟩
abbrev cX12_sumLength : ByteArray := prog_14_method_17_code
def yX12_sumLength : MethodName := ⟨RX12, "sumLength", "(I)I"⟩
abbrev cX12_routeOf : ByteArray := prog_14_method_18_code
def yX12_routeOf : MethodName := ⟨RX12, "routeOf", "(II)I"⟩
abbrev cX12_sheet : ByteArray := prog_14_method_19_code
def yX12_sheet : MethodName := ⟨RX12, "sheet", "(III)I"⟩
abbrev cX12_lay : ByteArray := prog_14_method_20_code
def yX12_lay : MethodName := ⟨RX12, "lay", "(III)I"⟩
abbrev cX12_tear : ByteArray := prog_14_method_21_code
def yX12_tear : MethodName := ⟨RX12, "tear", "(I)I"⟩
abbrev cX12_faultOf : ByteArray := prog_14_method_22_code
def yX12_faultOf : MethodName := ⟨RX12, "faultOf", "(II)I"⟩
abbrev cX12_weatherOf : ByteArray := prog_14_method_23_code
def yX12_weatherOf : MethodName := ⟨RX12, "weatherOf", "(II)I"⟩
abbrev cX12_weather : ByteArray := prog_14_method_24_code
def yX12_weather : MethodName := ⟨RX12, "weather", "(II)I"⟩
abbrev cX12_unknown : ByteArray := prog_14_method_25_code
def yX12_unknown : MethodName := ⟨RX12, "unknown", "(II)I"⟩
abbrev cX12_takesOf : ByteArray := prog_14_method_26_code
def yX12_takesOf : MethodName := ⟨RX12, "takesOf", "(III)I"⟩
abbrev cX12_takes : ByteArray := prog_14_method_27_code
def yX12_takes : MethodName := ⟨RX12, "takes", "(III)I"⟩
abbrev cX12_hourOf : ByteArray := prog_14_method_28_code
def yX12_hourOf : MethodName := ⟨RX12, "hourOf", "(III)I"⟩
abbrev cX12_hour : ByteArray := prog_14_method_29_code
def yX12_hour : MethodName := ⟨RX12, "hour", "(III)I"⟩
abbrev cX12_late : ByteArray := prog_14_method_30_code
def yX12_late : MethodName := ⟨RX12, "late", "(III)I"⟩
abbrev cX12_wayOf : ByteArray := prog_14_method_31_code
def yX12_wayOf : MethodName := ⟨RX12, "wayOf", "(IIII)I"⟩
abbrev cX12_way : ByteArray := prog_14_method_32_code
def yX12_way : MethodName := ⟨RX12, "way", "(IIII)I"⟩
abbrev cX12_isGuide : ByteArray := prog_14_method_33_code
def yX12_isGuide : MethodName := ⟨RX12, "isGuide", "(I)Z"⟩
abbrev cX12_guide : ByteArray := prog_14_method_34_code
def yX12_guide : MethodName := ⟨RX12, "guide", "(III)I"⟩
abbrev cX12_papers : ByteArray := prog_14_method_35_code
def yX12_papers : MethodName := ⟨RX12, "papers", "(II)I"⟩
abbrev cX12_placeInList : ByteArray := prog_14_method_36_code
def yX12_placeInList : MethodName := ⟨RX12, "placeInList", "(I)I"⟩
abbrev cX12_told : ByteArray := prog_14_method_37_code
def yX12_told : MethodName := ⟨RX12, "told", "(II)I"⟩
abbrev cX12_list : ByteArray := prog_14_method_38_code
def yX12_list : MethodName := ⟨RX12, "list", "(I)I"⟩
abbrev cX12_day : ByteArray := prog_14_method_39_code
def yX12_day : MethodName := ⟨RX12, "day", "(I)I"⟩
abbrev cX12_feed : ByteArray := prog_14_method_40_code
def yX12_feed : MethodName := ⟨RX12, "feed", "(J)I"⟩
abbrev cX12_end : ByteArray := prog_14_method_41_code
def yX12_end : MethodName := ⟨RX12, "end", "(I)I"⟩
abbrev cX12_wants : ByteArray := prog_14_method_42_code
def yX12_wants : MethodName := ⟨RX12, "wants", "(ZI)V"⟩
abbrev cX12_look : ByteArray := prog_14_method_43_code
def yX12_look : MethodName := ⟨RX12, "look", "(I)I"⟩
abbrev cX12_is : ByteArray := prog_14_method_44_code
def yX12_is : MethodName := ⟨RX12, "is", "(IIIII)Z"⟩
abbrev cX12_goesWith : ByteArray := prog_14_method_45_code
def yX12_goesWith : MethodName := ⟨RX12, "goesWith", "(III)Z"⟩
abbrev cX12_nameNow : ByteArray := prog_14_method_46_code
def yX12_nameNow : MethodName := ⟨RX12, "nameNow", "()I"⟩
abbrev cX12_variableNow : ByteArray := prog_14_method_47_code
def yX12_variableNow : MethodName := ⟨RX12, "variableNow", "()I"⟩
abbrev cX12_next : ByteArray := prog_14_method_48_code
def yX12_next : MethodName := ⟨RX12, "next", "()V"⟩
abbrev cX12_isSign : ByteArray := prog_14_method_49_code
def yX12_isSign : MethodName := ⟨RX12, "isSign", "(I)Z"⟩
abbrev cX12_isName : ByteArray := prog_14_method_50_code
def yX12_isName : MethodName := ⟨RX12, "isName", "(I)Z"⟩
abbrev cX12_code : ByteArray := prog_14_method_51_code
def yX12_code : MethodName := ⟨RX12, "code", "(I)V"⟩
abbrev cX12_rank : ByteArray := prog_14_method_52_code
def yX12_rank : MethodName := ⟨RX12, "rank", "(I)I"⟩
abbrev cX12_readSum : ByteArray := prog_14_method_53_code
def yX12_readSum : MethodName := ⟨RX12, "readSum", "()V"⟩
abbrev cX12_pops : ByteArray := prog_14_method_54_code
def yX12_pops : MethodName := ⟨RX12, "pops", "(I)V"⟩
abbrev cX12_readOne : ByteArray := prog_14_method_55_code
def yX12_readOne : MethodName := ⟨RX12, "readOne", "()V"⟩
abbrev cX12_readTest : ByteArray := prog_14_method_56_code
def yX12_readTest : MethodName := ⟨RX12, "readTest", "()V"⟩
abbrev cX12_readLine : ByteArray := prog_14_method_57_code
def yX12_readLine : MethodName := ⟨RX12, "readLine", "()V"⟩
abbrev cX12_text : ByteArray := prog_14_method_58_code
def yX12_text : MethodName := ⟨RX12, "text", "()I"⟩
abbrev cX12_fault : ByteArray := prog_14_method_59_code
def yX12_fault : MethodName := ⟨RX12, "fault", "()I"⟩
abbrev cX12_sets : ByteArray := prog_14_method_60_code
def yX12_sets : MethodName := ⟨RX12, "sets", "(III)V"⟩
abbrev cX12_work : ByteArray := prog_14_method_61_code
def yX12_work : MethodName := ⟨RX12, "work", "(III)I"⟩
abbrev cX12_worked : ByteArray := prog_14_method_62_code
def yX12_worked : MethodName := ⟨RX12, "worked", "(I)I"⟩
abbrev cX12_isAsked : ByteArray := prog_14_method_63_code
def yX12_isAsked : MethodName := ⟨RX12, "isAsked", "(III)Z"⟩
abbrev cX12_whyNow : ByteArray := prog_14_method_64_code
def yX12_whyNow : MethodName := ⟨RX12, "whyNow", "()I"⟩
abbrev cX12_why : ByteArray := prog_14_method_65_code
def yX12_why : MethodName := ⟨RX12, "why", "(III)I"⟩
abbrev cX12_payNow : ByteArray := prog_14_method_66_code
def yX12_payNow : MethodName := ⟨RX12, "payNow", "()I"⟩
abbrev cX12_pay : ByteArray := prog_14_method_67_code
def yX12_pay : MethodName := ⟨RX12, "pay", "(III)I"⟩
abbrev cX12_askedNow : ByteArray := prog_14_method_68_code
def yX12_askedNow : MethodName := ⟨RX12, "askedNow", "()I"⟩
abbrev cX12_asked : ByteArray := prog_14_method_69_code
def yX12_asked : MethodName := ⟨RX12, "asked", "(III)I"⟩
abbrev cX12_findTurn : ByteArray := prog_14_method_70_code
def yX12_findTurn : MethodName := ⟨RX12, "findTurn", "()I"⟩
abbrev cX12_turn : ByteArray := prog_14_method_71_code
def yX12_turn : MethodName := ⟨RX12, "turn", "(IIII)I"⟩
abbrev cX12_go : ByteArray := prog_14_method_72_code
def yX12_go : MethodName := ⟨RX12, "go", "(III)I"⟩
abbrev cX12_person : ByteArray := prog_14_method_73_code
def yX12_person : MethodName := ⟨RX12, "person", "(I)I"⟩
abbrev cX12_wish : ByteArray := prog_14_method_74_code
def yX12_wish : MethodName := ⟨RX12, "wish", "(III)I"⟩
abbrev cX12_bits : ByteArray := prog_14_method_75_code
def yX12_bits : MethodName := ⟨RX12, "bits", "(I)I"⟩
abbrev cX12_ropeWorth : ByteArray := prog_14_method_76_code
def yX12_ropeWorth : MethodName := ⟨RX12, "ropeWorth", "(II)I"⟩
abbrev cX12_findRoping : ByteArray := prog_14_method_77_code
def yX12_findRoping : MethodName := ⟨RX12, "findRoping", "(I)V"⟩
abbrev cX12_roping : ByteArray := prog_14_method_78_code
def yX12_roping : MethodName := ⟨RX12, "roping", "(II)I"⟩
abbrev cX12_rope : ByteArray := prog_14_method_79_code
def yX12_rope : MethodName := ⟨RX12, "rope", "(IIII)I"⟩
abbrev cX12_unrope : ByteArray := prog_14_method_80_code
def yX12_unrope : MethodName := ⟨RX12, "unrope", "()I"⟩
abbrev cX12_comes : ByteArray := prog_14_method_81_code
def yX12_comes : MethodName := ⟨RX12, "comes", "(III)V"⟩
abbrev cX12_done : ByteArray := prog_14_method_82_code
def yX12_done : MethodName := ⟨RX12, "done", "(II)V"⟩
abbrev cX12_bearsOne : ByteArray := prog_14_method_83_code
def yX12_bearsOne : MethodName := ⟨RX12, "bearsOne", "(I)Z"⟩
abbrev cX12_isCalledBack : ByteArray := prog_14_method_84_code
def yX12_isCalledBack : MethodName := ⟨RX12, "isCalledBack", "(II)Z"⟩
abbrev cX12_decides : ByteArray := prog_14_method_85_code
def yX12_decides : MethodName := ⟨RX12, "decides", "(II)V"⟩
abbrev cX12_quarter : ByteArray := prog_14_method_86_code
def yX12_quarter : MethodName := ⟨RX12, "quarter", "(I)V"⟩
abbrev cX12_goesTo : ByteArray := prog_14_method_87_code
def yX12_goesTo : MethodName := ⟨RX12, "goesTo", "(I)V"⟩
abbrev cX12_went : ByteArray := prog_14_method_88_code
def yX12_went : MethodName := ⟨RX12, "went", "(II)I"⟩
abbrev cX12_stayed : ByteArray := prog_14_method_89_code
def yX12_stayed : MethodName := ⟨RX12, "stayed", "(II)I"⟩
abbrev cX12_where : ByteArray := prog_14_method_90_code
def yX12_where : MethodName := ⟨RX12, "where", "(I)I"⟩
abbrev cX12_at : ByteArray := prog_14_method_91_code
def yX12_at : MethodName := ⟨RX12, "at", "(II)I"⟩
abbrev cX12_near : ByteArray := prog_14_method_92_code
def yX12_near : MethodName := ⟨RX12, "near", "(III)I"⟩
abbrev cX12_entry : ByteArray := prog_14_method_93_code
def yX12_entry : MethodName := ⟨RX12, "entry", "(III)I"⟩
abbrev cX12_findLots : ByteArray := prog_14_method_94_code
def yX12_findLots : MethodName := ⟨RX12, "findLots", "()V"⟩
abbrev cX12_rootOf : ByteArray := prog_14_method_95_code
def yX12_rootOf : MethodName := ⟨RX12, "rootOf", "(I)I"⟩
abbrev cX12_adds : ByteArray := prog_14_method_96_code
def yX12_adds : MethodName := ⟨RX12, "adds", "(IIJ)V"⟩
abbrev cX12_lowest : ByteArray := prog_14_method_97_code
def yX12_lowest : MethodName := ⟨RX12, "lowest", "(JJ)V"⟩
abbrev cX12_findGrade : ByteArray := prog_14_method_98_code
def yX12_findGrade : MethodName := ⟨RX12, "findGrade", "(I)V"⟩
abbrev cX12_grade : ByteArray := prog_14_method_99_code
def yX12_grade : MethodName := ⟨RX12, "grade", "(III)J"⟩
abbrev cX12_over : ByteArray := prog_14_method_100_code
def yX12_over : MethodName := ⟨RX12, "over", "(II)J"⟩
abbrev cX12_pieces : ByteArray := prog_14_method_101_code
def yX12_pieces : MethodName := ⟨RX12, "pieces", "()I"⟩
abbrev cX12_give : ByteArray := prog_14_method_102_code
def yX12_give : MethodName := ⟨RX12, "give", "(I)I"⟩
abbrev cX12_share : ByteArray := prog_14_method_103_code
def yX12_share : MethodName := ⟨RX12, "share", "(I)I"⟩
abbrev cX12_image : ByteArray := prog_14_method_104_code
def yX12_image : MethodName := ⟨RX12, "image", "()I"⟩
abbrev cX12_back : ByteArray := prog_14_method_105_code
def yX12_back : MethodName := ⟨RX12, "back", "()I"⟩
abbrev cX12_count : ByteArray := prog_14_method_106_code
def yX12_count : MethodName := ⟨RX12, "count", "(I)I"⟩
def RJ11 : String := "java/lang/Character"
def TJ11 : u_T := fun k => match k with
  | _ => ("", "", "", false)
def tyJ11 : Nat → FieldType := fun k => match k with
  | _ => .int
abbrev wsJ110 : List Cond := u_ws RJ11 TJ11 0
theorem nmJ11 : ∀ a, a < 0 → ∀ b, b < 0 → a ≠ b → (TJ11 a).2.1 ≠ (TJ11 b).2.1 := by decide +kernel
theorem tyJ11_ok : ∀ k, k < 0 → parseFieldDescriptor (TJ11 k).2.2.1 = some (tyJ11 k) := by decide +kernel
abbrev cJ11_isValidCodePoint_9a6ad : ByteArray := prog_15_method_11_code
def yJ11_isValidCodePoint_9a6ad : MethodName := ⟨RJ11, "isValidCodePoint", "(I)Z"⟩
abbrev cJ11_highSurrogate_5068e : ByteArray := prog_15_method_28_code
def yJ11_highSurrogate_5068e : MethodName := ⟨RJ11, "highSurrogate", "(I)C"⟩
abbrev cJ11_lowSurrogate_5068e : ByteArray := prog_15_method_29_code
def yJ11_lowSurrogate_5068e : MethodName := ⟨RJ11, "lowSurrogate", "(I)C"⟩
def RJ6 : String := "java/lang/Integer"
def TJ6 : u_T := fun k => match k with
  | _ => ("", "", "", false)
def tyJ6 : Nat → FieldType := fun k => match k with
  | _ => .int
abbrev wsJ60 : List Cond := u_ws RJ6 TJ6 0
theorem nmJ6 : ∀ a, a < 0 → ∀ b, b < 0 → a ≠ b → (TJ6 a).2.1 ≠ (TJ6 b).2.1 := by decide +kernel
theorem tyJ6_ok : ∀ k, k < 0 → parseFieldDescriptor (TJ6 k).2.2.1 = some (tyJ6 k) := by decide +kernel
abbrev cJ6_bitCount_0f7a4 : ByteArray := prog_16_method_49_code
def yJ6_bitCount_0f7a4 : MethodName := ⟨RJ6, "bitCount", "(I)I"⟩
def RJ9 : String := "java/lang/Math"
def TJ9 : u_T := fun k => match k with
  | _ => ("", "", "", false)
def tyJ9 : Nat → FieldType := fun k => match k with
  | _ => .int
abbrev wsJ90 : List Cond := u_ws RJ9 TJ9 0
theorem nmJ9 : ∀ a, a < 0 → ∀ b, b < 0 → a ≠ b → (TJ9 a).2.1 ≠ (TJ9 b).2.1 := by decide +kernel
theorem tyJ9_ok : ∀ k, k < 0 → parseFieldDescriptor (TJ9 k).2.2.1 = some (tyJ9 k) := by decide +kernel
abbrev cJ9_abs_067f4 : ByteArray := prog_17_method_61_code
def yJ9_abs_067f4 : MethodName := ⟨RJ9, "abs", "(J)J"⟩
abbrev cJ9_max_7cf53 : ByteArray := prog_17_method_65_code
def yJ9_max_7cf53 : MethodName := ⟨RJ9, "max", "(II)I"⟩
abbrev cJ9_max_f86c9 : ByteArray := prog_17_method_66_code
def yJ9_max_f86c9 : MethodName := ⟨RJ9, "max", "(JJ)J"⟩
abbrev cJ9_min_7cf53 : ByteArray := prog_17_method_69_code
def yJ9_min_7cf53 : MethodName := ⟨RJ9, "min", "(II)I"⟩
abbrev cJ9_min_f86c9 : ByteArray := prog_17_method_70_code
def yJ9_min_f86c9 : MethodName := ⟨RJ9, "min", "(JJ)J"⟩
def RJ0 : String := "java/lang/String"
def TJ0 : u_T := fun k => match k with
  | _ => ("", "", "", false)
def tyJ0 : Nat → FieldType := fun k => match k with
  | _ => .int
abbrev wsJ00 : List Cond := u_ws RJ0 TJ0 0
theorem nmJ0 : ∀ a, a < 0 → ∀ b, b < 0 → a ≠ b → (TJ0 a).2.1 ≠ (TJ0 b).2.1 := by decide +kernel
theorem tyJ0_ok : ∀ k, k < 0 → parseFieldDescriptor (TJ0 k).2.2.1 = some (tyJ0 k) := by decide +kernel
abbrev cJ0_length_8abf5 : ByteArray := prog_18_method_54_code
def yJ0_length_8abf5 : MethodName := ⟨RJ0, "length", "()I"⟩
abbrev cJ0_charAt_5068e : ByteArray := prog_18_method_56_code
def yJ0_charAt_5068e : MethodName := ⟨RJ0, "charAt", "(I)C"⟩
abbrev cJ0_indexOf_0f7a4 : ByteArray := prog_18_method_79_code
def yJ0_indexOf_0f7a4 : MethodName := ⟨RJ0, "indexOf", "(I)I"⟩
abbrev cJ0_indexOf_7cf53 : ByteArray := prog_18_method_80_code
def yJ0_indexOf_7cf53 : MethodName := ⟨RJ0, "indexOf", "(II)I"⟩
abbrev cJ0_coder_7d493 : ByteArray := prog_18_method_152_code
def yJ0_coder_7d493 : MethodName := ⟨RJ0, "coder", "()B"⟩
abbrev cJ0_isLatin1_aae02 : ByteArray := prog_18_method_154_code
def yJ0_isLatin1_aae02 : MethodName := ⟨RJ0, "isLatin1", "()Z"⟩
abbrev cJ0_checkIndex_df160 : ByteArray := prog_18_method_155_code
def yJ0_checkIndex_df160 : MethodName := ⟨RJ0, "checkIndex", "(II)V"⟩
abbrev cJ0_checkBoundsBeginEnd_23922 : ByteArray := prog_18_method_158_code
def yJ0_checkBoundsBeginEnd_23922 : MethodName := ⟨RJ0, "checkBoundsBeginEnd", "(III)V"⟩
def RJ1 : String := "java/lang/StringLatin1"
def TJ1 : u_T := fun k => match k with
  | _ => ("", "", "", false)
def tyJ1 : Nat → FieldType := fun k => match k with
  | _ => .int
abbrev wsJ10 : List Cond := u_ws RJ1 TJ1 0
theorem nmJ1 : ∀ a, a < 0 → ∀ b, b < 0 → a ≠ b → (TJ1 a).2.1 ≠ (TJ1 b).2.1 := by decide +kernel
theorem tyJ1_ok : ∀ k, k < 0 → parseFieldDescriptor (TJ1 k).2.2.1 = some (tyJ1 k) := by decide +kernel
abbrev cJ1_charAt_3b067 : ByteArray := prog_19_method_2_code
def yJ1_charAt_3b067 : MethodName := ⟨RJ1, "charAt", "([BI)C"⟩
abbrev cJ1_canEncode_9a6ad : ByteArray := prog_19_method_4_code
def yJ1_canEncode_9a6ad : MethodName := ⟨RJ1, "canEncode", "(I)Z"⟩
abbrev cJ1_indexOf_4cfef : ByteArray := prog_19_method_22_code
def yJ1_indexOf_4cfef : MethodName := ⟨RJ1, "indexOf", "([BIII)I"⟩
abbrev cJ1_indexOfChar_4cfef : ByteArray := prog_19_method_23_code
def yJ1_indexOfChar_4cfef : MethodName := ⟨RJ1, "indexOfChar", "([BIII)I"⟩
def RJ2 : String := "java/lang/StringUTF16"
def TJ2 : u_T := fun k => match k with
  | _ => ("", "", "", false)
def tyJ2 : Nat → FieldType := fun k => match k with
  | _ => .int
abbrev wsJ20 : List Cond := u_ws RJ2 TJ2 0
theorem nmJ2 : ∀ a, a < 0 → ∀ b, b < 0 → a ≠ b → (TJ2 a).2.1 ≠ (TJ2 b).2.1 := by decide +kernel
theorem tyJ2_ok : ∀ k, k < 0 → parseFieldDescriptor (TJ2 k).2.2.1 = some (tyJ2 k) := by decide +kernel
abbrev cJ2_getChar_3b067 : ByteArray := prog_20_method_5_code
def yJ2_getChar_3b067 : MethodName := ⟨RJ2, "getChar", "([BI)C"⟩
abbrev cJ2_length_9d52b : ByteArray := prog_20_method_6_code
def yJ2_length_9d52b : MethodName := ⟨RJ2, "length", "([B)I"⟩
abbrev cJ2_indexOf_4cfef : ByteArray := prog_20_method_40_code
def yJ2_indexOf_4cfef : MethodName := ⟨RJ2, "indexOf", "([BIII)I"⟩
abbrev cJ2_indexOfChar_4cfef : ByteArray := prog_20_method_47_code
def yJ2_indexOfChar_4cfef : MethodName := ⟨RJ2, "indexOfChar", "([BIII)I"⟩
abbrev cJ2_indexOfCharUnsafe_4cfef : ByteArray := prog_20_method_48_code
def yJ2_indexOfCharUnsafe_4cfef : MethodName := ⟨RJ2, "indexOfCharUnsafe", "([BIII)I"⟩
abbrev cJ2_indexOfSupplementary_4cfef : ByteArray := prog_20_method_49_code
def yJ2_indexOfSupplementary_4cfef : MethodName := ⟨RJ2, "indexOfSupplementary", "([BIII)I"⟩
abbrev cJ2_charAt_3b067 : ByteArray := prog_20_method_83_code
def yJ2_charAt_3b067 : MethodName := ⟨RJ2, "charAt", "([BI)C"⟩
abbrev cJ2_checkIndex_2214a : ByteArray := prog_20_method_91_code
def yJ2_checkIndex_2214a : MethodName := ⟨RJ2, "checkIndex", "(I[B)V"⟩
abbrev cJ2_checkBoundsBeginEnd_d044e : ByteArray := prog_20_method_93_code
def yJ2_checkBoundsBeginEnd_d044e : MethodName := ⟨RJ2, "checkBoundsBeginEnd", "(II[B)V"⟩
def RJ10 : String := "java/lang/System"
def TJ10 : u_T := fun k => match k with
  | _ => ("", "", "", false)
def tyJ10 : Nat → FieldType := fun k => match k with
  | _ => .int
abbrev wsJ100 : List Cond := u_ws RJ10 TJ10 0
theorem nmJ10 : ∀ a, a < 0 → ∀ b, b < 0 → a ≠ b → (TJ10 a).2.1 ≠ (TJ10 b).2.1 := by decide +kernel
theorem tyJ10_ok : ∀ k, k < 0 → parseFieldDescriptor (TJ10 k).2.2.1 = some (tyJ10 k) := by decide +kernel
def RJ3 : String := "jdk/internal/util/Preconditions"
def TJ3 : u_T := fun k => match k with
  | _ => ("", "", "", false)
def tyJ3 : Nat → FieldType := fun k => match k with
  | _ => .int
abbrev wsJ30 : List Cond := u_ws RJ3 TJ3 0
theorem nmJ3 : ∀ a, a < 0 → ∀ b, b < 0 → a ≠ b → (TJ3 a).2.1 ≠ (TJ3 b).2.1 := by decide +kernel
theorem tyJ3_ok : ∀ k, k < 0 → parseFieldDescriptor (TJ3 k).2.2.1 = some (tyJ3 k) := by decide +kernel
abbrev cJ3_checkIndex_8e157 : ByteArray := prog_22_method_11_code
def yJ3_checkIndex_8e157 : MethodName := ⟨RJ3, "checkIndex", "(IILjava/util/function/BiFunction;)I"⟩
abbrev cJ3_checkFromToIndex_8c36e : ByteArray := prog_22_method_12_code
def yJ3_checkFromToIndex_8c36e : MethodName := ⟨RJ3, "checkFromToIndex", "(IIILjava/util/function/BiFunction;)I"⟩
def RL : String := "ValleyGuidesLaw"
abbrev cL_law : ByteArray := code
def yL_law : MethodName := ⟨RL, "law", "([I)Z"⟩
