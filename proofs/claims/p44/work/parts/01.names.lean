-- ===== PART A: goes FIRST, ahead of the names: the tables' words, and 'selects' of the private methods out of them =====
/-- a private method of a class that the tables say can be made, by its rows of tables_1 -/
def lw_okq (q : MethodName × Nat) : Prop := (q.1.cls ≠ "java/lang/invoke/MethodHandle" ∧ q.1.cls ≠ "java/lang/invoke/VarHandle") ∧ Cond.instantiable q.1.cls q.2 ∈ tables_1 ∧ Cond.privateMethod q.1 ∈ tables_1 ∧ Cond.instanceMethod q.1 ∈ tables_1
theorem lw_p0 : lw_okq (⟨"BudgetHouse", "firstUnlike", "(II)I"⟩, 9) := ⟨⟨by decide +kernel, by decide +kernel⟩, List.mem_of_getElem? (i := 21) (by decide +kernel), List.mem_of_getElem? (i := 1405) (by decide +kernel), List.mem_of_getElem? (i := 1406) (by decide +kernel)⟩
theorem lw_p1 : lw_okq (⟨"BudgetHouseModel", "memberAt", "(I)I"⟩, 35) := ⟨⟨by decide +kernel, by decide +kernel⟩, List.mem_of_getElem? (i := 1484) (by decide +kernel), List.mem_of_getElem? (i := 1610) (by decide +kernel), List.mem_of_getElem? (i := 1611) (by decide +kernel)⟩
theorem lw_p2 : lw_okq (⟨"BudgetHouseModel", "isMember", "(I)Z"⟩, 35) := ⟨⟨by decide +kernel, by decide +kernel⟩, List.mem_of_getElem? (i := 1484) (by decide +kernel), List.mem_of_getElem? (i := 1618) (by decide +kernel), List.mem_of_getElem? (i := 1619) (by decide +kernel)⟩
theorem lw_p3 : lw_okq (⟨"BudgetHouseModel", "pairOf", "(I)I"⟩, 35) := ⟨⟨by decide +kernel, by decide +kernel⟩, List.mem_of_getElem? (i := 1484) (by decide +kernel), List.mem_of_getElem? (i := 1627) (by decide +kernel), List.mem_of_getElem? (i := 1628) (by decide +kernel)⟩
theorem lw_p4 : lw_okq (⟨"BudgetHouseModel", "holds", "(I)Z"⟩, 35) := ⟨⟨by decide +kernel, by decide +kernel⟩, List.mem_of_getElem? (i := 1484) (by decide +kernel), List.mem_of_getElem? (i := 1631) (by decide +kernel), List.mem_of_getElem? (i := 1632) (by decide +kernel)⟩
theorem lw_p5 : lw_okq (⟨"BudgetHouseModel", "pairAt", "(I)I"⟩, 35) := ⟨⟨by decide +kernel, by decide +kernel⟩, List.mem_of_getElem? (i := 1484) (by decide +kernel), List.mem_of_getElem? (i := 1635) (by decide +kernel), List.mem_of_getElem? (i := 1636) (by decide +kernel)⟩
theorem lw_p6 : lw_okq (⟨"BudgetHouseModel", "becomes", "(II)I"⟩, 35) := ⟨⟨by decide +kernel, by decide +kernel⟩, List.mem_of_getElem? (i := 1484) (by decide +kernel), List.mem_of_getElem? (i := 1644) (by decide +kernel), List.mem_of_getElem? (i := 1645) (by decide +kernel)⟩
theorem lw_p7 : lw_okq (⟨"BudgetHouseModel", "minute", "()V"⟩, 35) := ⟨⟨by decide +kernel, by decide +kernel⟩, List.mem_of_getElem? (i := 1484) (by decide +kernel), List.mem_of_getElem? (i := 1670) (by decide +kernel), List.mem_of_getElem? (i := 1671) (by decide +kernel)⟩
theorem lw_p8 : lw_okq (⟨"BudgetHouseModel", "arrive", "()V"⟩, 35) := ⟨⟨by decide +kernel, by decide +kernel⟩, List.mem_of_getElem? (i := 1484) (by decide +kernel), List.mem_of_getElem? (i := 1674) (by decide +kernel), List.mem_of_getElem? (i := 1675) (by decide +kernel)⟩
theorem lw_p9 : lw_okq (⟨"BudgetHouseModel", "paperAt", "(I)I"⟩, 35) := ⟨⟨by decide +kernel, by decide +kernel⟩, List.mem_of_getElem? (i := 1484) (by decide +kernel), List.mem_of_getElem? (i := 1678) (by decide +kernel), List.mem_of_getElem? (i := 1679) (by decide +kernel)⟩
theorem lw_p10 : lw_okq (⟨"BudgetHouseModel", "fits", "(III)Z"⟩, 35) := ⟨⟨by decide +kernel, by decide +kernel⟩, List.mem_of_getElem? (i := 1484) (by decide +kernel), List.mem_of_getElem? (i := 1686) (by decide +kernel), List.mem_of_getElem? (i := 1687) (by decide +kernel)⟩
theorem lw_p11 : lw_okq (⟨"BudgetHouseModel", "isLine", "(I)Z"⟩, 35) := ⟨⟨by decide +kernel, by decide +kernel⟩, List.mem_of_getElem? (i := 1484) (by decide +kernel), List.mem_of_getElem? (i := 1691) (by decide +kernel), List.mem_of_getElem? (i := 1692) (by decide +kernel)⟩
theorem lw_p12 : lw_okq (⟨"BudgetHouseModel", "isPaper", "(I)Z"⟩, 35) := ⟨⟨by decide +kernel, by decide +kernel⟩, List.mem_of_getElem? (i := 1484) (by decide +kernel), List.mem_of_getElem? (i := 1695) (by decide +kernel), List.mem_of_getElem? (i := 1696) (by decide +kernel)⟩
theorem lw_p13 : lw_okq (⟨"BudgetHouseModel", "kindOf", "(I)I"⟩, 35) := ⟨⟨by decide +kernel, by decide +kernel⟩, List.mem_of_getElem? (i := 1484) (by decide +kernel), List.mem_of_getElem? (i := 1699) (by decide +kernel), List.mem_of_getElem? (i := 1700) (by decide +kernel)⟩
theorem lw_p14 : lw_okq (⟨"BudgetHouseModel", "newPaper", "(IIIII)I"⟩, 35) := ⟨⟨by decide +kernel, by decide +kernel⟩, List.mem_of_getElem? (i := 1484) (by decide +kernel), List.mem_of_getElem? (i := 1707) (by decide +kernel), List.mem_of_getElem? (i := 1708) (by decide +kernel)⟩
theorem lw_p15 : lw_okq (⟨"BudgetHouseModel", "isChange", "(I)Z"⟩, 35) := ⟨⟨by decide +kernel, by decide +kernel⟩, List.mem_of_getElem? (i := 1484) (by decide +kernel), List.mem_of_getElem? (i := 1715) (by decide +kernel), List.mem_of_getElem? (i := 1716) (by decide +kernel)⟩
def lw_privs_1 : List (MethodName × Nat) := [(⟨"BudgetHouse", "firstUnlike", "(II)I"⟩, 9), (⟨"BudgetHouseModel", "memberAt", "(I)I"⟩, 35), (⟨"BudgetHouseModel", "isMember", "(I)Z"⟩, 35), (⟨"BudgetHouseModel", "pairOf", "(I)I"⟩, 35), (⟨"BudgetHouseModel", "holds", "(I)Z"⟩, 35), (⟨"BudgetHouseModel", "pairAt", "(I)I"⟩, 35), (⟨"BudgetHouseModel", "becomes", "(II)I"⟩, 35), (⟨"BudgetHouseModel", "minute", "()V"⟩, 35), (⟨"BudgetHouseModel", "arrive", "()V"⟩, 35), (⟨"BudgetHouseModel", "paperAt", "(I)I"⟩, 35), (⟨"BudgetHouseModel", "fits", "(III)Z"⟩, 35), (⟨"BudgetHouseModel", "isLine", "(I)Z"⟩, 35), (⟨"BudgetHouseModel", "isPaper", "(I)Z"⟩, 35), (⟨"BudgetHouseModel", "kindOf", "(I)I"⟩, 35), (⟨"BudgetHouseModel", "newPaper", "(IIIII)I"⟩, 35), (⟨"BudgetHouseModel", "isChange", "(I)Z"⟩, 35)]
theorem lw_r1 : ∀ q ∈ lw_privs_1, lw_okq q := List.forall_mem_cons.mpr ⟨lw_p0, List.forall_mem_cons.mpr ⟨lw_p1, List.forall_mem_cons.mpr ⟨lw_p2, List.forall_mem_cons.mpr ⟨lw_p3, List.forall_mem_cons.mpr ⟨lw_p4, List.forall_mem_cons.mpr ⟨lw_p5, List.forall_mem_cons.mpr ⟨lw_p6, List.forall_mem_cons.mpr ⟨lw_p7, List.forall_mem_cons.mpr ⟨lw_p8, List.forall_mem_cons.mpr ⟨lw_p9, List.forall_mem_cons.mpr ⟨lw_p10, List.forall_mem_cons.mpr ⟨lw_p11, List.forall_mem_cons.mpr ⟨lw_p12, List.forall_mem_cons.mpr ⟨lw_p13, List.forall_mem_cons.mpr ⟨lw_p14, List.forall_mem_cons.mpr ⟨lw_p15, fun _ h => absurd h List.not_mem_nil⟩⟩⟩⟩⟩⟩⟩⟩⟩⟩⟩⟩⟩⟩⟩⟩
theorem lw_p16 : lw_okq (⟨"BudgetHouseModel", "hasRead", "(II)Z"⟩, 35) := ⟨⟨by decide +kernel, by decide +kernel⟩, List.mem_of_getElem? (i := 1484) (by decide +kernel), List.mem_of_getElem? (i := 1748) (by decide +kernel), List.mem_of_getElem? (i := 1749) (by decide +kernel)⟩
theorem lw_p17 : lw_okq (⟨"BudgetHouseModel", "votes", "(IZ)Z"⟩, 35) := ⟨⟨by decide +kernel, by decide +kernel⟩, List.mem_of_getElem? (i := 1484) (by decide +kernel), List.mem_of_getElem? (i := 1757) (by decide +kernel), List.mem_of_getElem? (i := 1758) (by decide +kernel)⟩
theorem lw_p18 : lw_okq (⟨"BudgetHouseModel", "says", "(II)I"⟩, 35) := ⟨⟨by decide +kernel, by decide +kernel⟩, List.mem_of_getElem? (i := 1484) (by decide +kernel), List.mem_of_getElem? (i := 1761) (by decide +kernel), List.mem_of_getElem? (i := 1762) (by decide +kernel)⟩
theorem lw_p19 : lw_okq (⟨"BudgetHouseModel", "isBound", "(II)Z"⟩, 35) := ⟨⟨by decide +kernel, by decide +kernel⟩, List.mem_of_getElem? (i := 1484) (by decide +kernel), List.mem_of_getElem? (i := 1765) (by decide +kernel), List.mem_of_getElem? (i := 1766) (by decide +kernel)⟩
theorem lw_p20 : lw_okq (⟨"BudgetHouseModel", "counts", "(I)I"⟩, 35) := ⟨⟨by decide +kernel, by decide +kernel⟩, List.mem_of_getElem? (i := 1484) (by decide +kernel), List.mem_of_getElem? (i := 1769) (by decide +kernel), List.mem_of_getElem? (i := 1770) (by decide +kernel)⟩
theorem lw_p21 : lw_okq (⟨"BudgetHouseModel", "textAt", "(I)I"⟩, 35) := ⟨⟨by decide +kernel, by decide +kernel⟩, List.mem_of_getElem? (i := 1484) (by decide +kernel), List.mem_of_getElem? (i := 1773) (by decide +kernel), List.mem_of_getElem? (i := 1774) (by decide +kernel)⟩
theorem lw_p22 : lw_okq (⟨"BudgetHouseModel", "worked", "(I)I"⟩, 35) := ⟨⟨by decide +kernel, by decide +kernel⟩, List.mem_of_getElem? (i := 1484) (by decide +kernel), List.mem_of_getElem? (i := 1777) (by decide +kernel), List.mem_of_getElem? (i := 1778) (by decide +kernel)⟩
theorem lw_p23 : lw_okq (⟨"BudgetHouseModel", "mayPut", "(I)Z"⟩, 35) := ⟨⟨by decide +kernel, by decide +kernel⟩, List.mem_of_getElem? (i := 1484) (by decide +kernel), List.mem_of_getElem? (i := 1788) (by decide +kernel), List.mem_of_getElem? (i := 1789) (by decide +kernel)⟩
theorem lw_p24 : lw_okq (⟨"BudgetHouseModel", "state", "(I)I"⟩, 35) := ⟨⟨by decide +kernel, by decide +kernel⟩, List.mem_of_getElem? (i := 1484) (by decide +kernel), List.mem_of_getElem? (i := 1792) (by decide +kernel), List.mem_of_getElem? (i := 1793) (by decide +kernel)⟩
theorem lw_p25 : lw_okq (⟨"BudgetHouseModel", "withLine", "(IZ)V"⟩, 35) := ⟨⟨by decide +kernel, by decide +kernel⟩, List.mem_of_getElem? (i := 1484) (by decide +kernel), List.mem_of_getElem? (i := 1796) (by decide +kernel), List.mem_of_getElem? (i := 1797) (by decide +kernel)⟩
theorem lw_p26 : lw_okq (⟨"BudgetHouseModel", "letFall", "()I"⟩, 35) := ⟨⟨by decide +kernel, by decide +kernel⟩, List.mem_of_getElem? (i := 1484) (by decide +kernel), List.mem_of_getElem? (i := 1803) (by decide +kernel), List.mem_of_getElem? (i := 1804) (by decide +kernel)⟩
theorem lw_p27 : lw_okq (⟨"BudgetHouseModel", "doesFall", "(I)Z"⟩, 35) := ⟨⟨by decide +kernel, by decide +kernel⟩, List.mem_of_getElem? (i := 1484) (by decide +kernel), List.mem_of_getElem? (i := 1807) (by decide +kernel), List.mem_of_getElem? (i := 1808) (by decide +kernel)⟩
theorem lw_p28 : lw_okq (⟨"BudgetHouseModel", "settleDeals", "()V"⟩, 35) := ⟨⟨by decide +kernel, by decide +kernel⟩, List.mem_of_getElem? (i := 1484) (by decide +kernel), List.mem_of_getElem? (i := 1811) (by decide +kernel), List.mem_of_getElem? (i := 1812) (by decide +kernel)⟩
theorem lw_p29 : lw_okq (⟨"BudgetHouseModel", "noChange", "(I)I"⟩, 35) := ⟨⟨by decide +kernel, by decide +kernel⟩, List.mem_of_getElem? (i := 1484) (by decide +kernel), List.mem_of_getElem? (i := 1827) (by decide +kernel), List.mem_of_getElem? (i := 1828) (by decide +kernel)⟩
theorem lw_p30 : lw_okq (⟨"BudgetHouseModel", "isNever", "(I)Z"⟩, 35) := ⟨⟨by decide +kernel, by decide +kernel⟩, List.mem_of_getElem? (i := 1484) (by decide +kernel), List.mem_of_getElem? (i := 1835) (by decide +kernel), List.mem_of_getElem? (i := 1836) (by decide +kernel)⟩
theorem lw_p31 : lw_okq (⟨"BudgetHouseModel", "findRow", "()I"⟩, 35) := ⟨⟨by decide +kernel, by decide +kernel⟩, List.mem_of_getElem? (i := 1484) (by decide +kernel), List.mem_of_getElem? (i := 1843) (by decide +kernel), List.mem_of_getElem? (i := 1844) (by decide +kernel)⟩
def lw_privs_2 : List (MethodName × Nat) := [(⟨"BudgetHouseModel", "hasRead", "(II)Z"⟩, 35), (⟨"BudgetHouseModel", "votes", "(IZ)Z"⟩, 35), (⟨"BudgetHouseModel", "says", "(II)I"⟩, 35), (⟨"BudgetHouseModel", "isBound", "(II)Z"⟩, 35), (⟨"BudgetHouseModel", "counts", "(I)I"⟩, 35), (⟨"BudgetHouseModel", "textAt", "(I)I"⟩, 35), (⟨"BudgetHouseModel", "worked", "(I)I"⟩, 35), (⟨"BudgetHouseModel", "mayPut", "(I)Z"⟩, 35), (⟨"BudgetHouseModel", "state", "(I)I"⟩, 35), (⟨"BudgetHouseModel", "withLine", "(IZ)V"⟩, 35), (⟨"BudgetHouseModel", "letFall", "()I"⟩, 35), (⟨"BudgetHouseModel", "doesFall", "(I)Z"⟩, 35), (⟨"BudgetHouseModel", "settleDeals", "()V"⟩, 35), (⟨"BudgetHouseModel", "noChange", "(I)I"⟩, 35), (⟨"BudgetHouseModel", "isNever", "(I)Z"⟩, 35), (⟨"BudgetHouseModel", "findRow", "()I"⟩, 35)]
theorem lw_r2 : ∀ q ∈ lw_privs_2, lw_okq q := List.forall_mem_cons.mpr ⟨lw_p16, List.forall_mem_cons.mpr ⟨lw_p17, List.forall_mem_cons.mpr ⟨lw_p18, List.forall_mem_cons.mpr ⟨lw_p19, List.forall_mem_cons.mpr ⟨lw_p20, List.forall_mem_cons.mpr ⟨lw_p21, List.forall_mem_cons.mpr ⟨lw_p22, List.forall_mem_cons.mpr ⟨lw_p23, List.forall_mem_cons.mpr ⟨lw_p24, List.forall_mem_cons.mpr ⟨lw_p25, List.forall_mem_cons.mpr ⟨lw_p26, List.forall_mem_cons.mpr ⟨lw_p27, List.forall_mem_cons.mpr ⟨lw_p28, List.forall_mem_cons.mpr ⟨lw_p29, List.forall_mem_cons.mpr ⟨lw_p30, List.forall_mem_cons.mpr ⟨lw_p31, fun _ h => absurd h List.not_mem_nil⟩⟩⟩⟩⟩⟩⟩⟩⟩⟩⟩⟩⟩⟩⟩⟩
theorem lw_p32 : lw_okq (⟨"BudgetHouseModel", "worthOf", "(II)I"⟩, 35) := ⟨⟨by decide +kernel, by decide +kernel⟩, List.mem_of_getElem? (i := 1484) (by decide +kernel), List.mem_of_getElem? (i := 1847) (by decide +kernel), List.mem_of_getElem? (i := 1848) (by decide +kernel)⟩
theorem lw_p33 : lw_okq (⟨"BudgetHouseModel", "bindingSum", "(I)I"⟩, 35) := ⟨⟨by decide +kernel, by decide +kernel⟩, List.mem_of_getElem? (i := 1484) (by decide +kernel), List.mem_of_getElem? (i := 1855) (by decide +kernel), List.mem_of_getElem? (i := 1856) (by decide +kernel)⟩
theorem lw_p34 : lw_okq (⟨"BudgetHouseModel", "bind", "(III)I"⟩, 35) := ⟨⟨by decide +kernel, by decide +kernel⟩, List.mem_of_getElem? (i := 1484) (by decide +kernel), List.mem_of_getElem? (i := 1859) (by decide +kernel), List.mem_of_getElem? (i := 1860) (by decide +kernel)⟩
theorem lw_p35 : lw_okq (⟨"BudgetHouseModel", "parse", "()I"⟩, 35) := ⟨⟨by decide +kernel, by decide +kernel⟩, List.mem_of_getElem? (i := 1484) (by decide +kernel), List.mem_of_getElem? (i := 1876) (by decide +kernel), List.mem_of_getElem? (i := 1877) (by decide +kernel)⟩
theorem lw_p36 : lw_okq (⟨"BudgetHouseModel", "next", "()V"⟩, 35) := ⟨⟨by decide +kernel, by decide +kernel⟩, List.mem_of_getElem? (i := 1484) (by decide +kernel), List.mem_of_getElem? (i := 1880) (by decide +kernel), List.mem_of_getElem? (i := 1881) (by decide +kernel)⟩
theorem lw_p37 : lw_okq (⟨"BudgetHouseModel", "isLetter", "(I)Z"⟩, 35) := ⟨⟨by decide +kernel, by decide +kernel⟩, List.mem_of_getElem? (i := 1484) (by decide +kernel), List.mem_of_getElem? (i := 1884) (by decide +kernel), List.mem_of_getElem? (i := 1885) (by decide +kernel)⟩
theorem lw_p38 : lw_okq (⟨"BudgetHouseModel", "isDigit", "(I)Z"⟩, 35) := ⟨⟨by decide +kernel, by decide +kernel⟩, List.mem_of_getElem? (i := 1484) (by decide +kernel), List.mem_of_getElem? (i := 1890) (by decide +kernel), List.mem_of_getElem? (i := 1891) (by decide +kernel)⟩
theorem lw_p39 : lw_okq (⟨"BudgetHouseModel", "key", "()I"⟩, 35) := ⟨⟨by decide +kernel, by decide +kernel⟩, List.mem_of_getElem? (i := 1484) (by decide +kernel), List.mem_of_getElem? (i := 1896) (by decide +kernel), List.mem_of_getElem? (i := 1897) (by decide +kernel)⟩
theorem lw_p40 : lw_okq (⟨"BudgetHouseModel", "isWordAt", "(IIII)Z"⟩, 35) := ⟨⟨by decide +kernel, by decide +kernel⟩, List.mem_of_getElem? (i := 1484) (by decide +kernel), List.mem_of_getElem? (i := 1900) (by decide +kernel), List.mem_of_getElem? (i := 1901) (by decide +kernel)⟩
theorem lw_p41 : lw_okq (⟨"BudgetHouseModel", "isFive", "(IIIII)Z"⟩, 35) := ⟨⟨by decide +kernel, by decide +kernel⟩, List.mem_of_getElem? (i := 1484) (by decide +kernel), List.mem_of_getElem? (i := 1904) (by decide +kernel), List.mem_of_getElem? (i := 1905) (by decide +kernel)⟩
theorem lw_p42 : lw_okq (⟨"BudgetHouseModel", "either", "(I)Z"⟩, 35) := ⟨⟨by decide +kernel, by decide +kernel⟩, List.mem_of_getElem? (i := 1484) (by decide +kernel), List.mem_of_getElem? (i := 1908) (by decide +kernel), List.mem_of_getElem? (i := 1909) (by decide +kernel)⟩
theorem lw_p43 : lw_okq (⟨"BudgetHouseModel", "both", "(I)Z"⟩, 35) := ⟨⟨by decide +kernel, by decide +kernel⟩, List.mem_of_getElem? (i := 1484) (by decide +kernel), List.mem_of_getElem? (i := 1912) (by decide +kernel), List.mem_of_getElem? (i := 1913) (by decide +kernel)⟩
theorem lw_p44 : lw_okq (⟨"BudgetHouseModel", "test", "(I)Z"⟩, 35) := ⟨⟨by decide +kernel, by decide +kernel⟩, List.mem_of_getElem? (i := 1484) (by decide +kernel), List.mem_of_getElem? (i := 1916) (by decide +kernel), List.mem_of_getElem? (i := 1917) (by decide +kernel)⟩
theorem lw_p45 : lw_okq (⟨"BudgetHouseModel", "sum", "(I)Z"⟩, 35) := ⟨⟨by decide +kernel, by decide +kernel⟩, List.mem_of_getElem? (i := 1484) (by decide +kernel), List.mem_of_getElem? (i := 1920) (by decide +kernel), List.mem_of_getElem? (i := 1921) (by decide +kernel)⟩
theorem lw_p46 : lw_okq (⟨"BudgetHouseModel", "term", "(I)Z"⟩, 35) := ⟨⟨by decide +kernel, by decide +kernel⟩, List.mem_of_getElem? (i := 1484) (by decide +kernel), List.mem_of_getElem? (i := 1924) (by decide +kernel), List.mem_of_getElem? (i := 1925) (by decide +kernel)⟩
theorem lw_p47 : lw_okq (⟨"BudgetHouseModel", "part0", "(I)Z"⟩, 35) := ⟨⟨by decide +kernel, by decide +kernel⟩, List.mem_of_getElem? (i := 1484) (by decide +kernel), List.mem_of_getElem? (i := 1928) (by decide +kernel), List.mem_of_getElem? (i := 1929) (by decide +kernel)⟩
def lw_privs_3 : List (MethodName × Nat) := [(⟨"BudgetHouseModel", "worthOf", "(II)I"⟩, 35), (⟨"BudgetHouseModel", "bindingSum", "(I)I"⟩, 35), (⟨"BudgetHouseModel", "bind", "(III)I"⟩, 35), (⟨"BudgetHouseModel", "parse", "()I"⟩, 35), (⟨"BudgetHouseModel", "next", "()V"⟩, 35), (⟨"BudgetHouseModel", "isLetter", "(I)Z"⟩, 35), (⟨"BudgetHouseModel", "isDigit", "(I)Z"⟩, 35), (⟨"BudgetHouseModel", "key", "()I"⟩, 35), (⟨"BudgetHouseModel", "isWordAt", "(IIII)Z"⟩, 35), (⟨"BudgetHouseModel", "isFive", "(IIIII)Z"⟩, 35), (⟨"BudgetHouseModel", "either", "(I)Z"⟩, 35), (⟨"BudgetHouseModel", "both", "(I)Z"⟩, 35), (⟨"BudgetHouseModel", "test", "(I)Z"⟩, 35), (⟨"BudgetHouseModel", "sum", "(I)Z"⟩, 35), (⟨"BudgetHouseModel", "term", "(I)Z"⟩, 35), (⟨"BudgetHouseModel", "part0", "(I)Z"⟩, 35)]
theorem lw_r3 : ∀ q ∈ lw_privs_3, lw_okq q := List.forall_mem_cons.mpr ⟨lw_p32, List.forall_mem_cons.mpr ⟨lw_p33, List.forall_mem_cons.mpr ⟨lw_p34, List.forall_mem_cons.mpr ⟨lw_p35, List.forall_mem_cons.mpr ⟨lw_p36, List.forall_mem_cons.mpr ⟨lw_p37, List.forall_mem_cons.mpr ⟨lw_p38, List.forall_mem_cons.mpr ⟨lw_p39, List.forall_mem_cons.mpr ⟨lw_p40, List.forall_mem_cons.mpr ⟨lw_p41, List.forall_mem_cons.mpr ⟨lw_p42, List.forall_mem_cons.mpr ⟨lw_p43, List.forall_mem_cons.mpr ⟨lw_p44, List.forall_mem_cons.mpr ⟨lw_p45, List.forall_mem_cons.mpr ⟨lw_p46, List.forall_mem_cons.mpr ⟨lw_p47, fun _ h => absurd h List.not_mem_nil⟩⟩⟩⟩⟩⟩⟩⟩⟩⟩⟩⟩⟩⟩⟩⟩
theorem lw_p48 : lw_okq (⟨"BudgetHouseModel", "step", "(II)V"⟩, 35) := ⟨⟨by decide +kernel, by decide +kernel⟩, List.mem_of_getElem? (i := 1484) (by decide +kernel), List.mem_of_getElem? (i := 1932) (by decide +kernel), List.mem_of_getElem? (i := 1933) (by decide +kernel)⟩
theorem lw_p49 : lw_okq (⟨"BudgetHouseModel", "isSign", "(I)Z"⟩, 35) := ⟨⟨by decide +kernel, by decide +kernel⟩, List.mem_of_getElem? (i := 1484) (by decide +kernel), List.mem_of_getElem? (i := 1939) (by decide +kernel), List.mem_of_getElem? (i := 1940) (by decide +kernel)⟩
theorem lw_p50 : lw_okq (⟨"BudgetHouseModel", "isText", "(I)Z"⟩, 35) := ⟨⟨by decide +kernel, by decide +kernel⟩, List.mem_of_getElem? (i := 1484) (by decide +kernel), List.mem_of_getElem? (i := 1947) (by decide +kernel), List.mem_of_getElem? (i := 1948) (by decide +kernel)⟩
theorem lw_p51 : lw_okq (⟨"BudgetHouseModel", "isGiven", "(I)Z"⟩, 35) := ⟨⟨by decide +kernel, by decide +kernel⟩, List.mem_of_getElem? (i := 1484) (by decide +kernel), List.mem_of_getElem? (i := 1965) (by decide +kernel), List.mem_of_getElem? (i := 1966) (by decide +kernel)⟩
theorem lw_p52 : lw_okq (⟨"BudgetHouseModel", "incomes", "(I)I"⟩, 35) := ⟨⟨by decide +kernel, by decide +kernel⟩, List.mem_of_getElem? (i := 1484) (by decide +kernel), List.mem_of_getElem? (i := 1969) (by decide +kernel), List.mem_of_getElem? (i := 1970) (by decide +kernel)⟩
theorem lw_p53 : lw_okq (⟨"BudgetHouseModel", "readBy", "(II)I"⟩, 35) := ⟨⟨by decide +kernel, by decide +kernel⟩, List.mem_of_getElem? (i := 1484) (by decide +kernel), List.mem_of_getElem? (i := 1999) (by decide +kernel), List.mem_of_getElem? (i := 2000) (by decide +kernel)⟩
theorem lw_p54 : lw_okq (⟨"BudgetHouseModel", "findLines", "()I"⟩, 35) := ⟨⟨by decide +kernel, by decide +kernel⟩, List.mem_of_getElem? (i := 1484) (by decide +kernel), List.mem_of_getElem? (i := 2021) (by decide +kernel), List.mem_of_getElem? (i := 2022) (by decide +kernel)⟩
theorem lw_p55 : lw_okq (⟨"BudgetHouseModel", "membersFor", "(II)I"⟩, 35) := ⟨⟨by decide +kernel, by decide +kernel⟩, List.mem_of_getElem? (i := 1484) (by decide +kernel), List.mem_of_getElem? (i := 2028) (by decide +kernel), List.mem_of_getElem? (i := 2029) (by decide +kernel)⟩
theorem lw_p56 : lw_okq (⟨"BudgetHouseModel", "findShift", "(I)I"⟩, 35) := ⟨⟨by decide +kernel, by decide +kernel⟩, List.mem_of_getElem? (i := 1484) (by decide +kernel), List.mem_of_getElem? (i := 2048) (by decide +kernel), List.mem_of_getElem? (i := 2049) (by decide +kernel)⟩
theorem lw_p57 : lw_okq (⟨"BudgetHouseModel", "heardBy", "(IIII)I"⟩, 35) := ⟨⟨by decide +kernel, by decide +kernel⟩, List.mem_of_getElem? (i := 1484) (by decide +kernel), List.mem_of_getElem? (i := 2052) (by decide +kernel), List.mem_of_getElem? (i := 2053) (by decide +kernel)⟩
theorem lw_p58 : lw_okq (⟨"BudgetHouseModel", "hears", "(II)I"⟩, 35) := ⟨⟨by decide +kernel, by decide +kernel⟩, List.mem_of_getElem? (i := 1484) (by decide +kernel), List.mem_of_getElem? (i := 2056) (by decide +kernel), List.mem_of_getElem? (i := 2057) (by decide +kernel)⟩
theorem lw_p59 : lw_okq (⟨"BudgetHouseModel", "findNight", "(II)I"⟩, 35) := ⟨⟨by decide +kernel, by decide +kernel⟩, List.mem_of_getElem? (i := 1484) (by decide +kernel), List.mem_of_getElem? (i := 2076) (by decide +kernel), List.mem_of_getElem? (i := 2077) (by decide +kernel)⟩
theorem lw_p60 : lw_okq (⟨"BudgetHouseModel", "sumOf", "(II)I"⟩, 35) := ⟨⟨by decide +kernel, by decide +kernel⟩, List.mem_of_getElem? (i := 1484) (by decide +kernel), List.mem_of_getElem? (i := 2080) (by decide +kernel), List.mem_of_getElem? (i := 2081) (by decide +kernel)⟩
theorem lw_p61 : lw_okq (⟨"BudgetHouseModel", "goesTogether", "(I)Z"⟩, 35) := ⟨⟨by decide +kernel, by decide +kernel⟩, List.mem_of_getElem? (i := 1484) (by decide +kernel), List.mem_of_getElem? (i := 2084) (by decide +kernel), List.mem_of_getElem? (i := 2085) (by decide +kernel)⟩
theorem lw_p62 : lw_okq (⟨"BudgetHouseModel", "rowsOfNight", "(II)I"⟩, 35) := ⟨⟨by decide +kernel, by decide +kernel⟩, List.mem_of_getElem? (i := 1484) (by decide +kernel), List.mem_of_getElem? (i := 2096) (by decide +kernel), List.mem_of_getElem? (i := 2097) (by decide +kernel)⟩
theorem lw_p63 : lw_okq (⟨"BudgetHouseModel", "dueIs", "(II)V"⟩, 35) := ⟨⟨by decide +kernel, by decide +kernel⟩, List.mem_of_getElem? (i := 1484) (by decide +kernel), List.mem_of_getElem? (i := 2100) (by decide +kernel), List.mem_of_getElem? (i := 2101) (by decide +kernel)⟩
def lw_privs_4 : List (MethodName × Nat) := [(⟨"BudgetHouseModel", "step", "(II)V"⟩, 35), (⟨"BudgetHouseModel", "isSign", "(I)Z"⟩, 35), (⟨"BudgetHouseModel", "isText", "(I)Z"⟩, 35), (⟨"BudgetHouseModel", "isGiven", "(I)Z"⟩, 35), (⟨"BudgetHouseModel", "incomes", "(I)I"⟩, 35), (⟨"BudgetHouseModel", "readBy", "(II)I"⟩, 35), (⟨"BudgetHouseModel", "findLines", "()I"⟩, 35), (⟨"BudgetHouseModel", "membersFor", "(II)I"⟩, 35), (⟨"BudgetHouseModel", "findShift", "(I)I"⟩, 35), (⟨"BudgetHouseModel", "heardBy", "(IIII)I"⟩, 35), (⟨"BudgetHouseModel", "hears", "(II)I"⟩, 35), (⟨"BudgetHouseModel", "findNight", "(II)I"⟩, 35), (⟨"BudgetHouseModel", "sumOf", "(II)I"⟩, 35), (⟨"BudgetHouseModel", "goesTogether", "(I)Z"⟩, 35), (⟨"BudgetHouseModel", "rowsOfNight", "(II)I"⟩, 35), (⟨"BudgetHouseModel", "dueIs", "(II)V"⟩, 35)]
theorem lw_r4 : ∀ q ∈ lw_privs_4, lw_okq q := List.forall_mem_cons.mpr ⟨lw_p48, List.forall_mem_cons.mpr ⟨lw_p49, List.forall_mem_cons.mpr ⟨lw_p50, List.forall_mem_cons.mpr ⟨lw_p51, List.forall_mem_cons.mpr ⟨lw_p52, List.forall_mem_cons.mpr ⟨lw_p53, List.forall_mem_cons.mpr ⟨lw_p54, List.forall_mem_cons.mpr ⟨lw_p55, List.forall_mem_cons.mpr ⟨lw_p56, List.forall_mem_cons.mpr ⟨lw_p57, List.forall_mem_cons.mpr ⟨lw_p58, List.forall_mem_cons.mpr ⟨lw_p59, List.forall_mem_cons.mpr ⟨lw_p60, List.forall_mem_cons.mpr ⟨lw_p61, List.forall_mem_cons.mpr ⟨lw_p62, List.forall_mem_cons.mpr ⟨lw_p63, fun _ h => absurd h List.not_mem_nil⟩⟩⟩⟩⟩⟩⟩⟩⟩⟩⟩⟩⟩⟩⟩⟩
theorem lw_p64 : lw_okq (⟨"BudgetHouseModel", "rowsTold", "(I)I"⟩, 35) := ⟨⟨by decide +kernel, by decide +kernel⟩, List.mem_of_getElem? (i := 1484) (by decide +kernel), List.mem_of_getElem? (i := 2104) (by decide +kernel), List.mem_of_getElem? (i := 2105) (by decide +kernel)⟩
theorem lw_p65 : lw_okq (⟨"BudgetHouseModel", "setAside", "([I[I)V"⟩, 35) := ⟨⟨by decide +kernel, by decide +kernel⟩, List.mem_of_getElem? (i := 1484) (by decide +kernel), List.mem_of_getElem? (i := 2109) (by decide +kernel), List.mem_of_getElem? (i := 2110) (by decide +kernel)⟩
theorem lw_p66 : lw_okq (⟨"BudgetHouseModel", "present", "()I"⟩, 35) := ⟨⟨by decide +kernel, by decide +kernel⟩, List.mem_of_getElem? (i := 1484) (by decide +kernel), List.mem_of_getElem? (i := 2113) (by decide +kernel), List.mem_of_getElem? (i := 2114) (by decide +kernel)⟩
def lw_privs_5 : List (MethodName × Nat) := [(⟨"BudgetHouseModel", "rowsTold", "(I)I"⟩, 35), (⟨"BudgetHouseModel", "setAside", "([I[I)V"⟩, 35), (⟨"BudgetHouseModel", "present", "()I"⟩, 35)]
theorem lw_r5 : ∀ q ∈ lw_privs_5, lw_okq q := List.forall_mem_cons.mpr ⟨lw_p64, List.forall_mem_cons.mpr ⟨lw_p65, List.forall_mem_cons.mpr ⟨lw_p66, fun _ h => absurd h List.not_mem_nil⟩⟩⟩
def lw_privs : List (MethodName × Nat) := lw_privs_1 ++ (lw_privs_2 ++ (lw_privs_3 ++ (lw_privs_4 ++ (lw_privs_5))))
def lw_tbl : List Cond := k2_sels lw_privs ++ tables_1
theorem lw_privs_ok : ∀ q ∈ lw_privs, lw_okq q := by
  show ∀ q ∈ lw_privs_1 ++ (lw_privs_2 ++ (lw_privs_3 ++ (lw_privs_4 ++ (lw_privs_5)))), lw_okq q
  exact List.forall_mem_append.mpr ⟨lw_r1, List.forall_mem_append.mpr ⟨lw_r2, List.forall_mem_append.mpr ⟨lw_r3, List.forall_mem_append.mpr ⟨lw_r4, lw_r5⟩⟩⟩⟩
theorem goodIn_r {big : List Cond} (ws : List Cond) (ps : List Nat) (hp : ws = ps.filterMap (fun i => big[i]?)) (h : ws.all goodWord = true) : GoodIn big ws := by
  intro w hw
  have h1 := List.all_eq_true.mp h w hw
  rw [hp] at hw
  obtain ⟨i, -, hi⟩ := List.mem_filterMap.mp hw
  have hm : w ∈ big := by first | exact List.mem_of_getElem? hi | exact List.getElem?_mem hi
  exact ⟨hm, good_of_word h1⟩
theorem goodIn_app {big a b : List Cond} (ha : GoodIn big a) (hb : GoodIn big b) : GoodIn big (a ++ b) := fun w h => (List.mem_append.mp h).elim (ha w) (hb w)
theorem goodIn_ca {big a b : List Cond} {c : Cond} (ha : GoodIn big (c :: a)) (hb : GoodIn big b) : GoodIn big (c :: (a ++ b)) := fun w h => (List.mem_cons.mp h).elim (fun e => ha w (List.mem_cons.mpr (Or.inl e))) (fun h => (List.mem_append.mp h).elim (fun h => ha w (List.mem_cons.mpr (Or.inr h))) (hb w))
theorem goodIn_sub {big ws : List Cond} (hm : ∀ w ∈ ws, w ∈ big) (h : ws.all goodWord = true) : GoodIn big ws := fun w hw => ⟨hm w hw, good_of_word (List.all_eq_true.mp h w hw)⟩
def RX0 : String := "BudgetHouse$Books"
def TX0 : u_T := fun k => match k with
  | 0 => ("BudgetHouse$Books", "sorts", "[I", true)
  | 1 => ("BudgetHouse$Books", "sizes", "[I", true)
  | 2 => ("BudgetHouse$Books", "years", "[I", true)
  | _ => ("BudgetHouse$Books", "carried", "[I", true)
def tyX0 : Nat → FieldType := fun k => match k with
  | 0 => .array .int
  | 1 => .array .int
  | 2 => .array .int
  | _ => .array .int
abbrev wsX00 : List Cond := u_ws RX0 TX0 4
theorem nmX0 : ∀ a, a < 4 → ∀ b, b < 4 → a ≠ b → (TX0 a).2.1 ≠ (TX0 b).2.1 := by decide +kernel
theorem tyX0_ok : ∀ k, k < 4 → parseFieldDescriptor (TX0 k).2.2.1 = some (tyX0 k) := by decide +kernel
abbrev cX0_init : ByteArray := prog_2_method_1_code
def yX0_init : MethodName := ⟨RX0, "<init>", "()V"⟩
abbrev cX0_open : ByteArray := prog_2_method_2_code
def yX0_open : MethodName := ⟨RX0, "open", "(III)I"⟩
abbrev cX0_isOffice : ByteArray := prog_2_method_3_code
def yX0_isOffice : MethodName := ⟨RX0, "isOffice", "(I)Z"⟩
abbrev cX0_hasYear : ByteArray := prog_2_method_4_code
def yX0_hasYear : MethodName := ⟨RX0, "hasYear", "(II)Z"⟩
abbrev cX0_refusalOfYear : ByteArray := prog_2_method_5_code
def yX0_refusalOfYear : MethodName := ⟨RX0, "refusalOfYear", "(II)I"⟩
abbrev cX0_write : ByteArray := prog_2_method_6_code
def yX0_write : MethodName := ⟨RX0, "write", "(III)I"⟩
abbrev cX0_yearRead : ByteArray := prog_2_method_7_code
def yX0_yearRead : MethodName := ⟨RX0, "yearRead", "(II)I"⟩
abbrev cX0_readAt : ByteArray := prog_2_method_8_code
def yX0_readAt : MethodName := ⟨RX0, "readAt", "(II)I"⟩
abbrev cX0_reaches : ByteArray := prog_2_method_9_code
def yX0_reaches : MethodName := ⟨RX0, "reaches", "(III)Z"⟩
abbrev cX0_carryOver : ByteArray := prog_2_method_10_code
def yX0_carryOver : MethodName := ⟨RX0, "carryOver", "(IIIII)I"⟩
abbrev cX0_spanOf : ByteArray := prog_2_method_11_code
def yX0_spanOf : MethodName := ⟨RX0, "spanOf", "(II)I"⟩
def RX1 : String := "BudgetHouse$House"
def TX1 : u_T := fun k => match k with
  | 0 => ("BudgetHouse$House", "minute", "I", false)
  | 1 => ("BudgetHouse$House", "clock", "I", false)
  | 2 => ("BudgetHouse$House", "stopped", "Z", false)
  | 3 => ("BudgetHouse$House", "members", "LBudgetHouse$Members;", true)
  | 4 => ("BudgetHouse$House", "papers", "LBudgetHouse$Papers;", true)
  | 5 => ("BudgetHouse$House", "sheets", "LBudgetHouse$Sheets;", true)
  | 6 => ("BudgetHouse$House", "texts", "LBudgetHouse$Texts;", true)
  | 7 => ("BudgetHouse$House", "wishes", "LBudgetHouse$Wishes;", true)
  | 8 => ("BudgetHouse$House", "shifts", "LBudgetHouse$Shifts;", true)
  | 9 => ("BudgetHouse$House", "offers", "LBudgetHouse$Offers;", true)
  | 10 => ("BudgetHouse$House", "incomes", "I", false)
  | 11 => ("BudgetHouse$House", "leasts", "[I", true)
  | 12 => ("BudgetHouse$House", "mosts", "[I", true)
  | 13 => ("BudgetHouse$House", "yes", "I", false)
  | 14 => ("BudgetHouse$House", "no", "I", false)
  | 15 => ("BudgetHouse$House", "present", "I", false)
  | 16 => ("BudgetHouse$House", "rowPapers", "[I", true)
  | 17 => ("BudgetHouse$House", "rowWorths", "[I", true)
  | _ => ("BudgetHouse$House", "rowSums", "[I", true)
def tyX1 : Nat → FieldType := fun k => match k with
  | 0 => .int
  | 1 => .int
  | 2 => .boolean
  | 3 => .object "BudgetHouse$Members"
  | 4 => .object "BudgetHouse$Papers"
  | 5 => .object "BudgetHouse$Sheets"
  | 6 => .object "BudgetHouse$Texts"
  | 7 => .object "BudgetHouse$Wishes"
  | 8 => .object "BudgetHouse$Shifts"
  | 9 => .object "BudgetHouse$Offers"
  | 10 => .int
  | 11 => .array .int
  | 12 => .array .int
  | 13 => .int
  | 14 => .int
  | 15 => .int
  | 16 => .array .int
  | 17 => .array .int
  | _ => .array .int
abbrev wsX10 : List Cond := u_ws RX1 TX1 19
theorem nmX1 : ∀ a, a < 19 → ∀ b, b < 19 → a ≠ b → (TX1 a).2.1 ≠ (TX1 b).2.1 := by decide +kernel
theorem tyX1_ok : ∀ k, k < 19 → parseFieldDescriptor (TX1 k).2.2.1 = some (tyX1 k) := by decide +kernel
abbrev cX1_init : ByteArray := prog_3_method_1_code
def yX1_init : MethodName := ⟨RX1, "<init>", "()V"⟩
abbrev cX1_become : ByteArray := prog_3_method_2_code
def yX1_become : MethodName := ⟨RX1, "become", "(LBudgetHouse$House;)V"⟩
abbrev cX1_hourNow : ByteArray := prog_3_method_3_code
def yX1_hourNow : MethodName := ⟨RX1, "hourNow", "()I"⟩
abbrev cX1_setStopped : ByteArray := prog_3_method_4_code
def yX1_setStopped : MethodName := ⟨RX1, "setStopped", "(I)I"⟩
abbrev cX1_goOn : ByteArray := prog_3_method_5_code
def yX1_goOn : MethodName := ⟨RX1, "goOn", "(I)I"⟩
abbrev cX1_hasRead : ByteArray := prog_3_method_6_code
def yX1_hasRead : MethodName := ⟨RX1, "hasRead", "(II)Z"⟩
abbrev cX1_voiceOf : ByteArray := prog_3_method_7_code
def yX1_voiceOf : MethodName := ⟨RX1, "voiceOf", "(II)I"⟩
abbrev cX1_poll : ByteArray := prog_3_method_8_code
def yX1_poll : MethodName := ⟨RX1, "poll", "(I)V"⟩
abbrev cX1_countVoters : ByteArray := prog_3_method_9_code
def yX1_countVoters : MethodName := ⟨RX1, "countVoters", "(I)V"⟩
abbrev cX1_polledPasses : ByteArray := prog_3_method_10_code
def yX1_polledPasses : MethodName := ⟨RX1, "polledPasses", "(I)Z"⟩
abbrev cX1_mayBePut : ByteArray := prog_3_method_11_code
def yX1_mayBePut : MethodName := ⟨RX1, "mayBePut", "(I)Z"⟩
abbrev cX1_voteFact : ByteArray := prog_3_method_12_code
def yX1_voteFact : MethodName := ⟨RX1, "voteFact", "(II)I"⟩
abbrev cX1_putToVote : ByteArray := prog_3_method_13_code
def yX1_putToVote : MethodName := ⟨RX1, "putToVote", "(I)I"⟩
abbrev cX1_letRulingWork : ByteArray := prog_3_method_14_code
def yX1_letRulingWork : MethodName := ⟨RX1, "letRulingWork", "(I)I"⟩
abbrev cX1_worthInOrder : ByteArray := prog_3_method_15_code
def yX1_worthInOrder : MethodName := ⟨RX1, "worthInOrder", "(II)I"⟩
abbrev cX1_layRow : ByteArray := prog_3_method_16_code
def yX1_layRow : MethodName := ⟨RX1, "layRow", "()I"⟩
abbrev cX1_placeInRow : ByteArray := prog_3_method_17_code
def yX1_placeInRow : MethodName := ⟨RX1, "placeInRow", "(III)V"⟩
abbrev cX1_inRow : ByteArray := prog_3_method_18_code
def yX1_inRow : MethodName := ⟨RX1, "inRow", "(I)I"⟩
abbrev cX1_bindWorth : ByteArray := prog_3_method_19_code
def yX1_bindWorth : MethodName := ⟨RX1, "bindWorth", "(III)I"⟩
abbrev cX1_bindingSum : ByteArray := prog_3_method_20_code
def yX1_bindingSum : MethodName := ⟨RX1, "bindingSum", "(I)I"⟩
abbrev cX1_lineFact : ByteArray := prog_3_method_21_code
def yX1_lineFact : MethodName := ⟨RX1, "lineFact", "(II)I"⟩
abbrev cX1_addIncome : ByteArray := prog_3_method_22_code
def yX1_addIncome : MethodName := ⟨RX1, "addIncome", "(II)I"⟩
abbrev cX1_incomeAt : ByteArray := prog_3_method_23_code
def yX1_incomeAt : MethodName := ⟨RX1, "incomeAt", "([I)I"⟩
abbrev cX1_balanceFact : ByteArray := prog_3_method_24_code
def yX1_balanceFact : MethodName := ⟨RX1, "balanceFact", "(I)I"⟩
abbrev cX1_breakInRow : ByteArray := prog_3_method_25_code
def yX1_breakInRow : MethodName := ⟨RX1, "breakInRow", "()I"⟩
abbrev cX1_tellNight : ByteArray := prog_3_method_26_code
def yX1_tellNight : MethodName := ⟨RX1, "tellNight", "(I[I)I"⟩
abbrev cX1_countOf : ByteArray := prog_3_method_27_code
def yX1_countOf : MethodName := ⟨RX1, "countOf", "(I)I"⟩
def RX2 : String := "BudgetHouse$Members"
def TX2 : u_T := fun k => match k with
  | 0 => ("BudgetHouse$Members", "size", "I", false)
  | 1 => ("BudgetHouse$Members", "parties", "[I", true)
  | 2 => ("BudgetHouse$Members", "tongues", "[I", true)
  | 3 => ("BudgetHouse$Members", "trains", "[I", true)
  | 4 => ("BudgetHouse$Members", "votes", "[I", true)
  | 5 => ("BudgetHouse$Members", "ins", "[I", true)
  | 6 => ("BudgetHouse$Members", "pairs", "I", false)
  | 7 => ("BudgetHouse$Members", "ones", "[I", true)
  | 8 => ("BudgetHouse$Members", "others", "[I", true)
  | _ => ("BudgetHouse$Members", "tills", "[I", true)
def tyX2 : Nat → FieldType := fun k => match k with
  | 0 => .int
  | 1 => .array .int
  | 2 => .array .int
  | 3 => .array .int
  | 4 => .array .int
  | 5 => .array .int
  | 6 => .int
  | 7 => .array .int
  | 8 => .array .int
  | _ => .array .int
abbrev wsX20 : List Cond := u_ws RX2 TX2 10
theorem nmX2 : ∀ a, a < 10 → ∀ b, b < 10 → a ≠ b → (TX2 a).2.1 ≠ (TX2 b).2.1 := by decide +kernel
theorem tyX2_ok : ∀ k, k < 10 → parseFieldDescriptor (TX2 k).2.2.1 = some (tyX2 k) := by decide +kernel
abbrev cX2_init : ByteArray := prog_4_method_1_code
def yX2_init : MethodName := ⟨RX2, "<init>", "()V"⟩
abbrev cX2_become : ByteArray := prog_4_method_2_code
def yX2_become : MethodName := ⟨RX2, "become", "(LBudgetHouse$Members;)V"⟩
abbrev cX2_has : ByteArray := prog_4_method_3_code
def yX2_has : MethodName := ⟨RX2, "has", "(I)Z"⟩
abbrev cX2_add : ByteArray := prog_4_method_4_code
def yX2_add : MethodName := ⟨RX2, "add", "(II)I"⟩
abbrev cX2_factOf : ByteArray := prog_4_method_5_code
def yX2_factOf : MethodName := ⟨RX2, "factOf", "(III)I"⟩
abbrev cX2_partyOf : ByteArray := prog_4_method_6_code
def yX2_partyOf : MethodName := ⟨RX2, "partyOf", "(I)I"⟩
abbrev cX2_tonguesOf : ByteArray := prog_4_method_7_code
def yX2_tonguesOf : MethodName := ⟨RX2, "tonguesOf", "(I)I"⟩
abbrev cX2_isIn : ByteArray := prog_4_method_8_code
def yX2_isIn : MethodName := ⟨RX2, "isIn", "(I)Z"⟩
abbrev cX2_isPresent : ByteArray := prog_4_method_9_code
def yX2_isPresent : MethodName := ⟨RX2, "isPresent", "(II)Z"⟩
abbrev cX2_countVote : ByteArray := prog_4_method_10_code
def yX2_countVote : MethodName := ⟨RX2, "countVote", "(I)V"⟩
abbrev cX2_setTrain : ByteArray := prog_4_method_11_code
def yX2_setTrain : MethodName := ⟨RX2, "setTrain", "(III)I"⟩
abbrev cX2_setIn : ByteArray := prog_4_method_12_code
def yX2_setIn : MethodName := ⟨RX2, "setIn", "(II)I"⟩
abbrev cX2_leaves : ByteArray := prog_4_method_13_code
def yX2_leaves : MethodName := ⟨RX2, "leaves", "(III)Z"⟩
abbrev cX2_leaveBetween : ByteArray := prog_4_method_14_code
def yX2_leaveBetween : MethodName := ⟨RX2, "leaveBetween", "(II)V"⟩
abbrev cX2_stillIn : ByteArray := prog_4_method_15_code
def yX2_stillIn : MethodName := ⟨RX2, "stillIn", "(II)I"⟩
abbrev cX2_inOfParty : ByteArray := prog_4_method_16_code
def yX2_inOfParty : MethodName := ⟨RX2, "inOfParty", "(I)I"⟩
abbrev cX2_holds : ByteArray := prog_4_method_17_code
def yX2_holds : MethodName := ⟨RX2, "holds", "(II)Z"⟩
abbrev cX2_pairOf : ByteArray := prog_4_method_18_code
def yX2_pairOf : MethodName := ⟨RX2, "pairOf", "(II)I"⟩
abbrev cX2_addPair : ByteArray := prog_4_method_19_code
def yX2_addPair : MethodName := ⟨RX2, "addPair", "(IIII)I"⟩
abbrev cX2_breakPair : ByteArray := prog_4_method_20_code
def yX2_breakPair : MethodName := ⟨RX2, "breakPair", "(II)I"⟩
abbrev cX2_pairsThatHold : ByteArray := prog_4_method_21_code
def yX2_pairsThatHold : MethodName := ⟨RX2, "pairsThatHold", "(I)I"⟩
def RX3 : String := "BudgetHouse$Offers"
def TX3 : u_T := fun k => match k with
  | 0 => ("BudgetHouse$Offers", "size", "I", false)
  | 1 => ("BudgetHouse$Offers", "votes", "[I", true)
  | 2 => ("BudgetHouse$Offers", "minutes", "[I", true)
  | 3 => ("BudgetHouse$Offers", "prices", "[I", true)
  | 4 => ("BudgetHouse$Offers", "againsts", "[I", true)
  | 5 => ("BudgetHouse$Offers", "bestSet", "I", false)
  | 6 => ("BudgetHouse$Offers", "bestPrice", "I", false)
  | _ => ("BudgetHouse$Offers", "bestMinutes", "I", false)
def tyX3 : Nat → FieldType := fun k => match k with
  | 0 => .int
  | 1 => .array .int
  | 2 => .array .int
  | 3 => .array .int
  | 4 => .array .int
  | 5 => .int
  | 6 => .int
  | _ => .int
abbrev wsX30 : List Cond := u_ws RX3 TX3 8
theorem nmX3 : ∀ a, a < 8 → ∀ b, b < 8 → a ≠ b → (TX3 a).2.1 ≠ (TX3 b).2.1 := by decide +kernel
theorem tyX3_ok : ∀ k, k < 8 → parseFieldDescriptor (TX3 k).2.2.1 = some (tyX3 k) := by decide +kernel
abbrev cX3_init : ByteArray := prog_5_method_1_code
def yX3_init : MethodName := ⟨RX3, "<init>", "()V"⟩
abbrev cX3_become : ByteArray := prog_5_method_2_code
def yX3_become : MethodName := ⟨RX3, "become", "(LBudgetHouse$Offers;)V"⟩
abbrev cX3_add : ByteArray := prog_5_method_3_code
def yX3_add : MethodName := ⟨RX3, "add", "(IIII)I"⟩
abbrev cX3_sumOf : ByteArray := prog_5_method_4_code
def yX3_sumOf : MethodName := ⟨RX3, "sumOf", "([II)I"⟩
abbrev cX3_agrees : ByteArray := prog_5_method_5_code
def yX3_agrees : MethodName := ⟨RX3, "agrees", "(I)Z"⟩
abbrev cX3_searchNight : ByteArray := prog_5_method_6_code
def yX3_searchNight : MethodName := ⟨RX3, "searchNight", "(II)I"⟩
abbrev cX3_takeIfLess : ByteArray := prog_5_method_7_code
def yX3_takeIfLess : MethodName := ⟨RX3, "takeIfLess", "(III)V"⟩
abbrev cX3_nightFact : ByteArray := prog_5_method_8_code
def yX3_nightFact : MethodName := ⟨RX3, "nightFact", "(III)I"⟩
abbrev cX3_nightRows : ByteArray := prog_5_method_9_code
def yX3_nightRows : MethodName := ⟨RX3, "nightRows", "(II[I)I"⟩
def RX4 : String := "BudgetHouse$Papers"
def TX4 : u_T := fun k => match k with
  | 0 => ("BudgetHouse$Papers", "size", "I", false)
  | 1 => ("BudgetHouse$Papers", "kinds", "[I", true)
  | 2 => ("BudgetHouse$Papers", "as", "[I", true)
  | 3 => ("BudgetHouse$Papers", "bs", "[I", true)
  | 4 => ("BudgetHouse$Papers", "states", "[I", true)
  | 5 => ("BudgetHouse$Papers", "ons", "[I", true)
  | 6 => ("BudgetHouse$Papers", "modes", "[I", true)
  | 7 => ("BudgetHouse$Papers", "cames", "[I", true)
  | 8 => ("BudgetHouse$Papers", "yeses", "[I", true)
  | 9 => ("BudgetHouse$Papers", "noes", "[I", true)
  | 10 => ("BudgetHouse$Papers", "presents", "[I", true)
  | 11 => ("BudgetHouse$Papers", "stances", "[I", true)
  | _ => ("BudgetHouse$Papers", "trial", "[I", true)
def tyX4 : Nat → FieldType := fun k => match k with
  | 0 => .int
  | 1 => .array .int
  | 2 => .array .int
  | 3 => .array .int
  | 4 => .array .int
  | 5 => .array .int
  | 6 => .array .int
  | 7 => .array .int
  | 8 => .array .int
  | 9 => .array .int
  | 10 => .array .int
  | 11 => .array .int
  | _ => .array .int
abbrev wsX40 : List Cond := u_ws RX4 TX4 13
theorem nmX4 : ∀ a, a < 13 → ∀ b, b < 13 → a ≠ b → (TX4 a).2.1 ≠ (TX4 b).2.1 := by decide +kernel
theorem tyX4_ok : ∀ k, k < 13 → parseFieldDescriptor (TX4 k).2.2.1 = some (tyX4 k) := by decide +kernel
abbrev cX4_init : ByteArray := prog_6_method_1_code
def yX4_init : MethodName := ⟨RX4, "<init>", "()V"⟩
abbrev cX4_become : ByteArray := prog_6_method_2_code
def yX4_become : MethodName := ⟨RX4, "become", "(LBudgetHouse$Papers;)V"⟩
abbrev cX4_has : ByteArray := prog_6_method_3_code
def yX4_has : MethodName := ⟨RX4, "has", "(I)Z"⟩
abbrev cX4_kindOf : ByteArray := prog_6_method_4_code
def yX4_kindOf : MethodName := ⟨RX4, "kindOf", "(I)I"⟩
abbrev cX4_aOf : ByteArray := prog_6_method_5_code
def yX4_aOf : MethodName := ⟨RX4, "aOf", "(I)I"⟩
abbrev cX4_bOf : ByteArray := prog_6_method_6_code
def yX4_bOf : MethodName := ⟨RX4, "bOf", "(I)I"⟩
abbrev cX4_stateOf : ByteArray := prog_6_method_7_code
def yX4_stateOf : MethodName := ⟨RX4, "stateOf", "(I)I"⟩
abbrev cX4_cameOf : ByteArray := prog_6_method_8_code
def yX4_cameOf : MethodName := ⟨RX4, "cameOf", "(I)I"⟩
abbrev cX4_stanceOf : ByteArray := prog_6_method_9_code
def yX4_stanceOf : MethodName := ⟨RX4, "stanceOf", "(II)I"⟩
abbrev cX4_isLine : ByteArray := prog_6_method_10_code
def yX4_isLine : MethodName := ⟨RX4, "isLine", "(I)Z"⟩
abbrev cX4_isChange : ByteArray := prog_6_method_11_code
def yX4_isChange : MethodName := ⟨RX4, "isChange", "(I)Z"⟩
abbrev cX4_isOpenOn : ByteArray := prog_6_method_12_code
def yX4_isOpenOn : MethodName := ⟨RX4, "isOpenOn", "(III)Z"⟩
abbrev cX4_isOpenChangeTo : ByteArray := prog_6_method_13_code
def yX4_isOpenChangeTo : MethodName := ⟨RX4, "isOpenChangeTo", "(II)Z"⟩
abbrev cX4_isRiderOn : ByteArray := prog_6_method_14_code
def yX4_isRiderOn : MethodName := ⟨RX4, "isRiderOn", "(II)Z"⟩
abbrev cX4_costs : ByteArray := prog_6_method_15_code
def yX4_costs : MethodName := ⟨RX4, "costs", "(I)Z"⟩
abbrev cX4_suits : ByteArray := prog_6_method_16_code
def yX4_suits : MethodName := ⟨RX4, "suits", "(III)Z"⟩
abbrev cX4_add : ByteArray := prog_6_method_17_code
def yX4_add : MethodName := ⟨RX4, "add", "(III)I"⟩
abbrev cX4_addHung : ByteArray := prog_6_method_18_code
def yX4_addHung : MethodName := ⟨RX4, "addHung", "(IIII)I"⟩
abbrev cX4_addAny : ByteArray := prog_6_method_19_code
def yX4_addAny : MethodName := ⟨RX4, "addAny", "(IIIII)I"⟩
abbrev cX4_factOf : ByteArray := prog_6_method_20_code
def yX4_factOf : MethodName := ⟨RX4, "factOf", "(II)I"⟩
abbrev cX4_seenAs : ByteArray := prog_6_method_21_code
def yX4_seenAs : MethodName := ⟨RX4, "seenAs", "(II)I"⟩
abbrev cX4_isUnder : ByteArray := prog_6_method_22_code
def yX4_isUnder : MethodName := ⟨RX4, "isUnder", "(II)Z"⟩
abbrev cX4_setStance : ByteArray := prog_6_method_23_code
def yX4_setStance : MethodName := ⟨RX4, "setStance", "(III)I"⟩
abbrev cX4_comeIn : ByteArray := prog_6_method_24_code
def yX4_comeIn : MethodName := ⟨RX4, "comeIn", "(II)V"⟩
abbrev cX4_isBound : ByteArray := prog_6_method_25_code
def yX4_isBound : MethodName := ⟨RX4, "isBound", "(II)Z"⟩
abbrev cX4_isReady : ByteArray := prog_6_method_26_code
def yX4_isReady : MethodName := ⟨RX4, "isReady", "(I)Z"⟩
abbrev cX4_comesWith : ByteArray := prog_6_method_27_code
def yX4_comesWith : MethodName := ⟨RX4, "comesWith", "(I)Z"⟩
abbrev cX4_setVote : ByteArray := prog_6_method_28_code
def yX4_setVote : MethodName := ⟨RX4, "setVote", "(IIII)V"⟩
abbrev cX4_decide : ByteArray := prog_6_method_29_code
def yX4_decide : MethodName := ⟨RX4, "decide", "(IZ)V"⟩
abbrev cX4_decideWith : ByteArray := prog_6_method_30_code
def yX4_decideWith : MethodName := ⟨RX4, "decideWith", "(IZ)V"⟩
abbrev cX4_addMore : ByteArray := prog_6_method_31_code
def yX4_addMore : MethodName := ⟨RX4, "addMore", "(II)V"⟩
abbrev cX4_letFall : ByteArray := prog_6_method_32_code
def yX4_letFall : MethodName := ⟨RX4, "letFall", "([I)I"⟩
abbrev cX4_fallsNow : ByteArray := prog_6_method_33_code
def yX4_fallsNow : MethodName := ⟨RX4, "fallsNow", "(I[I)Z"⟩
abbrev cX4_settleDeals : ByteArray := prog_6_method_34_code
def yX4_settleDeals : MethodName := ⟨RX4, "settleDeals", "()V"⟩
abbrev cX4_letRulingWork : ByteArray := prog_6_method_35_code
def yX4_letRulingWork : MethodName := ⟨RX4, "letRulingWork", "(I)I"⟩
abbrev cX4_voidAllOn : ByteArray := prog_6_method_36_code
def yX4_voidAllOn : MethodName := ⟨RX4, "voidAllOn", "(I)I"⟩
abbrev cX4_mendLine : ByteArray := prog_6_method_37_code
def yX4_mendLine : MethodName := ⟨RX4, "mendLine", "(I)I"⟩
abbrev cX4_refusalOfChange : ByteArray := prog_6_method_38_code
def yX4_refusalOfChange : MethodName := ⟨RX4, "refusalOfChange", "(I)I"⟩
abbrev cX4_fallingWith : ByteArray := prog_6_method_39_code
def yX4_fallingWith : MethodName := ⟨RX4, "fallingWith", "(I)I"⟩
abbrev cX4_neverOf : ByteArray := prog_6_method_40_code
def yX4_neverOf : MethodName := ⟨RX4, "neverOf", "(I)I"⟩
abbrev cX4_isNever : ByteArray := prog_6_method_41_code
def yX4_isNever : MethodName := ⟨RX4, "isNever", "(I)Z"⟩
abbrev cX4_unlikeTongues : ByteArray := prog_6_method_42_code
def yX4_unlikeTongues : MethodName := ⟨RX4, "unlikeTongues", "(I)I"⟩
abbrev cX4_openChanges : ByteArray := prog_6_method_43_code
def yX4_openChanges : MethodName := ⟨RX4, "openChanges", "(I)I"⟩
abbrev cX4_ridersOn : ByteArray := prog_6_method_44_code
def yX4_ridersOn : MethodName := ⟨RX4, "ridersOn", "(I)I"⟩
abbrev cX4_sumOf : ByteArray := prog_6_method_45_code
def yX4_sumOf : MethodName := ⟨RX4, "sumOf", "(II)I"⟩
abbrev cX4_inState : ByteArray := prog_6_method_46_code
def yX4_inState : MethodName := ⟨RX4, "inState", "(I)I"⟩
def RX5 : String := "BudgetHouse$Reader"
def TX5 : u_T := fun k => match k with
  | 0 => ("BudgetHouse$Reader", "key", "I", false)
  | 1 => ("BudgetHouse$Reader", "operands", "I", false)
  | 2 => ("BudgetHouse$Reader", "size", "I", false)
  | 3 => ("BudgetHouse$Reader", "code", "[I", true)
  | 4 => ("BudgetHouse$Reader", "waits", "[I", true)
  | 5 => ("BudgetHouse$Reader", "waitsSize", "I", false)
  | 6 => ("BudgetHouse$Reader", "brackets", "I", false)
  | 7 => ("BudgetHouse$Reader", "nots", "I", false)
  | _ => ("BudgetHouse$Reader", "wantsPart", "Z", false)
def tyX5 : Nat → FieldType := fun k => match k with
  | 0 => .int
  | 1 => .int
  | 2 => .int
  | 3 => .array .int
  | 4 => .array .int
  | 5 => .int
  | 6 => .int
  | 7 => .int
  | _ => .boolean
abbrev wsX50 : List Cond := u_ws RX5 TX5 9
theorem nmX5 : ∀ a, a < 9 → ∀ b, b < 9 → a ≠ b → (TX5 a).2.1 ≠ (TX5 b).2.1 := by decide +kernel
theorem tyX5_ok : ∀ k, k < 9 → parseFieldDescriptor (TX5 k).2.2.1 = some (tyX5 k) := by decide +kernel
abbrev cX5_init : ByteArray := prog_7_method_1_code
def yX5_init : MethodName := ⟨RX5, "<init>", "()V"⟩
abbrev cX5_faultOf : ByteArray := prog_7_method_2_code
def yX5_faultOf : MethodName := ⟨RX5, "faultOf", "(LBudgetHouse$Tape;)I"⟩
abbrev cX5_startAnew : ByteArray := prog_7_method_3_code
def yX5_startAnew : MethodName := ⟨RX5, "startAnew", "()V"⟩
abbrev cX5_keyOf : ByteArray := prog_7_method_4_code
def yX5_keyOf : MethodName := ⟨RX5, "keyOf", "(LBudgetHouse$Tape;II)I"⟩
abbrev cX5_namesOf : ByteArray := prog_7_method_5_code
def yX5_namesOf : MethodName := ⟨RX5, "namesOf", "(I)Ljava/lang/String;"⟩
abbrev cX5_takePart : ByteArray := prog_7_method_6_code
def yX5_takePart : MethodName := ⟨RX5, "takePart", "(LBudgetHouse$Tape;I)I"⟩
abbrev cX5_numberAt : ByteArray := prog_7_method_7_code
def yX5_numberAt : MethodName := ⟨RX5, "numberAt", "(LBudgetHouse$Tape;II)I"⟩
abbrev cX5_nameAt : ByteArray := prog_7_method_8_code
def yX5_nameAt : MethodName := ⟨RX5, "nameAt", "(LBudgetHouse$Tape;II)I"⟩
abbrev cX5_takeSign : ByteArray := prog_7_method_9_code
def yX5_takeSign : MethodName := ⟨RX5, "takeSign", "(LBudgetHouse$Tape;I)I"⟩
abbrev cX5_rankOf : ByteArray := prog_7_method_10_code
def yX5_rankOf : MethodName := ⟨RX5, "rankOf", "(I)I"⟩
abbrev cX5_closeBracket : ByteArray := prog_7_method_11_code
def yX5_closeBracket : MethodName := ⟨RX5, "closeBracket", "()Z"⟩
abbrev cX5_endPart : ByteArray := prog_7_method_12_code
def yX5_endPart : MethodName := ⟨RX5, "endPart", "()V"⟩
abbrev cX5_layDownFrom : ByteArray := prog_7_method_13_code
def yX5_layDownFrom : MethodName := ⟨RX5, "layDownFrom", "(I)V"⟩
abbrev cX5_layDown : ByteArray := prog_7_method_14_code
def yX5_layDown : MethodName := ⟨RX5, "layDown", "(I)V"⟩
abbrev cX5_waitWith : ByteArray := prog_7_method_15_code
def yX5_waitWith : MethodName := ⟨RX5, "waitWith", "(I)V"⟩
abbrev cX5_lastWaiting : ByteArray := prog_7_method_16_code
def yX5_lastWaiting : MethodName := ⟨RX5, "lastWaiting", "()I"⟩
def RX6 : String := "BudgetHouse$Sheets"
def TX6 : u_T := fun k => match k with
  | 0 => ("BudgetHouse$Sheets", "size", "I", false)
  | 1 => ("BudgetHouse$Sheets", "papersOf", "[I", true)
  | 2 => ("BudgetHouse$Sheets", "tonguesOf", "[I", true)
  | _ => ("BudgetHouse$Sheets", "dues", "[I", true)
def tyX6 : Nat → FieldType := fun k => match k with
  | 0 => .int
  | 1 => .array .int
  | 2 => .array .int
  | _ => .array .int
abbrev wsX60 : List Cond := u_ws RX6 TX6 4
theorem nmX6 : ∀ a, a < 4 → ∀ b, b < 4 → a ≠ b → (TX6 a).2.1 ≠ (TX6 b).2.1 := by decide +kernel
theorem tyX6_ok : ∀ k, k < 4 → parseFieldDescriptor (TX6 k).2.2.1 = some (tyX6 k) := by decide +kernel
abbrev cX6_init : ByteArray := prog_8_method_1_code
def yX6_init : MethodName := ⟨RX6, "<init>", "()V"⟩
abbrev cX6_become : ByteArray := prog_8_method_2_code
def yX6_become : MethodName := ⟨RX6, "become", "(LBudgetHouse$Sheets;)V"⟩
abbrev cX6_add : ByteArray := prog_8_method_3_code
def yX6_add : MethodName := ⟨RX6, "add", "(LBudgetHouse$Papers;IIII)I"⟩
abbrev cX6_comeTill : ByteArray := prog_8_method_4_code
def yX6_comeTill : MethodName := ⟨RX6, "comeTill", "(ILBudgetHouse$Papers;)V"⟩
abbrev cX6_onWayBehind : ByteArray := prog_8_method_5_code
def yX6_onWayBehind : MethodName := ⟨RX6, "onWayBehind", "(I)I"⟩
def RX7 : String := "BudgetHouse$Shifts"
def TX7 : u_T := fun k => match k with
  | 0 => ("BudgetHouse$Shifts", "size", "I", false)
  | 1 => ("BudgetHouse$Shifts", "twos", "[I", true)
  | 2 => ("BudgetHouse$Shifts", "speeches", "[I", true)
  | _ => ("BudgetHouse$Shifts", "most", "[I", true)
def tyX7 : Nat → FieldType := fun k => match k with
  | 0 => .int
  | 1 => .array .int
  | 2 => .array .int
  | _ => .array .int
abbrev wsX70 : List Cond := u_ws RX7 TX7 4
theorem nmX7 : ∀ a, a < 4 → ∀ b, b < 4 → a ≠ b → (TX7 a).2.1 ≠ (TX7 b).2.1 := by decide +kernel
theorem tyX7_ok : ∀ k, k < 4 → parseFieldDescriptor (TX7 k).2.2.1 = some (tyX7 k) := by decide +kernel
abbrev cX7_init : ByteArray := prog_9_method_1_code
def yX7_init : MethodName := ⟨RX7, "<init>", "()V"⟩
abbrev cX7_become : ByteArray := prog_9_method_2_code
def yX7_become : MethodName := ⟨RX7, "become", "(LBudgetHouse$Shifts;)V"⟩
abbrev cX7_add : ByteArray := prog_9_method_3_code
def yX7_add : MethodName := ⟨RX7, "add", "()I"⟩
abbrev cX7_isTongue : ByteArray := prog_9_method_4_code
def yX7_isTongue : MethodName := ⟨RX7, "isTongue", "(I)Z"⟩
abbrev cX7_bitOf : ByteArray := prog_9_method_5_code
def yX7_bitOf : MethodName := ⟨RX7, "bitOf", "(II)I"⟩
abbrev cX7_addTwo : ByteArray := prog_9_method_6_code
def yX7_addTwo : MethodName := ⟨RX7, "addTwo", "(III)I"⟩
abbrev cX7_setSpeech : ByteArray := prog_9_method_7_code
def yX7_setSpeech : MethodName := ⟨RX7, "setSpeech", "(III)I"⟩
abbrev cX7_mostHeard : ByteArray := prog_9_method_8_code
def yX7_mostHeard : MethodName := ⟨RX7, "mostHeard", "(I)I"⟩
abbrev cX7_interpreterIn : ByteArray := prog_9_method_9_code
def yX7_interpreterIn : MethodName := ⟨RX7, "interpreterIn", "(II)I"⟩
abbrev cX7_weigh : ByteArray := prog_9_method_10_code
def yX7_weigh : MethodName := ⟨RX7, "weigh", "(I)V"⟩
abbrev cX7_place : ByteArray := prog_9_method_11_code
def yX7_place : MethodName := ⟨RX7, "place", "(IIZ)I"⟩
abbrev cX7_mostFrom : ByteArray := prog_9_method_12_code
def yX7_mostFrom : MethodName := ⟨RX7, "mostFrom", "(IIZ)I"⟩
abbrev cX7_bestFrom : ByteArray := prog_9_method_13_code
def yX7_bestFrom : MethodName := ⟨RX7, "bestFrom", "(IIZ)I"⟩
abbrev cX7_firstBest : ByteArray := prog_9_method_14_code
def yX7_firstBest : MethodName := ⟨RX7, "firstBest", "(IIZ)I"⟩
abbrev cX7_canTake : ByteArray := prog_9_method_15_code
def yX7_canTake : MethodName := ⟨RX7, "canTake", "(IIZ)Z"⟩
abbrev cX7_heardWith : ByteArray := prog_9_method_16_code
def yX7_heardWith : MethodName := ⟨RX7, "heardWith", "(III)I"⟩
abbrev cX7_heardIn : ByteArray := prog_9_method_17_code
def yX7_heardIn : MethodName := ⟨RX7, "heardIn", "(II)I"⟩
def RX8 : String := "BudgetHouse$Tape"
def TX8 : u_T := fun k => match k with
  | 0 => ("BudgetHouse$Tape", "size", "I", false)
  | _ => ("BudgetHouse$Tape", "bytes", "[I", true)
def tyX8 : Nat → FieldType := fun k => match k with
  | 0 => .int
  | _ => .array .int
abbrev wsX80 : List Cond := u_ws RX8 TX8 2
theorem nmX8 : ∀ a, a < 2 → ∀ b, b < 2 → a ≠ b → (TX8 a).2.1 ≠ (TX8 b).2.1 := by decide +kernel
theorem tyX8_ok : ∀ k, k < 2 → parseFieldDescriptor (TX8 k).2.2.1 = some (tyX8 k) := by decide +kernel
abbrev cX8_init : ByteArray := prog_10_method_1_code
def yX8_init : MethodName := ⟨RX8, "<init>", "()V"⟩
abbrev cX8_take : ByteArray := prog_10_method_2_code
def yX8_take : MethodName := ⟨RX8, "take", "(III)I"⟩
abbrev cX8_takeFour : ByteArray := prog_10_method_3_code
def yX8_takeFour : MethodName := ⟨RX8, "takeFour", "(I)V"⟩
abbrev cX8_cutTo : ByteArray := prog_10_method_4_code
def yX8_cutTo : MethodName := ⟨RX8, "cutTo", "(I)I"⟩
abbrev cX8_useUp : ByteArray := prog_10_method_5_code
def yX8_useUp : MethodName := ⟨RX8, "useUp", "()V"⟩
abbrev cX8_byteAt : ByteArray := prog_10_method_6_code
def yX8_byteAt : MethodName := ⟨RX8, "byteAt", "(I)I"⟩
abbrev cX8_isDigit : ByteArray := prog_10_method_7_code
def yX8_isDigit : MethodName := ⟨RX8, "isDigit", "(I)Z"⟩
abbrev cX8_isLetter : ByteArray := prog_10_method_8_code
def yX8_isLetter : MethodName := ⟨RX8, "isLetter", "(I)Z"⟩
abbrev cX8_behindBlanks : ByteArray := prog_10_method_9_code
def yX8_behindBlanks : MethodName := ⟨RX8, "behindBlanks", "(I)I"⟩
abbrev cX8_behindWord : ByteArray := prog_10_method_10_code
def yX8_behindWord : MethodName := ⟨RX8, "behindWord", "(I)I"⟩
abbrev cX8_isWord : ByteArray := prog_10_method_11_code
def yX8_isWord : MethodName := ⟨RX8, "isWord", "(IILjava/lang/String;)Z"⟩
def RX9 : String := "BudgetHouse$Texts"
def TX9 : u_T := fun k => match k with
  | 0 => ("BudgetHouse$Texts", "size", "I", false)
  | 1 => ("BudgetHouse$Texts", "keys", "[I", true)
  | 2 => ("BudgetHouse$Texts", "hours", "[I", true)
  | 3 => ("BudgetHouse$Texts", "operands", "[I", true)
  | 4 => ("BudgetHouse$Texts", "lengths", "[I", true)
  | 5 => ("BudgetHouse$Texts", "codes", "[I", true)
  | 6 => ("BudgetHouse$Texts", "names", "[I", true)
  | 7 => ("BudgetHouse$Texts", "stack", "[I", true)
  | _ => ("BudgetHouse$Texts", "depth", "I", false)
def tyX9 : Nat → FieldType := fun k => match k with
  | 0 => .int
  | 1 => .array .int
  | 2 => .array .int
  | 3 => .array .int
  | 4 => .array .int
  | 5 => .array .int
  | 6 => .array .int
  | 7 => .array .int
  | _ => .int
abbrev wsX90 : List Cond := u_ws RX9 TX9 9
theorem nmX9 : ∀ a, a < 9 → ∀ b, b < 9 → a ≠ b → (TX9 a).2.1 ≠ (TX9 b).2.1 := by decide +kernel
theorem tyX9_ok : ∀ k, k < 9 → parseFieldDescriptor (TX9 k).2.2.1 = some (tyX9 k) := by decide +kernel
abbrev cX9_init : ByteArray := prog_11_method_1_code
def yX9_init : MethodName := ⟨RX9, "<init>", "()V"⟩
abbrev cX9_become : ByteArray := prog_11_method_2_code
def yX9_become : MethodName := ⟨RX9, "become", "(LBudgetHouse$Texts;)V"⟩
abbrev cX9_add : ByteArray := prog_11_method_3_code
def yX9_add : MethodName := ⟨RX9, "add", "(LBudgetHouse$Reader;I)I"⟩
abbrev cX9_factOf : ByteArray := prog_11_method_4_code
def yX9_factOf : MethodName := ⟨RX9, "factOf", "(II)I"⟩
abbrev cX9_counting : ByteArray := prog_11_method_5_code
def yX9_counting : MethodName := ⟨RX9, "counting", "(II)I"⟩
abbrev cX9_worthOf : ByteArray := prog_11_method_6_code
def yX9_worthOf : MethodName := ⟨RX9, "worthOf", "(IIIII)I"⟩
abbrev cX9_workOut : ByteArray := prog_11_method_7_code
def yX9_workOut : MethodName := ⟨RX9, "workOut", "(I)V"⟩
abbrev cX9_push : ByteArray := prog_11_method_8_code
def yX9_push : MethodName := ⟨RX9, "push", "(I)V"⟩
abbrev cX9_popped : ByteArray := prog_11_method_9_code
def yX9_popped : MethodName := ⟨RX9, "popped", "()I"⟩
abbrev cX9_worthOfSign : ByteArray := prog_11_method_10_code
def yX9_worthOfSign : MethodName := ⟨RX9, "worthOfSign", "(III)I"⟩
def RX10 : String := "BudgetHouse$Wishes"
def TX10 : u_T := fun k => match k with
  | 0 => ("BudgetHouse$Wishes", "sets", "[I", true)
  | 1 => ("BudgetHouse$Wishes", "sums", "[I", true)
  | 2 => ("BudgetHouse$Wishes", "voices", "[I", true)
  | 3 => ("BudgetHouse$Wishes", "lines", "I", false)
  | 4 => ("BudgetHouse$Wishes", "bestSet", "I", false)
  | 5 => ("BudgetHouse$Wishes", "bestSum", "I", false)
  | _ => ("BudgetHouse$Wishes", "bestVoices", "I", false)
def tyX10 : Nat → FieldType := fun k => match k with
  | 0 => .array .int
  | 1 => .array .int
  | 2 => .array .int
  | 3 => .int
  | 4 => .int
  | 5 => .int
  | _ => .int
abbrev wsX100 : List Cond := u_ws RX10 TX10 7
theorem nmX10 : ∀ a, a < 7 → ∀ b, b < 7 → a ≠ b → (TX10 a).2.1 ≠ (TX10 b).2.1 := by decide +kernel
theorem tyX10_ok : ∀ k, k < 7 → parseFieldDescriptor (TX10 k).2.2.1 = some (tyX10 k) := by decide +kernel
abbrev cX10_init : ByteArray := prog_12_method_1_code
def yX10_init : MethodName := ⟨RX10, "<init>", "()V"⟩
abbrev cX10_become : ByteArray := prog_12_method_2_code
def yX10_become : MethodName := ⟨RX10, "become", "(LBudgetHouse$Wishes;)V"⟩
abbrev cX10_setWish : ByteArray := prog_12_method_3_code
def yX10_setWish : MethodName := ⟨RX10, "setWish", "(II)I"⟩
abbrev cX10_leastThatCarries : ByteArray := prog_12_method_4_code
def yX10_leastThatCarries : MethodName := ⟨RX10, "leastThatCarries", "(LBudgetHouse$Papers;LBudgetHouse$Members;II)I"⟩
abbrev cX10_takeLines : ByteArray := prog_12_method_5_code
def yX10_takeLines : MethodName := ⟨RX10, "takeLines", "(LBudgetHouse$Papers;)V"⟩
abbrev cX10_searchSets : ByteArray := prog_12_method_6_code
def yX10_searchSets : MethodName := ⟨RX10, "searchSets", "(I)V"⟩
abbrev cX10_isLess : ByteArray := prog_12_method_7_code
def yX10_isLess : MethodName := ⟨RX10, "isLess", "(II)Z"⟩
abbrev cX10_sumOf : ByteArray := prog_12_method_8_code
def yX10_sumOf : MethodName := ⟨RX10, "sumOf", "(I)I"⟩
abbrev cX10_voicesFor : ByteArray := prog_12_method_9_code
def yX10_voicesFor : MethodName := ⟨RX10, "voicesFor", "(I)I"⟩
def RX11 : String := "BudgetHouse"
def TX11 : u_T := fun k => match k with
  | 0 => ("BudgetHouse", "now", "LBudgetHouse$House;", true)
  | 1 => ("BudgetHouse", "image", "LBudgetHouse$House;", true)
  | 2 => ("BudgetHouse", "kept", "Z", false)
  | 3 => ("BudgetHouse", "tape", "LBudgetHouse$Tape;", true)
  | 4 => ("BudgetHouse", "reader", "LBudgetHouse$Reader;", true)
  | 5 => ("BudgetHouse", "books", "LBudgetHouse$Books;", true)
  | 6 => ("BudgetHouse", "waitingSize", "I", false)
  | 7 => ("BudgetHouse", "waiting", "[I", true)
  | _ => ("BudgetHouse", "due", "[I", true)
def tyX11 : Nat → FieldType := fun k => match k with
  | 0 => .object "BudgetHouse$House"
  | 1 => .object "BudgetHouse$House"
  | 2 => .boolean
  | 3 => .object "BudgetHouse$Tape"
  | 4 => .object "BudgetHouse$Reader"
  | 5 => .object "BudgetHouse$Books"
  | 6 => .int
  | 7 => .array .int
  | _ => .array .int
abbrev wsX110 : List Cond := u_ws RX11 TX11 9
theorem nmX11 : ∀ a, a < 9 → ∀ b, b < 9 → a ≠ b → (TX11 a).2.1 ≠ (TX11 b).2.1 := by decide +kernel
theorem tyX11_ok : ∀ k, k < 9 → parseFieldDescriptor (TX11 k).2.2.1 = some (tyX11 k) := by decide +kernel
abbrev cX11_init : ByteArray := prog_1_method_1_code
def yX11_init : MethodName := ⟨RX11, "<init>", "()V"⟩
abbrev cX11_member : ByteArray := prog_1_method_2_code
def yX11_member : MethodName := ⟨RX11, "member", "(II)I"⟩
abbrev cX11_is : ByteArray := prog_1_method_3_code
def yX11_is : MethodName := ⟨RX11, "is", "(II)I"⟩
abbrev cX11_train : ByteArray := prog_1_method_4_code
def yX11_train : MethodName := ⟨RX11, "train", "(II)I"⟩
abbrev cX11_go : ByteArray := prog_1_method_5_code
def yX11_go : MethodName := ⟨RX11, "go", "(II)I"⟩
abbrev cX11_pair : ByteArray := prog_1_method_6_code
def yX11_pair : MethodName := ⟨RX11, "pair", "(III)I"⟩
abbrev cX11_breaks : ByteArray := prog_1_method_7_code
def yX11_breaks : MethodName := ⟨RX11, "breaks", "(I)I"⟩
abbrev cX11_clock : ByteArray := prog_1_method_8_code
def yX11_clock : MethodName := ⟨RX11, "clock", "(I)I"⟩
abbrev cX11_run : ByteArray := prog_1_method_9_code
def yX11_run : MethodName := ⟨RX11, "run", "(I)I"⟩
abbrev cX11_paper : ByteArray := prog_1_method_10_code
def yX11_paper : MethodName := ⟨RX11, "paper", "(III)I"⟩
abbrev cX11_hung : ByteArray := prog_1_method_11_code
def yX11_hung : MethodName := ⟨RX11, "hung", "(IIII)I"⟩
abbrev cX11_told : ByteArray := prog_1_method_12_code
def yX11_told : MethodName := ⟨RX11, "told", "(II)I"⟩
abbrev cX11_as : ByteArray := prog_1_method_13_code
def yX11_as : MethodName := ⟨RX11, "as", "(II)I"⟩
abbrev cX11_stance : ByteArray := prog_1_method_14_code
def yX11_stance : MethodName := ⟨RX11, "stance", "(III)I"⟩
abbrev cX11_print : ByteArray := prog_1_method_15_code
def yX11_print : MethodName := ⟨RX11, "print", "(III)I"⟩
abbrev cX11_read : ByteArray := prog_1_method_16_code
def yX11_read : MethodName := ⟨RX11, "read", "(II)I"⟩
abbrev cX11_would : ByteArray := prog_1_method_17_code
def yX11_would : MethodName := ⟨RX11, "would", "(II)I"⟩
abbrev cX11_put : ByteArray := prog_1_method_18_code
def yX11_put : MethodName := ⟨RX11, "put", "(I)I"⟩
abbrev cX11_rule : ByteArray := prog_1_method_19_code
def yX11_rule : MethodName := ⟨RX11, "rule", "(I)I"⟩
abbrev cX11_mend : ByteArray := prog_1_method_20_code
def yX11_mend : MethodName := ⟨RX11, "mend", "(I)I"⟩
abbrev cX11_falls : ByteArray := prog_1_method_21_code
def yX11_falls : MethodName := ⟨RX11, "falls", "(I)I"⟩
abbrev cX11_never : ByteArray := prog_1_method_22_code
def yX11_never : MethodName := ⟨RX11, "never", "(I)I"⟩
abbrev cX11_row : ByteArray := prog_1_method_23_code
def yX11_row : MethodName := ⟨RX11, "row", "(I)I"⟩
abbrev cX11_line : ByteArray := prog_1_method_24_code
def yX11_line : MethodName := ⟨RX11, "line", "(II)I"⟩
abbrev cX11_feed : ByteArray := prog_1_method_25_code
def yX11_feed : MethodName := ⟨RX11, "feed", "(III)I"⟩
abbrev cX11_trim : ByteArray := prog_1_method_26_code
def yX11_trim : MethodName := ⟨RX11, "trim", "(I)I"⟩
abbrev cX11_text : ByteArray := prog_1_method_27_code
def yX11_text : MethodName := ⟨RX11, "text", "(I)I"⟩
abbrev cX11_of : ByteArray := prog_1_method_28_code
def yX11_of : MethodName := ⟨RX11, "of", "(II)I"⟩
abbrev cX11_why : ByteArray := prog_1_method_29_code
def yX11_why : MethodName := ⟨RX11, "why", "(I)I"⟩
abbrev cX11_income : ByteArray := prog_1_method_30_code
def yX11_income : MethodName := ⟨RX11, "income", "(II)I"⟩
abbrev cX11_balance : ByteArray := prog_1_method_31_code
def yX11_balance : MethodName := ⟨RX11, "balance", "(I)I"⟩
abbrev cX11_first : ByteArray := prog_1_method_32_code
def yX11_first : MethodName := ⟨RX11, "first", "()I"⟩
abbrev cX11_book : ByteArray := prog_1_method_33_code
def yX11_book : MethodName := ⟨RX11, "book", "(III)I"⟩
abbrev cX11_note : ByteArray := prog_1_method_34_code
def yX11_note : MethodName := ⟨RX11, "note", "(III)I"⟩
abbrev cX11_looks : ByteArray := prog_1_method_35_code
def yX11_looks : MethodName := ⟨RX11, "looks", "(II)I"⟩
abbrev cX11_copy : ByteArray := prog_1_method_36_code
def yX11_copy : MethodName := ⟨RX11, "copy", "(IIIII)I"⟩
abbrev cX11_span : ByteArray := prog_1_method_37_code
def yX11_span : MethodName := ⟨RX11, "span", "(II)I"⟩
abbrev cX11_wish : ByteArray := prog_1_method_38_code
def yX11_wish : MethodName := ⟨RX11, "wish", "(II)I"⟩
abbrev cX11_carry : ByteArray := prog_1_method_39_code
def yX11_carry : MethodName := ⟨RX11, "carry", "(II)I"⟩
abbrev cX11_interpreter : ByteArray := prog_1_method_40_code
def yX11_interpreter : MethodName := ⟨RX11, "interpreter", "()I"⟩
abbrev cX11_speaks : ByteArray := prog_1_method_41_code
def yX11_speaks : MethodName := ⟨RX11, "speaks", "(III)I"⟩
abbrev cX11_speech : ByteArray := prog_1_method_42_code
def yX11_speech : MethodName := ⟨RX11, "speech", "(III)I"⟩
abbrev cX11_heard : ByteArray := prog_1_method_43_code
def yX11_heard : MethodName := ⟨RX11, "heard", "(I)I"⟩
abbrev cX11_shift : ByteArray := prog_1_method_44_code
def yX11_shift : MethodName := ⟨RX11, "shift", "(II)I"⟩
abbrev cX11_offer : ByteArray := prog_1_method_45_code
def yX11_offer : MethodName := ⟨RX11, "offer", "(IIII)I"⟩
abbrev cX11_night : ByteArray := prog_1_method_46_code
def yX11_night : MethodName := ⟨RX11, "night", "(III)I"⟩
abbrev cX11_tell : ByteArray := prog_1_method_47_code
def yX11_tell : MethodName := ⟨RX11, "tell", "(I)I"⟩
abbrev cX11_check : ByteArray := prog_1_method_48_code
def yX11_check : MethodName := ⟨RX11, "check", "(III)I"⟩
abbrev cX11_keep : ByteArray := prog_1_method_49_code
def yX11_keep : MethodName := ⟨RX11, "keep", "()I"⟩
abbrev cX11_back : ByteArray := prog_1_method_50_code
def yX11_back : MethodName := ⟨RX11, "back", "()I"⟩
abbrev cX11_count : ByteArray := prog_1_method_51_code
def yX11_count : MethodName := ⟨RX11, "count", "(I)I"⟩
abbrev cX11_firstUnlike : ByteArray := prog_1_method_52_code
def yX11_firstUnlike : MethodName := ⟨RX11, "firstUnlike", "(II)I"⟩
abbrev cX11_within : ByteArray := prog_1_method_53_code
def yX11_within : MethodName := ⟨RX11, "within", "(III)Z"⟩
abbrev cX11_isTwo : ByteArray := prog_1_method_54_code
def yX11_isTwo : MethodName := ⟨RX11, "isTwo", "(III)Z"⟩
abbrev cX11_heldSum : ByteArray := prog_1_method_55_code
def yX11_heldSum : MethodName := ⟨RX11, "heldSum", "(I)I"⟩
abbrev cX11_copyRow : ByteArray := prog_1_method_56_code
def yX11_copyRow : MethodName := ⟨RX11, "copyRow", "([I[I)V"⟩
def RX12 : String := "BudgetHouseModel"
def TX12 : u_T := fun k => match k with
  | 0 => ("BudgetHouseModel", "s", "[I", true)
  | 1 => ("BudgetHouseModel", "image", "[I", true)
  | 2 => ("BudgetHouseModel", "aside", "[I", true)
  | 3 => ("BudgetHouseModel", "hasImage", "Z", false)
  | 4 => ("BudgetHouseModel", "bSort", "[I", true)
  | 5 => ("BudgetHouseModel", "bSize", "[I", true)
  | 6 => ("BudgetHouseModel", "bNumber", "[I", true)
  | 7 => ("BudgetHouseModel", "yes", "I", false)
  | 8 => ("BudgetHouseModel", "noes", "I", false)
  | 9 => ("BudgetHouseModel", "present", "I", false)
  | 10 => ("BudgetHouseModel", "states", "[I", true)
  | 11 => ("BudgetHouseModel", "changes", "[I", true)
  | 12 => ("BudgetHouseModel", "worths", "[I", true)
  | 13 => ("BudgetHouseModel", "tape", "[I", true)
  | 14 => ("BudgetHouseModel", "taped", "I", false)
  | 15 => ("BudgetHouseModel", "begin", "I", false)
  | 16 => ("BudgetHouseModel", "behind", "I", false)
  | 17 => ("BudgetHouseModel", "token", "I", false)
  | 18 => ("BudgetHouseModel", "number", "I", false)
  | 19 => ("BudgetHouseModel", "letter", "I", false)
  | 20 => ("BudgetHouseModel", "deep", "I", false)
  | 21 => ("BudgetHouseModel", "turned", "I", false)
  | 22 => ("BudgetHouseModel", "laid", "I", false)
  | 23 => ("BudgetHouseModel", "laidAt", "I", false)
  | 24 => ("BudgetHouseModel", "said", "I", false)
  | 25 => ("BudgetHouseModel", "named", "[I", true)
  | 26 => ("BudgetHouseModel", "pile", "[I", true)
  | 27 => ("BudgetHouseModel", "sums", "[I", true)
  | 28 => ("BudgetHouseModel", "carried", "[I", true)
  | 29 => ("BudgetHouseModel", "lines", "[I", true)
  | 30 => ("BudgetHouseModel", "most", "[I", true)
  | 31 => ("BudgetHouseModel", "waits", "[I", true)
  | 32 => ("BudgetHouseModel", "waiting", "I", false)
  | 33 => ("BudgetHouseModel", "due", "[I", true)
  | _ => ("BudgetHouseModel", "dues", "I", false)
def tyX12 : Nat → FieldType := fun k => match k with
  | 0 => .array .int
  | 1 => .array .int
  | 2 => .array .int
  | 3 => .boolean
  | 4 => .array .int
  | 5 => .array .int
  | 6 => .array .int
  | 7 => .int
  | 8 => .int
  | 9 => .int
  | 10 => .array .int
  | 11 => .array .int
  | 12 => .array .int
  | 13 => .array .int
  | 14 => .int
  | 15 => .int
  | 16 => .int
  | 17 => .int
  | 18 => .int
  | 19 => .int
  | 20 => .int
  | 21 => .int
  | 22 => .int
  | 23 => .int
  | 24 => .int
  | 25 => .array .int
  | 26 => .array .int
  | 27 => .array .int
  | 28 => .array .int
  | 29 => .array .int
  | 30 => .array .int
  | 31 => .array .int
  | 32 => .int
  | 33 => .array .int
  | _ => .int
abbrev wsX120 : List Cond := u_ws RX12 TX12 35
theorem nmX12 : ∀ a, a < 35 → ∀ b, b < 35 → a ≠ b → (TX12 a).2.1 ≠ (TX12 b).2.1 := by decide +kernel
theorem tyX12_ok : ∀ k, k < 35 → parseFieldDescriptor (TX12 k).2.2.1 = some (tyX12 k) := by decide +kernel
abbrev cX12_init : ByteArray := prog_14_method_1_code
def yX12_init : MethodName := ⟨RX12, "<init>", "()V"⟩
abbrev cX12_isIn : ByteArray := prog_14_method_2_code
def yX12_isIn : MethodName := ⟨RX12, "isIn", "(JJJ)Z"⟩
abbrev cX12_orNone : ByteArray := prog_14_method_3_code
def yX12_orNone : MethodName := ⟨RX12, "orNone", "(I)I"⟩
abbrev cX12_held : ByteArray := prog_14_method_4_code
def yX12_held : MethodName := ⟨RX12, "held", "(I)I"⟩
abbrev cX12_ones : ByteArray := prog_14_method_5_code
def yX12_ones : MethodName := ⟨RX12, "ones", "(I)I"⟩
abbrev cX12_becomes : ByteArray := prog_14_method_6_code
def yX12_becomes : MethodName := ⟨RX12, "becomes", "(II)I"⟩
abbrev cX12_memberAt : ByteArray := prog_14_method_7_code
def yX12_memberAt : MethodName := ⟨RX12, "memberAt", "(I)I"⟩
abbrev cX12_pairAt : ByteArray := prog_14_method_8_code
def yX12_pairAt : MethodName := ⟨RX12, "pairAt", "(I)I"⟩
abbrev cX12_paperAt : ByteArray := prog_14_method_9_code
def yX12_paperAt : MethodName := ⟨RX12, "paperAt", "(I)I"⟩
abbrev cX12_textAt : ByteArray := prog_14_method_10_code
def yX12_textAt : MethodName := ⟨RX12, "textAt", "(I)I"⟩
abbrev cX12_isMember : ByteArray := prog_14_method_11_code
def yX12_isMember : MethodName := ⟨RX12, "isMember", "(I)Z"⟩
abbrev cX12_isPaper : ByteArray := prog_14_method_12_code
def yX12_isPaper : MethodName := ⟨RX12, "isPaper", "(I)Z"⟩
abbrev cX12_isText : ByteArray := prog_14_method_13_code
def yX12_isText : MethodName := ⟨RX12, "isText", "(I)Z"⟩
abbrev cX12_isParty : ByteArray := prog_14_method_14_code
def yX12_isParty : MethodName := ⟨RX12, "isParty", "(I)Z"⟩
abbrev cX12_isTongue : ByteArray := prog_14_method_15_code
def yX12_isTongue : MethodName := ⟨RX12, "isTongue", "(I)Z"⟩
abbrev cX12_kindOf : ByteArray := prog_14_method_16_code
def yX12_kindOf : MethodName := ⟨RX12, "kindOf", "(I)I"⟩
abbrev cX12_state : ByteArray := prog_14_method_17_code
def yX12_state : MethodName := ⟨RX12, "state", "(I)I"⟩
abbrev cX12_isLine : ByteArray := prog_14_method_18_code
def yX12_isLine : MethodName := ⟨RX12, "isLine", "(I)Z"⟩
abbrev cX12_isChange : ByteArray := prog_14_method_19_code
def yX12_isChange : MethodName := ⟨RX12, "isChange", "(I)Z"⟩
abbrev cX12_member : ByteArray := prog_14_method_20_code
def yX12_member : MethodName := ⟨RX12, "member", "(II)I"⟩
abbrev cX12_holds : ByteArray := prog_14_method_21_code
def yX12_holds : MethodName := ⟨RX12, "holds", "(I)Z"⟩
abbrev cX12_pairOf : ByteArray := prog_14_method_22_code
def yX12_pairOf : MethodName := ⟨RX12, "pairOf", "(I)I"⟩
abbrev cX12_is : ByteArray := prog_14_method_23_code
def yX12_is : MethodName := ⟨RX12, "is", "(II)I"⟩
abbrev cX12_train : ByteArray := prog_14_method_24_code
def yX12_train : MethodName := ⟨RX12, "train", "(II)I"⟩
abbrev cX12_go : ByteArray := prog_14_method_25_code
def yX12_go : MethodName := ⟨RX12, "go", "(II)I"⟩
abbrev cX12_pair : ByteArray := prog_14_method_26_code
def yX12_pair : MethodName := ⟨RX12, "pair", "(III)I"⟩
abbrev cX12_breaks : ByteArray := prog_14_method_27_code
def yX12_breaks : MethodName := ⟨RX12, "breaks", "(I)I"⟩
abbrev cX12_clock : ByteArray := prog_14_method_28_code
def yX12_clock : MethodName := ⟨RX12, "clock", "(I)I"⟩
abbrev cX12_arrive : ByteArray := prog_14_method_29_code
def yX12_arrive : MethodName := ⟨RX12, "arrive", "()V"⟩
abbrev cX12_minute : ByteArray := prog_14_method_30_code
def yX12_minute : MethodName := ⟨RX12, "minute", "()V"⟩
abbrev cX12_run : ByteArray := prog_14_method_31_code
def yX12_run : MethodName := ⟨RX12, "run", "(I)I"⟩
abbrev cX12_fits : ByteArray := prog_14_method_32_code
def yX12_fits : MethodName := ⟨RX12, "fits", "(III)Z"⟩
abbrev cX12_newPaper : ByteArray := prog_14_method_33_code
def yX12_newPaper : MethodName := ⟨RX12, "newPaper", "(IIIII)I"⟩
abbrev cX12_paper : ByteArray := prog_14_method_34_code
def yX12_paper : MethodName := ⟨RX12, "paper", "(III)I"⟩
abbrev cX12_hung : ByteArray := prog_14_method_35_code
def yX12_hung : MethodName := ⟨RX12, "hung", "(IIII)I"⟩
abbrev cX12_told : ByteArray := prog_14_method_36_code
def yX12_told : MethodName := ⟨RX12, "told", "(II)I"⟩
abbrev cX12_as : ByteArray := prog_14_method_37_code
def yX12_as : MethodName := ⟨RX12, "as", "(II)I"⟩
abbrev cX12_stance : ByteArray := prog_14_method_38_code
def yX12_stance : MethodName := ⟨RX12, "stance", "(III)I"⟩
abbrev cX12_print : ByteArray := prog_14_method_39_code
def yX12_print : MethodName := ⟨RX12, "print", "(III)I"⟩
abbrev cX12_hasRead : ByteArray := prog_14_method_40_code
def yX12_hasRead : MethodName := ⟨RX12, "hasRead", "(II)Z"⟩
abbrev cX12_read : ByteArray := prog_14_method_41_code
def yX12_read : MethodName := ⟨RX12, "read", "(II)I"⟩
abbrev cX12_isBound : ByteArray := prog_14_method_42_code
def yX12_isBound : MethodName := ⟨RX12, "isBound", "(II)Z"⟩
abbrev cX12_says : ByteArray := prog_14_method_43_code
def yX12_says : MethodName := ⟨RX12, "says", "(II)I"⟩
abbrev cX12_votes : ByteArray := prog_14_method_44_code
def yX12_votes : MethodName := ⟨RX12, "votes", "(IZ)Z"⟩
abbrev cX12_would : ByteArray := prog_14_method_45_code
def yX12_would : MethodName := ⟨RX12, "would", "(II)I"⟩
abbrev cX12_doesFall : ByteArray := prog_14_method_46_code
def yX12_doesFall : MethodName := ⟨RX12, "doesFall", "(I)Z"⟩
abbrev cX12_letFall : ByteArray := prog_14_method_47_code
def yX12_letFall : MethodName := ⟨RX12, "letFall", "()I"⟩
abbrev cX12_settleDeals : ByteArray := prog_14_method_48_code
def yX12_settleDeals : MethodName := ⟨RX12, "settleDeals", "()V"⟩
abbrev cX12_mayPut : ByteArray := prog_14_method_49_code
def yX12_mayPut : MethodName := ⟨RX12, "mayPut", "(I)Z"⟩
abbrev cX12_withLine : ByteArray := prog_14_method_50_code
def yX12_withLine : MethodName := ⟨RX12, "withLine", "(IZ)V"⟩
abbrev cX12_put : ByteArray := prog_14_method_51_code
def yX12_put : MethodName := ⟨RX12, "put", "(I)I"⟩
abbrev cX12_rule : ByteArray := prog_14_method_52_code
def yX12_rule : MethodName := ⟨RX12, "rule", "(I)I"⟩
abbrev cX12_mend : ByteArray := prog_14_method_53_code
def yX12_mend : MethodName := ⟨RX12, "mend", "(I)I"⟩
abbrev cX12_noChange : ByteArray := prog_14_method_54_code
def yX12_noChange : MethodName := ⟨RX12, "noChange", "(I)I"⟩
abbrev cX12_falls : ByteArray := prog_14_method_55_code
def yX12_falls : MethodName := ⟨RX12, "falls", "(I)I"⟩
abbrev cX12_isNever : ByteArray := prog_14_method_56_code
def yX12_isNever : MethodName := ⟨RX12, "isNever", "(I)Z"⟩
abbrev cX12_never : ByteArray := prog_14_method_57_code
def yX12_never : MethodName := ⟨RX12, "never", "(I)I"⟩
abbrev cX12_worthOf : ByteArray := prog_14_method_58_code
def yX12_worthOf : MethodName := ⟨RX12, "worthOf", "(II)I"⟩
abbrev cX12_findRow : ByteArray := prog_14_method_59_code
def yX12_findRow : MethodName := ⟨RX12, "findRow", "()I"⟩
abbrev cX12_row : ByteArray := prog_14_method_60_code
def yX12_row : MethodName := ⟨RX12, "row", "(I)I"⟩
abbrev cX12_bind : ByteArray := prog_14_method_61_code
def yX12_bind : MethodName := ⟨RX12, "bind", "(III)I"⟩
abbrev cX12_bindingSum : ByteArray := prog_14_method_62_code
def yX12_bindingSum : MethodName := ⟨RX12, "bindingSum", "(I)I"⟩
abbrev cX12_line : ByteArray := prog_14_method_63_code
def yX12_line : MethodName := ⟨RX12, "line", "(II)I"⟩
abbrev cX12_feed : ByteArray := prog_14_method_64_code
def yX12_feed : MethodName := ⟨RX12, "feed", "(III)I"⟩
abbrev cX12_trim : ByteArray := prog_14_method_65_code
def yX12_trim : MethodName := ⟨RX12, "trim", "(I)I"⟩
abbrev cX12_isLetter : ByteArray := prog_14_method_66_code
def yX12_isLetter : MethodName := ⟨RX12, "isLetter", "(I)Z"⟩
abbrev cX12_isDigit : ByteArray := prog_14_method_67_code
def yX12_isDigit : MethodName := ⟨RX12, "isDigit", "(I)Z"⟩
abbrev cX12_next : ByteArray := prog_14_method_68_code
def yX12_next : MethodName := ⟨RX12, "next", "()V"⟩
abbrev cX12_isSign : ByteArray := prog_14_method_69_code
def yX12_isSign : MethodName := ⟨RX12, "isSign", "(I)Z"⟩
abbrev cX12_isWordAt : ByteArray := prog_14_method_70_code
def yX12_isWordAt : MethodName := ⟨RX12, "isWordAt", "(IIII)Z"⟩
abbrev cX12_isFive : ByteArray := prog_14_method_71_code
def yX12_isFive : MethodName := ⟨RX12, "isFive", "(IIIII)Z"⟩
abbrev cX12_key : ByteArray := prog_14_method_72_code
def yX12_key : MethodName := ⟨RX12, "key", "()I"⟩
abbrev cX12_isName : ByteArray := prog_14_method_73_code
def yX12_isName : MethodName := ⟨RX12, "isName", "(II)Z"⟩
abbrev cX12_step : ByteArray := prog_14_method_74_code
def yX12_step : MethodName := ⟨RX12, "step", "(II)V"⟩
abbrev cX12_either : ByteArray := prog_14_method_75_code
def yX12_either : MethodName := ⟨RX12, "either", "(I)Z"⟩
abbrev cX12_both : ByteArray := prog_14_method_76_code
def yX12_both : MethodName := ⟨RX12, "both", "(I)Z"⟩
abbrev cX12_test : ByteArray := prog_14_method_77_code
def yX12_test : MethodName := ⟨RX12, "test", "(I)Z"⟩
abbrev cX12_sum : ByteArray := prog_14_method_78_code
def yX12_sum : MethodName := ⟨RX12, "sum", "(I)Z"⟩
abbrev cX12_term : ByteArray := prog_14_method_79_code
def yX12_term : MethodName := ⟨RX12, "term", "(I)Z"⟩
abbrev cX12_part0 : ByteArray := prog_14_method_80_code
def yX12_part0 : MethodName := ⟨RX12, "part0", "(I)Z"⟩
abbrev cX12_parse : ByteArray := prog_14_method_81_code
def yX12_parse : MethodName := ⟨RX12, "parse", "()I"⟩
abbrev cX12_text : ByteArray := prog_14_method_82_code
def yX12_text : MethodName := ⟨RX12, "text", "(I)I"⟩
abbrev cX12_of : ByteArray := prog_14_method_83_code
def yX12_of : MethodName := ⟨RX12, "of", "(II)I"⟩
abbrev cX12_counts : ByteArray := prog_14_method_84_code
def yX12_counts : MethodName := ⟨RX12, "counts", "(I)I"⟩
abbrev cX12_why : ByteArray := prog_14_method_85_code
def yX12_why : MethodName := ⟨RX12, "why", "(I)I"⟩
abbrev cX12_joined : ByteArray := prog_14_method_86_code
def yX12_joined : MethodName := ⟨RX12, "joined", "(III)I"⟩
abbrev cX12_worked : ByteArray := prog_14_method_87_code
def yX12_worked : MethodName := ⟨RX12, "worked", "(I)I"⟩
abbrev cX12_income : ByteArray := prog_14_method_88_code
def yX12_income : MethodName := ⟨RX12, "income", "(II)I"⟩
abbrev cX12_isGiven : ByteArray := prog_14_method_89_code
def yX12_isGiven : MethodName := ⟨RX12, "isGiven", "(I)Z"⟩
abbrev cX12_incomes : ByteArray := prog_14_method_90_code
def yX12_incomes : MethodName := ⟨RX12, "incomes", "(I)I"⟩
abbrev cX12_balance : ByteArray := prog_14_method_91_code
def yX12_balance : MethodName := ⟨RX12, "balance", "(I)I"⟩
abbrev cX12_first : ByteArray := prog_14_method_92_code
def yX12_first : MethodName := ⟨RX12, "first", "()I"⟩
abbrev cX12_isOffice : ByteArray := prog_14_method_93_code
def yX12_isOffice : MethodName := ⟨RX12, "isOffice", "(I)Z"⟩
abbrev cX12_book : ByteArray := prog_14_method_94_code
def yX12_book : MethodName := ⟨RX12, "book", "(III)I"⟩
abbrev cX12_note : ByteArray := prog_14_method_95_code
def yX12_note : MethodName := ⟨RX12, "note", "(III)I"⟩
abbrev cX12_readBy : ByteArray := prog_14_method_96_code
def yX12_readBy : MethodName := ⟨RX12, "readBy", "(II)I"⟩
abbrev cX12_looks : ByteArray := prog_14_method_97_code
def yX12_looks : MethodName := ⟨RX12, "looks", "(II)I"⟩
abbrev cX12_copy : ByteArray := prog_14_method_98_code
def yX12_copy : MethodName := ⟨RX12, "copy", "(IIIII)I"⟩
abbrev cX12_span : ByteArray := prog_14_method_99_code
def yX12_span : MethodName := ⟨RX12, "span", "(II)I"⟩
abbrev cX12_wish : ByteArray := prog_14_method_100_code
def yX12_wish : MethodName := ⟨RX12, "wish", "(II)I"⟩
abbrev cX12_findLines : ByteArray := prog_14_method_101_code
def yX12_findLines : MethodName := ⟨RX12, "findLines", "()I"⟩
abbrev cX12_membersFor : ByteArray := prog_14_method_102_code
def yX12_membersFor : MethodName := ⟨RX12, "membersFor", "(II)I"⟩
abbrev cX12_carry : ByteArray := prog_14_method_103_code
def yX12_carry : MethodName := ⟨RX12, "carry", "(II)I"⟩
abbrev cX12_interpreter : ByteArray := prog_14_method_104_code
def yX12_interpreter : MethodName := ⟨RX12, "interpreter", "()I"⟩
abbrev cX12_speaks : ByteArray := prog_14_method_105_code
def yX12_speaks : MethodName := ⟨RX12, "speaks", "(III)I"⟩
abbrev cX12_speech : ByteArray := prog_14_method_106_code
def yX12_speech : MethodName := ⟨RX12, "speech", "(III)I"⟩
abbrev cX12_hears : ByteArray := prog_14_method_107_code
def yX12_hears : MethodName := ⟨RX12, "hears", "(II)I"⟩
abbrev cX12_heardBy : ByteArray := prog_14_method_108_code
def yX12_heardBy : MethodName := ⟨RX12, "heardBy", "(IIII)I"⟩
abbrev cX12_findShift : ByteArray := prog_14_method_109_code
def yX12_findShift : MethodName := ⟨RX12, "findShift", "(I)I"⟩
abbrev cX12_heard : ByteArray := prog_14_method_110_code
def yX12_heard : MethodName := ⟨RX12, "heard", "(I)I"⟩
abbrev cX12_shift : ByteArray := prog_14_method_111_code
def yX12_shift : MethodName := ⟨RX12, "shift", "(II)I"⟩
abbrev cX12_offer : ByteArray := prog_14_method_112_code
def yX12_offer : MethodName := ⟨RX12, "offer", "(IIII)I"⟩
abbrev cX12_sumOf : ByteArray := prog_14_method_113_code
def yX12_sumOf : MethodName := ⟨RX12, "sumOf", "(II)I"⟩
abbrev cX12_goesTogether : ByteArray := prog_14_method_114_code
def yX12_goesTogether : MethodName := ⟨RX12, "goesTogether", "(I)Z"⟩
abbrev cX12_findNight : ByteArray := prog_14_method_115_code
def yX12_findNight : MethodName := ⟨RX12, "findNight", "(II)I"⟩
abbrev cX12_isNight : ByteArray := prog_14_method_116_code
def yX12_isNight : MethodName := ⟨RX12, "isNight", "(II)Z"⟩
abbrev cX12_night : ByteArray := prog_14_method_117_code
def yX12_night : MethodName := ⟨RX12, "night", "(III)I"⟩
abbrev cX12_tell : ByteArray := prog_14_method_118_code
def yX12_tell : MethodName := ⟨RX12, "tell", "(I)I"⟩
abbrev cX12_setAside : ByteArray := prog_14_method_119_code
def yX12_setAside : MethodName := ⟨RX12, "setAside", "([I[I)V"⟩
abbrev cX12_dueIs : ByteArray := prog_14_method_120_code
def yX12_dueIs : MethodName := ⟨RX12, "dueIs", "(II)V"⟩
abbrev cX12_rowsOfNight : ByteArray := prog_14_method_121_code
def yX12_rowsOfNight : MethodName := ⟨RX12, "rowsOfNight", "(II)I"⟩
abbrev cX12_present : ByteArray := prog_14_method_122_code
def yX12_present : MethodName := ⟨RX12, "present", "()I"⟩
abbrev cX12_rowsTold : ByteArray := prog_14_method_123_code
def yX12_rowsTold : MethodName := ⟨RX12, "rowsTold", "(I)I"⟩
abbrev cX12_check : ByteArray := prog_14_method_124_code
def yX12_check : MethodName := ⟨RX12, "check", "(III)I"⟩
abbrev cX12_keep : ByteArray := prog_14_method_125_code
def yX12_keep : MethodName := ⟨RX12, "keep", "()I"⟩
abbrev cX12_back : ByteArray := prog_14_method_126_code
def yX12_back : MethodName := ⟨RX12, "back", "()I"⟩
abbrev cX12_count : ByteArray := prog_14_method_127_code
def yX12_count : MethodName := ⟨RX12, "count", "(I)I"⟩
def RJ6 : String := "java/lang/Integer"
def TJ6 : u_T := fun k => match k with
  | _ => ("", "", "", false)
def tyJ6 : Nat → FieldType := fun k => match k with
  | _ => .int
abbrev wsJ60 : List Cond := u_ws RJ6 TJ6 0
abbrev cJ6_compare_7cf53 : ByteArray := prog_15_method_40_code
def yJ6_compare_7cf53 : MethodName := ⟨RJ6, "compare", "(II)I"⟩
abbrev cJ6_bitCount_0f7a4 : ByteArray := prog_15_method_49_code
def yJ6_bitCount_0f7a4 : MethodName := ⟨RJ6, "bitCount", "(I)I"⟩
def RJ9 : String := "java/lang/Math"
def TJ9 : u_T := fun k => match k with
  | _ => ("", "", "", false)
def tyJ9 : Nat → FieldType := fun k => match k with
  | _ => .int
abbrev wsJ90 : List Cond := u_ws RJ9 TJ9 0
abbrev cJ9_max_7cf53 : ByteArray := prog_16_method_65_code
def yJ9_max_7cf53 : MethodName := ⟨RJ9, "max", "(II)I"⟩
abbrev cJ9_min_7cf53 : ByteArray := prog_16_method_69_code
def yJ9_min_7cf53 : MethodName := ⟨RJ9, "min", "(II)I"⟩
def RJ0 : String := "java/lang/String"
def TJ0 : u_T := fun k => match k with
  | _ => ("", "", "", false)
def tyJ0 : Nat → FieldType := fun k => match k with
  | _ => .int
abbrev wsJ00 : List Cond := u_ws RJ0 TJ0 0
abbrev cJ0_length_8abf5 : ByteArray := prog_17_method_54_code
def yJ0_length_8abf5 : MethodName := ⟨RJ0, "length", "()I"⟩
abbrev cJ0_charAt_5068e : ByteArray := prog_17_method_56_code
def yJ0_charAt_5068e : MethodName := ⟨RJ0, "charAt", "(I)C"⟩
abbrev cJ0_coder_7d493 : ByteArray := prog_17_method_152_code
def yJ0_coder_7d493 : MethodName := ⟨RJ0, "coder", "()B"⟩
abbrev cJ0_isLatin1_aae02 : ByteArray := prog_17_method_154_code
def yJ0_isLatin1_aae02 : MethodName := ⟨RJ0, "isLatin1", "()Z"⟩
abbrev cJ0_checkIndex_df160 : ByteArray := prog_17_method_155_code
def yJ0_checkIndex_df160 : MethodName := ⟨RJ0, "checkIndex", "(II)V"⟩
def RJ1 : String := "java/lang/StringLatin1"
def TJ1 : u_T := fun k => match k with
  | _ => ("", "", "", false)
def tyJ1 : Nat → FieldType := fun k => match k with
  | _ => .int
abbrev wsJ10 : List Cond := u_ws RJ1 TJ1 0
abbrev cJ1_charAt_3b067 : ByteArray := prog_18_method_2_code
def yJ1_charAt_3b067 : MethodName := ⟨RJ1, "charAt", "([BI)C"⟩
def RJ2 : String := "java/lang/StringUTF16"
def TJ2 : u_T := fun k => match k with
  | _ => ("", "", "", false)
def tyJ2 : Nat → FieldType := fun k => match k with
  | _ => .int
abbrev wsJ20 : List Cond := u_ws RJ2 TJ2 0
abbrev cJ2_getChar_3b067 : ByteArray := prog_19_method_5_code
def yJ2_getChar_3b067 : MethodName := ⟨RJ2, "getChar", "([BI)C"⟩
abbrev cJ2_length_9d52b : ByteArray := prog_19_method_6_code
def yJ2_length_9d52b : MethodName := ⟨RJ2, "length", "([B)I"⟩
abbrev cJ2_charAt_3b067 : ByteArray := prog_19_method_83_code
def yJ2_charAt_3b067 : MethodName := ⟨RJ2, "charAt", "([BI)C"⟩
abbrev cJ2_checkIndex_2214a : ByteArray := prog_19_method_91_code
def yJ2_checkIndex_2214a : MethodName := ⟨RJ2, "checkIndex", "(I[B)V"⟩
def RJ3 : String := "jdk/internal/util/Preconditions"
def TJ3 : u_T := fun k => match k with
  | _ => ("", "", "", false)
def tyJ3 : Nat → FieldType := fun k => match k with
  | _ => .int
abbrev wsJ30 : List Cond := u_ws RJ3 TJ3 0
abbrev cJ3_checkIndex_8e157 : ByteArray := prog_20_method_11_code
def yJ3_checkIndex_8e157 : MethodName := ⟨RJ3, "checkIndex", "(IILjava/util/function/BiFunction;)I"⟩
def RL : String := "BudgetHouseLaw"
abbrev cL_law : ByteArray := code
def yL_law : MethodName := ⟨RL, "law", "([I)Z"⟩
abbrev vwCl : List vw_C := [(RX0, TX0, 4), (RX1, TX1, 19), (RX2, TX2, 10), (RX3, TX3, 8), (RX4, TX4, 13), (RX5, TX5, 9), (RX6, TX6, 4), (RX7, TX7, 4), (RX8, TX8, 2), (RX9, TX9, 9), (RX10, TX10, 7), (RX11, TX11, 9), (RX12, TX12, 35)]
