section
-- ===== PART A: goes FIRST, ahead of the names: the tables' words, and 'selects' of the private methods out of them =====
/-- a private method of a class that the tables say can be made, by its rows of tables_1 -/
def lw_okq (q : MethodName × Nat) : Prop := (q.1.cls ≠ "java/lang/invoke/MethodHandle" ∧ q.1.cls ≠ "java/lang/invoke/VarHandle") ∧ Cond.instantiable q.1.cls q.2 ∈ tables_1 ∧ Cond.privateMethod q.1 ∈ tables_1 ∧ Cond.instanceMethod q.1 ∈ tables_1
theorem lw_p0 : lw_okq (⟨"BudgetHouse", "firstUnlike", "(II)I"⟩, 9) := ⟨⟨by decide +kernel, by decide +kernel⟩, List.mem_of_getElem? (i := 21) (by decide +kernel), List.mem_of_getElem? (i := 1405) (by decide +kernel), List.mem_of_getElem? (i := 1406) (by decide +kernel)⟩
theorem lw_p1 : lw_okq (⟨"BudgetHouseModel", "memberAt", "(I)I"⟩, 35) := ⟨⟨by decide +kernel, by decide +kernel⟩, List.mem_of_getElem? (i := 1484) (by decide +kernel), List.mem_of_getElem? (i := 1610) (by decide +kernel), List.mem_of_getElem? (i := 1611) (by decide +kernel)⟩
theorem lw_p2 : lw_okq (⟨"BudgetHouseModel", "isMember", "(I)Z"⟩, 35) := ⟨⟨by decide +kernel, by decide +kernel⟩, List.mem_of_getElem? (i := 1484) (by decide +kernel), List.mem_of_getElem? (i := 1618) (by decide +kernel), List.mem_of_getElem? (i := 1619) (by decide +kernel)⟩
theorem lw_p3 : lw_okq (⟨"BudgetHouseModel", "pairOf", "(I)I"⟩, 35) := ⟨⟨by decide +kernel, by decide +kernel⟩, List.mem_of_getElem? (i := 1484) (by decide +kernel), List.mem_of_getElem? (i := 1627) (by decide +kernel), List.mem_of_getElem? (i := 1628) (by decide +kernel)⟩
theorem lw_p4 : lw_okq (⟨"BudgetHouseModel", "holds", "(I)Z"⟩, 35) := ⟨⟨by decide +kernel, by decide +kernel⟩, List.mem_of_getElem? (i := 1484) (by decide +kernel), List.mem_of_getElem? (i := 1631) (by decide +kernel), List.mem_of_getElem? (i := 1632) (by decide +kernel)⟩
theorem lw_p5 : lw_okq (⟨"BudgetHouseModel", "pairAt", "(I)I"⟩, 35) := ⟨⟨by decide +kernel, by decide +kernel⟩, List.mem_of_getElem? (i := 1484) (by decide +kernel), List.mem_of_getElem? (i := 1635) (by decide +kernel), List.mem_of_getElem? (i := 1636) (by decide +kernel)⟩
theorem lw_p6 : lw_okq (⟨"BudgetHouseModel", "becomes", "(II)I"⟩, 35) := ⟨⟨by decide +kernel, by decide +kernel⟩, List.mem_of_getElem? (i := 1484) (by decide +kernel), List.mem_of_getElem? (i := 1644) (by decide +kernel), List.mem_of_getElem? (i := 1645) (by decide +kernel)⟩
theorem lw_p7 : lw_okq (⟨"BudgetHouseModel", "minute", "()V"⟩, 35) := ⟨⟨by decide +kernel, by decide +kernel⟩, List.mem_of_getElem? (i := 1484) (by decide +kernel), List.mem_of_getElem? (i := 1670) (by decide +kernel), List.mem_of_getElem? (i := 1671) (by decide +kernel)⟩
theorem lw_p8 : lw_okq (⟨"BudgetHouseModel", "arrive", "()V"⟩, 35) := ⟨⟨by decide +kernel, by decide +kernel⟩, List.mem_of_getElem? (i := 1484) (by decide +kernel), List.mem_of_getElem? (i := 1674) (by decide +kernel), List.mem_of_getElem? (i := 1675) (by decide +kernel)⟩
theorem lw_p9 : lw_okq (⟨"BudgetHouseModel", "paperAt", "(I)I"⟩, 35) := ⟨⟨by decide +kernel, by decide +kernel⟩, List.mem_of_getElem? (i := 1484) (by decide +kernel), List.mem_of_getElem? (i := 1678) (by decide +kernel), List.mem_of_getElem? (i := 1679) (by decide +kernel)⟩
theorem lw_p10 : lw_okq (⟨"BudgetHouseModel", "fits", "(III)Z"⟩, 35) := ⟨⟨by decide +kernel, by decide +kernel⟩, List.mem_of_getElem? (i := 1484) (by decide +kernel), List.mem_of_getElem? (i := 1686) (by decide +kernel), List.mem_of_getElem? (i := 1687) (by decide +kernel)⟩
theorem lw_p11 : lw_okq (⟨"BudgetHouseModel", "isLine", "(I)Z"⟩, 35) := ⟨⟨by decide +kernel, by decide +kernel⟩, List.mem_of_getElem? (i := 1484) (by decide +kernel), List.mem_of_getElem? (i := 1691) (by decide +kernel), List.mem_of_getElem? (i := 1692) (by decide +kernel)⟩
theorem lw_p12 : lw_okq (⟨"BudgetHouseModel", "isPaper", "(I)Z"⟩, 35) := ⟨⟨by decide +kernel, by decide +kernel⟩, List.mem_of_getElem? (i := 1484) (by decide +kernel), List.mem_of_getElem? (i := 1695) (by decide +kernel), List.mem_of_getElem? (i := 1696) (by decide +kernel)⟩
theorem lw_p13 : lw_okq (⟨"BudgetHouseModel", "kindOf", "(I)I"⟩, 35) := ⟨⟨by decide +kernel, by decide +kernel⟩, List.mem_of_getElem? (i := 1484) (by decide +kernel), List.mem_of_getElem? (i := 1699) (by decide +kernel), List.mem_of_getElem? (i := 1700) (by decide +kernel)⟩
theorem lw_p14 : lw_okq (⟨"BudgetHouseModel", "newPaper", "(IIIII)I"⟩, 35) := ⟨⟨by decide +kernel, by decide +kernel⟩, List.mem_of_getElem? (i := 1484) (by decide +kernel), List.mem_of_getElem? (i := 1707) (by decide +kernel), List.mem_of_getElem? (i := 1708) (by decide +kernel)⟩
theorem lw_p15 : lw_okq (⟨"BudgetHouseModel", "isChange", "(I)Z"⟩, 35) := ⟨⟨by decide +kernel, by decide +kernel⟩, List.mem_of_getElem? (i := 1484) (by decide +kernel), List.mem_of_getElem? (i := 1715) (by decide +kernel), List.mem_of_getElem? (i := 1716) (by decide +kernel)⟩
def lw_privs_1 : List (MethodName × Nat) := [(⟨"BudgetHouse", "firstUnlike", "(II)I"⟩, 9), (⟨"BudgetHouseModel", "memberAt", "(I)I"⟩, 35), (⟨"BudgetHouseModel", "isMember", "(I)Z"⟩, 35), (⟨"BudgetHouseModel", "pairOf", "(I)I"⟩, 35), (⟨"BudgetHouseModel", "holds", "(I)Z"⟩, 35), (⟨"BudgetHouseModel", "pairAt", "(I)I"⟩, 35), (⟨"BudgetHouseModel", "becomes", "(II)I"⟩, 35), (⟨"BudgetHouseModel", "minute", "()V"⟩, 35), (⟨"BudgetHouseModel", "arrive", "()V"⟩, 35), (⟨"BudgetHouseModel", "paperAt", "(I)I"⟩, 35), (⟨"BudgetHouseModel", "fits", "(III)Z"⟩, 35), (⟨"BudgetHouseModel", "isLine", "(I)Z"⟩, 35), (⟨"BudgetHouseModel", "isPaper", "(I)Z"⟩, 35), (⟨"BudgetHouseModel", "kindOf", "(I)I"⟩, 35), (⟨"BudgetHouseModel", "newPaper", "(IIIII)I"⟩, 35), (⟨"BudgetHouseModel", "isChange", "(I)Z"⟩, 35)]
theorem lw_r1 : ∀ q ∈ lw_privs_1, lw_okq q := List.forall_mem_cons.mpr ⟨lw_p0, List.forall_mem_cons.mpr ⟨lw_p1, List.forall_mem_cons.mpr ⟨lw_p2, List.forall_mem_cons.mpr ⟨lw_p3, List.forall_mem_cons.mpr ⟨lw_p4, List.forall_mem_cons.mpr ⟨lw_p5, List.forall_mem_cons.mpr ⟨lw_p6, List.forall_mem_cons.mpr ⟨lw_p7, List.forall_mem_cons.mpr ⟨lw_p8, List.forall_mem_cons.mpr ⟨lw_p9, List.forall_mem_cons.mpr ⟨lw_p10, List.forall_mem_cons.mpr ⟨lw_p11, List.forall_mem_cons.mpr ⟨lw_p12, List.forall_mem_cons.mpr ⟨lw_p13, List.forall_mem_cons.mpr ⟨lw_p14, List.forall_mem_cons.mpr ⟨lw_p15, fun _ h => absurd h List.not_mem_nil⟩⟩⟩⟩⟩⟩⟩⟩⟩⟩⟩⟩⟩⟩⟩⟩
theorem lw_p16 : lw_okq (⟨"BudgetHouseModel", "hasRead", "(II)Z"⟩, 35) := ⟨⟨by decide +kernel, by decide +kernel⟩, List.mem_of_getElem? (i := 1484) (by decide +kernel), List.mem_of_getElem? (i := 1748) (by decide +kernel), List.mem_of_getElem? (i := 1749) (by decide +kernel)⟩
theorem lw_p17 : lw_okq (⟨"BudgetHouseModel", "votes", "(IZ)Z"⟩, 35) := ⟨⟨by decide +kernel, by decide +kernel⟩, List.mem_of_getElem? (i := 1484) (by decide +kernel), List.mem_of_getElem? (i := 1757) (by decide +kernel), List.mem_of_getElem? (i := 1758) (by decide +kernel)⟩
theorem lw_p18 : lw_okq (⟨"BudgetHouseModel", "says", "(II)I"⟩, 35) := ⟨⟨by decide +kernel, by decide +kernel⟩, List.mem_of_getElem? (i := 1484) (by decide +kernel), List.mem_of_getElem? (i := 1761) (by decide +kernel), List.mem_of_getElem? (i := 1762) (by decide +kernel)⟩
theorem lw_p19 : lw_okq (⟨"BudgetHouseModel", "isBound", "(II)Z"⟩, 35) := ⟨⟨by decide +kernel, by decide +kernel⟩, List.mem_of_getElem? (i := 1484) (by decide +kernel), List.mem_of_getElem? (i := 1765) (by decide +kernel), List.mem_of_getElem? (i := 1766) (by decide +kernel)⟩
theorem lw_p20 : lw_okq (⟨"BudgetHouseModel", "counts", "(I)I"⟩, 35) := ⟨⟨by decide +kernel, by decide +kernel⟩, List.mem_of_getElem? (i := 1484) (by decide +kernel), List.mem_of_getElem? (i := 1769) (by decide +kernel), List.mem_of_getElem? (i := 1770) (by decide +kernel)⟩
theorem lw_p21 : lw_okq (⟨"BudgetHouseModel", "textAt", "(I)I"⟩, 35) := ⟨⟨by decide +kernel, by decide +kernel⟩, List.mem_of_getElem? (i := 1484) (by decide +kernel), List.mem_of_getElem? (i := 1773) (by decide +kernel), List.mem_of_getElem? (i := 1774) (by decide +kernel)⟩
theorem lw_p22 : lw_okq (⟨"BudgetHouseModel", "worked", "(I)I"⟩, 35) := ⟨⟨by decide +kernel, by decide +kernel⟩, List.mem_of_getElem? (i := 1484) (by decide +kernel), List.mem_of_getElem? (i := 1777) (by decide +kernel), List.mem_of_getElem? (i := 1778) (by decide +kernel)⟩
theorem lw_p23 : lw_okq (⟨"BudgetHouseModel", "mayPut", "(I)Z"⟩, 35) := ⟨⟨by decide +kernel, by decide +kernel⟩, List.mem_of_getElem? (i := 1484) (by decide +kernel), List.mem_of_getElem? (i := 1788) (by decide +kernel), List.mem_of_getElem? (i := 1789) (by decide +kernel)⟩
theorem lw_p24 : lw_okq (⟨"BudgetHouseModel", "state", "(I)I"⟩, 35) := ⟨⟨by decide +kernel, by decide +kernel⟩, List.mem_of_getElem? (i := 1484) (by decide +kernel), List.mem_of_getElem? (i := 1792) (by decide +kernel), List.mem_of_getElem? (i := 1793) (by decide +kernel)⟩
theorem lw_p25 : lw_okq (⟨"BudgetHouseModel", "withLine", "(IZ)V"⟩, 35) := ⟨⟨by decide +kernel, by decide +kernel⟩, List.mem_of_getElem? (i := 1484) (by decide +kernel), List.mem_of_getElem? (i := 1796) (by decide +kernel), List.mem_of_getElem? (i := 1797) (by decide +kernel)⟩
theorem lw_p26 : lw_okq (⟨"BudgetHouseModel", "letFall", "()I"⟩, 35) := ⟨⟨by decide +kernel, by decide +kernel⟩, List.mem_of_getElem? (i := 1484) (by decide +kernel), List.mem_of_getElem? (i := 1803) (by decide +kernel), List.mem_of_getElem? (i := 1804) (by decide +kernel)⟩
theorem lw_p27 : lw_okq (⟨"BudgetHouseModel", "doesFall", "(I)Z"⟩, 35) := ⟨⟨by decide +kernel, by decide +kernel⟩, List.mem_of_getElem? (i := 1484) (by decide +kernel), List.mem_of_getElem? (i := 1807) (by decide +kernel), List.mem_of_getElem? (i := 1808) (by decide +kernel)⟩
theorem lw_p28 : lw_okq (⟨"BudgetHouseModel", "settleDeals", "()V"⟩, 35) := ⟨⟨by decide +kernel, by decide +kernel⟩, List.mem_of_getElem? (i := 1484) (by decide +kernel), List.mem_of_getElem? (i := 1811) (by decide +kernel), List.mem_of_getElem? (i := 1812) (by decide +kernel)⟩
theorem lw_p29 : lw_okq (⟨"BudgetHouseModel", "noChange", "(I)I"⟩, 35) := ⟨⟨by decide +kernel, by decide +kernel⟩, List.mem_of_getElem? (i := 1484) (by decide +kernel), List.mem_of_getElem? (i := 1827) (by decide +kernel), List.mem_of_getElem? (i := 1828) (by decide +kernel)⟩
theorem lw_p30 : lw_okq (⟨"BudgetHouseModel", "isNever", "(I)Z"⟩, 35) := ⟨⟨by decide +kernel, by decide +kernel⟩, List.mem_of_getElem? (i := 1484) (by decide +kernel), List.mem_of_getElem? (i := 1835) (by decide +kernel), List.mem_of_getElem? (i := 1836) (by decide +kernel)⟩
theorem lw_p31 : lw_okq (⟨"BudgetHouseModel", "findRow", "()I"⟩, 35) := ⟨⟨by decide +kernel, by decide +kernel⟩, List.mem_of_getElem? (i := 1484) (by decide +kernel), List.mem_of_getElem? (i := 1843) (by decide +kernel), List.mem_of_getElem? (i := 1844) (by decide +kernel)⟩
def lw_privs_2 : List (MethodName × Nat) := [(⟨"BudgetHouseModel", "hasRead", "(II)Z"⟩, 35), (⟨"BudgetHouseModel", "votes", "(IZ)Z"⟩, 35), (⟨"BudgetHouseModel", "says", "(II)I"⟩, 35), (⟨"BudgetHouseModel", "isBound", "(II)Z"⟩, 35), (⟨"BudgetHouseModel", "counts", "(I)I"⟩, 35), (⟨"BudgetHouseModel", "textAt", "(I)I"⟩, 35), (⟨"BudgetHouseModel", "worked", "(I)I"⟩, 35), (⟨"BudgetHouseModel", "mayPut", "(I)Z"⟩, 35), (⟨"BudgetHouseModel", "state", "(I)I"⟩, 35), (⟨"BudgetHouseModel", "withLine", "(IZ)V"⟩, 35), (⟨"BudgetHouseModel", "letFall", "()I"⟩, 35), (⟨"BudgetHouseModel", "doesFall", "(I)Z"⟩, 35), (⟨"BudgetHouseModel", "settleDeals", "()V"⟩, 35), (⟨"BudgetHouseModel", "noChange", "(I)I"⟩, 35), (⟨"BudgetHouseModel", "isNever", "(I)Z"⟩, 35), (⟨"BudgetHouseModel", "findRow", "()I"⟩, 35)]
theorem lw_r2 : ∀ q ∈ lw_privs_2, lw_okq q := List.forall_mem_cons.mpr ⟨lw_p16, List.forall_mem_cons.mpr ⟨lw_p17, List.forall_mem_cons.mpr ⟨lw_p18, List.forall_mem_cons.mpr ⟨lw_p19, List.forall_mem_cons.mpr ⟨lw_p20, List.forall_mem_cons.mpr ⟨lw_p21, List.forall_mem_cons.mpr ⟨lw_p22, List.forall_mem_cons.mpr ⟨lw_p23, List.forall_mem_cons.mpr ⟨lw_p24, List.forall_mem_cons.mpr ⟨lw_p25, List.forall_mem_cons.mpr ⟨lw_p26, List.forall_mem_cons.mpr ⟨lw_p27, List.forall_mem_cons.mpr ⟨lw_p28, List.forall_mem_cons.mpr ⟨lw_p29, List.forall_mem_cons.mpr ⟨lw_p30, List.forall_mem_cons.mpr ⟨lw_p31, fun _ h => absurd h List.not_mem_nil⟩⟩⟩⟩⟩⟩⟩⟩⟩⟩⟩⟩⟩⟩⟩⟩
theorem lw_p32 : lw_okq (⟨"BudgetHouseModel", "worthOf", "(II)I"⟩, 35) := ⟨⟨by decide +kernel, by decide +kernel⟩, List.mem_of_getElem? (i := 1484) (by decide +kernel), List.mem_of_getElem? (i := 1847) (by decide +kernel), List.mem_of_getElem? (i := 1848) (by decide +kernel)⟩
theorem lw_p33 : lw_okq (⟨"BudgetHouseModel", "bindingSum", "(I)I"⟩, 35) := ⟨⟨by decide +kernel, by decide +kernel⟩, List.mem_of_getElem? (i := 1484) (by decide +kernel), List.mem_of_getElem? (i := 1855) (by decide +kernel), List.mem_of_getElem? (i := 1856) (by decide +kernel)⟩
theorem lw_p34 : lw_okq (⟨"BudgetHouseModel", "bind", "(III)I"⟩, 35) := ⟨⟨by decide +kernel, by decide +kernel⟩, List.mem_of_getElem? (i := 1484) (by decide +kernel), List.mem_of_getElem? (i := 1859) (by decide +kernel), List.mem_of_getElem? (i := 1860) (by decide +kernel)⟩
theorem lw_p35 : lw_okq (⟨"BudgetHouseModel", "parse", "()I"⟩, 35) := ⟨⟨by decide +kernel, by decide +kernel⟩, List.mem_of_getElem? (i := 1484) (by decide +kernel), List.mem_of_getElem? (i := 1876) (by decide +kernel), List.mem_of_getElem? (i := 1877) (by decide +kernel)⟩
theorem lw_p36 : lw_okq (⟨"BudgetHouseModel", "next", "()V"⟩, 35) := ⟨⟨by decide +kernel, by decide +kernel⟩, List.mem_of_getElem? (i := 1484) (by decide +kernel), List.mem_of_getElem? (i := 1880) (by decide +kernel), List.mem_of_getElem? (i := 1881) (by decide +kernel)⟩
theorem lw_p37 : lw_okq (⟨"BudgetHouseModel", "isLetter", "(I)Z"⟩, 35) := ⟨⟨by decide +kernel, by decide +kernel⟩, List.mem_of_getElem? (i := 1484) (by decide +kernel), List.mem_of_getElem? (i := 1884) (by decide +kernel), List.mem_of_getElem? (i := 1885) (by decide +kernel)⟩
theorem lw_p38 : lw_okq (⟨"BudgetHouseModel", "isDigit", "(I)Z"⟩, 35) := ⟨⟨by decide +kernel, by decide +kernel⟩, List.mem_of_getElem? (i := 1484) (by decide +kernel), List.mem_of_getElem? (i := 1890) (by decide +kernel), List.mem_of_getElem? (i := 1891) (by decide +kernel)⟩
theorem lw_p39 : lw_okq (⟨"BudgetHouseModel", "key", "()I"⟩, 35) := ⟨⟨by decide +kernel, by decide +kernel⟩, List.mem_of_getElem? (i := 1484) (by decide +kernel), List.mem_of_getElem? (i := 1896) (by decide +kernel), List.mem_of_getElem? (i := 1897) (by decide +kernel)⟩
theorem lw_p40 : lw_okq (⟨"BudgetHouseModel", "isWordAt", "(IIII)Z"⟩, 35) := ⟨⟨by decide +kernel, by decide +kernel⟩, List.mem_of_getElem? (i := 1484) (by decide +kernel), List.mem_of_getElem? (i := 1900) (by decide +kernel), List.mem_of_getElem? (i := 1901) (by decide +kernel)⟩
theorem lw_p41 : lw_okq (⟨"BudgetHouseModel", "isFive", "(IIIII)Z"⟩, 35) := ⟨⟨by decide +kernel, by decide +kernel⟩, List.mem_of_getElem? (i := 1484) (by decide +kernel), List.mem_of_getElem? (i := 1904) (by decide +kernel), List.mem_of_getElem? (i := 1905) (by decide +kernel)⟩
theorem lw_p42 : lw_okq (⟨"BudgetHouseModel", "either", "(I)Z"⟩, 35) := ⟨⟨by decide +kernel, by decide +kernel⟩, List.mem_of_getElem? (i := 1484) (by decide +kernel), List.mem_of_getElem? (i := 1908) (by decide +kernel), List.mem_of_getElem? (i := 1909) (by decide +kernel)⟩
theorem lw_p43 : lw_okq (⟨"BudgetHouseModel", "both", "(I)Z"⟩, 35) := ⟨⟨by decide +kernel, by decide +kernel⟩, List.mem_of_getElem? (i := 1484) (by decide +kernel), List.mem_of_getElem? (i := 1912) (by decide +kernel), List.mem_of_getElem? (i := 1913) (by decide +kernel)⟩
theorem lw_p44 : lw_okq (⟨"BudgetHouseModel", "test", "(I)Z"⟩, 35) := ⟨⟨by decide +kernel, by decide +kernel⟩, List.mem_of_getElem? (i := 1484) (by decide +kernel), List.mem_of_getElem? (i := 1916) (by decide +kernel), List.mem_of_getElem? (i := 1917) (by decide +kernel)⟩
theorem lw_p45 : lw_okq (⟨"BudgetHouseModel", "sum", "(I)Z"⟩, 35) := ⟨⟨by decide +kernel, by decide +kernel⟩, List.mem_of_getElem? (i := 1484) (by decide +kernel), List.mem_of_getElem? (i := 1920) (by decide +kernel), List.mem_of_getElem? (i := 1921) (by decide +kernel)⟩
theorem lw_p46 : lw_okq (⟨"BudgetHouseModel", "term", "(I)Z"⟩, 35) := ⟨⟨by decide +kernel, by decide +kernel⟩, List.mem_of_getElem? (i := 1484) (by decide +kernel), List.mem_of_getElem? (i := 1924) (by decide +kernel), List.mem_of_getElem? (i := 1925) (by decide +kernel)⟩
theorem lw_p47 : lw_okq (⟨"BudgetHouseModel", "part0", "(I)Z"⟩, 35) := ⟨⟨by decide +kernel, by decide +kernel⟩, List.mem_of_getElem? (i := 1484) (by decide +kernel), List.mem_of_getElem? (i := 1928) (by decide +kernel), List.mem_of_getElem? (i := 1929) (by decide +kernel)⟩
def lw_privs_3 : List (MethodName × Nat) := [(⟨"BudgetHouseModel", "worthOf", "(II)I"⟩, 35), (⟨"BudgetHouseModel", "bindingSum", "(I)I"⟩, 35), (⟨"BudgetHouseModel", "bind", "(III)I"⟩, 35), (⟨"BudgetHouseModel", "parse", "()I"⟩, 35), (⟨"BudgetHouseModel", "next", "()V"⟩, 35), (⟨"BudgetHouseModel", "isLetter", "(I)Z"⟩, 35), (⟨"BudgetHouseModel", "isDigit", "(I)Z"⟩, 35), (⟨"BudgetHouseModel", "key", "()I"⟩, 35), (⟨"BudgetHouseModel", "isWordAt", "(IIII)Z"⟩, 35), (⟨"BudgetHouseModel", "isFive", "(IIIII)Z"⟩, 35), (⟨"BudgetHouseModel", "either", "(I)Z"⟩, 35), (⟨"BudgetHouseModel", "both", "(I)Z"⟩, 35), (⟨"BudgetHouseModel", "test", "(I)Z"⟩, 35), (⟨"BudgetHouseModel", "sum", "(I)Z"⟩, 35), (⟨"BudgetHouseModel", "term", "(I)Z"⟩, 35), (⟨"BudgetHouseModel", "part0", "(I)Z"⟩, 35)]
theorem lw_r3 : ∀ q ∈ lw_privs_3, lw_okq q := List.forall_mem_cons.mpr ⟨lw_p32, List.forall_mem_cons.mpr ⟨lw_p33, List.forall_mem_cons.mpr ⟨lw_p34, List.forall_mem_cons.mpr ⟨lw_p35, List.forall_mem_cons.mpr ⟨lw_p36, List.forall_mem_cons.mpr ⟨lw_p37, List.forall_mem_cons.mpr ⟨lw_p38, List.forall_mem_cons.mpr ⟨lw_p39, List.forall_mem_cons.mpr ⟨lw_p40, List.forall_mem_cons.mpr ⟨lw_p41, List.forall_mem_cons.mpr ⟨lw_p42, List.forall_mem_cons.mpr ⟨lw_p43, List.forall_mem_cons.mpr ⟨lw_p44, List.forall_mem_cons.mpr ⟨lw_p45, List.forall_mem_cons.mpr ⟨lw_p46, List.forall_mem_cons.mpr ⟨lw_p47, fun _ h => absurd h List.not_mem_nil⟩⟩⟩⟩⟩⟩⟩⟩⟩⟩⟩⟩⟩⟩⟩⟩
theorem lw_p48 : lw_okq (⟨"BudgetHouseModel", "step", "(II)V"⟩, 35) := ⟨⟨by decide +kernel, by decide +kernel⟩, List.mem_of_getElem? (i := 1484) (by decide +kernel), List.mem_of_getElem? (i := 1932) (by decide +kernel), List.mem_of_getElem? (i := 1933) (by decide +kernel)⟩
theorem lw_p49 : lw_okq (⟨"BudgetHouseModel", "isSign", "(I)Z"⟩, 35) := ⟨⟨by decide +kernel, by decide +kernel⟩, List.mem_of_getElem? (i := 1484) (by decide +kernel), List.mem_of_getElem? (i := 1939) (by decide +kernel), List.mem_of_getElem? (i := 1940) (by decide +kernel)⟩
theorem lw_p50 : lw_okq (⟨"BudgetHouseModel", "isText", "(I)Z"⟩, 35) := ⟨⟨by decide +kernel, by decide +kernel⟩, List.mem_of_getElem? (i := 1484) (by decide +kernel), List.mem_of_getElem? (i := 1947) (by decide +kernel), List.mem_of_getElem? (i := 1948) (by decide +kernel)⟩
theorem lw_p51 : lw_okq (⟨"BudgetHouseModel", "isGiven", "(I)Z"⟩, 35) := ⟨⟨by decide +kernel, by decide +kernel⟩, List.mem_of_getElem? (i := 1484) (by decide +kernel), List.mem_of_getElem? (i := 1965) (by decide +kernel), List.mem_of_getElem? (i := 1966) (by decide +kernel)⟩
theorem lw_p52 : lw_okq (⟨"BudgetHouseModel", "incomes", "(I)I"⟩, 35) := ⟨⟨by decide +kernel, by decide +kernel⟩, List.mem_of_getElem? (i := 1484) (by decide +kernel), List.mem_of_getElem? (i := 1969) (by decide +kernel), List.mem_of_getElem? (i := 1970) (by decide +kernel)⟩
theorem lw_p53 : lw_okq (⟨"BudgetHouseModel", "readBy", "(II)I"⟩, 35) := ⟨⟨by decide +kernel, by decide +kernel⟩, List.mem_of_getElem? (i := 1484) (by decide +kernel), List.mem_of_getElem? (i := 1999) (by decide +kernel), List.mem_of_getElem? (i := 2000) (by decide +kernel)⟩
theorem lw_p54 : lw_okq (⟨"BudgetHouseModel", "findLines", "()I"⟩, 35) := ⟨⟨by decide +kernel, by decide +kernel⟩, List.mem_of_getElem? (i := 1484) (by decide +kernel), List.mem_of_getElem? (i := 2021) (by decide +kernel), List.mem_of_getElem? (i := 2022) (by decide +kernel)⟩
theorem lw_p55 : lw_okq (⟨"BudgetHouseModel", "membersFor", "(II)I"⟩, 35) := ⟨⟨by decide +kernel, by decide +kernel⟩, List.mem_of_getElem? (i := 1484) (by decide +kernel), List.mem_of_getElem? (i := 2028) (by decide +kernel), List.mem_of_getElem? (i := 2029) (by decide +kernel)⟩
theorem lw_p56 : lw_okq (⟨"BudgetHouseModel", "findShift", "(I)I"⟩, 35) := ⟨⟨by decide +kernel, by decide +kernel⟩, List.mem_of_getElem? (i := 1484) (by decide +kernel), List.mem_of_getElem? (i := 2048) (by decide +kernel), List.mem_of_getElem? (i := 2049) (by decide +kernel)⟩
theorem lw_p57 : lw_okq (⟨"BudgetHouseModel", "heardBy", "(IIII)I"⟩, 35) := ⟨⟨by decide +kernel, by decide +kernel⟩, List.mem_of_getElem? (i := 1484) (by decide +kernel), List.mem_of_getElem? (i := 2052) (by decide +kernel), List.mem_of_getElem? (i := 2053) (by decide +kernel)⟩
theorem lw_p58 : lw_okq (⟨"BudgetHouseModel", "hears", "(II)I"⟩, 35) := ⟨⟨by decide +kernel, by decide +kernel⟩, List.mem_of_getElem? (i := 1484) (by decide +kernel), List.mem_of_getElem? (i := 2056) (by decide +kernel), List.mem_of_getElem? (i := 2057) (by decide +kernel)⟩
theorem lw_p59 : lw_okq (⟨"BudgetHouseModel", "findNight", "(II)I"⟩, 35) := ⟨⟨by decide +kernel, by decide +kernel⟩, List.mem_of_getElem? (i := 1484) (by decide +kernel), List.mem_of_getElem? (i := 2076) (by decide +kernel), List.mem_of_getElem? (i := 2077) (by decide +kernel)⟩
theorem lw_p60 : lw_okq (⟨"BudgetHouseModel", "sumOf", "(II)I"⟩, 35) := ⟨⟨by decide +kernel, by decide +kernel⟩, List.mem_of_getElem? (i := 1484) (by decide +kernel), List.mem_of_getElem? (i := 2080) (by decide +kernel), List.mem_of_getElem? (i := 2081) (by decide +kernel)⟩
theorem lw_p61 : lw_okq (⟨"BudgetHouseModel", "goesTogether", "(I)Z"⟩, 35) := ⟨⟨by decide +kernel, by decide +kernel⟩, List.mem_of_getElem? (i := 1484) (by decide +kernel), List.mem_of_getElem? (i := 2084) (by decide +kernel), List.mem_of_getElem? (i := 2085) (by decide +kernel)⟩
theorem lw_p62 : lw_okq (⟨"BudgetHouseModel", "rowsOfNight", "(II)I"⟩, 35) := ⟨⟨by decide +kernel, by decide +kernel⟩, List.mem_of_getElem? (i := 1484) (by decide +kernel), List.mem_of_getElem? (i := 2096) (by decide +kernel), List.mem_of_getElem? (i := 2097) (by decide +kernel)⟩
theorem lw_p63 : lw_okq (⟨"BudgetHouseModel", "dueIs", "(II)V"⟩, 35) := ⟨⟨by decide +kernel, by decide +kernel⟩, List.mem_of_getElem? (i := 1484) (by decide +kernel), List.mem_of_getElem? (i := 2100) (by decide +kernel), List.mem_of_getElem? (i := 2101) (by decide +kernel)⟩
def lw_privs_4 : List (MethodName × Nat) := [(⟨"BudgetHouseModel", "step", "(II)V"⟩, 35), (⟨"BudgetHouseModel", "isSign", "(I)Z"⟩, 35), (⟨"BudgetHouseModel", "isText", "(I)Z"⟩, 35), (⟨"BudgetHouseModel", "isGiven", "(I)Z"⟩, 35), (⟨"BudgetHouseModel", "incomes", "(I)I"⟩, 35), (⟨"BudgetHouseModel", "readBy", "(II)I"⟩, 35), (⟨"BudgetHouseModel", "findLines", "()I"⟩, 35), (⟨"BudgetHouseModel", "membersFor", "(II)I"⟩, 35), (⟨"BudgetHouseModel", "findShift", "(I)I"⟩, 35), (⟨"BudgetHouseModel", "heardBy", "(IIII)I"⟩, 35), (⟨"BudgetHouseModel", "hears", "(II)I"⟩, 35), (⟨"BudgetHouseModel", "findNight", "(II)I"⟩, 35), (⟨"BudgetHouseModel", "sumOf", "(II)I"⟩, 35), (⟨"BudgetHouseModel", "goesTogether", "(I)Z"⟩, 35), (⟨"BudgetHouseModel", "rowsOfNight", "(II)I"⟩, 35), (⟨"BudgetHouseModel", "dueIs", "(II)V"⟩, 35)]
theorem lw_r4 : ∀ q ∈ lw_privs_4, lw_okq q := List.forall_mem_cons.mpr ⟨lw_p48, List.forall_mem_cons.mpr ⟨lw_p49, List.forall_mem_cons.mpr ⟨lw_p50, List.forall_mem_cons.mpr ⟨lw_p51, List.forall_mem_cons.mpr ⟨lw_p52, List.forall_mem_cons.mpr ⟨lw_p53, List.forall_mem_cons.mpr ⟨lw_p54, List.forall_mem_cons.mpr ⟨lw_p55, List.forall_mem_cons.mpr ⟨lw_p56, List.forall_mem_cons.mpr ⟨lw_p57, List.forall_mem_cons.mpr ⟨lw_p58, List.forall_mem_cons.mpr ⟨lw_p59, List.forall_mem_cons.mpr ⟨lw_p60, List.forall_mem_cons.mpr ⟨lw_p61, List.forall_mem_cons.mpr ⟨lw_p62, List.forall_mem_cons.mpr ⟨lw_p63, fun _ h => absurd h List.not_mem_nil⟩⟩⟩⟩⟩⟩⟩⟩⟩⟩⟩⟩⟩⟩⟩⟩
theorem lw_p64 : lw_okq (⟨"BudgetHouseModel", "rowsTold", "(I)I"⟩, 35) := ⟨⟨by decide +kernel, by decide +kernel⟩, List.mem_of_getElem? (i := 1484) (by decide +kernel), List.mem_of_getElem? (i := 2104) (by decide +kernel), List.mem_of_getElem? (i := 2105) (by decide +kernel)⟩
theorem lw_p65 : lw_okq (⟨"BudgetHouseModel", "setAside", "([I[I)V"⟩, 35) := ⟨⟨by decide +kernel, by decide +kernel⟩, List.mem_of_getElem? (i := 1484) (by decide +kernel), List.mem_of_getElem? (i := 2109) (by decide +kernel), List.mem_of_getElem? (i := 2110) (by decide +kernel)⟩
theorem lw_p66 : lw_okq (⟨"BudgetHouseModel", "present", "()I"⟩, 35) := ⟨⟨by decide +kernel, by decide +kernel⟩, List.mem_of_getElem? (i := 1484) (by decide +kernel), List.mem_of_getElem? (i := 2113) (by decide +kernel), List.mem_of_getElem? (i := 2114) (by decide +kernel)⟩
def lw_privs_5 : List (MethodName × Nat) := [(⟨"BudgetHouseModel", "rowsTold", "(I)I"⟩, 35), (⟨"BudgetHouseModel", "setAside", "([I[I)V"⟩, 35), (⟨"BudgetHouseModel", "present", "()I"⟩, 35)]
theorem lw_r5 : ∀ q ∈ lw_privs_5, lw_okq q := List.forall_mem_cons.mpr ⟨lw_p64, List.forall_mem_cons.mpr ⟨lw_p65, List.forall_mem_cons.mpr ⟨lw_p66, fun _ h => absurd h List.not_mem_nil⟩⟩⟩
def lw_privs : List (MethodName × Nat) := lw_privs_1 ++ (lw_privs_2 ++ (lw_privs_3 ++ (lw_privs_4 ++ (lw_privs_5))))
def lw_tbl : List Cond := k2_sels lw_privs ++ tables_1
theorem lw_privs_ok : ∀ q ∈ lw_privs, lw_okq q := by
  show ∀ q ∈ lw_privs_1 ++ (lw_privs_2 ++ (lw_privs_3 ++ (lw_privs_4 ++ (lw_privs_5)))), lw_okq q
  exact List.forall_mem_append.mpr ⟨lw_r1, List.forall_mem_append.mpr ⟨lw_r2, List.forall_mem_append.mpr ⟨lw_r3, List.forall_mem_append.mpr ⟨lw_r4, lw_r5⟩⟩⟩⟩
theorem goodIn_r {big : List Cond} (ws : List Cond) (ps : List Nat) (hp : ws = ps.filterMap (fun i => big[i]?)) (h : ws.all goodWord = true) : GoodIn big ws := by
  intro w hw
  have h1 := List.all_eq_true.mp h w hw
  rw [hp] at hw
  obtain ⟨i, -, hi⟩ := List.mem_filterMap.mp hw
  have hm : w ∈ big := by first | exact List.mem_of_getElem? hi | exact List.getElem?_mem hi
  exact ⟨hm, good_of_word h1⟩
theorem goodIn_app {big a b : List Cond} (ha : GoodIn big a) (hb : GoodIn big b) : GoodIn big (a ++ b) := fun w h => (List.mem_append.mp h).elim (ha w) (hb w)
theorem goodIn_ca {big a b : List Cond} {c : Cond} (ha : GoodIn big (c :: a)) (hb : GoodIn big b) : GoodIn big (c :: (a ++ b)) := fun w h => (List.mem_cons.mp h).elim (fun e => ha w (List.mem_cons.mpr (Or.inl e))) (fun h => (List.mem_append.mp h).elim (fun h => ha w (List.mem_cons.mpr (Or.inr h))) (hb w))
theorem goodIn_sub {big ws : List Cond} (hm : ∀ w ∈ ws, w ∈ big) (h : ws.all goodWord = true) : GoodIn big ws := fun w hw => ⟨hm w hw, good_of_word (List.all_eq_true.mp h w hw)⟩
def RX0 : String := "BudgetHouse$Books"
def TX0 : u_T := fun k => match k with
  | 0 => ("BudgetHouse$Books", "sorts", "[I", true)
  | 1 => ("BudgetHouse$Books", "sizes", "[I", true)
  | 2 => ("BudgetHouse$Books", "years", "[I", true)
  | _ => ("BudgetHouse$Books", "carried", "[I", true)
def tyX0 : Nat → FieldType := fun k => match k with
  | 0 => .array .int
  | 1 => .array .int
  | 2 => .array .int
  | _ => .array .int
abbrev wsX00 : List Cond := u_ws RX0 TX0 4
theorem nmX0 : ∀ a, a < 4 → ∀ b, b < 4 → a ≠ b → (TX0 a).2.1 ≠ (TX0 b).2.1 := by decide +kernel
theorem tyX0_ok : ∀ k, k < 4 → parseFieldDescriptor (TX0 k).2.2.1 = some (tyX0 k) := by decide +kernel
abbrev cX0_init : ByteArray := prog_2_method_1_code
def yX0_init : MethodName := ⟨RX0, "<init>", "()V"⟩
abbrev cX0_open : ByteArray := prog_2_method_2_code
def yX0_open : MethodName := ⟨RX0, "open", "(III)I"⟩
abbrev cX0_isOffice : ByteArray := prog_2_method_3_code
def yX0_isOffice : MethodName := ⟨RX0, "isOffice", "(I)Z"⟩
abbrev cX0_hasYear : ByteArray := prog_2_method_4_code
def yX0_hasYear : MethodName := ⟨RX0, "hasYear", "(II)Z"⟩
abbrev cX0_refusalOfYear : ByteArray := prog_2_method_5_code
def yX0_refusalOfYear : MethodName := ⟨RX0, "refusalOfYear", "(II)I"⟩
abbrev cX0_write : ByteArray := prog_2_method_6_code
def yX0_write : MethodName := ⟨RX0, "write", "(III)I"⟩
abbrev cX0_yearRead : ByteArray := prog_2_method_7_code
def yX0_yearRead : MethodName := ⟨RX0, "yearRead", "(II)I"⟩
abbrev cX0_readAt : ByteArray := prog_2_method_8_code
def yX0_readAt : MethodName := ⟨RX0, "readAt", "(II)I"⟩
abbrev cX0_reaches : ByteArray := prog_2_method_9_code
def yX0_reaches : MethodName := ⟨RX0, "reaches", "(III)Z"⟩
abbrev cX0_carryOver : ByteArray := prog_2_method_10_code
def yX0_carryOver : MethodName := ⟨RX0, "carryOver", "(IIIII)I"⟩
abbrev cX0_spanOf : ByteArray := prog_2_method_11_code
def yX0_spanOf : MethodName := ⟨RX0, "spanOf", "(II)I"⟩
def RX1 : String := "BudgetHouse$House"
def TX1 : u_T := fun k => match k with
  | 0 => ("BudgetHouse$House", "minute", "I", false)
  | 1 => ("BudgetHouse$House", "clock", "I", false)
  | 2 => ("BudgetHouse$House", "stopped", "Z", false)
  | 3 => ("BudgetHouse$House", "members", "LBudgetHouse$Members;", true)
  | 4 => ("BudgetHouse$House", "papers", "LBudgetHouse$Papers;", true)
  | 5 => ("BudgetHouse$House", "sheets", "LBudgetHouse$Sheets;", true)
  | 6 => ("BudgetHouse$House", "texts", "LBudgetHouse$Texts;", true)
  | 7 => ("BudgetHouse$House", "wishes", "LBudgetHouse$Wishes;", true)
  | 8 => ("BudgetHouse$House", "shifts", "LBudgetHouse$Shifts;", true)
  | 9 => ("BudgetHouse$House", "offers", "LBudgetHouse$Offers;", true)
  | 10 => ("BudgetHouse$House", "incomes", "I", false)
  | 11 => ("BudgetHouse$House", "leasts", "[I", true)
  | 12 => ("BudgetHouse$House", "mosts", "[I", true)
  | 13 => ("BudgetHouse$House", "yes", "I", false)
  | 14 => ("BudgetHouse$House", "no", "I", false)
  | 15 => ("BudgetHouse$House", "present", "I", false)
  | 16 => ("BudgetHouse$House", "rowPapers", "[I", true)
  | 17 => ("BudgetHouse$House", "rowWorths", "[I", true)
  | _ => ("BudgetHouse$House", "rowSums", "[I", true)
def tyX1 : Nat → FieldType := fun k => match k with
  | 0 => .int
  | 1 => .int
  | 2 => .boolean
  | 3 => .object "BudgetHouse$Members"
  | 4 => .object "BudgetHouse$Papers"
  | 5 => .object "BudgetHouse$Sheets"
  | 6 => .object "BudgetHouse$Texts"
  | 7 => .object "BudgetHouse$Wishes"
  | 8 => .object "BudgetHouse$Shifts"
  | 9 => .object "BudgetHouse$Offers"
  | 10 => .int
  | 11 => .array .int
  | 12 => .array .int
  | 13 => .int
  | 14 => .int
  | 15 => .int
  | 16 => .array .int
  | 17 => .array .int
  | _ => .array .int
abbrev wsX10 : List Cond := u_ws RX1 TX1 19
theorem nmX1 : ∀ a, a < 19 → ∀ b, b < 19 → a ≠ b → (TX1 a).2.1 ≠ (TX1 b).2.1 := by decide +kernel
theorem tyX1_ok : ∀ k, k < 19 → parseFieldDescriptor (TX1 k).2.2.1 = some (tyX1 k) := by decide +kernel
abbrev cX1_init : ByteArray := prog_3_method_1_code
def yX1_init : MethodName := ⟨RX1, "<init>", "()V"⟩
abbrev cX1_become : ByteArray := prog_3_method_2_code
def yX1_become : MethodName := ⟨RX1, "become", "(LBudgetHouse$House;)V"⟩
abbrev cX1_hourNow : ByteArray := prog_3_method_3_code
def yX1_hourNow : MethodName := ⟨RX1, "hourNow", "()I"⟩
abbrev cX1_setStopped : ByteArray := prog_3_method_4_code
def yX1_setStopped : MethodName := ⟨RX1, "setStopped", "(I)I"⟩
abbrev cX1_goOn : ByteArray := prog_3_method_5_code
def yX1_goOn : MethodName := ⟨RX1, "goOn", "(I)I"⟩
abbrev cX1_hasRead : ByteArray := prog_3_method_6_code
def yX1_hasRead : MethodName := ⟨RX1, "hasRead", "(II)Z"⟩
abbrev cX1_voiceOf : ByteArray := prog_3_method_7_code
def yX1_voiceOf : MethodName := ⟨RX1, "voiceOf", "(II)I"⟩
abbrev cX1_poll : ByteArray := prog_3_method_8_code
def yX1_poll : MethodName := ⟨RX1, "poll", "(I)V"⟩
abbrev cX1_countVoters : ByteArray := prog_3_method_9_code
def yX1_countVoters : MethodName := ⟨RX1, "countVoters", "(I)V"⟩
abbrev cX1_polledPasses : ByteArray := prog_3_method_10_code
def yX1_polledPasses : MethodName := ⟨RX1, "polledPasses", "(I)Z"⟩
abbrev cX1_mayBePut : ByteArray := prog_3_method_11_code
def yX1_mayBePut : MethodName := ⟨RX1, "mayBePut", "(I)Z"⟩
abbrev cX1_voteFact : ByteArray := prog_3_method_12_code
def yX1_voteFact : MethodName := ⟨RX1, "voteFact", "(II)I"⟩
abbrev cX1_putToVote : ByteArray := prog_3_method_13_code
def yX1_putToVote : MethodName := ⟨RX1, "putToVote", "(I)I"⟩
abbrev cX1_letRulingWork : ByteArray := prog_3_method_14_code
def yX1_letRulingWork : MethodName := ⟨RX1, "letRulingWork", "(I)I"⟩
abbrev cX1_worthInOrder : ByteArray := prog_3_method_15_code
def yX1_worthInOrder : MethodName := ⟨RX1, "worthInOrder", "(II)I"⟩
abbrev cX1_layRow : ByteArray := prog_3_method_16_code
def yX1_layRow : MethodName := ⟨RX1, "layRow", "()I"⟩
abbrev cX1_placeInRow : ByteArray := prog_3_method_17_code
def yX1_placeInRow : MethodName := ⟨RX1, "placeInRow", "(III)V"⟩
abbrev cX1_inRow : ByteArray := prog_3_method_18_code
def yX1_inRow : MethodName := ⟨RX1, "inRow", "(I)I"⟩
abbrev cX1_bindWorth : ByteArray := prog_3_method_19_code
def yX1_bindWorth : MethodName := ⟨RX1, "bindWorth", "(III)I"⟩
abbrev cX1_bindingSum : ByteArray := prog_3_method_20_code
def yX1_bindingSum : MethodName := ⟨RX1, "bindingSum", "(I)I"⟩
abbrev cX1_lineFact : ByteArray := prog_3_method_21_code
def yX1_lineFact : MethodName := ⟨RX1, "lineFact", "(II)I"⟩
abbrev cX1_addIncome : ByteArray := prog_3_method_22_code
def yX1_addIncome : MethodName := ⟨RX1, "addIncome", "(II)I"⟩
abbrev cX1_incomeAt : ByteArray := prog_3_method_23_code
def yX1_incomeAt : MethodName := ⟨RX1, "incomeAt", "([I)I"⟩
abbrev cX1_balanceFact : ByteArray := prog_3_method_24_code
def yX1_balanceFact : MethodName := ⟨RX1, "balanceFact", "(I)I"⟩
abbrev cX1_breakInRow : ByteArray := prog_3_method_25_code
def yX1_breakInRow : MethodName := ⟨RX1, "breakInRow", "()I"⟩
abbrev cX1_tellNight : ByteArray := prog_3_method_26_code
def yX1_tellNight : MethodName := ⟨RX1, "tellNight", "(I[I)I"⟩
abbrev cX1_countOf : ByteArray := prog_3_method_27_code
def yX1_countOf : MethodName := ⟨RX1, "countOf", "(I)I"⟩
def RX2 : String := "BudgetHouse$Members"
def TX2 : u_T := fun k => match k with
  | 0 => ("BudgetHouse$Members", "size", "I", false)
  | 1 => ("BudgetHouse$Members", "parties", "[I", true)
  | 2 => ("BudgetHouse$Members", "tongues", "[I", true)
  | 3 => ("BudgetHouse$Members", "trains", "[I", true)
  | 4 => ("BudgetHouse$Members", "votes", "[I", true)
  | 5 => ("BudgetHouse$Members", "ins", "[I", true)
  | 6 => ("BudgetHouse$Members", "pairs", "I", false)
  | 7 => ("BudgetHouse$Members", "ones", "[I", true)
  | 8 => ("BudgetHouse$Members", "others", "[I", true)
  | _ => ("BudgetHouse$Members", "tills", "[I", true)
def tyX2 : Nat → FieldType := fun k => match k with
  | 0 => .int
  | 1 => .array .int
  | 2 => .array .int
  | 3 => .array .int
  | 4 => .array .int
  | 5 => .array .int
  | 6 => .int
  | 7 => .array .int
  | 8 => .array .int
  | _ => .array .int
abbrev wsX20 : List Cond := u_ws RX2 TX2 10
theorem nmX2 : ∀ a, a < 10 → ∀ b, b < 10 → a ≠ b → (TX2 a).2.1 ≠ (TX2 b).2.1 := by decide +kernel
theorem tyX2_ok : ∀ k, k < 10 → parseFieldDescriptor (TX2 k).2.2.1 = some (tyX2 k) := by decide +kernel
abbrev cX2_init : ByteArray := prog_4_method_1_code
def yX2_init : MethodName := ⟨RX2, "<init>", "()V"⟩
abbrev cX2_become : ByteArray := prog_4_method_2_code
def yX2_become : MethodName := ⟨RX2, "become", "(LBudgetHouse$Members;)V"⟩
abbrev cX2_has : ByteArray := prog_4_method_3_code
def yX2_has : MethodName := ⟨RX2, "has", "(I)Z"⟩
abbrev cX2_add : ByteArray := prog_4_method_4_code
def yX2_add : MethodName := ⟨RX2, "add", "(II)I"⟩
abbrev cX2_factOf : ByteArray := prog_4_method_5_code
def yX2_factOf : MethodName := ⟨RX2, "factOf", "(III)I"⟩
abbrev cX2_partyOf : ByteArray := prog_4_method_6_code
def yX2_partyOf : MethodName := ⟨RX2, "partyOf", "(I)I"⟩
abbrev cX2_tonguesOf : ByteArray := prog_4_method_7_code
def yX2_tonguesOf : MethodName := ⟨RX2, "tonguesOf", "(I)I"⟩
abbrev cX2_isIn : ByteArray := prog_4_method_8_code
def yX2_isIn : MethodName := ⟨RX2, "isIn", "(I)Z"⟩
abbrev cX2_isPresent : ByteArray := prog_4_method_9_code
def yX2_isPresent : MethodName := ⟨RX2, "isPresent", "(II)Z"⟩
abbrev cX2_countVote : ByteArray := prog_4_method_10_code
def yX2_countVote : MethodName := ⟨RX2, "countVote", "(I)V"⟩
abbrev cX2_setTrain : ByteArray := prog_4_method_11_code
def yX2_setTrain : MethodName := ⟨RX2, "setTrain", "(III)I"⟩
abbrev cX2_setIn : ByteArray := prog_4_method_12_code
def yX2_setIn : MethodName := ⟨RX2, "setIn", "(II)I"⟩
abbrev cX2_leaves : ByteArray := prog_4_method_13_code
def yX2_leaves : MethodName := ⟨RX2, "leaves", "(III)Z"⟩
abbrev cX2_leaveBetween : ByteArray := prog_4_method_14_code
def yX2_leaveBetween : MethodName := ⟨RX2, "leaveBetween", "(II)V"⟩
abbrev cX2_stillIn : ByteArray := prog_4_method_15_code
def yX2_stillIn : MethodName := ⟨RX2, "stillIn", "(II)I"⟩
abbrev cX2_inOfParty : ByteArray := prog_4_method_16_code
def yX2_inOfParty : MethodName := ⟨RX2, "inOfParty", "(I)I"⟩
abbrev cX2_holds : ByteArray := prog_4_method_17_code
def yX2_holds : MethodName := ⟨RX2, "holds", "(II)Z"⟩
abbrev cX2_pairOf : ByteArray := prog_4_method_18_code
def yX2_pairOf : MethodName := ⟨RX2, "pairOf", "(II)I"⟩
abbrev cX2_addPair : ByteArray := prog_4_method_19_code
def yX2_addPair : MethodName := ⟨RX2, "addPair", "(IIII)I"⟩
abbrev cX2_breakPair : ByteArray := prog_4_method_20_code
def yX2_breakPair : MethodName := ⟨RX2, "breakPair", "(II)I"⟩
abbrev cX2_pairsThatHold : ByteArray := prog_4_method_21_code
def yX2_pairsThatHold : MethodName := ⟨RX2, "pairsThatHold", "(I)I"⟩
def RX3 : String := "BudgetHouse$Offers"
def TX3 : u_T := fun k => match k with
  | 0 => ("BudgetHouse$Offers", "size", "I", false)
  | 1 => ("BudgetHouse$Offers", "votes", "[I", true)
  | 2 => ("BudgetHouse$Offers", "minutes", "[I", true)
  | 3 => ("BudgetHouse$Offers", "prices", "[I", true)
  | 4 => ("BudgetHouse$Offers", "againsts", "[I", true)
  | 5 => ("BudgetHouse$Offers", "bestSet", "I", false)
  | 6 => ("BudgetHouse$Offers", "bestPrice", "I", false)
  | _ => ("BudgetHouse$Offers", "bestMinutes", "I", false)
def tyX3 : Nat → FieldType := fun k => match k with
  | 0 => .int
  | 1 => .array .int
  | 2 => .array .int
  | 3 => .array .int
  | 4 => .array .int
  | 5 => .int
  | 6 => .int
  | _ => .int
abbrev wsX30 : List Cond := u_ws RX3 TX3 8
theorem nmX3 : ∀ a, a < 8 → ∀ b, b < 8 → a ≠ b → (TX3 a).2.1 ≠ (TX3 b).2.1 := by decide +kernel
theorem tyX3_ok : ∀ k, k < 8 → parseFieldDescriptor (TX3 k).2.2.1 = some (tyX3 k) := by decide +kernel
abbrev cX3_init : ByteArray := prog_5_method_1_code
def yX3_init : MethodName := ⟨RX3, "<init>", "()V"⟩
abbrev cX3_become : ByteArray := prog_5_method_2_code
def yX3_become : MethodName := ⟨RX3, "become", "(LBudgetHouse$Offers;)V"⟩
abbrev cX3_add : ByteArray := prog_5_method_3_code
def yX3_add : MethodName := ⟨RX3, "add", "(IIII)I"⟩
abbrev cX3_sumOf : ByteArray := prog_5_method_4_code
def yX3_sumOf : MethodName := ⟨RX3, "sumOf", "([II)I"⟩
abbrev cX3_agrees : ByteArray := prog_5_method_5_code
def yX3_agrees : MethodName := ⟨RX3, "agrees", "(I)Z"⟩
abbrev cX3_searchNight : ByteArray := prog_5_method_6_code
def yX3_searchNight : MethodName := ⟨RX3, "searchNight", "(II)I"⟩
abbrev cX3_takeIfLess : ByteArray := prog_5_method_7_code
def yX3_takeIfLess : MethodName := ⟨RX3, "takeIfLess", "(III)V"⟩
abbrev cX3_nightFact : ByteArray := prog_5_method_8_code
def yX3_nightFact : MethodName := ⟨RX3, "nightFact", "(III)I"⟩
abbrev cX3_nightRows : ByteArray := prog_5_method_9_code
def yX3_nightRows : MethodName := ⟨RX3, "nightRows", "(II[I)I"⟩
def RX4 : String := "BudgetHouse$Papers"
def TX4 : u_T := fun k => match k with
  | 0 => ("BudgetHouse$Papers", "size", "I", false)
  | 1 => ("BudgetHouse$Papers", "kinds", "[I", true)
  | 2 => ("BudgetHouse$Papers", "as", "[I", true)
  | 3 => ("BudgetHouse$Papers", "bs", "[I", true)
  | 4 => ("BudgetHouse$Papers", "states", "[I", true)
  | 5 => ("BudgetHouse$Papers", "ons", "[I", true)
  | 6 => ("BudgetHouse$Papers", "modes", "[I", true)
  | 7 => ("BudgetHouse$Papers", "cames", "[I", true)
  | 8 => ("BudgetHouse$Papers", "yeses", "[I", true)
  | 9 => ("BudgetHouse$Papers", "noes", "[I", true)
  | 10 => ("BudgetHouse$Papers", "presents", "[I", true)
  | 11 => ("BudgetHouse$Papers", "stances", "[I", true)
  | _ => ("BudgetHouse$Papers", "trial", "[I", true)
def tyX4 : Nat → FieldType := fun k => match k with
  | 0 => .int
  | 1 => .array .int
  | 2 => .array .int
  | 3 => .array .int
  | 4 => .array .int
  | 5 => .array .int
  | 6 => .array .int
  | 7 => .array .int
  | 8 => .array .int
  | 9 => .array .int
  | 10 => .array .int
  | 11 => .array .int
  | _ => .array .int
abbrev wsX40 : List Cond := u_ws RX4 TX4 13
theorem nmX4 : ∀ a, a < 13 → ∀ b, b < 13 → a ≠ b → (TX4 a).2.1 ≠ (TX4 b).2.1 := by decide +kernel
theorem tyX4_ok : ∀ k, k < 13 → parseFieldDescriptor (TX4 k).2.2.1 = some (tyX4 k) := by decide +kernel
abbrev cX4_init : ByteArray := prog_6_method_1_code
def yX4_init : MethodName := ⟨RX4, "<init>", "()V"⟩
abbrev cX4_become : ByteArray := prog_6_method_2_code
def yX4_become : MethodName := ⟨RX4, "become", "(LBudgetHouse$Papers;)V"⟩
abbrev cX4_has : ByteArray := prog_6_method_3_code
def yX4_has : MethodName := ⟨RX4, "has", "(I)Z"⟩
abbrev cX4_kindOf : ByteArray := prog_6_method_4_code
def yX4_kindOf : MethodName := ⟨RX4, "kindOf", "(I)I"⟩
abbrev cX4_aOf : ByteArray := prog_6_method_5_code
def yX4_aOf : MethodName := ⟨RX4, "aOf", "(I)I"⟩
abbrev cX4_bOf : ByteArray := prog_6_method_6_code
def yX4_bOf : MethodName := ⟨RX4, "bOf", "(I)I"⟩
abbrev cX4_stateOf : ByteArray := prog_6_method_7_code
def yX4_stateOf : MethodName := ⟨RX4, "stateOf", "(I)I"⟩
abbrev cX4_cameOf : ByteArray := prog_6_method_8_code
def yX4_cameOf : MethodName := ⟨RX4, "cameOf", "(I)I"⟩
abbrev cX4_stanceOf : ByteArray := prog_6_method_9_code
def yX4_stanceOf : MethodName := ⟨RX4, "stanceOf", "(II)I"⟩
abbrev cX4_isLine : ByteArray := prog_6_method_10_code
def yX4_isLine : MethodName := ⟨RX4, "isLine", "(I)Z"⟩
abbrev cX4_isChange : ByteArray := prog_6_method_11_code
def yX4_isChange : MethodName := ⟨RX4, "isChange", "(I)Z"⟩
abbrev cX4_isOpenOn : ByteArray := prog_6_method_12_code
def yX4_isOpenOn : MethodName := ⟨RX4, "isOpenOn", "(III)Z"⟩
abbrev cX4_isOpenChangeTo : ByteArray := prog_6_method_13_code
def yX4_isOpenChangeTo : MethodName := ⟨RX4, "isOpenChangeTo", "(II)Z"⟩
abbrev cX4_isRiderOn : ByteArray := prog_6_method_14_code
def yX4_isRiderOn : MethodName := ⟨RX4, "isRiderOn", "(II)Z"⟩
abbrev cX4_costs : ByteArray := prog_6_method_15_code
def yX4_costs : MethodName := ⟨RX4, "costs", "(I)Z"⟩
abbrev cX4_suits : ByteArray := prog_6_method_16_code
def yX4_suits : MethodName := ⟨RX4, "suits", "(III)Z"⟩
abbrev cX4_add : ByteArray := prog_6_method_17_code
def yX4_add : MethodName := ⟨RX4, "add", "(III)I"⟩
abbrev cX4_addHung : ByteArray := prog_6_method_18_code
def yX4_addHung : MethodName := ⟨RX4, "addHung", "(IIII)I"⟩
abbrev cX4_addAny : ByteArray := prog_6_method_19_code
def yX4_addAny : MethodName := ⟨RX4, "addAny", "(IIIII)I"⟩
abbrev cX4_factOf : ByteArray := prog_6_method_20_code
def yX4_factOf : MethodName := ⟨RX4, "factOf", "(II)I"⟩
abbrev cX4_seenAs : ByteArray := prog_6_method_21_code
def yX4_seenAs : MethodName := ⟨RX4, "seenAs", "(II)I"⟩
abbrev cX4_isUnder : ByteArray := prog_6_method_22_code
def yX4_isUnder : MethodName := ⟨RX4, "isUnder", "(II)Z"⟩
abbrev cX4_setStance : ByteArray := prog_6_method_23_code
def yX4_setStance : MethodName := ⟨RX4, "setStance", "(III)I"⟩
abbrev cX4_comeIn : ByteArray := prog_6_method_24_code
def yX4_comeIn : MethodName := ⟨RX4, "comeIn", "(II)V"⟩
abbrev cX4_isBound : ByteArray := prog_6_method_25_code
def yX4_isBound : MethodName := ⟨RX4, "isBound", "(II)Z"⟩
abbrev cX4_isReady : ByteArray := prog_6_method_26_code
def yX4_isReady : MethodName := ⟨RX4, "isReady", "(I)Z"⟩
abbrev cX4_comesWith : ByteArray := prog_6_method_27_code
def yX4_comesWith : MethodName := ⟨RX4, "comesWith", "(I)Z"⟩
abbrev cX4_setVote : ByteArray := prog_6_method_28_code
def yX4_setVote : MethodName := ⟨RX4, "setVote", "(IIII)V"⟩
abbrev cX4_decide : ByteArray := prog_6_method_29_code
def yX4_decide : MethodName := ⟨RX4, "decide", "(IZ)V"⟩
abbrev cX4_decideWith : ByteArray := prog_6_method_30_code
def yX4_decideWith : MethodName := ⟨RX4, "decideWith", "(IZ)V"⟩
abbrev cX4_addMore : ByteArray := prog_6_method_31_code
def yX4_addMore : MethodName := ⟨RX4, "addMore", "(II)V"⟩
abbrev cX4_letFall : ByteArray := prog_6_method_32_code
def yX4_letFall : MethodName := ⟨RX4, "letFall", "([I)I"⟩
abbrev cX4_fallsNow : ByteArray := prog_6_method_33_code
def yX4_fallsNow : MethodName := ⟨RX4, "fallsNow", "(I[I)Z"⟩
abbrev cX4_settleDeals : ByteArray := prog_6_method_34_code
def yX4_settleDeals : MethodName := ⟨RX4, "settleDeals", "()V"⟩
abbrev cX4_letRulingWork : ByteArray := prog_6_method_35_code
def yX4_letRulingWork : MethodName := ⟨RX4, "letRulingWork", "(I)I"⟩
abbrev cX4_voidAllOn : ByteArray := prog_6_method_36_code
def yX4_voidAllOn : MethodName := ⟨RX4, "voidAllOn", "(I)I"⟩
abbrev cX4_mendLine : ByteArray := prog_6_method_37_code
def yX4_mendLine : MethodName := ⟨RX4, "mendLine", "(I)I"⟩
abbrev cX4_refusalOfChange : ByteArray := prog_6_method_38_code
def yX4_refusalOfChange : MethodName := ⟨RX4, "refusalOfChange", "(I)I"⟩
abbrev cX4_fallingWith : ByteArray := prog_6_method_39_code
def yX4_fallingWith : MethodName := ⟨RX4, "fallingWith", "(I)I"⟩
abbrev cX4_neverOf : ByteArray := prog_6_method_40_code
def yX4_neverOf : MethodName := ⟨RX4, "neverOf", "(I)I"⟩
abbrev cX4_isNever : ByteArray := prog_6_method_41_code
def yX4_isNever : MethodName := ⟨RX4, "isNever", "(I)Z"⟩
abbrev cX4_unlikeTongues : ByteArray := prog_6_method_42_code
def yX4_unlikeTongues : MethodName := ⟨RX4, "unlikeTongues", "(I)I"⟩
abbrev cX4_openChanges : ByteArray := prog_6_method_43_code
def yX4_openChanges : MethodName := ⟨RX4, "openChanges", "(I)I"⟩
abbrev cX4_ridersOn : ByteArray := prog_6_method_44_code
def yX4_ridersOn : MethodName := ⟨RX4, "ridersOn", "(I)I"⟩
abbrev cX4_sumOf : ByteArray := prog_6_method_45_code
def yX4_sumOf : MethodName := ⟨RX4, "sumOf", "(II)I"⟩
abbrev cX4_inState : ByteArray := prog_6_method_46_code
def yX4_inState : MethodName := ⟨RX4, "inState", "(I)I"⟩
def RX5 : String := "BudgetHouse$Reader"
def TX5 : u_T := fun k => match k with
  | 0 => ("BudgetHouse$Reader", "key", "I", false)
  | 1 => ("BudgetHouse$Reader", "operands", "I", false)
  | 2 => ("BudgetHouse$Reader", "size", "I", false)
  | 3 => ("BudgetHouse$Reader", "code", "[I", true)
  | 4 => ("BudgetHouse$Reader", "waits", "[I", true)
  | 5 => ("BudgetHouse$Reader", "waitsSize", "I", false)
  | 6 => ("BudgetHouse$Reader", "brackets", "I", false)
  | 7 => ("BudgetHouse$Reader", "nots", "I", false)
  | _ => ("BudgetHouse$Reader", "wantsPart", "Z", false)
def tyX5 : Nat → FieldType := fun k => match k with
  | 0 => .int
  | 1 => .int
  | 2 => .int
  | 3 => .array .int
  | 4 => .array .int
  | 5 => .int
  | 6 => .int
  | 7 => .int
  | _ => .boolean
abbrev wsX50 : List Cond := u_ws RX5 TX5 9
theorem nmX5 : ∀ a, a < 9 → ∀ b, b < 9 → a ≠ b → (TX5 a).2.1 ≠ (TX5 b).2.1 := by decide +kernel
theorem tyX5_ok : ∀ k, k < 9 → parseFieldDescriptor (TX5 k).2.2.1 = some (tyX5 k) := by decide +kernel
abbrev cX5_init : ByteArray := prog_7_method_1_code
def yX5_init : MethodName := ⟨RX5, "<init>", "()V"⟩
abbrev cX5_faultOf : ByteArray := prog_7_method_2_code
def yX5_faultOf : MethodName := ⟨RX5, "faultOf", "(LBudgetHouse$Tape;)I"⟩
abbrev cX5_startAnew : ByteArray := prog_7_method_3_code
def yX5_startAnew : MethodName := ⟨RX5, "startAnew", "()V"⟩
abbrev cX5_keyOf : ByteArray := prog_7_method_4_code
def yX5_keyOf : MethodName := ⟨RX5, "keyOf", "(LBudgetHouse$Tape;II)I"⟩
abbrev cX5_namesOf : ByteArray := prog_7_method_5_code
def yX5_namesOf : MethodName := ⟨RX5, "namesOf", "(I)Ljava/lang/String;"⟩
abbrev cX5_takePart : ByteArray := prog_7_method_6_code
def yX5_takePart : MethodName := ⟨RX5, "takePart", "(LBudgetHouse$Tape;I)I"⟩
abbrev cX5_numberAt : ByteArray := prog_7_method_7_code
def yX5_numberAt : MethodName := ⟨RX5, "numberAt", "(LBudgetHouse$Tape;II)I"⟩
abbrev cX5_nameAt : ByteArray := prog_7_method_8_code
def yX5_nameAt : MethodName := ⟨RX5, "nameAt", "(LBudgetHouse$Tape;II)I"⟩
abbrev cX5_takeSign : ByteArray := prog_7_method_9_code
def yX5_takeSign : MethodName := ⟨RX5, "takeSign", "(LBudgetHouse$Tape;I)I"⟩
abbrev cX5_rankOf : ByteArray := prog_7_method_10_code
def yX5_rankOf : MethodName := ⟨RX5, "rankOf", "(I)I"⟩
abbrev cX5_closeBracket : ByteArray := prog_7_method_11_code
def yX5_closeBracket : MethodName := ⟨RX5, "closeBracket", "()Z"⟩
abbrev cX5_endPart : ByteArray := prog_7_method_12_code
def yX5_endPart : MethodName := ⟨RX5, "endPart", "()V"⟩
abbrev cX5_layDownFrom : ByteArray := prog_7_method_13_code
def yX5_layDownFrom : MethodName := ⟨RX5, "layDownFrom", "(I)V"⟩
abbrev cX5_layDown : ByteArray := prog_7_method_14_code
def yX5_layDown : MethodName := ⟨RX5, "layDown", "(I)V"⟩
abbrev cX5_waitWith : ByteArray := prog_7_method_15_code
def yX5_waitWith : MethodName := ⟨RX5, "waitWith", "(I)V"⟩
abbrev cX5_lastWaiting : ByteArray := prog_7_method_16_code
def yX5_lastWaiting : MethodName := ⟨RX5, "lastWaiting", "()I"⟩
def RX6 : String := "BudgetHouse$Sheets"
def TX6 : u_T := fun k => match k with
  | 0 => ("BudgetHouse$Sheets", "size", "I", false)
  | 1 => ("BudgetHouse$Sheets", "papersOf", "[I", true)
  | 2 => ("BudgetHouse$Sheets", "tonguesOf", "[I", true)
  | _ => ("BudgetHouse$Sheets", "dues", "[I", true)
def tyX6 : Nat → FieldType := fun k => match k with
  | 0 => .int
  | 1 => .array .int
  | 2 => .array .int
  | _ => .array .int
abbrev wsX60 : List Cond := u_ws RX6 TX6 4
theorem nmX6 : ∀ a, a < 4 → ∀ b, b < 4 → a ≠ b → (TX6 a).2.1 ≠ (TX6 b).2.1 := by decide +kernel
theorem tyX6_ok : ∀ k, k < 4 → parseFieldDescriptor (TX6 k).2.2.1 = some (tyX6 k) := by decide +kernel
abbrev cX6_init : ByteArray := prog_8_method_1_code
def yX6_init : MethodName := ⟨RX6, "<init>", "()V"⟩
abbrev cX6_become : ByteArray := prog_8_method_2_code
def yX6_become : MethodName := ⟨RX6, "become", "(LBudgetHouse$Sheets;)V"⟩
abbrev cX6_add : ByteArray := prog_8_method_3_code
def yX6_add : MethodName := ⟨RX6, "add", "(LBudgetHouse$Papers;IIII)I"⟩
abbrev cX6_comeTill : ByteArray := prog_8_method_4_code
def yX6_comeTill : MethodName := ⟨RX6, "comeTill", "(ILBudgetHouse$Papers;)V"⟩
abbrev cX6_onWayBehind : ByteArray := prog_8_method_5_code
def yX6_onWayBehind : MethodName := ⟨RX6, "onWayBehind", "(I)I"⟩
def RX7 : String := "BudgetHouse$Shifts"
def TX7 : u_T := fun k => match k with
  | 0 => ("BudgetHouse$Shifts", "size", "I", false)
  | 1 => ("BudgetHouse$Shifts", "twos", "[I", true)
  | 2 => ("BudgetHouse$Shifts", "speeches", "[I", true)
  | _ => ("BudgetHouse$Shifts", "most", "[I", true)
def tyX7 : Nat → FieldType := fun k => match k with
  | 0 => .int
  | 1 => .array .int
  | 2 => .array .int
  | _ => .array .int
abbrev wsX70 : List Cond := u_ws RX7 TX7 4
theorem nmX7 : ∀ a, a < 4 → ∀ b, b < 4 → a ≠ b → (TX7 a).2.1 ≠ (TX7 b).2.1 := by decide +kernel
theorem tyX7_ok : ∀ k, k < 4 → parseFieldDescriptor (TX7 k).2.2.1 = some (tyX7 k) := by decide +kernel
abbrev cX7_init : ByteArray := prog_9_method_1_code
def yX7_init : MethodName := ⟨RX7, "<init>", "()V"⟩
abbrev cX7_become : ByteArray := prog_9_method_2_code
def yX7_become : MethodName := ⟨RX7, "become", "(LBudgetHouse$Shifts;)V"⟩
abbrev cX7_add : ByteArray := prog_9_method_3_code
def yX7_add : MethodName := ⟨RX7, "add", "()I"⟩
abbrev cX7_isTongue : ByteArray := prog_9_method_4_code
def yX7_isTongue : MethodName := ⟨RX7, "isTongue", "(I)Z"⟩
abbrev cX7_bitOf : ByteArray := prog_9_method_5_code
def yX7_bitOf : MethodName := ⟨RX7, "bitOf", "(II)I"⟩
abbrev cX7_addTwo : ByteArray := prog_9_method_6_code
def yX7_addTwo : MethodName := ⟨RX7, "addTwo", "(III)I"⟩
abbrev cX7_setSpeech : ByteArray := prog_9_method_7_code
def yX7_setSpeech : MethodName := ⟨RX7, "setSpeech", "(III)I"⟩
abbrev cX7_mostHeard : ByteArray := prog_9_method_8_code
def yX7_mostHeard : MethodName := ⟨RX7, "mostHeard", "(I)I"⟩
abbrev cX7_interpreterIn : ByteArray := prog_9_method_9_code
def yX7_interpreterIn : MethodName := ⟨RX7, "interpreterIn", "(II)I"⟩
abbrev cX7_weigh : ByteArray := prog_9_method_10_code
def yX7_weigh : MethodName := ⟨RX7, "weigh", "(I)V"⟩
abbrev cX7_place : ByteArray := prog_9_method_11_code
def yX7_place : MethodName := ⟨RX7, "place", "(IIZ)I"⟩
abbrev cX7_mostFrom : ByteArray := prog_9_method_12_code
def yX7_mostFrom : MethodName := ⟨RX7, "mostFrom", "(IIZ)I"⟩
abbrev cX7_bestFrom : ByteArray := prog_9_method_13_code
def yX7_bestFrom : MethodName := ⟨RX7, "bestFrom", "(IIZ)I"⟩
abbrev cX7_firstBest : ByteArray := prog_9_method_14_code
def yX7_firstBest : MethodName := ⟨RX7, "firstBest", "(IIZ)I"⟩
abbrev cX7_canTake : ByteArray := prog_9_method_15_code
def yX7_canTake : MethodName := ⟨RX7, "canTake", "(IIZ)Z"⟩
abbrev cX7_heardWith : ByteArray := prog_9_method_16_code
def yX7_heardWith : MethodName := ⟨RX7, "heardWith", "(III)I"⟩
abbrev cX7_heardIn : ByteArray := prog_9_method_17_code
def yX7_heardIn : MethodName := ⟨RX7, "heardIn", "(II)I"⟩
def RX8 : String := "BudgetHouse$Tape"
def TX8 : u_T := fun k => match k with
  | 0 => ("BudgetHouse$Tape", "size", "I", false)
  | _ => ("BudgetHouse$Tape", "bytes", "[I", true)
def tyX8 : Nat → FieldType := fun k => match k with
  | 0 => .int
  | _ => .array .int
abbrev wsX80 : List Cond := u_ws RX8 TX8 2
theorem nmX8 : ∀ a, a < 2 → ∀ b, b < 2 → a ≠ b → (TX8 a).2.1 ≠ (TX8 b).2.1 := by decide +kernel
theorem tyX8_ok : ∀ k, k < 2 → parseFieldDescriptor (TX8 k).2.2.1 = some (tyX8 k) := by decide +kernel
abbrev cX8_init : ByteArray := prog_10_method_1_code
def yX8_init : MethodName := ⟨RX8, "<init>", "()V"⟩
abbrev cX8_take : ByteArray := prog_10_method_2_code
def yX8_take : MethodName := ⟨RX8, "take", "(III)I"⟩
abbrev cX8_takeFour : ByteArray := prog_10_method_3_code
def yX8_takeFour : MethodName := ⟨RX8, "takeFour", "(I)V"⟩
abbrev cX8_cutTo : ByteArray := prog_10_method_4_code
def yX8_cutTo : MethodName := ⟨RX8, "cutTo", "(I)I"⟩
abbrev cX8_useUp : ByteArray := prog_10_method_5_code
def yX8_useUp : MethodName := ⟨RX8, "useUp", "()V"⟩
abbrev cX8_byteAt : ByteArray := prog_10_method_6_code
def yX8_byteAt : MethodName := ⟨RX8, "byteAt", "(I)I"⟩
abbrev cX8_isDigit : ByteArray := prog_10_method_7_code
def yX8_isDigit : MethodName := ⟨RX8, "isDigit", "(I)Z"⟩
abbrev cX8_isLetter : ByteArray := prog_10_method_8_code
def yX8_isLetter : MethodName := ⟨RX8, "isLetter", "(I)Z"⟩
abbrev cX8_behindBlanks : ByteArray := prog_10_method_9_code
def yX8_behindBlanks : MethodName := ⟨RX8, "behindBlanks", "(I)I"⟩
abbrev cX8_behindWord : ByteArray := prog_10_method_10_code
def yX8_behindWord : MethodName := ⟨RX8, "behindWord", "(I)I"⟩
abbrev cX8_isWord : ByteArray := prog_10_method_11_code
def yX8_isWord : MethodName := ⟨RX8, "isWord", "(IILjava/lang/String;)Z"⟩
def RX9 : String := "BudgetHouse$Texts"
def TX9 : u_T := fun k => match k with
  | 0 => ("BudgetHouse$Texts", "size", "I", false)
  | 1 => ("BudgetHouse$Texts", "keys", "[I", true)
  | 2 => ("BudgetHouse$Texts", "hours", "[I", true)
  | 3 => ("BudgetHouse$Texts", "operands", "[I", true)
  | 4 => ("BudgetHouse$Texts", "lengths", "[I", true)
  | 5 => ("BudgetHouse$Texts", "codes", "[I", true)
  | 6 => ("BudgetHouse$Texts", "names", "[I", true)
  | 7 => ("BudgetHouse$Texts", "stack", "[I", true)
  | _ => ("BudgetHouse$Texts", "depth", "I", false)
def tyX9 : Nat → FieldType := fun k => match k with
  | 0 => .int
  | 1 => .array .int
  | 2 => .array .int
  | 3 => .array .int
  | 4 => .array .int
  | 5 => .array .int
  | 6 => .array .int
  | 7 => .array .int
  | _ => .int
abbrev wsX90 : List Cond := u_ws RX9 TX9 9
theorem nmX9 : ∀ a, a < 9 → ∀ b, b < 9 → a ≠ b → (TX9 a).2.1 ≠ (TX9 b).2.1 := by decide +kernel
theorem tyX9_ok : ∀ k, k < 9 → parseFieldDescriptor (TX9 k).2.2.1 = some (tyX9 k) := by decide +kernel
abbrev cX9_init : ByteArray := prog_11_method_1_code
def yX9_init : MethodName := ⟨RX9, "<init>", "()V"⟩
abbrev cX9_become : ByteArray := prog_11_method_2_code
def yX9_become : MethodName := ⟨RX9, "become", "(LBudgetHouse$Texts;)V"⟩
abbrev cX9_add : ByteArray := prog_11_method_3_code
def yX9_add : MethodName := ⟨RX9, "add", "(LBudgetHouse$Reader;I)I"⟩
abbrev cX9_factOf : ByteArray := prog_11_method_4_code
def yX9_factOf : MethodName := ⟨RX9, "factOf", "(II)I"⟩
abbrev cX9_counting : ByteArray := prog_11_method_5_code
def yX9_counting : MethodName := ⟨RX9, "counting", "(II)I"⟩
abbrev cX9_worthOf : ByteArray := prog_11_method_6_code
def yX9_worthOf : MethodName := ⟨RX9, "worthOf", "(IIIII)I"⟩
abbrev cX9_workOut : ByteArray := prog_11_method_7_code
def yX9_workOut : MethodName := ⟨RX9, "workOut", "(I)V"⟩
abbrev cX9_push : ByteArray := prog_11_method_8_code
def yX9_push : MethodName := ⟨RX9, "push", "(I)V"⟩
abbrev cX9_popped : ByteArray := prog_11_method_9_code
def yX9_popped : MethodName := ⟨RX9, "popped", "()I"⟩
abbrev cX9_worthOfSign : ByteArray := prog_11_method_10_code
def yX9_worthOfSign : MethodName := ⟨RX9, "worthOfSign", "(III)I"⟩
def RX10 : String := "BudgetHouse$Wishes"
def TX10 : u_T := fun k => match k with
  | 0 => ("BudgetHouse$Wishes", "sets", "[I", true)
  | 1 => ("BudgetHouse$Wishes", "sums", "[I", true)
  | 2 => ("BudgetHouse$Wishes", "voices", "[I", true)
  | 3 => ("BudgetHouse$Wishes", "lines", "I", false)
  | 4 => ("BudgetHouse$Wishes", "bestSet", "I", false)
  | 5 => ("BudgetHouse$Wishes", "bestSum", "I", false)
  | _ => ("BudgetHouse$Wishes", "bestVoices", "I", false)
def tyX10 : Nat → FieldType := fun k => match k with
  | 0 => .array .int
  | 1 => .array .int
  | 2 => .array .int
  | 3 => .int
  | 4 => .int
  | 5 => .int
  | _ => .int
abbrev wsX100 : List Cond := u_ws RX10 TX10 7
theorem nmX10 : ∀ a, a < 7 → ∀ b, b < 7 → a ≠ b → (TX10 a).2.1 ≠ (TX10 b).2.1 := by decide +kernel
theorem tyX10_ok : ∀ k, k < 7 → parseFieldDescriptor (TX10 k).2.2.1 = some (tyX10 k) := by decide +kernel
abbrev cX10_init : ByteArray := prog_12_method_1_code
def yX10_init : MethodName := ⟨RX10, "<init>", "()V"⟩
abbrev cX10_become : ByteArray := prog_12_method_2_code
def yX10_become : MethodName := ⟨RX10, "become", "(LBudgetHouse$Wishes;)V"⟩
abbrev cX10_setWish : ByteArray := prog_12_method_3_code
def yX10_setWish : MethodName := ⟨RX10, "setWish", "(II)I"⟩
abbrev cX10_leastThatCarries : ByteArray := prog_12_method_4_code
def yX10_leastThatCarries : MethodName := ⟨RX10, "leastThatCarries", "(LBudgetHouse$Papers;LBudgetHouse$Members;II)I"⟩
abbrev cX10_takeLines : ByteArray := prog_12_method_5_code
def yX10_takeLines : MethodName := ⟨RX10, "takeLines", "(LBudgetHouse$Papers;)V"⟩
abbrev cX10_searchSets : ByteArray := prog_12_method_6_code
def yX10_searchSets : MethodName := ⟨RX10, "searchSets", "(I)V"⟩
abbrev cX10_isLess : ByteArray := prog_12_method_7_code
def yX10_isLess : MethodName := ⟨RX10, "isLess", "(II)Z"⟩
abbrev cX10_sumOf : ByteArray := prog_12_method_8_code
def yX10_sumOf : MethodName := ⟨RX10, "sumOf", "(I)I"⟩
abbrev cX10_voicesFor : ByteArray := prog_12_method_9_code
def yX10_voicesFor : MethodName := ⟨RX10, "voicesFor", "(I)I"⟩
def RX11 : String := "BudgetHouse"
def TX11 : u_T := fun k => match k with
  | 0 => ("BudgetHouse", "now", "LBudgetHouse$House;", true)
  | 1 => ("BudgetHouse", "image", "LBudgetHouse$House;", true)
  | 2 => ("BudgetHouse", "kept", "Z", false)
  | 3 => ("BudgetHouse", "tape", "LBudgetHouse$Tape;", true)
  | 4 => ("BudgetHouse", "reader", "LBudgetHouse$Reader;", true)
  | 5 => ("BudgetHouse", "books", "LBudgetHouse$Books;", true)
  | 6 => ("BudgetHouse", "waitingSize", "I", false)
  | 7 => ("BudgetHouse", "waiting", "[I", true)
  | _ => ("BudgetHouse", "due", "[I", true)
def tyX11 : Nat → FieldType := fun k => match k with
  | 0 => .object "BudgetHouse$House"
  | 1 => .object "BudgetHouse$House"
  | 2 => .boolean
  | 3 => .object "BudgetHouse$Tape"
  | 4 => .object "BudgetHouse$Reader"
  | 5 => .object "BudgetHouse$Books"
  | 6 => .int
  | 7 => .array .int
  | _ => .array .int
abbrev wsX110 : List Cond := u_ws RX11 TX11 9
theorem nmX11 : ∀ a, a < 9 → ∀ b, b < 9 → a ≠ b → (TX11 a).2.1 ≠ (TX11 b).2.1 := by decide +kernel
theorem tyX11_ok : ∀ k, k < 9 → parseFieldDescriptor (TX11 k).2.2.1 = some (tyX11 k) := by decide +kernel
abbrev cX11_init : ByteArray := prog_1_method_1_code
def yX11_init : MethodName := ⟨RX11, "<init>", "()V"⟩
abbrev cX11_member : ByteArray := prog_1_method_2_code
def yX11_member : MethodName := ⟨RX11, "member", "(II)I"⟩
abbrev cX11_is : ByteArray := prog_1_method_3_code
def yX11_is : MethodName := ⟨RX11, "is", "(II)I"⟩
abbrev cX11_train : ByteArray := prog_1_method_4_code
def yX11_train : MethodName := ⟨RX11, "train", "(II)I"⟩
abbrev cX11_go : ByteArray := prog_1_method_5_code
def yX11_go : MethodName := ⟨RX11, "go", "(II)I"⟩
abbrev cX11_pair : ByteArray := prog_1_method_6_code
def yX11_pair : MethodName := ⟨RX11, "pair", "(III)I"⟩
abbrev cX11_breaks : ByteArray := prog_1_method_7_code
def yX11_breaks : MethodName := ⟨RX11, "breaks", "(I)I"⟩
abbrev cX11_clock : ByteArray := prog_1_method_8_code
def yX11_clock : MethodName := ⟨RX11, "clock", "(I)I"⟩
abbrev cX11_run : ByteArray := prog_1_method_9_code
def yX11_run : MethodName := ⟨RX11, "run", "(I)I"⟩
abbrev cX11_paper : ByteArray := prog_1_method_10_code
def yX11_paper : MethodName := ⟨RX11, "paper", "(III)I"⟩
abbrev cX11_hung : ByteArray := prog_1_method_11_code
def yX11_hung : MethodName := ⟨RX11, "hung", "(IIII)I"⟩
abbrev cX11_told : ByteArray := prog_1_method_12_code
def yX11_told : MethodName := ⟨RX11, "told", "(II)I"⟩
abbrev cX11_as : ByteArray := prog_1_method_13_code
def yX11_as : MethodName := ⟨RX11, "as", "(II)I"⟩
abbrev cX11_stance : ByteArray := prog_1_method_14_code
def yX11_stance : MethodName := ⟨RX11, "stance", "(III)I"⟩
abbrev cX11_print : ByteArray := prog_1_method_15_code
def yX11_print : MethodName := ⟨RX11, "print", "(III)I"⟩
abbrev cX11_read : ByteArray := prog_1_method_16_code
def yX11_read : MethodName := ⟨RX11, "read", "(II)I"⟩
abbrev cX11_would : ByteArray := prog_1_method_17_code
def yX11_would : MethodName := ⟨RX11, "would", "(II)I"⟩
abbrev cX11_put : ByteArray := prog_1_method_18_code
def yX11_put : MethodName := ⟨RX11, "put", "(I)I"⟩
abbrev cX11_rule : ByteArray := prog_1_method_19_code
def yX11_rule : MethodName := ⟨RX11, "rule", "(I)I"⟩
abbrev cX11_mend : ByteArray := prog_1_method_20_code
def yX11_mend : MethodName := ⟨RX11, "mend", "(I)I"⟩
abbrev cX11_falls : ByteArray := prog_1_method_21_code
def yX11_falls : MethodName := ⟨RX11, "falls", "(I)I"⟩
abbrev cX11_never : ByteArray := prog_1_method_22_code
def yX11_never : MethodName := ⟨RX11, "never", "(I)I"⟩
abbrev cX11_row : ByteArray := prog_1_method_23_code
def yX11_row : MethodName := ⟨RX11, "row", "(I)I"⟩
abbrev cX11_line : ByteArray := prog_1_method_24_code
def yX11_line : MethodName := ⟨RX11, "line", "(II)I"⟩
abbrev cX11_feed : ByteArray := prog_1_method_25_code
def yX11_feed : MethodName := ⟨RX11, "feed", "(III)I"⟩
abbrev cX11_trim : ByteArray := prog_1_method_26_code
def yX11_trim : MethodName := ⟨RX11, "trim", "(I)I"⟩
abbrev cX11_text : ByteArray := prog_1_method_27_code
def yX11_text : MethodName := ⟨RX11, "text", "(I)I"⟩
abbrev cX11_of : ByteArray := prog_1_method_28_code
def yX11_of : MethodName := ⟨RX11, "of", "(II)I"⟩
abbrev cX11_why : ByteArray := prog_1_method_29_code
def yX11_why : MethodName := ⟨RX11, "why", "(I)I"⟩
abbrev cX11_income : ByteArray := prog_1_method_30_code
def yX11_income : MethodName := ⟨RX11, "income", "(II)I"⟩
abbrev cX11_balance : ByteArray := prog_1_method_31_code
def yX11_balance : MethodName := ⟨RX11, "balance", "(I)I"⟩
abbrev cX11_first : ByteArray := prog_1_method_32_code
def yX11_first : MethodName := ⟨RX11, "first", "()I"⟩
abbrev cX11_book : ByteArray := prog_1_method_33_code
def yX11_book : MethodName := ⟨RX11, "book", "(III)I"⟩
abbrev cX11_note : ByteArray := prog_1_method_34_code
def yX11_note : MethodName := ⟨RX11, "note", "(III)I"⟩
abbrev cX11_looks : ByteArray := prog_1_method_35_code
def yX11_looks : MethodName := ⟨RX11, "looks", "(II)I"⟩
abbrev cX11_copy : ByteArray := prog_1_method_36_code
def yX11_copy : MethodName := ⟨RX11, "copy", "(IIIII)I"⟩
abbrev cX11_span : ByteArray := prog_1_method_37_code
def yX11_span : MethodName := ⟨RX11, "span", "(II)I"⟩
abbrev cX11_wish : ByteArray := prog_1_method_38_code
def yX11_wish : MethodName := ⟨RX11, "wish", "(II)I"⟩
abbrev cX11_carry : ByteArray := prog_1_method_39_code
def yX11_carry : MethodName := ⟨RX11, "carry", "(II)I"⟩
abbrev cX11_interpreter : ByteArray := prog_1_method_40_code
def yX11_interpreter : MethodName := ⟨RX11, "interpreter", "()I"⟩
abbrev cX11_speaks : ByteArray := prog_1_method_41_code
def yX11_speaks : MethodName := ⟨RX11, "speaks", "(III)I"⟩
abbrev cX11_speech : ByteArray := prog_1_method_42_code
def yX11_speech : MethodName := ⟨RX11, "speech", "(III)I"⟩
abbrev cX11_heard : ByteArray := prog_1_method_43_code
def yX11_heard : MethodName := ⟨RX11, "heard", "(I)I"⟩
abbrev cX11_shift : ByteArray := prog_1_method_44_code
def yX11_shift : MethodName := ⟨RX11, "shift", "(II)I"⟩
abbrev cX11_offer : ByteArray := prog_1_method_45_code
def yX11_offer : MethodName := ⟨RX11, "offer", "(IIII)I"⟩
abbrev cX11_night : ByteArray := prog_1_method_46_code
def yX11_night : MethodName := ⟨RX11, "night", "(III)I"⟩
abbrev cX11_tell : ByteArray := prog_1_method_47_code
def yX11_tell : MethodName := ⟨RX11, "tell", "(I)I"⟩
abbrev cX11_check : ByteArray := prog_1_method_48_code
def yX11_check : MethodName := ⟨RX11, "check", "(III)I"⟩
abbrev cX11_keep : ByteArray := prog_1_method_49_code
def yX11_keep : MethodName := ⟨RX11, "keep", "()I"⟩
abbrev cX11_back : ByteArray := prog_1_method_50_code
def yX11_back : MethodName := ⟨RX11, "back", "()I"⟩
abbrev cX11_count : ByteArray := prog_1_method_51_code
def yX11_count : MethodName := ⟨RX11, "count", "(I)I"⟩
abbrev cX11_firstUnlike : ByteArray := prog_1_method_52_code
def yX11_firstUnlike : MethodName := ⟨RX11, "firstUnlike", "(II)I"⟩
abbrev cX11_within : ByteArray := prog_1_method_53_code
def yX11_within : MethodName := ⟨RX11, "within", "(III)Z"⟩
abbrev cX11_isTwo : ByteArray := prog_1_method_54_code
def yX11_isTwo : MethodName := ⟨RX11, "isTwo", "(III)Z"⟩
abbrev cX11_heldSum : ByteArray := prog_1_method_55_code
def yX11_heldSum : MethodName := ⟨RX11, "heldSum", "(I)I"⟩
abbrev cX11_copyRow : ByteArray := prog_1_method_56_code
def yX11_copyRow : MethodName := ⟨RX11, "copyRow", "([I[I)V"⟩
def RX12 : String := "BudgetHouseModel"
def TX12 : u_T := fun k => match k with
  | 0 => ("BudgetHouseModel", "s", "[I", true)
  | 1 => ("BudgetHouseModel", "image", "[I", true)
  | 2 => ("BudgetHouseModel", "aside", "[I", true)
  | 3 => ("BudgetHouseModel", "hasImage", "Z", false)
  | 4 => ("BudgetHouseModel", "bSort", "[I", true)
  | 5 => ("BudgetHouseModel", "bSize", "[I", true)
  | 6 => ("BudgetHouseModel", "bNumber", "[I", true)
  | 7 => ("BudgetHouseModel", "yes", "I", false)
  | 8 => ("BudgetHouseModel", "noes", "I", false)
  | 9 => ("BudgetHouseModel", "present", "I", false)
  | 10 => ("BudgetHouseModel", "states", "[I", true)
  | 11 => ("BudgetHouseModel", "changes", "[I", true)
  | 12 => ("BudgetHouseModel", "worths", "[I", true)
  | 13 => ("BudgetHouseModel", "tape", "[I", true)
  | 14 => ("BudgetHouseModel", "taped", "I", false)
  | 15 => ("BudgetHouseModel", "begin", "I", false)
  | 16 => ("BudgetHouseModel", "behind", "I", false)
  | 17 => ("BudgetHouseModel", "token", "I", false)
  | 18 => ("BudgetHouseModel", "number", "I", false)
  | 19 => ("BudgetHouseModel", "letter", "I", false)
  | 20 => ("BudgetHouseModel", "deep", "I", false)
  | 21 => ("BudgetHouseModel", "turned", "I", false)
  | 22 => ("BudgetHouseModel", "laid", "I", false)
  | 23 => ("BudgetHouseModel", "laidAt", "I", false)
  | 24 => ("BudgetHouseModel", "said", "I", false)
  | 25 => ("BudgetHouseModel", "named", "[I", true)
  | 26 => ("BudgetHouseModel", "pile", "[I", true)
  | 27 => ("BudgetHouseModel", "sums", "[I", true)
  | 28 => ("BudgetHouseModel", "carried", "[I", true)
  | 29 => ("BudgetHouseModel", "lines", "[I", true)
  | 30 => ("BudgetHouseModel", "most", "[I", true)
  | 31 => ("BudgetHouseModel", "waits", "[I", true)
  | 32 => ("BudgetHouseModel", "waiting", "I", false)
  | 33 => ("BudgetHouseModel", "due", "[I", true)
  | _ => ("BudgetHouseModel", "dues", "I", false)
def tyX12 : Nat → FieldType := fun k => match k with
  | 0 => .array .int
  | 1 => .array .int
  | 2 => .array .int
  | 3 => .boolean
  | 4 => .array .int
  | 5 => .array .int
  | 6 => .array .int
  | 7 => .int
  | 8 => .int
  | 9 => .int
  | 10 => .array .int
  | 11 => .array .int
  | 12 => .array .int
  | 13 => .array .int
  | 14 => .int
  | 15 => .int
  | 16 => .int
  | 17 => .int
  | 18 => .int
  | 19 => .int
  | 20 => .int
  | 21 => .int
  | 22 => .int
  | 23 => .int
  | 24 => .int
  | 25 => .array .int
  | 26 => .array .int
  | 27 => .array .int
  | 28 => .array .int
  | 29 => .array .int
  | 30 => .array .int
  | 31 => .array .int
  | 32 => .int
  | 33 => .array .int
  | _ => .int
abbrev wsX120 : List Cond := u_ws RX12 TX12 35
theorem nmX12 : ∀ a, a < 35 → ∀ b, b < 35 → a ≠ b → (TX12 a).2.1 ≠ (TX12 b).2.1 := by decide +kernel
theorem tyX12_ok : ∀ k, k < 35 → parseFieldDescriptor (TX12 k).2.2.1 = some (tyX12 k) := by decide +kernel
abbrev cX12_init : ByteArray := prog_14_method_1_code
def yX12_init : MethodName := ⟨RX12, "<init>", "()V"⟩
abbrev cX12_isIn : ByteArray := prog_14_method_2_code
def yX12_isIn : MethodName := ⟨RX12, "isIn", "(JJJ)Z"⟩
abbrev cX12_orNone : ByteArray := prog_14_method_3_code
def yX12_orNone : MethodName := ⟨RX12, "orNone", "(I)I"⟩
abbrev cX12_held : ByteArray := prog_14_method_4_code
def yX12_held : MethodName := ⟨RX12, "held", "(I)I"⟩
abbrev cX12_ones : ByteArray := prog_14_method_5_code
def yX12_ones : MethodName := ⟨RX12, "ones", "(I)I"⟩
abbrev cX12_becomes : ByteArray := prog_14_method_6_code
def yX12_becomes : MethodName := ⟨RX12, "becomes", "(II)I"⟩
abbrev cX12_memberAt : ByteArray := prog_14_method_7_code
def yX12_memberAt : MethodName := ⟨RX12, "memberAt", "(I)I"⟩
abbrev cX12_pairAt : ByteArray := prog_14_method_8_code
def yX12_pairAt : MethodName := ⟨RX12, "pairAt", "(I)I"⟩
abbrev cX12_paperAt : ByteArray := prog_14_method_9_code
def yX12_paperAt : MethodName := ⟨RX12, "paperAt", "(I)I"⟩
abbrev cX12_textAt : ByteArray := prog_14_method_10_code
def yX12_textAt : MethodName := ⟨RX12, "textAt", "(I)I"⟩
abbrev cX12_isMember : ByteArray := prog_14_method_11_code
def yX12_isMember : MethodName := ⟨RX12, "isMember", "(I)Z"⟩
abbrev cX12_isPaper : ByteArray := prog_14_method_12_code
def yX12_isPaper : MethodName := ⟨RX12, "isPaper", "(I)Z"⟩
abbrev cX12_isText : ByteArray := prog_14_method_13_code
def yX12_isText : MethodName := ⟨RX12, "isText", "(I)Z"⟩
abbrev cX12_isParty : ByteArray := prog_14_method_14_code
def yX12_isParty : MethodName := ⟨RX12, "isParty", "(I)Z"⟩
abbrev cX12_isTongue : ByteArray := prog_14_method_15_code
def yX12_isTongue : MethodName := ⟨RX12, "isTongue", "(I)Z"⟩
abbrev cX12_kindOf : ByteArray := prog_14_method_16_code
def yX12_kindOf : MethodName := ⟨RX12, "kindOf", "(I)I"⟩
abbrev cX12_state : ByteArray := prog_14_method_17_code
def yX12_state : MethodName := ⟨RX12, "state", "(I)I"⟩
abbrev cX12_isLine : ByteArray := prog_14_method_18_code
def yX12_isLine : MethodName := ⟨RX12, "isLine", "(I)Z"⟩
abbrev cX12_isChange : ByteArray := prog_14_method_19_code
def yX12_isChange : MethodName := ⟨RX12, "isChange", "(I)Z"⟩
abbrev cX12_member : ByteArray := prog_14_method_20_code
def yX12_member : MethodName := ⟨RX12, "member", "(II)I"⟩
abbrev cX12_holds : ByteArray := prog_14_method_21_code
def yX12_holds : MethodName := ⟨RX12, "holds", "(I)Z"⟩
abbrev cX12_pairOf : ByteArray := prog_14_method_22_code
def yX12_pairOf : MethodName := ⟨RX12, "pairOf", "(I)I"⟩
abbrev cX12_is : ByteArray := prog_14_method_23_code
def yX12_is : MethodName := ⟨RX12, "is", "(II)I"⟩
abbrev cX12_train : ByteArray := prog_14_method_24_code
def yX12_train : MethodName := ⟨RX12, "train", "(II)I"⟩
abbrev cX12_go : ByteArray := prog_14_method_25_code
def yX12_go : MethodName := ⟨RX12, "go", "(II)I"⟩
abbrev cX12_pair : ByteArray := prog_14_method_26_code
def yX12_pair : MethodName := ⟨RX12, "pair", "(III)I"⟩
abbrev cX12_breaks : ByteArray := prog_14_method_27_code
def yX12_breaks : MethodName := ⟨RX12, "breaks", "(I)I"⟩
abbrev cX12_clock : ByteArray := prog_14_method_28_code
def yX12_clock : MethodName := ⟨RX12, "clock", "(I)I"⟩
abbrev cX12_arrive : ByteArray := prog_14_method_29_code
def yX12_arrive : MethodName := ⟨RX12, "arrive", "()V"⟩
abbrev cX12_minute : ByteArray := prog_14_method_30_code
def yX12_minute : MethodName := ⟨RX12, "minute", "()V"⟩
abbrev cX12_run : ByteArray := prog_14_method_31_code
def yX12_run : MethodName := ⟨RX12, "run", "(I)I"⟩
abbrev cX12_fits : ByteArray := prog_14_method_32_code
def yX12_fits : MethodName := ⟨RX12, "fits", "(III)Z"⟩
abbrev cX12_newPaper : ByteArray := prog_14_method_33_code
def yX12_newPaper : MethodName := ⟨RX12, "newPaper", "(IIIII)I"⟩
abbrev cX12_paper : ByteArray := prog_14_method_34_code
def yX12_paper : MethodName := ⟨RX12, "paper", "(III)I"⟩
abbrev cX12_hung : ByteArray := prog_14_method_35_code
def yX12_hung : MethodName := ⟨RX12, "hung", "(IIII)I"⟩
abbrev cX12_told : ByteArray := prog_14_method_36_code
def yX12_told : MethodName := ⟨RX12, "told", "(II)I"⟩
abbrev cX12_as : ByteArray := prog_14_method_37_code
def yX12_as : MethodName := ⟨RX12, "as", "(II)I"⟩
abbrev cX12_stance : ByteArray := prog_14_method_38_code
def yX12_stance : MethodName := ⟨RX12, "stance", "(III)I"⟩
abbrev cX12_print : ByteArray := prog_14_method_39_code
def yX12_print : MethodName := ⟨RX12, "print", "(III)I"⟩
abbrev cX12_hasRead : ByteArray := prog_14_method_40_code
def yX12_hasRead : MethodName := ⟨RX12, "hasRead", "(II)Z"⟩
abbrev cX12_read : ByteArray := prog_14_method_41_code
def yX12_read : MethodName := ⟨RX12, "read", "(II)I"⟩
abbrev cX12_isBound : ByteArray := prog_14_method_42_code
def yX12_isBound : MethodName := ⟨RX12, "isBound", "(II)Z"⟩
abbrev cX12_says : ByteArray := prog_14_method_43_code
def yX12_says : MethodName := ⟨RX12, "says", "(II)I"⟩
abbrev cX12_votes : ByteArray := prog_14_method_44_code
def yX12_votes : MethodName := ⟨RX12, "votes", "(IZ)Z"⟩
abbrev cX12_would : ByteArray := prog_14_method_45_code
def yX12_would : MethodName := ⟨RX12, "would", "(II)I"⟩
abbrev cX12_doesFall : ByteArray := prog_14_method_46_code
def yX12_doesFall : MethodName := ⟨RX12, "doesFall", "(I)Z"⟩
abbrev cX12_letFall : ByteArray := prog_14_method_47_code
def yX12_letFall : MethodName := ⟨RX12, "letFall", "()I"⟩
abbrev cX12_settleDeals : ByteArray := prog_14_method_48_code
def yX12_settleDeals : MethodName := ⟨RX12, "settleDeals", "()V"⟩
abbrev cX12_mayPut : ByteArray := prog_14_method_49_code
def yX12_mayPut : MethodName := ⟨RX12, "mayPut", "(I)Z"⟩
abbrev cX12_withLine : ByteArray := prog_14_method_50_code
def yX12_withLine : MethodName := ⟨RX12, "withLine", "(IZ)V"⟩
abbrev cX12_put : ByteArray := prog_14_method_51_code
def yX12_put : MethodName := ⟨RX12, "put", "(I)I"⟩
abbrev cX12_rule : ByteArray := prog_14_method_52_code
def yX12_rule : MethodName := ⟨RX12, "rule", "(I)I"⟩
abbrev cX12_mend : ByteArray := prog_14_method_53_code
def yX12_mend : MethodName := ⟨RX12, "mend", "(I)I"⟩
abbrev cX12_noChange : ByteArray := prog_14_method_54_code
def yX12_noChange : MethodName := ⟨RX12, "noChange", "(I)I"⟩
abbrev cX12_falls : ByteArray := prog_14_method_55_code
def yX12_falls : MethodName := ⟨RX12, "falls", "(I)I"⟩
abbrev cX12_isNever : ByteArray := prog_14_method_56_code
def yX12_isNever : MethodName := ⟨RX12, "isNever", "(I)Z"⟩
abbrev cX12_never : ByteArray := prog_14_method_57_code
def yX12_never : MethodName := ⟨RX12, "never", "(I)I"⟩
abbrev cX12_worthOf : ByteArray := prog_14_method_58_code
def yX12_worthOf : MethodName := ⟨RX12, "worthOf", "(II)I"⟩
abbrev cX12_findRow : ByteArray := prog_14_method_59_code
def yX12_findRow : MethodName := ⟨RX12, "findRow", "()I"⟩
abbrev cX12_row : ByteArray := prog_14_method_60_code
def yX12_row : MethodName := ⟨RX12, "row", "(I)I"⟩
abbrev cX12_bind : ByteArray := prog_14_method_61_code
def yX12_bind : MethodName := ⟨RX12, "bind", "(III)I"⟩
abbrev cX12_bindingSum : ByteArray := prog_14_method_62_code
def yX12_bindingSum : MethodName := ⟨RX12, "bindingSum", "(I)I"⟩
abbrev cX12_line : ByteArray := prog_14_method_63_code
def yX12_line : MethodName := ⟨RX12, "line", "(II)I"⟩
abbrev cX12_feed : ByteArray := prog_14_method_64_code
def yX12_feed : MethodName := ⟨RX12, "feed", "(III)I"⟩
abbrev cX12_trim : ByteArray := prog_14_method_65_code
def yX12_trim : MethodName := ⟨RX12, "trim", "(I)I"⟩
abbrev cX12_isLetter : ByteArray := prog_14_method_66_code
def yX12_isLetter : MethodName := ⟨RX12, "isLetter", "(I)Z"⟩
abbrev cX12_isDigit : ByteArray := prog_14_method_67_code
def yX12_isDigit : MethodName := ⟨RX12, "isDigit", "(I)Z"⟩
abbrev cX12_next : ByteArray := prog_14_method_68_code
def yX12_next : MethodName := ⟨RX12, "next", "()V"⟩
abbrev cX12_isSign : ByteArray := prog_14_method_69_code
def yX12_isSign : MethodName := ⟨RX12, "isSign", "(I)Z"⟩
abbrev cX12_isWordAt : ByteArray := prog_14_method_70_code
def yX12_isWordAt : MethodName := ⟨RX12, "isWordAt", "(IIII)Z"⟩
abbrev cX12_isFive : ByteArray := prog_14_method_71_code
def yX12_isFive : MethodName := ⟨RX12, "isFive", "(IIIII)Z"⟩
abbrev cX12_key : ByteArray := prog_14_method_72_code
def yX12_key : MethodName := ⟨RX12, "key", "()I"⟩
abbrev cX12_isName : ByteArray := prog_14_method_73_code
def yX12_isName : MethodName := ⟨RX12, "isName", "(II)Z"⟩
abbrev cX12_step : ByteArray := prog_14_method_74_code
def yX12_step : MethodName := ⟨RX12, "step", "(II)V"⟩
abbrev cX12_either : ByteArray := prog_14_method_75_code
def yX12_either : MethodName := ⟨RX12, "either", "(I)Z"⟩
abbrev cX12_both : ByteArray := prog_14_method_76_code
def yX12_both : MethodName := ⟨RX12, "both", "(I)Z"⟩
abbrev cX12_test : ByteArray := prog_14_method_77_code
def yX12_test : MethodName := ⟨RX12, "test", "(I)Z"⟩
abbrev cX12_sum : ByteArray := prog_14_method_78_code
def yX12_sum : MethodName := ⟨RX12, "sum", "(I)Z"⟩
abbrev cX12_term : ByteArray := prog_14_method_79_code
def yX12_term : MethodName := ⟨RX12, "term", "(I)Z"⟩
abbrev cX12_part0 : ByteArray := prog_14_method_80_code
def yX12_part0 : MethodName := ⟨RX12, "part0", "(I)Z"⟩
abbrev cX12_parse : ByteArray := prog_14_method_81_code
def yX12_parse : MethodName := ⟨RX12, "parse", "()I"⟩
abbrev cX12_text : ByteArray := prog_14_method_82_code
def yX12_text : MethodName := ⟨RX12, "text", "(I)I"⟩
abbrev cX12_of : ByteArray := prog_14_method_83_code
def yX12_of : MethodName := ⟨RX12, "of", "(II)I"⟩
abbrev cX12_counts : ByteArray := prog_14_method_84_code
def yX12_counts : MethodName := ⟨RX12, "counts", "(I)I"⟩
abbrev cX12_why : ByteArray := prog_14_method_85_code
def yX12_why : MethodName := ⟨RX12, "why", "(I)I"⟩
abbrev cX12_joined : ByteArray := prog_14_method_86_code
def yX12_joined : MethodName := ⟨RX12, "joined", "(III)I"⟩
abbrev cX12_worked : ByteArray := prog_14_method_87_code
def yX12_worked : MethodName := ⟨RX12, "worked", "(I)I"⟩
abbrev cX12_income : ByteArray := prog_14_method_88_code
def yX12_income : MethodName := ⟨RX12, "income", "(II)I"⟩
abbrev cX12_isGiven : ByteArray := prog_14_method_89_code
def yX12_isGiven : MethodName := ⟨RX12, "isGiven", "(I)Z"⟩
abbrev cX12_incomes : ByteArray := prog_14_method_90_code
def yX12_incomes : MethodName := ⟨RX12, "incomes", "(I)I"⟩
abbrev cX12_balance : ByteArray := prog_14_method_91_code
def yX12_balance : MethodName := ⟨RX12, "balance", "(I)I"⟩
abbrev cX12_first : ByteArray := prog_14_method_92_code
def yX12_first : MethodName := ⟨RX12, "first", "()I"⟩
abbrev cX12_isOffice : ByteArray := prog_14_method_93_code
def yX12_isOffice : MethodName := ⟨RX12, "isOffice", "(I)Z"⟩
abbrev cX12_book : ByteArray := prog_14_method_94_code
def yX12_book : MethodName := ⟨RX12, "book", "(III)I"⟩
abbrev cX12_note : ByteArray := prog_14_method_95_code
def yX12_note : MethodName := ⟨RX12, "note", "(III)I"⟩
abbrev cX12_readBy : ByteArray := prog_14_method_96_code
def yX12_readBy : MethodName := ⟨RX12, "readBy", "(II)I"⟩
abbrev cX12_looks : ByteArray := prog_14_method_97_code
def yX12_looks : MethodName := ⟨RX12, "looks", "(II)I"⟩
abbrev cX12_copy : ByteArray := prog_14_method_98_code
def yX12_copy : MethodName := ⟨RX12, "copy", "(IIIII)I"⟩
abbrev cX12_span : ByteArray := prog_14_method_99_code
def yX12_span : MethodName := ⟨RX12, "span", "(II)I"⟩
abbrev cX12_wish : ByteArray := prog_14_method_100_code
def yX12_wish : MethodName := ⟨RX12, "wish", "(II)I"⟩
abbrev cX12_findLines : ByteArray := prog_14_method_101_code
def yX12_findLines : MethodName := ⟨RX12, "findLines", "()I"⟩
abbrev cX12_membersFor : ByteArray := prog_14_method_102_code
def yX12_membersFor : MethodName := ⟨RX12, "membersFor", "(II)I"⟩
abbrev cX12_carry : ByteArray := prog_14_method_103_code
def yX12_carry : MethodName := ⟨RX12, "carry", "(II)I"⟩
abbrev cX12_interpreter : ByteArray := prog_14_method_104_code
def yX12_interpreter : MethodName := ⟨RX12, "interpreter", "()I"⟩
abbrev cX12_speaks : ByteArray := prog_14_method_105_code
def yX12_speaks : MethodName := ⟨RX12, "speaks", "(III)I"⟩
abbrev cX12_speech : ByteArray := prog_14_method_106_code
def yX12_speech : MethodName := ⟨RX12, "speech", "(III)I"⟩
abbrev cX12_hears : ByteArray := prog_14_method_107_code
def yX12_hears : MethodName := ⟨RX12, "hears", "(II)I"⟩
abbrev cX12_heardBy : ByteArray := prog_14_method_108_code
def yX12_heardBy : MethodName := ⟨RX12, "heardBy", "(IIII)I"⟩
abbrev cX12_findShift : ByteArray := prog_14_method_109_code
def yX12_findShift : MethodName := ⟨RX12, "findShift", "(I)I"⟩
abbrev cX12_heard : ByteArray := prog_14_method_110_code
def yX12_heard : MethodName := ⟨RX12, "heard", "(I)I"⟩
abbrev cX12_shift : ByteArray := prog_14_method_111_code
def yX12_shift : MethodName := ⟨RX12, "shift", "(II)I"⟩
abbrev cX12_offer : ByteArray := prog_14_method_112_code
def yX12_offer : MethodName := ⟨RX12, "offer", "(IIII)I"⟩
abbrev cX12_sumOf : ByteArray := prog_14_method_113_code
def yX12_sumOf : MethodName := ⟨RX12, "sumOf", "(II)I"⟩
abbrev cX12_goesTogether : ByteArray := prog_14_method_114_code
def yX12_goesTogether : MethodName := ⟨RX12, "goesTogether", "(I)Z"⟩
abbrev cX12_findNight : ByteArray := prog_14_method_115_code
def yX12_findNight : MethodName := ⟨RX12, "findNight", "(II)I"⟩
abbrev cX12_isNight : ByteArray := prog_14_method_116_code
def yX12_isNight : MethodName := ⟨RX12, "isNight", "(II)Z"⟩
abbrev cX12_night : ByteArray := prog_14_method_117_code
def yX12_night : MethodName := ⟨RX12, "night", "(III)I"⟩
abbrev cX12_tell : ByteArray := prog_14_method_118_code
def yX12_tell : MethodName := ⟨RX12, "tell", "(I)I"⟩
abbrev cX12_setAside : ByteArray := prog_14_method_119_code
def yX12_setAside : MethodName := ⟨RX12, "setAside", "([I[I)V"⟩
abbrev cX12_dueIs : ByteArray := prog_14_method_120_code
def yX12_dueIs : MethodName := ⟨RX12, "dueIs", "(II)V"⟩
abbrev cX12_rowsOfNight : ByteArray := prog_14_method_121_code
def yX12_rowsOfNight : MethodName := ⟨RX12, "rowsOfNight", "(II)I"⟩
abbrev cX12_present : ByteArray := prog_14_method_122_code
def yX12_present : MethodName := ⟨RX12, "present", "()I"⟩
abbrev cX12_rowsTold : ByteArray := prog_14_method_123_code
def yX12_rowsTold : MethodName := ⟨RX12, "rowsTold", "(I)I"⟩
abbrev cX12_check : ByteArray := prog_14_method_124_code
def yX12_check : MethodName := ⟨RX12, "check", "(III)I"⟩
abbrev cX12_keep : ByteArray := prog_14_method_125_code
def yX12_keep : MethodName := ⟨RX12, "keep", "()I"⟩
abbrev cX12_back : ByteArray := prog_14_method_126_code
def yX12_back : MethodName := ⟨RX12, "back", "()I"⟩
abbrev cX12_count : ByteArray := prog_14_method_127_code
def yX12_count : MethodName := ⟨RX12, "count", "(I)I"⟩
def RJ6 : String := "java/lang/Integer"
def TJ6 : u_T := fun k => match k with
  | _ => ("", "", "", false)
def tyJ6 : Nat → FieldType := fun k => match k with
  | _ => .int
abbrev wsJ60 : List Cond := u_ws RJ6 TJ6 0
abbrev cJ6_compare_7cf53 : ByteArray := prog_15_method_40_code
def yJ6_compare_7cf53 : MethodName := ⟨RJ6, "compare", "(II)I"⟩
abbrev cJ6_bitCount_0f7a4 : ByteArray := prog_15_method_49_code
def yJ6_bitCount_0f7a4 : MethodName := ⟨RJ6, "bitCount", "(I)I"⟩
def RJ9 : String := "java/lang/Math"
def TJ9 : u_T := fun k => match k with
  | _ => ("", "", "", false)
def tyJ9 : Nat → FieldType := fun k => match k with
  | _ => .int
abbrev wsJ90 : List Cond := u_ws RJ9 TJ9 0
abbrev cJ9_max_7cf53 : ByteArray := prog_16_method_65_code
def yJ9_max_7cf53 : MethodName := ⟨RJ9, "max", "(II)I"⟩
abbrev cJ9_min_7cf53 : ByteArray := prog_16_method_69_code
def yJ9_min_7cf53 : MethodName := ⟨RJ9, "min", "(II)I"⟩
def RJ0 : String := "java/lang/String"
def TJ0 : u_T := fun k => match k with
  | _ => ("", "", "", false)
def tyJ0 : Nat → FieldType := fun k => match k with
  | _ => .int
abbrev wsJ00 : List Cond := u_ws RJ0 TJ0 0
abbrev cJ0_length_8abf5 : ByteArray := prog_17_method_54_code
def yJ0_length_8abf5 : MethodName := ⟨RJ0, "length", "()I"⟩
abbrev cJ0_charAt_5068e : ByteArray := prog_17_method_56_code
def yJ0_charAt_5068e : MethodName := ⟨RJ0, "charAt", "(I)C"⟩
abbrev cJ0_coder_7d493 : ByteArray := prog_17_method_152_code
def yJ0_coder_7d493 : MethodName := ⟨RJ0, "coder", "()B"⟩
abbrev cJ0_isLatin1_aae02 : ByteArray := prog_17_method_154_code
def yJ0_isLatin1_aae02 : MethodName := ⟨RJ0, "isLatin1", "()Z"⟩
abbrev cJ0_checkIndex_df160 : ByteArray := prog_17_method_155_code
def yJ0_checkIndex_df160 : MethodName := ⟨RJ0, "checkIndex", "(II)V"⟩
def RJ1 : String := "java/lang/StringLatin1"
def TJ1 : u_T := fun k => match k with
  | _ => ("", "", "", false)
def tyJ1 : Nat → FieldType := fun k => match k with
  | _ => .int
abbrev wsJ10 : List Cond := u_ws RJ1 TJ1 0
abbrev cJ1_charAt_3b067 : ByteArray := prog_18_method_2_code
def yJ1_charAt_3b067 : MethodName := ⟨RJ1, "charAt", "([BI)C"⟩
def RJ2 : String := "java/lang/StringUTF16"
def TJ2 : u_T := fun k => match k with
  | _ => ("", "", "", false)
def tyJ2 : Nat → FieldType := fun k => match k with
  | _ => .int
abbrev wsJ20 : List Cond := u_ws RJ2 TJ2 0
abbrev cJ2_getChar_3b067 : ByteArray := prog_19_method_5_code
def yJ2_getChar_3b067 : MethodName := ⟨RJ2, "getChar", "([BI)C"⟩
abbrev cJ2_length_9d52b : ByteArray := prog_19_method_6_code
def yJ2_length_9d52b : MethodName := ⟨RJ2, "length", "([B)I"⟩
abbrev cJ2_charAt_3b067 : ByteArray := prog_19_method_83_code
def yJ2_charAt_3b067 : MethodName := ⟨RJ2, "charAt", "([BI)C"⟩
abbrev cJ2_checkIndex_2214a : ByteArray := prog_19_method_91_code
def yJ2_checkIndex_2214a : MethodName := ⟨RJ2, "checkIndex", "(I[B)V"⟩
def RJ3 : String := "jdk/internal/util/Preconditions"
def TJ3 : u_T := fun k => match k with
  | _ => ("", "", "", false)
def tyJ3 : Nat → FieldType := fun k => match k with
  | _ => .int
abbrev wsJ30 : List Cond := u_ws RJ3 TJ3 0
abbrev cJ3_checkIndex_8e157 : ByteArray := prog_20_method_11_code
def yJ3_checkIndex_8e157 : MethodName := ⟨RJ3, "checkIndex", "(IILjava/util/function/BiFunction;)I"⟩
def RL : String := "BudgetHouseLaw"
abbrev cL_law : ByteArray := code
def yL_law : MethodName := ⟨RL, "law", "([I)Z"⟩
abbrev vwCl : List vw_C := [(RX0, TX0, 4), (RX1, TX1, 19), (RX2, TX2, 10), (RX3, TX3, 8), (RX4, TX4, 13), (RX5, TX5, 9), (RX6, TX6, 4), (RX7, TX7, 4), (RX8, TX8, 2), (RX9, TX9, 9), (RX10, TX10, 7), (RX11, TX11, 9), (RX12, TX12, 35)]
end
section
/-- a method: its name, its bytes, its locals, what it returns, the number of its class -/
abbrev mMd : Type := MethodName × ByteArray × Nat × Option FieldType × Nat
def mjCls : List String := [RX0, RX1, RX2, RX3, RX4, RX5, RX6, RX7, RX8, RX9, RX10, RX11, RX12, RL, RJ6, RJ9, RJ0, RJ1, RJ3]
def mjM_1 : List mMd := [(yX0_init, cX0_init, 1, none, 0), (yX0_open, cX0_open, 5, (some .int), 0), (yX0_isOffice, cX0_isOffice, 2, (some .boolean), 0), (yX0_hasYear, cX0_hasYear, 3, (some .boolean), 0), (yX0_refusalOfYear, cX0_refusalOfYear, 3, (some .int), 0), (yX0_write, cX0_write, 5, (some .int), 0), (yX0_yearRead, cX0_yearRead, 4, (some .int), 0), (yX0_readAt, cX0_readAt, 5, (some .int), 0), (yX0_reaches, cX0_reaches, 4, (some .boolean), 0), (yX0_carryOver, cX0_carryOver, 7, (some .int), 0), (yX0_spanOf, cX0_spanOf, 9, (some .int), 0), (yX1_init, cX1_init, 1, none, 1), (yX1_become, cX1_become, 2, none, 1), (yX1_hourNow, cX1_hourNow, 1, (some .int), 1), (yX1_setStopped, cX1_setStopped, 3, (some .int), 1), (yX1_goOn, cX1_goOn, 3, (some .int), 1), (yX1_hasRead, cX1_hasRead, 3, (some .boolean), 1), (yX1_voiceOf, cX1_voiceOf, 4, (some .int), 1), (yX1_poll, cX1_poll, 4, none, 1), (yX1_countVoters, cX1_countVoters, 3, none, 1), (yX1_polledPasses, cX1_polledPasses, 3, (some .boolean), 1), (yX1_mayBePut, cX1_mayBePut, 3, (some .boolean), 1), (yX1_voteFact, cX1_voteFact, 4, (some .int), 1), (yX1_putToVote, cX1_putToVote, 4, (some .int), 1), (yX1_letRulingWork, cX1_letRulingWork, 2, (some .int), 1), (yX1_worthInOrder, cX1_worthInOrder, 4, (some .int), 1), (yX1_layRow, cX1_layRow, 4, (some .int), 1), (yX1_placeInRow, cX1_placeInRow, 5, none, 1), (yX1_inRow, cX1_inRow, 2, (some .int), 1), (yX1_bindWorth, cX1_bindWorth, 4, (some .int), 1), (yX1_bindingSum, cX1_bindingSum, 8, (some .int), 1), (yX1_lineFact, cX1_lineFact, 3, (some .int), 1), (yX1_addIncome, cX1_addIncome, 3, (some .int), 1), (yX1_incomeAt, cX1_incomeAt, 4, (some .int), 1), (yX1_balanceFact, cX1_balanceFact, 2, (some .int), 1), (yX1_breakInRow, cX1_breakInRow, 7, (some .int), 1), (yX1_tellNight, cX1_tellNight, 6, (some .int), 1), (yX1_countOf, cX1_countOf, 2, (some .int), 1), (yX2_init, cX2_init, 1, none, 2), (yX2_become, cX2_become, 2, none, 2), (yX2_has, cX2_has, 2, (some .boolean), 2), (yX2_add, cX2_add, 3, (some .int), 2), (yX2_factOf, cX2_factOf, 4, (some .int), 2), (yX2_partyOf, cX2_partyOf, 2, (some .int), 2), (yX2_tonguesOf, cX2_tonguesOf, 2, (some .int), 2), (yX2_isIn, cX2_isIn, 2, (some .boolean), 2), (yX2_isPresent, cX2_isPresent, 3, (some .boolean), 2), (yX2_countVote, cX2_countVote, 2, none, 2), (yX2_setTrain, cX2_setTrain, 5, (some .int), 2), (yX2_setIn, cX2_setIn, 4, (some .int), 2), (yX2_leaves, cX2_leaves, 4, (some .boolean), 2), (yX2_leaveBetween, cX2_leaveBetween, 4, none, 2), (yX2_stillIn, cX2_stillIn, 5, (some .int), 2), (yX2_inOfParty, cX2_inOfParty, 4, (some .int), 2), (yX2_holds, cX2_holds, 3, (some .boolean), 2), (yX2_pairOf, cX2_pairOf, 4, (some .int), 2), (yX2_addPair, cX2_addPair, 5, (some .int), 2), (yX2_breakPair, cX2_breakPair, 3, (some .int), 2), (yX2_pairsThatHold, cX2_pairsThatHold, 4, (some .int), 2), (yX3_init, cX3_init, 1, none, 3)]
def mjM_2 : List mMd := [(yX3_become, cX3_become, 2, none, 3), (yX3_add, cX3_add, 5, (some .int), 3), (yX3_sumOf, cX3_sumOf, 5, (some .int), 3), (yX3_agrees, cX3_agrees, 3, (some .boolean), 3), (yX3_searchNight, cX3_searchNight, 5, (some .int), 3), (yX3_takeIfLess, cX3_takeIfLess, 5, none, 3), (yX3_nightFact, cX3_nightFact, 5, (some .int), 3), (yX3_nightRows, cX3_nightRows, 8, (some .int), 3), (yX4_init, cX4_init, 1, none, 4), (yX4_become, cX4_become, 2, none, 4), (yX4_has, cX4_has, 2, (some .boolean), 4), (yX4_kindOf, cX4_kindOf, 2, (some .int), 4), (yX4_aOf, cX4_aOf, 2, (some .int), 4), (yX4_bOf, cX4_bOf, 2, (some .int), 4), (yX4_stateOf, cX4_stateOf, 2, (some .int), 4), (yX4_cameOf, cX4_cameOf, 2, (some .int), 4), (yX4_stanceOf, cX4_stanceOf, 3, (some .int), 4), (yX4_isLine, cX4_isLine, 2, (some .boolean), 4), (yX4_isChange, cX4_isChange, 2, (some .boolean), 4), (yX4_isOpenOn, cX4_isOpenOn, 4, (some .boolean), 4), (yX4_isOpenChangeTo, cX4_isOpenChangeTo, 3, (some .boolean), 4), (yX4_isRiderOn, cX4_isRiderOn, 3, (some .boolean), 4), (yX4_costs, cX4_costs, 2, (some .boolean), 4), (yX4_suits, cX4_suits, 4, (some .boolean), 4), (yX4_add, cX4_add, 4, (some .int), 4), (yX4_addHung, cX4_addHung, 5, (some .int), 4), (yX4_addAny, cX4_addAny, 8, (some .int), 4), (yX4_factOf, cX4_factOf, 3, (some .int), 4), (yX4_seenAs, cX4_seenAs, 3, (some .int), 4), (yX4_isUnder, cX4_isUnder, 3, (some .boolean), 4), (yX4_setStance, cX4_setStance, 6, (some .int), 4), (yX4_comeIn, cX4_comeIn, 3, none, 4), (yX4_isBound, cX4_isBound, 4, (some .boolean), 4), (yX4_isReady, cX4_isReady, 2, (some .boolean), 4), (yX4_comesWith, cX4_comesWith, 2, (some .boolean), 4), (yX4_setVote, cX4_setVote, 5, none, 4), (yX4_decide, cX4_decide, 3, none, 4), (yX4_decideWith, cX4_decideWith, 4, none, 4), (yX4_addMore, cX4_addMore, 3, none, 4), (yX4_letFall, cX4_letFall, 4, (some .int), 4), (yX4_fallsNow, cX4_fallsNow, 4, (some .boolean), 4), (yX4_settleDeals, cX4_settleDeals, 2, none, 4), (yX4_letRulingWork, cX4_letRulingWork, 4, (some .int), 4), (yX4_voidAllOn, cX4_voidAllOn, 5, (some .int), 4), (yX4_mendLine, cX4_mendLine, 2, (some .int), 4), (yX4_refusalOfChange, cX4_refusalOfChange, 2, (some .int), 4), (yX4_fallingWith, cX4_fallingWith, 3, (some .int), 4), (yX4_neverOf, cX4_neverOf, 3, (some .int), 4), (yX4_isNever, cX4_isNever, 4, (some .boolean), 4), (yX4_unlikeTongues, cX4_unlikeTongues, 4, (some .int), 4), (yX4_openChanges, cX4_openChanges, 4, (some .int), 4), (yX4_ridersOn, cX4_ridersOn, 4, (some .int), 4), (yX4_sumOf, cX4_sumOf, 6, (some .int), 4), (yX4_inState, cX4_inState, 4, (some .int), 4), (yX5_init, cX5_init, 1, none, 5), (yX5_faultOf, cX5_faultOf, 7, (some .int), 5), (yX5_startAnew, cX5_startAnew, 1, none, 5), (yX5_keyOf, cX5_keyOf, 4, (some .int), 5), (yX5_namesOf, cX5_namesOf, 2, (some (.object "java/lang/String")), 5), (yX5_takePart, cX5_takePart, 6, (some .int), 5)]
def mjM_3 : List mMd := [(yX5_numberAt, cX5_numberAt, 6, (some .int), 5), (yX5_nameAt, cX5_nameAt, 6, (some .int), 5), (yX5_takeSign, cX5_takeSign, 5, (some .int), 5), (yX5_rankOf, cX5_rankOf, 2, (some .int), 5), (yX5_closeBracket, cX5_closeBracket, 1, (some .boolean), 5), (yX5_endPart, cX5_endPart, 1, none, 5), (yX5_layDownFrom, cX5_layDownFrom, 2, none, 5), (yX5_layDown, cX5_layDown, 2, none, 5), (yX5_waitWith, cX5_waitWith, 2, none, 5), (yX5_lastWaiting, cX5_lastWaiting, 1, (some .int), 5), (yX6_init, cX6_init, 1, none, 6), (yX6_become, cX6_become, 2, none, 6), (yX6_add, cX6_add, 6, (some .int), 6), (yX6_comeTill, cX6_comeTill, 5, none, 6), (yX6_onWayBehind, cX6_onWayBehind, 4, (some .int), 6), (yX7_init, cX7_init, 1, none, 7), (yX7_become, cX7_become, 2, none, 7), (yX7_add, cX7_add, 1, (some .int), 7), (yX7_isTongue, cX7_isTongue, 2, (some .boolean), 7), (yX7_bitOf, cX7_bitOf, 4, (some .int), 7), (yX7_addTwo, cX7_addTwo, 4, (some .int), 7), (yX7_setSpeech, cX7_setSpeech, 4, (some .int), 7), (yX7_mostHeard, cX7_mostHeard, 2, (some .int), 7), (yX7_interpreterIn, cX7_interpreterIn, 7, (some .int), 7), (yX7_weigh, cX7_weigh, 4, none, 7), (yX7_place, cX7_place, 5, (some .int), 7), (yX7_mostFrom, cX7_mostFrom, 4, (some .int), 7), (yX7_bestFrom, cX7_bestFrom, 6, (some .int), 7), (yX7_firstBest, cX7_firstBest, 5, (some .int), 7), (yX7_canTake, cX7_canTake, 4, (some .boolean), 7), (yX7_heardWith, cX7_heardWith, 5, (some .int), 7), (yX7_heardIn, cX7_heardIn, 3, (some .int), 7), (yX8_init, cX8_init, 1, none, 8), (yX8_take, cX8_take, 4, (some .int), 8), (yX8_takeFour, cX8_takeFour, 3, none, 8), (yX8_cutTo, cX8_cutTo, 2, (some .int), 8), (yX8_useUp, cX8_useUp, 1, none, 8), (yX8_byteAt, cX8_byteAt, 2, (some .int), 8), (yX8_isDigit, cX8_isDigit, 2, (some .boolean), 8), (yX8_isLetter, cX8_isLetter, 2, (some .boolean), 8), (yX8_behindBlanks, cX8_behindBlanks, 3, (some .int), 8), (yX8_behindWord, cX8_behindWord, 3, (some .int), 8), (yX8_isWord, cX8_isWord, 5, (some .boolean), 8), (yX9_init, cX9_init, 1, none, 9), (yX9_become, cX9_become, 2, none, 9), (yX9_add, cX9_add, 4, (some .int), 9), (yX9_factOf, cX9_factOf, 3, (some .int), 9), (yX9_counting, cX9_counting, 6, (some .int), 9), (yX9_worthOf, cX9_worthOf, 7, (some .int), 9), (yX9_workOut, cX9_workOut, 3, none, 9), (yX9_push, cX9_push, 2, none, 9), (yX9_popped, cX9_popped, 1, (some .int), 9), (yX9_worthOfSign, cX9_worthOfSign, 4, (some .int), 9), (yX10_init, cX10_init, 1, none, 10), (yX10_become, cX10_become, 2, none, 10), (yX10_setWish, cX10_setWish, 4, (some .int), 10), (yX10_leastThatCarries, cX10_leastThatCarries, 6, (some .int), 10), (yX10_takeLines, cX10_takeLines, 3, none, 10), (yX10_searchSets, cX10_searchSets, 5, none, 10), (yX10_isLess, cX10_isLess, 3, (some .boolean), 10)]
def mjM_4 : List mMd := [(yX10_sumOf, cX10_sumOf, 4, (some .int), 10), (yX10_voicesFor, cX10_voicesFor, 6, (some .int), 10), (yX11_init, cX11_init, 1, none, 11), (yX11_member, cX11_member, 3, (some .int), 11), (yX11_is, cX11_is, 3, (some .int), 11), (yX11_train, cX11_train, 3, (some .int), 11), (yX11_go, cX11_go, 3, (some .int), 11), (yX11_pair, cX11_pair, 4, (some .int), 11), (yX11_breaks, cX11_breaks, 2, (some .int), 11), (yX11_clock, cX11_clock, 2, (some .int), 11), (yX11_run, cX11_run, 2, (some .int), 11), (yX11_paper, cX11_paper, 4, (some .int), 11), (yX11_hung, cX11_hung, 5, (some .int), 11), (yX11_told, cX11_told, 3, (some .int), 11), (yX11_as, cX11_as, 3, (some .int), 11), (yX11_stance, cX11_stance, 4, (some .int), 11), (yX11_print, cX11_print, 4, (some .int), 11), (yX11_read, cX11_read, 3, (some .int), 11), (yX11_would, cX11_would, 3, (some .int), 11), (yX11_put, cX11_put, 2, (some .int), 11), (yX11_rule, cX11_rule, 2, (some .int), 11), (yX11_mend, cX11_mend, 2, (some .int), 11), (yX11_falls, cX11_falls, 2, (some .int), 11), (yX11_never, cX11_never, 2, (some .int), 11), (yX11_row, cX11_row, 2, (some .int), 11), (yX11_line, cX11_line, 3, (some .int), 11), (yX11_feed, cX11_feed, 4, (some .int), 11), (yX11_trim, cX11_trim, 2, (some .int), 11), (yX11_text, cX11_text, 3, (some .int), 11), (yX11_of, cX11_of, 3, (some .int), 11), (yX11_why, cX11_why, 2, (some .int), 11), (yX11_income, cX11_income, 3, (some .int), 11), (yX11_balance, cX11_balance, 2, (some .int), 11), (yX11_first, cX11_first, 1, (some .int), 11), (yX11_book, cX11_book, 4, (some .int), 11), (yX11_note, cX11_note, 4, (some .int), 11), (yX11_looks, cX11_looks, 3, (some .int), 11), (yX11_copy, cX11_copy, 6, (some .int), 11), (yX11_span, cX11_span, 3, (some .int), 11), (yX11_wish, cX11_wish, 3, (some .int), 11), (yX11_carry, cX11_carry, 3, (some .int), 11), (yX11_interpreter, cX11_interpreter, 1, (some .int), 11), (yX11_speaks, cX11_speaks, 4, (some .int), 11), (yX11_speech, cX11_speech, 4, (some .int), 11), (yX11_heard, cX11_heard, 2, (some .int), 11), (yX11_shift, cX11_shift, 3, (some .int), 11), (yX11_offer, cX11_offer, 5, (some .int), 11), (yX11_night, cX11_night, 4, (some .int), 11), (yX11_tell, cX11_tell, 2, (some .int), 11), (yX11_check, cX11_check, 6, (some .int), 11), (yX11_keep, cX11_keep, 1, (some .int), 11), (yX11_back, cX11_back, 1, (some .int), 11), (yX11_count, cX11_count, 2, (some .int), 11), (yX11_firstUnlike, cX11_firstUnlike, 5, (some .int), 11), (yX11_within, cX11_within, 3, (some .boolean), 11), (yX11_isTwo, cX11_isTwo, 3, (some .boolean), 11), (yX11_heldSum, cX11_heldSum, 1, (some .int), 11), (yX11_copyRow, cX11_copyRow, 4, none, 11), (yX12_init, cX12_init, 2, none, 12), (yX12_isIn, cX12_isIn, 6, (some .boolean), 12)]
def mjM_5 : List mMd := [(yX12_orNone, cX12_orNone, 1, (some .int), 12), (yX12_held, cX12_held, 1, (some .int), 12), (yX12_ones, cX12_ones, 3, (some .int), 12), (yX12_becomes, cX12_becomes, 4, (some .int), 12), (yX12_memberAt, cX12_memberAt, 2, (some .int), 12), (yX12_pairAt, cX12_pairAt, 2, (some .int), 12), (yX12_paperAt, cX12_paperAt, 2, (some .int), 12), (yX12_textAt, cX12_textAt, 2, (some .int), 12), (yX12_isMember, cX12_isMember, 2, (some .boolean), 12), (yX12_isPaper, cX12_isPaper, 2, (some .boolean), 12), (yX12_isText, cX12_isText, 2, (some .boolean), 12), (yX12_isParty, cX12_isParty, 1, (some .boolean), 12), (yX12_isTongue, cX12_isTongue, 1, (some .boolean), 12), (yX12_kindOf, cX12_kindOf, 2, (some .int), 12), (yX12_state, cX12_state, 2, (some .int), 12), (yX12_isLine, cX12_isLine, 2, (some .boolean), 12), (yX12_isChange, cX12_isChange, 2, (some .boolean), 12), (yX12_member, cX12_member, 4, (some .int), 12), (yX12_holds, cX12_holds, 3, (some .boolean), 12), (yX12_pairOf, cX12_pairOf, 5, (some .int), 12), (yX12_is, cX12_is, 4, (some .int), 12), (yX12_train, cX12_train, 3, (some .int), 12), (yX12_go, cX12_go, 3, (some .int), 12), (yX12_pair, cX12_pair, 5, (some .int), 12), (yX12_breaks, cX12_breaks, 2, (some .int), 12), (yX12_clock, cX12_clock, 2, (some .int), 12), (yX12_arrive, cX12_arrive, 5, none, 12), (yX12_minute, cX12_minute, 3, none, 12), (yX12_run, cX12_run, 3, (some .int), 12), (yX12_fits, cX12_fits, 4, (some .boolean), 12), (yX12_newPaper, cX12_newPaper, 8, (some .int), 12), (yX12_paper, cX12_paper, 4, (some .int), 12), (yX12_hung, cX12_hung, 5, (some .int), 12), (yX12_told, cX12_told, 4, (some .int), 12), (yX12_as, cX12_as, 5, (some .int), 12), (yX12_stance, cX12_stance, 4, (some .int), 12), (yX12_print, cX12_print, 5, (some .int), 12), (yX12_hasRead, cX12_hasRead, 3, (some .boolean), 12), (yX12_read, cX12_read, 3, (some .int), 12), (yX12_isBound, cX12_isBound, 6, (some .boolean), 12), (yX12_says, cX12_says, 5, (some .int), 12), (yX12_votes, cX12_votes, 5, (some .boolean), 12), (yX12_would, cX12_would, 4, (some .int), 12), (yX12_doesFall, cX12_doesFall, 4, (some .boolean), 12), (yX12_letFall, cX12_letFall, 3, (some .int), 12), (yX12_settleDeals, cX12_settleDeals, 3, none, 12), (yX12_mayPut, cX12_mayPut, 4, (some .boolean), 12), (yX12_withLine, cX12_withLine, 5, none, 12), (yX12_put, cX12_put, 5, (some .int), 12), (yX12_rule, cX12_rule, 7, (some .int), 12), (yX12_mend, cX12_mend, 2, (some .int), 12), (yX12_noChange, cX12_noChange, 2, (some .int), 12), (yX12_falls, cX12_falls, 5, (some .int), 12), (yX12_isNever, cX12_isNever, 4, (some .boolean), 12), (yX12_never, cX12_never, 3, (some .int), 12), (yX12_worthOf, cX12_worthOf, 5, (some .int), 12), (yX12_findRow, cX12_findRow, 6, (some .int), 12), (yX12_row, cX12_row, 2, (some .int), 12), (yX12_bind, cX12_bind, 4, (some .int), 12), (yX12_bindingSum, cX12_bindingSum, 7, (some .int), 12)]
def mjM_6 : List mMd := [(yX12_line, cX12_line, 8, (some .int), 12), (yX12_feed, cX12_feed, 6, (some .int), 12), (yX12_trim, cX12_trim, 2, (some .int), 12), (yX12_isLetter, cX12_isLetter, 2, (some .boolean), 12), (yX12_isDigit, cX12_isDigit, 2, (some .boolean), 12), (yX12_next, cX12_next, 3, none, 12), (yX12_isSign, cX12_isSign, 2, (some .boolean), 12), (yX12_isWordAt, cX12_isWordAt, 6, (some .boolean), 12), (yX12_isFive, cX12_isFive, 6, (some .boolean), 12), (yX12_key, cX12_key, 2, (some .int), 12), (yX12_isName, cX12_isName, 2, (some .boolean), 12), (yX12_step, cX12_step, 3, none, 12), (yX12_either, cX12_either, 2, (some .boolean), 12), (yX12_both, cX12_both, 2, (some .boolean), 12), (yX12_test, cX12_test, 3, (some .boolean), 12), (yX12_sum, cX12_sum, 3, (some .boolean), 12), (yX12_term, cX12_term, 3, (some .boolean), 12), (yX12_part0, cX12_part0, 2, (some .boolean), 12), (yX12_parse, cX12_parse, 3, (some .int), 12), (yX12_text, cX12_text, 5, (some .int), 12), (yX12_of, cX12_of, 3, (some .int), 12), (yX12_counts, cX12_counts, 5, (some .int), 12), (yX12_why, cX12_why, 2, (some .int), 12), (yX12_joined, cX12_joined, 3, (some .int), 12), (yX12_worked, cX12_worked, 6, (some .int), 12), (yX12_income, cX12_income, 3, (some .int), 12), (yX12_isGiven, cX12_isGiven, 2, (some .boolean), 12), (yX12_incomes, cX12_incomes, 4, (some .int), 12), (yX12_balance, cX12_balance, 6, (some .int), 12), (yX12_first, cX12_first, 6, (some .int), 12), (yX12_isOffice, cX12_isOffice, 1, (some .boolean), 12), (yX12_book, cX12_book, 5, (some .int), 12), (yX12_note, cX12_note, 4, (some .int), 12), (yX12_readBy, cX12_readBy, 4, (some .int), 12), (yX12_looks, cX12_looks, 4, (some .int), 12), (yX12_copy, cX12_copy, 7, (some .int), 12), (yX12_span, cX12_span, 10, (some .int), 12), (yX12_wish, cX12_wish, 3, (some .int), 12), (yX12_findLines, cX12_findLines, 3, (some .int), 12), (yX12_membersFor, cX12_membersFor, 6, (some .int), 12), (yX12_carry, cX12_carry, 9, (some .int), 12), (yX12_interpreter, cX12_interpreter, 2, (some .int), 12), (yX12_speaks, cX12_speaks, 7, (some .int), 12), (yX12_speech, cX12_speech, 5, (some .int), 12), (yX12_hears, cX12_hears, 4, (some .int), 12), (yX12_heardBy, cX12_heardBy, 6, (some .int), 12), (yX12_findShift, cX12_findShift, 7, (some .int), 12), (yX12_heard, cX12_heard, 2, (some .int), 12), (yX12_shift, cX12_shift, 8, (some .int), 12), (yX12_offer, cX12_offer, 6, (some .int), 12), (yX12_sumOf, cX12_sumOf, 5, (some .int), 12), (yX12_goesTogether, cX12_goesTogether, 4, (some .boolean), 12), (yX12_findNight, cX12_findNight, 6, (some .int), 12), (yX12_isNight, cX12_isNight, 2, (some .boolean), 12), (yX12_night, cX12_night, 5, (some .int), 12), (yX12_tell, cX12_tell, 2, (some .int), 12), (yX12_setAside, cX12_setAside, 4, none, 12), (yX12_dueIs, cX12_dueIs, 3, none, 12), (yX12_rowsOfNight, cX12_rowsOfNight, 6, (some .int), 12), (yX12_present, cX12_present, 3, (some .int), 12)]
def mjM_7 : List mMd := [(yX12_rowsTold, cX12_rowsTold, 4, (some .int), 12), (yX12_check, cX12_check, 7, (some .int), 12), (yX12_keep, cX12_keep, 1, (some .int), 12), (yX12_back, cX12_back, 1, (some .int), 12), (yX12_count, cX12_count, 4, (some .int), 12), (yL_law, cL_law, 4, (some .boolean), 13), (yJ6_compare_7cf53, cJ6_compare_7cf53, 2, (some .int), 14), (yJ6_bitCount_0f7a4, cJ6_bitCount_0f7a4, 1, (some .int), 14)]
def mjMs : List (List mMd) := [mjM_1, mjM_2, mjM_3, mjM_4, mjM_5, mjM_6, mjM_7]
def mjM (y : Nat) : Option mMd := match mjMs[y / 60]? with
  | none => none
  | some l => l[y % 60]?
abbrev mRe : Type := Nat × Nat × Nat × Nat × Int
def mjR_0 : List mRe := [(0, 3, 6, 0, 0), (0, 11, 0, 0, 0), (0, 15, 0, 0, 1), (0, 18, 0, 0, 2), (0, 21, 0, 0, 3), (0, 24, 1, 2, 0), (0, 28, 3, 234, 0), (0, 32, 7, 0, -1000000001), (0, 33, 7, 0, -1000000014), (0, 34, 7, 0, -1000000011), (0, 35, 1, 3, 0), (0, 39, 7, 0, -1000000013), (0, 40, 1, 4, 0), (0, 44, 7, 0, -1000000005), (0, 45, 7, 0, -1000000012), (0, 46, 7, 0, -100000), (0, 47, 7, 0, 100000), (0, 48, 1, 6, 0), (0, 51, 1, 8, 0), (0, 54, 14, 0, 0), (0, 59, 13, 0, 0)]
def mjR_1 : List mRe := [(1, 3, 6, 0, 0), (1, 9, 10, 2, 0), (1, 11, 5, 38, 0), (1, 12, 0, 1, 3), (1, 18, 10, 4, 0), (1, 20, 5, 68, 0), (1, 21, 0, 1, 4), (1, 25, 10, 6, 0), (1, 27, 5, 130, 0), (1, 28, 0, 1, 5), (1, 32, 10, 9, 0), (1, 34, 5, 163, 0), (1, 35, 0, 1, 6), (1, 39, 10, 10, 0), (1, 41, 5, 173, 0), (1, 42, 0, 1, 7), (1, 46, 10, 7, 0), (1, 48, 5, 135, 0), (1, 49, 0, 1, 8), (1, 53, 10, 3, 0), (1, 55, 5, 59, 0), (1, 56, 0, 1, 9), (1, 60, 0, 1, 11), (1, 64, 0, 1, 12), (1, 67, 0, 1, 16), (1, 70, 0, 1, 17), (1, 73, 0, 1, 18), (1, 76, 0, 1, 0), (1, 80, 0, 1, 1), (1, 83, 0, 1, 2), (1, 87, 1, 39, 0), (1, 91, 1, 69, 0), (1, 94, 1, 131, 0), (1, 97, 1, 164, 0), (1, 100, 1, 174, 0), (1, 103, 1, 136, 0), (1, 106, 1, 60, 0), (1, 109, 0, 1, 10), (1, 112, 3, 237, 0), (1, 116, 3, 234, 0), (1, 120, 7, 0, -1000000001), (1, 121, 7, 0, -1000000003), (1, 122, 1, 133, 0), (1, 126, 1, 51, 0), (1, 130, 1, 44, 0), (1, 134, 1, 75, 0), (1, 137, 1, 43, 0), (1, 140, 1, 92, 0), (1, 144, 1, 16, 0), (1, 147, 1, 76, 0), (1, 151, 2, 366, 0), (1, 156, 0, 1, 13), (1, 159, 0, 1, 14), (1, 162, 0, 1, 15), (1, 165, 0, 2, 0), (1, 168, 1, 46, 0), (1, 171, 1, 17, 0), (1, 174, 1, 47, 0), (1, 178, 1, 13, 0), (1, 182, 1, 167, 0), (1, 185, 7, 0, -1000000005), (1, 186, 1, 168, 0), (1, 190, 1, 70, 0), (1, 194, 1, 71, 0), (1, 197, 7, 0, -1000000012), (1, 198, 1, 18, 0), (1, 201, 1, 20, 0), (1, 204, 1, 93, 0), (1, 207, 1, 21, 0), (1, 210, 7, 0, -1000000002), (1, 211, 1, 19, 0), (1, 214, 1, 95, 0), (1, 218, 1, 96, 0), (1, 222, 1, 102, 0), (1, 225, 1, 72, 0), (1, 228, 1, 73, 0), (1, 231, 0, 4, 0), (1, 232, 1, 78, 0), (1, 235, 1, 74, 0), (1, 238, 1, 25, 0), (1, 241, 1, 27, 0), (1, 245, 1, 26, 0), (1, 248, 1, 29, 0), (1, 252, 1, 79, 0), (1, 255, 1, 77, 0), (1, 258, 1, 30, 0), (1, 261, 1, 109, 0), (1, 264, 1, 110, 0), (1, 267, 1, 111, 0), (1, 270, 1, 33, 0), (1, 274, 1, 112, 0), (1, 277, 0, 4, 3), (1, 280, 3, 236, 0), (1, 283, 1, 82, 0), (1, 286, 1, 52, 0), (1, 289, 1, 134, 0), (1, 292, 1, 58, 0), (1, 295, 1, 113, 0), (1, 298, 0, 9, 0), (1, 299, 0, 6, 0), (1, 300, 0, 7, 0), (1, 301, 0, 3, 0)]
def mjR_2 : List mRe := [(2, 3, 6, 0, 0), (2, 9, 0, 2, 1), (2, 15, 0, 2, 2), (2, 18, 0, 2, 3), (2, 21, 0, 2, 4), (2, 24, 0, 2, 5), (2, 27, 0, 2, 7), (2, 30, 0, 2, 8), (2, 33, 0, 2, 9), (2, 36, 0, 2, 0), (2, 40, 3, 237, 0), (2, 44, 0, 2, 6), (2, 47, 3, 234, 0), (2, 51, 7, 0, -1000000001), (2, 52, 7, 0, -1000000003), (2, 53, 7, 0, -1000000005), (2, 54, 1, 40, 0), (2, 58, 1, 55, 0), (2, 62, 1, 45, 0), (2, 65, 1, 50, 0), (2, 68, 1, 43, 0), (2, 72, 1, 54, 0), (2, 76, 7, 0, -1000000002)]
def mjR_3 : List mRe := [(3, 3, 6, 0, 0), (3, 9, 0, 3, 1), (3, 15, 0, 3, 2), (3, 18, 0, 3, 3), (3, 21, 0, 3, 4), (3, 24, 0, 3, 0), (3, 28, 3, 237, 0), (3, 32, 3, 234, 0), (3, 36, 7, 0, -1000000001), (3, 37, 7, 0, -1000000003), (3, 38, 7, 0, -1000000005), (3, 39, 0, 3, 5), (3, 42, 1, 62, 0), (3, 46, 1, 63, 0), (3, 50, 1, 65, 0), (3, 54, 0, 3, 6), (3, 57, 0, 3, 7), (3, 60, 1, 64, 0)]
def mjR_4 : List mRe := [(4, 3, 6, 0, 0), (4, 9, 0, 4, 1), (4, 15, 0, 4, 2), (4, 18, 0, 4, 3), (4, 21, 0, 4, 4), (4, 24, 0, 4, 5), (4, 27, 0, 4, 6), (4, 30, 0, 4, 7), (4, 33, 0, 4, 8), (4, 36, 0, 4, 9), (4, 39, 0, 4, 10), (4, 42, 0, 4, 11), (4, 45, 0, 4, 12), (4, 48, 0, 4, 0), (4, 52, 3, 237, 0), (4, 56, 1, 70, 0), (4, 60, 7, 0, -1000000005), (4, 61, 3, 234, 0), (4, 65, 1, 71, 0), (4, 69, 1, 74, 0), (4, 72, 1, 72, 0), (4, 75, 1, 78, 0), (4, 78, 1, 77, 0), (4, 81, 3, 235, 0), (4, 84, 7, 0, 69999), (4, 85, 1, 83, 0), (4, 88, 7, 0, -1000000001), (4, 89, 1, 86, 0), (4, 93, 7, 0, -1000000003), (4, 94, 1, 89, 0), (4, 98, 7, 0, -1000000012), (4, 99, 1, 73, 0), (4, 102, 1, 94, 0), (4, 105, 1, 97, 0), (4, 109, 1, 98, 0), (4, 113, 1, 99, 0), (4, 117, 1, 101, 0), (4, 120, 1, 79, 0), (4, 123, 1, 80, 0), (4, 126, 3, 236, 0), (4, 129, 1, 100, 0), (4, 133, 7, 0, -1000000002), (4, 134, 1, 103, 0), (4, 137, 1, 81, 0), (4, 140, 1, 105, 0), (4, 143, 1, 108, 0), (4, 146, 1, 82, 0)]
def mjR_5 : List mRe := [(5, 3, 6, 0, 0), (5, 9, 0, 5, 3), (5, 15, 0, 5, 4), (5, 18, 1, 116, 0), (5, 21, 1, 160, 0), (5, 27, 1, 161, 0), (5, 30, 1, 117, 0), (5, 34, 0, 5, 0), (5, 38, 7, 0, -1000000005), (5, 39, 1, 158, 0), (5, 43, 0, 8, 0), (5, 46, 0, 5, 8), (5, 50, 1, 119, 0), (5, 54, 1, 122, 0), (5, 57, 0, 5, 6), (5, 60, 1, 126, 0), (5, 64, 0, 5, 1), (5, 67, 0, 5, 2), (5, 68, 0, 5, 5), (5, 71, 0, 5, 7), (5, 74, 9, 0, 0), (5, 76, 1, 162, 0), (5, 80, 9, 1, 0), (5, 82, 9, 2, 0), (5, 84, 9, 3, 0), (5, 86, 9, 4, 0), (5, 88, 9, 5, 0), (5, 90, 9, 6, 0), (5, 92, 9, 7, 0), (5, 94, 1, 157, 0), (5, 97, 1, 128, 0), (5, 100, 1, 120, 0), (5, 103, 1, 121, 0), (5, 106, 1, 127, 0), (5, 109, 1, 125, 0), (5, 112, 1, 118, 0), (5, 116, 11, 0, 0), (5, 122, 12, 0, 0), (5, 126, 1, 124, 0), (5, 130, 1, 123, 0), (5, 133, 1, 129, 0)]
def mjR_6 : List mRe := [(6, 3, 6, 0, 0), (6, 9, 0, 6, 1), (6, 15, 0, 6, 2), (6, 18, 0, 6, 3), (6, 21, 0, 6, 0), (6, 25, 3, 237, 0), (6, 29, 1, 70, 0), (6, 35, 3, 234, 0), (6, 39, 7, 0, -1000000001), (6, 40, 7, 0, -1000000003), (6, 41, 1, 91, 0)]
def mjR_7 : List mRe := [(7, 3, 6, 0, 0), (7, 9, 0, 7, 1), (7, 15, 0, 7, 2), (7, 18, 0, 7, 3), (7, 21, 0, 7, 0), (7, 25, 3, 237, 0), (7, 29, 7, 0, -1000000003), (7, 30, 3, 234, 0), (7, 34, 13, 0, 0), (7, 40, 14, 0, 0), (7, 43, 1, 138, 0), (7, 47, 7, 0, -1000000001), (7, 48, 1, 139, 0), (7, 51, 2, 367, 0), (7, 57, 7, 0, -1000000005), (7, 58, 1, 144, 0), (7, 62, 1, 146, 0), (7, 66, 1, 148, 0), (7, 69, 1, 145, 0), (7, 72, 1, 147, 0), (7, 75, 1, 149, 0), (7, 79, 1, 150, 0), (7, 83, 1, 151, 0)]
def mjR_8 : List mRe := [(8, 3, 6, 0, 0), (8, 9, 0, 8, 1), (8, 15, 0, 8, 0), (8, 19, 7, 0, -1000000003), (8, 20, 1, 154, 0), (8, 24, 3, 234, 0), (8, 28, 7, 0, -1000000001), (8, 29, 7, 0, -1000000005), (8, 30, 1, 157, 0), (8, 34, 1, 158, 0), (8, 38, 1, 159, 0), (8, 41, 11, 0, 0), (8, 47, 12, 0, 0)]
def mjR_9 : List mRe := [(9, 3, 6, 0, 0), (9, 9, 0, 9, 1), (9, 15, 0, 9, 2), (9, 18, 0, 9, 3), (9, 21, 0, 9, 4), (9, 24, 0, 9, 5), (9, 27, 0, 9, 6), (9, 30, 0, 9, 7), (9, 33, 0, 9, 0), (9, 37, 3, 237, 0), (9, 41, 7, 0, -1000000003), (9, 42, 0, 5, 0), (9, 47, 0, 5, 1), (9, 49, 0, 5, 2), (9, 50, 0, 5, 3), (9, 53, 7, 0, -1000000001), (9, 54, 7, 0, -1000000005), (9, 55, 0, 9, 8), (9, 58, 1, 169, 0), (9, 62, 1, 171, 0), (9, 66, 1, 170, 0), (9, 69, 1, 172, 0)]
def mjR_10 : List mRe := [(10, 3, 6, 0, 0), (10, 9, 0, 10, 0), (10, 15, 0, 10, 1), (10, 18, 0, 10, 2), (10, 21, 3, 237, 0), (10, 25, 3, 234, 0), (10, 29, 7, 0, -1000000001), (10, 30, 1, 177, 0), (10, 34, 1, 53, 0), (10, 40, 1, 178, 0), (10, 44, 0, 10, 4), (10, 48, 7, 0, -1000000005), (10, 49, 0, 10, 5), (10, 52, 0, 10, 6), (10, 55, 0, 10, 3), (10, 58, 0, 4, 0), (10, 63, 1, 77, 0), (10, 67, 1, 73, 0), (10, 70, 1, 180, 0), (10, 73, 1, 181, 0), (10, 76, 1, 179, 0), (10, 80, 2, 367, 0)]
def mjR_11 : List mRe := [(11, 3, 6, 0, 0), (11, 9, 10, 1, 0), (11, 11, 5, 11, 0), (11, 12, 0, 11, 0), (11, 16, 0, 11, 1), (11, 19, 10, 8, 0), (11, 21, 5, 152, 0), (11, 22, 0, 11, 3), (11, 26, 10, 5, 0), (11, 28, 5, 114, 0), (11, 29, 0, 11, 4), (11, 33, 10, 0, 0), (11, 35, 5, 0, 0), (11, 36, 0, 11, 5), (11, 40, 0, 11, 7), (11, 44, 0, 11, 8), (11, 47, 0, 1, 3), (11, 51, 1, 41, 0), (11, 57, 0, 1, 0), (11, 61, 1, 42, 0), (11, 65, 1, 48, 0), (11, 68, 1, 49, 0), (11, 71, 1, 56, 0), (11, 75, 1, 57, 0), (11, 78, 1, 14, 0), (11, 82, 1, 15, 0), (11, 85, 0, 1, 4), (11, 89, 1, 84, 0), (11, 93, 1, 85, 0), (11, 96, 1, 87, 0), (11, 98, 1, 88, 0), (11, 101, 1, 90, 0), (11, 104, 0, 1, 5), (11, 108, 1, 132, 0), (11, 113, 1, 40, 0), (11, 117, 1, 70, 0), (11, 118, 7, 0, -1000000001), (11, 119, 1, 16, 0), (11, 123, 1, 22, 0), (11, 126, 1, 23, 0), (11, 129, 1, 24, 0), (11, 132, 1, 104, 0), (11, 135, 1, 106, 0), (11, 138, 1, 107, 0), (11, 141, 1, 28, 0), (11, 144, 1, 31, 0), (11, 147, 1, 153, 0), (11, 150, 1, 155, 0), (11, 153, 2, 234, 0), (11, 157, 1, 156, 0), (11, 160, 1, 115, 0), (11, 164, 7, 0, -1000000005), (11, 165, 0, 1, 6), (11, 169, 1, 165, 0), (11, 174, 1, 166, 0), (11, 175, 1, 13, 0), (11, 179, 1, 167, 0), (11, 182, 1, 32, 0), (11, 185, 1, 34, 0), (11, 188, 1, 35, 0), (11, 191, 1, 1, 0), (11, 194, 1, 5, 0), (11, 197, 1, 7, 0), (11, 200, 1, 9, 0), (11, 204, 1, 10, 0), (11, 207, 0, 1, 7), (11, 211, 1, 175, 0), (11, 216, 1, 176, 0), (11, 220, 0, 1, 8), (11, 224, 1, 137, 0), (11, 228, 1, 140, 0), (11, 231, 1, 141, 0), (11, 234, 1, 142, 0), (11, 237, 1, 143, 0), (11, 240, 0, 1, 9), (11, 244, 1, 61, 0), (11, 248, 1, 66, 0), (11, 251, 0, 11, 6), (11, 254, 7, 0, -1000000003), (11, 255, 1, 67, 0), (11, 259, 1, 233, 0), (11, 262, 0, 11, 2), (11, 266, 1, 36, 0), (11, 270, 7, 0, -1000000002), (11, 271, 1, 12, 0), (11, 275, 0, 8, 0), (11, 278, 1, 37, 0), (11, 281, 14, 0, 0), (11, 286, 13, 0, 0)]
def mjR_12 : List mRe := [(12, 1, 6, 0, 0), (12, 7, 0, 12, 0), (12, 13, 0, 12, 1), (12, 16, 0, 12, 2), (12, 19, 0, 12, 4), (12, 22, 0, 12, 5), (12, 25, 0, 12, 6), (12, 28, 0, 12, 10), (12, 31, 0, 12, 11), (12, 34, 0, 12, 12), (12, 37, 0, 12, 13), (12, 40, 0, 12, 25), (12, 43, 0, 12, 26), (12, 46, 0, 12, 27), (12, 49, 0, 12, 28), (12, 52, 0, 12, 29), (12, 55, 0, 12, 30), (12, 58, 0, 12, 31), (12, 61, 0, 12, 33), (12, 64, 7, 0, -1000000005), (12, 65, 2, 239, 0), (12, 69, 8, 0, 8), (12, 71, 8, 0, 6), (12, 73, 1, 246, 0), (12, 77, 1, 249, 0), (12, 81, 1, 253, 0), (12, 84, 2, 251, 0), (12, 87, 8, 0, 127), (12, 89, 7, 0, -1000000001), (12, 90, 7, 0, -1000000003), (12, 91, 1, 244, 0), (12, 94, 1, 245, 0), (12, 97, 1, 258, 0), (12, 100, 1, 248, 0), (12, 103, 8, 0, 5), (12, 105, 2, 240, 0), (12, 108, 1, 259, 0), (12, 111, 8, 0, 9999), (12, 113, 1, 243, 0), (12, 117, 7, 0, -1000000002), (12, 118, 1, 266, 0), (12, 121, 8, 0, 240), (12, 123, 1, 267, 0), (12, 126, 8, 0, 73), (12, 128, 1, 255, 0), (12, 131, 8, 0, -9999), (12, 133, 8, 0, 69999), (12, 135, 8, 0, 88), (12, 137, 8, 0, 4), (12, 139, 1, 269, 0), (12, 143, 1, 270, 0), (12, 147, 1, 256, 0), (12, 150, 8, 0, 9), (12, 152, 8, 0, 7), (12, 154, 7, 0, -1000000012), (12, 155, 8, 0, -9), (12, 157, 2, 252, 0), (12, 160, 8, 0, 99), (12, 162, 1, 277, 0), (12, 166, 1, 279, 0), (12, 169, 0, 12, 7), (12, 173, 0, 12, 8), (12, 176, 0, 12, 9), (12, 179, 1, 280, 0), (12, 182, 1, 321, 0), (12, 185, 1, 324, 0), (12, 188, 8, 0, 3), (12, 190, 1, 281, 0), (12, 194, 1, 254, 0), (12, 197, 1, 283, 0), (12, 200, 1, 286, 0), (12, 203, 1, 287, 0), (12, 207, 2, 241, 0), (12, 210, 1, 284, 0), (12, 214, 1, 285, 0), (12, 217, 1, 291, 0), (12, 220, 1, 293, 0), (12, 223, 1, 295, 0), (12, 226, 1, 296, 0), (12, 229, 1, 298, 0), (12, 233, 1, 299, 0), (12, 236, 0, 12, 14), (12, 239, 8, 0, 97), (12, 241, 8, 0, 122), (12, 243, 8, 0, 48), (12, 245, 8, 0, 57), (12, 247, 0, 12, 16), (12, 250, 0, 12, 17), (12, 253, 0, 12, 15), (12, 256, 1, 303, 0), (12, 259, 0, 12, 19), (12, 262, 1, 304, 0), (12, 265, 0, 12, 18), (12, 268, 1, 307, 0), (12, 272, 1, 308, 0), (12, 276, 0, 12, 23), (12, 279, 0, 12, 22), (12, 282, 1, 313, 0), (12, 285, 1, 306, 0), (12, 288, 1, 305, 0), (12, 291, 1, 311, 0), (12, 295, 1, 314, 0), (12, 298, 1, 315, 0), (12, 301, 1, 316, 0), (12, 304, 1, 317, 0), (12, 307, 0, 12, 24), (12, 310, 2, 310, 0), (12, 313, 0, 12, 21), (12, 316, 0, 12, 20), (12, 319, 1, 312, 0), (12, 322, 1, 247, 0), (12, 325, 1, 309, 0), (12, 328, 8, 0, 166), (12, 330, 1, 318, 0), (12, 333, 1, 250, 0), (12, 336, 8, 0, 2), (12, 338, 2, 323, 0), (12, 341, 8, 0, 13), (12, 343, 1, 326, 0), (12, 346, 1, 327, 0), (12, 349, 1, 328, 0), (12, 352, 2, 330, 0), (12, 355, 8, 0, -1), (12, 357, 7, 0, -1000000014), (12, 358, 7, 0, -1000000011), (12, 359, 7, 0, -1000000013), (12, 360, 8, 0, -100000), (12, 362, 8, 0, 100000), (12, 364, 1, 333, 0), (12, 367, 8, 0, 255), (12, 369, 8, 0, 20), (12, 371, 1, 338, 0), (12, 374, 2, 242, 0), (12, 377, 1, 339, 0), (12, 380, 1, 344, 0), (12, 383, 1, 345, 0), (12, 387, 1, 346, 0), (12, 390, 8, 0, 999), (12, 392, 1, 350, 0), (12, 395, 1, 351, 0), (12, 398, 2, 353, 0), (12, 401, 1, 352, 0), (12, 404, 0, 12, 32), (12, 407, 0, 12, 34), (12, 410, 1, 357, 0), (12, 413, 8, 0, 30), (12, 415, 0, 12, 3), (12, 419, 1, 356, 0), (12, 423, 1, 359, 0), (12, 425, 1, 358, 0), (12, 428, 1, 360, 0)]
def mjR_13 : List mRe := [(13, 7, 10, 11, 0), (13, 9, 4, 182, 0), (13, 10, 10, 12, 0), (13, 12, 4, 238, 0), (13, 13, 1, 183, 0), (13, 17, 1, 257, 0), (13, 18, 1, 184, 0), (13, 21, 1, 260, 0), (13, 22, 1, 185, 0), (13, 25, 1, 261, 0), (13, 26, 1, 186, 0), (13, 29, 1, 262, 0), (13, 30, 1, 187, 0), (13, 34, 1, 263, 0), (13, 35, 1, 188, 0), (13, 39, 1, 264, 0), (13, 40, 1, 189, 0), (13, 43, 1, 265, 0), (13, 44, 1, 190, 0), (13, 47, 1, 268, 0), (13, 48, 1, 191, 0), (13, 51, 1, 271, 0), (13, 52, 1, 192, 0), (13, 56, 1, 272, 0), (13, 57, 1, 193, 0), (13, 60, 1, 273, 0), (13, 61, 1, 194, 0), (13, 64, 1, 274, 0), (13, 65, 1, 195, 0), (13, 68, 1, 275, 0), (13, 69, 1, 196, 0), (13, 72, 1, 276, 0), (13, 73, 1, 197, 0), (13, 76, 1, 278, 0), (13, 77, 1, 198, 0), (13, 80, 1, 282, 0), (13, 81, 1, 199, 0), (13, 84, 1, 288, 0), (13, 85, 1, 200, 0), (13, 88, 1, 289, 0), (13, 89, 1, 201, 0), (13, 92, 1, 290, 0), (13, 93, 1, 202, 0), (13, 96, 1, 292, 0), (13, 97, 1, 203, 0), (13, 100, 1, 294, 0), (13, 101, 1, 204, 0), (13, 104, 1, 297, 0), (13, 105, 1, 205, 0), (13, 108, 1, 300, 0), (13, 109, 1, 206, 0), (13, 112, 1, 301, 0), (13, 113, 1, 207, 0), (13, 116, 1, 302, 0), (13, 117, 1, 208, 0), (13, 120, 1, 319, 0), (13, 121, 1, 209, 0), (13, 124, 1, 320, 0), (13, 125, 1, 210, 0), (13, 128, 1, 322, 0), (13, 129, 1, 211, 0), (13, 132, 1, 325, 0), (13, 133, 1, 212, 0), (13, 136, 1, 328, 0), (13, 137, 1, 213, 0), (13, 141, 1, 329, 0), (13, 142, 1, 214, 0), (13, 145, 1, 331, 0), (13, 146, 1, 215, 0), (13, 149, 1, 332, 0), (13, 150, 1, 216, 0), (13, 153, 1, 334, 0), (13, 154, 1, 217, 0), (13, 158, 1, 335, 0), (13, 159, 1, 218, 0), (13, 162, 1, 336, 0), (13, 163, 1, 219, 0), (13, 166, 1, 337, 0), (13, 167, 1, 220, 0), (13, 170, 1, 340, 0), (13, 171, 1, 221, 0), (13, 174, 1, 341, 0), (13, 175, 1, 222, 0), (13, 178, 1, 342, 0), (13, 179, 1, 223, 0), (13, 182, 1, 343, 0), (13, 183, 1, 224, 0), (13, 186, 1, 347, 0), (13, 187, 1, 225, 0), (13, 190, 1, 348, 0), (13, 191, 1, 226, 0), (13, 194, 1, 349, 0), (13, 195, 1, 227, 0), (13, 198, 1, 354, 0), (13, 199, 1, 228, 0), (13, 202, 1, 355, 0), (13, 203, 1, 229, 0), (13, 206, 1, 361, 0), (13, 207, 1, 230, 0), (13, 210, 1, 362, 0), (13, 211, 1, 231, 0), (13, 214, 1, 363, 0), (13, 215, 1, 232, 0), (13, 218, 1, 364, 0)]
def mjR_14 : List mRe := [(14, 265, 7, 0, 1431655765), (14, 266, 7, 0, 858993459), (14, 267, 7, 0, 252645135)]
def mjR_15 : List mRe := []
def mjRs : List (List mRe) := [mjR_0, mjR_1, mjR_2, mjR_3, mjR_4, mjR_5, mjR_6, mjR_7, mjR_8, mjR_9, mjR_10, mjR_11, mjR_12, mjR_13, mjR_14, mjR_15]
/-- what an entry of a class's constant pool is: its kind, and two numbers -/
def mjR (own idx : Nat) : Option mRe := match mjRs[own]? with
  | none => none
  | some l => l.find? (fun e => e.2.1 == idx)
def mjC (c : Nat) : String := (mjCls[c]?).getD ""
def mjY (y : Nat) : MethodName := match mjM y with
  | some q => q.1
  | none => objectInit
def mjCl (c : Nat) : vw_C := (vwCl[c]?).getD ("", TX0, 0)
def mjYlen : MethodName := yJ0_length_8abf5
def mjYchr : MethodName := yJ0_charAt_5068e
/-- the words of the tables that an entry stands on -/
def mjWords (e : mRe) : List Cond := match e with
  | (own, idx, 0, ci, k) => [.fieldLink (mjC own) idx (mjCl ci).1 ((mjCl ci).2.1 k.toNat).2.1 ((mjCl ci).2.1 k.toNat).2.2.1]
  | (own, idx, 1, y, _) => [.methodLink (mjC own) idx (mjY y), .instanceMethod (mjY y), .selects (mjY y).cls (mjY y) (mjY y), .initialized (mjY y).cls]
  | (own, idx, 2, y, _) => [.methodLink (mjC own) idx (mjY y), .static (mjY y), .initialized (mjY y).cls]
  | (_, _, 3, y, _) => [.static (mjY y), .initialized (mjY y).cls]
  | (own, idx, 4, y, _) => [.methodLink (mjC own) idx (mjY y), .instanceMethod (mjY y), .initialized (mjY y).cls]
  | (_, _, 5, y, _) => [.instanceMethod (mjY y), .initialized (mjY y).cls]
  | (own, idx, 6, _, _) => [.methodLink (mjC own) idx objectInit, .instanceMethod objectInit, .code objectInit ⟨#[0xb1]⟩ 1 none]
  | (own, idx, 7, _, v) => [.constant (mjC own) idx (Int32.ofInt v)]
  | (own, idx, 8, _, v) => [.constantLong (mjC own) idx (Int64.ofInt v)]
  | (own, idx, 10, ci, _) => [.classLink (mjC own) idx (mjCl ci).1, .instantiable (mjCl ci).1 (mjCl ci).2.2, .initialized (mjCl ci).1]
  | (own, idx, 11, _, _) => [.methodLink (mjC own) idx mjYlen, .instanceMethod mjYlen, .selects mjYlen.cls mjYlen mjYlen, .initialized mjYlen.cls]
  | (own, idx, 13, _, _) => [.methodLink (mjC own) idx Lib.Math.max.name, .static Lib.Math.max.name, .initialized Lib.Math.max.name.cls, .code Lib.Math.max.name Lib.Math.max.code 2 (some .int)]
  | (own, idx, 14, _, _) => [.methodLink (mjC own) idx Lib.Math.min.name, .static Lib.Math.min.name, .initialized Lib.Math.min.name.cls, .code Lib.Math.min.name Lib.Math.min.code 2 (some .int)]
  | (own, idx, 12, _, _) => [.methodLink (mjC own) idx mjYchr, .instanceMethod mjYchr, .selects mjYchr.cls mjYchr mjYchr, .initialized mjYchr.cls]
  | _ => []
/-- the tables' good words: what every method's words are -/
def mjT : List Cond := lw_tbl.filter goodWord
def mjTabs : List (List Cond) := [k2_sels lw_privs, tables_1_1, tables_1_2, tables_1_3, tables_1_4, tables_1_5, tables_1_6, tables_1_7, tables_1_8, tables_1_9]
def mjIn (w : Cond) (p : Nat × Nat) : Bool := goodWord w && (match mjTabs[p.1]? with
  | none => false
  | some l => decide (l[p.2]? = some w))
theorem mjTabs_in : ∀ l ∈ mjTabs, ∀ w ∈ l, w ∈ lw_tbl := by
  intro l hl w hw
  unfold lw_tbl tables_1
  simp only [mjTabs, List.mem_cons, List.not_mem_nil, or_false] at hl
  simp only [List.mem_append]
  rcases hl with rfl | rfl | rfl | rfl | rfl | rfl | rfl | rfl | rfl | rfl <;> simp only [hw, true_or, or_true]
theorem mjIn_mem {w : Cond} {p : Nat × Nat} (h : mjIn w p = true) : w ∈ mjT := by
  unfold mjIn at h
  simp only [Bool.and_eq_true] at h
  obtain ⟨h1, h2⟩ := h
  split at h2
  · cases h2
  · next l hl =>
    exact List.mem_filter.mpr ⟨mjTabs_in l (List.mem_of_getElem? hl) w (List.mem_of_getElem? (of_decide_eq_true h2)), h1⟩
def mjOk2 : List Cond → List (Nat × Nat) → Bool
  | [], [] => true
  | w :: ws, p :: ps => mjIn w p && mjOk2 ws ps
  | _, _ => false
theorem mjOk2_mem : ∀ (ws : List Cond) (ps : List (Nat × Nat)), mjOk2 ws ps = true → ∀ w ∈ ws, w ∈ mjT := by
  intro ws
  induction ws with
  | nil => intro ps _ w hw; cases hw
  | cons a ws ih =>
    intro ps h w hw
    cases ps with
    | nil => simp [mjOk2] at h
    | cons p ps =>
      simp only [mjOk2, Bool.and_eq_true] at h
      rcases List.mem_cons.mp hw with rfl | hw
      · exact mjIn_mem h.1
      · exact ih ps h.2 w hw
def mjOk3 : List mRe → List (List (Nat × Nat)) → Bool
  | [], [] => true
  | e :: es, p :: ps => mjOk2 (mjWords e) p && mjOk3 es ps
  | _, _ => false
theorem mjOk3_mem : ∀ (es : List mRe) (ps : List (List (Nat × Nat))), mjOk3 es ps = true → ∀ e ∈ es, ∀ w ∈ mjWords e, w ∈ mjT := by
  intro es
  induction es with
  | nil => intro ps _ e he; cases he
  | cons a es ih =>
    intro ps h e he
    cases ps with
    | nil => simp [mjOk3] at h
    | cons p ps =>
      simp only [mjOk3, Bool.and_eq_true] at h
      rcases List.mem_cons.mp he with rfl | he
      · exact mjOk2_mem _ p h.1
      · exact ih ps h.2 e he
def mjP_0 : List (List (Nat × Nat)) := [[(2, 141), (1, 26), (1, 27)], [(2, 142)], [(2, 143)], [(2, 144)], [(2, 145)], [(5, 193), (5, 194), (5, 195), (1, 12)], [(2, 192), (1, 1)], [(5, 198)], [(5, 199)], [(5, 212)], [(5, 213), (5, 214), (5, 215), (1, 12)], [(5, 217)], [(5, 208), (5, 209), (5, 210), (1, 12)], [(5, 218)], [(5, 219)], [(5, 220)], [(5, 221)], [(5, 230), (5, 231), (5, 232), (1, 12)], [(6, 2), (6, 3), (6, 4), (1, 12)], [(6, 14), (4, 59), (1, 15), (4, 60)], [(6, 15), (4, 62), (1, 15), (4, 63)]]
theorem mjRok_0 : ∀ e ∈ mjR_0, ∀ w ∈ mjWords e, w ∈ mjT := mjOk3_mem _ mjP_0 (by decide +kernel)
def mjP_1 : List (List (Nat × Nat)) := [[(1, 33), (1, 26), (1, 27)], [(1, 34), (1, 35), (1, 3)], [(1, 37), (1, 3)], [(2, 21)], [(1, 73), (1, 74), (1, 4)], [(1, 76), (1, 4)], [(2, 23)], [(1, 122), (1, 123), (1, 5)], [(1, 125), (1, 5)], [(2, 25)], [(1, 142), (1, 143), (1, 6)], [(1, 145), (1, 6)], [(2, 27)], [(1, 177), (1, 178), (1, 7)], [(1, 180), (1, 7)], [(2, 29)], [(1, 205), (1, 206), (1, 8)], [(1, 208), (1, 8)], [(2, 31)], [(1, 225), (1, 226), (1, 9)], [(1, 228), (1, 9)], [(2, 33)], [(2, 36)], [(2, 37)], [(2, 41)], [(2, 42)], [(2, 43)], [(2, 17)], [(2, 19)], [(2, 20)], [(6, 229), (6, 230), (6, 231), (1, 3)], [(6, 234), (6, 235), (6, 236), (1, 4)], [(6, 238), (6, 239), (7, 0), (1, 5)], [(7, 3), (7, 4), (7, 5), (1, 6)], [(7, 8), (7, 9), (7, 10), (1, 7)], [(7, 13), (7, 14), (7, 15), (1, 8)], [(7, 18), (7, 19), (7, 20), (1, 9)], [(2, 35)], [(4, 118), (1, 1)], [(2, 192), (1, 1)], [(3, 19)], [(3, 28)], [(3, 29), (3, 30), (3, 31), (1, 5)], [(3, 42), (3, 43), (3, 44), (1, 3)], [(3, 145), (3, 146), (3, 147), (1, 3)], [(3, 149), (3, 150), (3, 151), (1, 4)], [(3, 180), (3, 181), (3, 182), (1, 3)], [(3, 184), (3, 185), (3, 186), (1, 4)], [(3, 200), (3, 142), (3, 143), (1, 2)], [(3, 201), (3, 202), (3, 203), (1, 4)], [(3, 205), (3, 206), (1, 14)], [(2, 38)], [(2, 39)], [(2, 40)], [(1, 41)], [(3, 168), (3, 169), (3, 170), (1, 3)], [(3, 176), (3, 177), (3, 178), (1, 2)], [(4, 27), (4, 28), (4, 29), (1, 3)], [(3, 212), (3, 213), (3, 214), (1, 2)], [(3, 216), (3, 217), (3, 218), (1, 6)], [(3, 221)], [(3, 222), (3, 223), (3, 224), (1, 6)], [(3, 161), (3, 38), (3, 39), (1, 4)], [(3, 162), (3, 70), (3, 71), (1, 4)], [(3, 163)], [(3, 164), (3, 165), (3, 166), (1, 2)], [(3, 208), (3, 209), (3, 210), (1, 2)], [(4, 10), (4, 11), (4, 12), (1, 4)], [(4, 18), (4, 19), (4, 20), (1, 2)], [(4, 22)], [(4, 23), (4, 24), (4, 25), (1, 2)], [(4, 31), (4, 32), (4, 33), (1, 4)], [(4, 35), (4, 36), (4, 37), (1, 4)], [(4, 84), (4, 85), (4, 86), (1, 4)], [(4, 150), (3, 193), (3, 194), (1, 4)], [(4, 151), (3, 197), (3, 198), (1, 4)], [(1, 81)], [(4, 144), (3, 90), (3, 91), (1, 4)], [(4, 145), (3, 189), (3, 190), (1, 4)], [(4, 146), (4, 147), (4, 148), (1, 2)], [(4, 152), (4, 153), (4, 154), (1, 2)], [(4, 140), (4, 141), (4, 142), (1, 2)], [(4, 169), (4, 170), (4, 171), (1, 2)], [(4, 173), (4, 44), (4, 45), (1, 4)], [(4, 164), (3, 66), (3, 67), (1, 4)], [(4, 165), (4, 166), (4, 167), (1, 2)], [(4, 174), (4, 175), (4, 176), (1, 4)], [(4, 178), (4, 179), (4, 180), (1, 4)], [(4, 182), (4, 183), (4, 184), (1, 4)], [(5, 162), (5, 163), (5, 164), (1, 2)], [(5, 166), (5, 167), (5, 168), (1, 4)], [(1, 85)], [(4, 56), (1, 1)], [(5, 184), (5, 171), (5, 172), (1, 4)], [(6, 212), (6, 213), (6, 214), (1, 3)], [(6, 216), (6, 217), (6, 218), (1, 5)], [(7, 35), (7, 36), (7, 37), (1, 3)], [(7, 39), (7, 40), (7, 41), (1, 4)], [(1, 149)], [(1, 129)], [(1, 212)], [(1, 232)]]
theorem mjRok_1 : ∀ e ∈ mjR_1, ∀ w ∈ mjWords e, w ∈ mjT := mjOk3_mem _ mjP_1 (by decide +kernel)
def mjP_2 : List (List (Nat × Nat)) := [[(1, 39), (1, 26), (1, 27)], [(1, 42)], [(1, 43)], [(1, 44)], [(1, 45)], [(1, 46)], [(1, 48)], [(1, 49)], [(1, 50)], [(1, 40)], [(4, 118), (1, 1)], [(1, 47)], [(2, 192), (1, 1)], [(2, 194)], [(2, 195)], [(2, 196)], [(2, 205), (2, 206), (2, 207), (1, 3)], [(2, 209), (2, 210), (2, 211), (1, 3)], [(3, 172), (3, 173), (3, 174), (1, 3)], [(3, 46), (3, 47), (3, 48), (1, 3)], [(6, 44), (3, 181), (3, 182), (1, 3)], [(2, 213), (2, 214), (2, 215), (1, 3)], [(3, 1)]]
theorem mjRok_2 : ∀ e ∈ mjR_2, ∀ w ∈ mjWords e, w ∈ mjT := mjOk3_mem _ mjP_2 (by decide +kernel)
def mjP_3 : List (List (Nat × Nat)) := [[(1, 230), (1, 26), (1, 27)], [(1, 233)], [(1, 234)], [(1, 235)], [(1, 236)], [(1, 231)], [(4, 118), (1, 1)], [(2, 192), (1, 1)], [(6, 164)], [(6, 165)], [(6, 178)], [(1, 237)], [(6, 179), (6, 180), (6, 181), (1, 9)], [(6, 183), (6, 184), (6, 185), (1, 9)], [(6, 187), (6, 188), (6, 189), (1, 9)], [(1, 238)], [(1, 239)], [(6, 174), (6, 175), (6, 176), (1, 9)]]
theorem mjRok_3 : ∀ e ∈ mjR_3, ∀ w ∈ mjWords e, w ∈ mjT := mjOk3_mem _ mjP_3 (by decide +kernel)
def mjP_4 : List (List (Nat × Nat)) := [[(1, 78), (1, 26), (1, 27)], [(1, 82)], [(1, 83)], [(1, 84)], [(1, 86)], [(1, 87)], [(1, 88)], [(1, 89)], [(1, 90)], [(1, 91)], [(1, 92)], [(1, 93)], [(1, 94)], [(1, 79)], [(4, 118), (1, 1)], [(3, 37), (3, 38), (3, 39), (1, 4)], [(3, 73)], [(2, 192), (1, 1)], [(3, 69), (3, 70), (3, 71), (1, 4)], [(3, 188), (3, 189), (3, 190), (1, 4)], [(3, 192), (3, 193), (3, 194), (1, 4)], [(3, 89), (3, 90), (3, 91), (1, 4)], [(3, 65), (3, 66), (3, 67), (1, 4)], [(3, 63), (1, 1)], [(3, 74)], [(3, 58), (3, 59), (3, 60), (1, 4)], [(3, 75)], [(3, 76), (3, 77), (3, 78), (1, 4)], [(3, 80)], [(3, 109), (3, 110), (3, 111), (1, 4)], [(3, 113)], [(3, 196), (3, 197), (3, 198), (1, 4)], [(4, 14), (4, 15), (4, 16), (1, 4)], [(4, 39), (4, 40), (4, 41), (1, 4)], [(4, 51), (4, 52), (4, 53), (1, 4)], [(4, 64), (4, 65), (4, 66), (1, 4)], [(4, 72), (4, 73), (4, 74), (1, 4)], [(4, 43), (4, 44), (4, 45), (1, 4)], [(4, 47), (4, 48), (4, 49), (1, 4)], [(4, 56), (1, 1)], [(4, 68), (4, 69), (4, 70), (1, 4)], [(4, 88)], [(4, 89), (4, 90), (4, 91), (1, 4)], [(4, 93), (4, 94), (4, 95), (1, 4)], [(4, 113), (4, 114), (4, 115), (1, 4)], [(4, 128), (4, 129), (4, 130), (1, 4)], [(5, 170), (5, 171), (5, 172), (1, 4)]]
theorem mjRok_4 : ∀ e ∈ mjR_4, ∀ w ∈ mjWords e, w ∈ mjT := mjOk3_mem _ mjP_4 (by decide +kernel)
def mjP_5 : List (List (Nat × Nat)) := [[(2, 103), (1, 26), (1, 27)], [(2, 110)], [(2, 112)], [(4, 222), (4, 223), (4, 224), (1, 11)], [(4, 226), (4, 227), (4, 228), (1, 10)], [(4, 235), (4, 236), (4, 237), (1, 10)], [(5, 7), (5, 8), (5, 9), (1, 11)], [(2, 104)], [(5, 67)], [(5, 68), (5, 0), (5, 1), (1, 10)], [(2, 90)], [(2, 116)], [(5, 69), (5, 70), (5, 71), (1, 11)], [(5, 108), (5, 109), (5, 110), (1, 11)], [(2, 114)], [(5, 116), (5, 117), (5, 118), (1, 11)], [(2, 106)], [(2, 108)], [(2, 113)], [(2, 115)], [], [(5, 12), (5, 13), (5, 14), (1, 10)], [], [], [], [], [], [], [], [(5, 73), (4, 231), (4, 232), (1, 10)], [(5, 74), (5, 75), (5, 76), (1, 11)], [(5, 78), (5, 79), (5, 80), (1, 11)], [(5, 82), (5, 83), (5, 84), (1, 11)], [(5, 96), (5, 97), (5, 98), (1, 11)], [(5, 100), (5, 101), (5, 102), (1, 11)], [(5, 86), (5, 87), (5, 88), (1, 11)], [(5, 94), (5, 17), (5, 18), (1, 16)], [(5, 95), (5, 27), (5, 28), (1, 16)], [(5, 112), (5, 113), (5, 114), (1, 11)], [(5, 120), (5, 121), (5, 122), (1, 11)], [(5, 104), (5, 105), (5, 106), (1, 11)]]
theorem mjRok_5 : ∀ e ∈ mjR_5, ∀ w ∈ mjWords e, w ∈ mjT := mjOk3_mem _ mjP_5 (by decide +kernel)
def mjP_6 : List (List (Nat × Nat)) := [[(1, 127), (1, 26), (1, 27)], [(1, 130)], [(1, 131)], [(1, 132)], [(1, 128)], [(4, 118), (1, 1)], [(3, 130), (3, 38), (3, 39), (1, 4)], [(2, 192), (1, 1)], [(3, 132)], [(3, 133)], [(3, 33), (3, 34), (3, 35), (1, 4)]]
theorem mjRok_6 : ∀ e ∈ mjR_6, ∀ w ∈ mjWords e, w ∈ mjT := mjOk3_mem _ mjP_6 (by decide +kernel)
def mjP_7 : List (List (Nat × Nat)) := [[(1, 210), (1, 26), (1, 27)], [(1, 213)], [(1, 214)], [(1, 215)], [(1, 211)], [(4, 118), (1, 1)], [(6, 76)], [(2, 192), (1, 1)], [(6, 95), (4, 62), (1, 15), (4, 63)], [(6, 96), (4, 59), (1, 15), (4, 60)], [(6, 86), (6, 87), (6, 88), (1, 8)], [(6, 90)], [(6, 91), (6, 92), (6, 93), (1, 8)], [(6, 97), (6, 63), (1, 14)], [(6, 106)], [(6, 115), (6, 116), (6, 117), (1, 8)], [(6, 139), (6, 140), (6, 141), (1, 8)], [(6, 151), (6, 152), (6, 153), (1, 8)], [(6, 119), (6, 120), (6, 121), (1, 8)], [(6, 123), (6, 124), (6, 125), (1, 8)], [(6, 127), (6, 128), (6, 129), (1, 8)], [(6, 131), (6, 132), (6, 133), (1, 8)], [(6, 135), (6, 136), (6, 137), (1, 8)]]
theorem mjRok_7 : ∀ e ∈ mjR_7, ∀ w ∈ mjWords e, w ∈ mjT := mjOk3_mem _ mjP_7 (by decide +kernel)
def mjP_8 : List (List (Nat × Nat)) := [[(2, 88), (1, 26), (1, 27)], [(2, 92)], [(2, 89)], [(4, 194)], [(4, 195), (4, 196), (4, 197), (1, 10)], [(2, 192), (1, 1)], [(4, 208)], [(4, 234)], [(4, 230), (4, 231), (4, 232), (1, 10)], [(4, 239), (5, 0), (5, 1), (1, 10)], [(5, 3), (5, 4), (5, 5), (1, 10)], [(5, 16), (5, 17), (5, 18), (1, 16)], [(5, 26), (5, 27), (5, 28), (1, 16)]]
theorem mjRok_8 : ∀ e ∈ mjR_8, ∀ w ∈ mjWords e, w ∈ mjT := mjOk3_mem _ mjP_8 (by decide +kernel)
def mjP_9 : List (List (Nat × Nat)) := [[(1, 147), (1, 26), (1, 27)], [(1, 150)], [(1, 151)], [(1, 152)], [(1, 153)], [(1, 154)], [(1, 155)], [(1, 156)], [(1, 148)], [(4, 118), (1, 1)], [(5, 129)], [(2, 105)], [(2, 107)], [(2, 109)], [(2, 111)], [(5, 139)], [(3, 220)], [(1, 157)], [(3, 226), (3, 227), (3, 228), (1, 6)], [(3, 234), (3, 235), (3, 236), (1, 6)], [(3, 230), (3, 231), (3, 232), (1, 6)], [(3, 238), (3, 239), (4, 0), (1, 6)]]
theorem mjRok_9 : ∀ e ∈ mjR_9, ∀ w ∈ mjWords e, w ∈ mjT := mjOk3_mem _ mjP_9 (by decide +kernel)
def mjP_10 : List (List (Nat × Nat)) := [[(1, 182), (1, 26), (1, 27)], [(1, 183)], [(1, 184)], [(1, 185)], [(4, 118), (1, 1)], [(2, 192), (1, 1)], [(6, 25)], [(6, 34), (6, 35), (6, 36), (1, 7)], [(6, 40), (6, 41), (6, 42), (1, 3)], [(6, 45), (6, 46), (6, 47), (1, 7)], [(1, 187)], [(6, 49)], [(1, 188)], [(1, 189)], [(1, 186)], [(1, 80)], [(6, 38), (3, 66), (3, 67), (1, 4)], [(6, 39), (3, 197), (3, 198), (1, 4)], [(6, 50), (6, 51), (6, 52), (1, 7)], [(6, 54), (6, 55), (6, 56), (1, 7)], [(6, 58), (6, 59), (6, 60), (1, 7)], [(6, 62), (6, 63), (1, 14)]]
theorem mjRok_10 : ∀ e ∈ mjR_10, ∀ w ∈ mjWords e, w ∈ mjT := mjOk3_mem _ mjP_10 (by decide +kernel)
def mjP_11 : List (List (Nat × Nat)) := [[(1, 25), (1, 26), (1, 27)], [(1, 28), (1, 29), (1, 2)], [(1, 31), (1, 2)], [(2, 155)], [(2, 156)], [(2, 83), (2, 84), (1, 10)], [(2, 86), (1, 10)], [(2, 158)], [(2, 98), (2, 99), (1, 11)], [(2, 101), (1, 11)], [(2, 159)], [(2, 136), (2, 137), (1, 12)], [(2, 139), (1, 12)], [(2, 160)], [(2, 162)], [(2, 163)], [(2, 22)], [(2, 187), (2, 188), (2, 189), (1, 3)], [(2, 18)], [(2, 201), (2, 202), (2, 203), (1, 3)], [(2, 221), (2, 222), (2, 223), (1, 3)], [(2, 229), (2, 230), (2, 231), (1, 3)], [(2, 237), (2, 238), (2, 239), (1, 3)], [(3, 6), (3, 7), (3, 8), (1, 3)], [(3, 14), (3, 15), (3, 16), (1, 2)], [(3, 24), (3, 25), (3, 26), (1, 2)], [(2, 24)], [(3, 54), (3, 55), (3, 56), (1, 4)], [(3, 85), (3, 86), (3, 87), (1, 4)], [(3, 97), (3, 98), (3, 99), (1, 4)], [(3, 105), (3, 106), (3, 107), (1, 4)], [(3, 118), (3, 119), (3, 120), (1, 4)], [(2, 26)], [(3, 126), (3, 127), (3, 128), (1, 5)], [(3, 138), (2, 206), (2, 207), (1, 3)], [(3, 139), (3, 38), (3, 39), (1, 4)], [(3, 140)], [(3, 141), (3, 142), (3, 143), (1, 2)], [(3, 157), (3, 158), (3, 159), (1, 2)], [(4, 6), (4, 7), (4, 8), (1, 2)], [(4, 80), (4, 81), (4, 82), (1, 2)], [(4, 101), (4, 102), (4, 103), (1, 4)], [(4, 109), (4, 110), (4, 111), (1, 4)], [(4, 124), (4, 125), (4, 126), (1, 4)], [(4, 136), (4, 137), (4, 138), (1, 2)], [(4, 160), (4, 161), (4, 162), (1, 2)], [(4, 190), (4, 191), (4, 192), (1, 10)], [(4, 203), (4, 204), (4, 205), (1, 10)], [(4, 213), (2, 192), (1, 1)], [(4, 214), (4, 215), (4, 216), (1, 10)], [(4, 218), (4, 219), (4, 220), (1, 11)], [(5, 124)], [(2, 28)], [(5, 125), (5, 126), (5, 127), (1, 6)], [(5, 135), (5, 136), (5, 137), (1, 6)], [(5, 144), (3, 213), (3, 214), (1, 2)], [(5, 145), (3, 217), (3, 218), (1, 6)], [(5, 150), (5, 151), (5, 152), (1, 2)], [(5, 158), (5, 159), (5, 160), (1, 2)], [(5, 178), (5, 179), (5, 180), (1, 2)], [(5, 189), (5, 190), (5, 191), (1, 12)], [(5, 204), (5, 205), (5, 206), (1, 12)], [(5, 226), (5, 227), (5, 228), (1, 12)], [(5, 238), (5, 239), (6, 0), (1, 12)], [(6, 10), (6, 11), (6, 12), (1, 12)], [(2, 30)], [(6, 20), (6, 21), (6, 22), (1, 7)], [(6, 30), (6, 31), (6, 32), (1, 7)], [(2, 32)], [(6, 72), (6, 73), (6, 74), (1, 8)], [(6, 81), (6, 82), (6, 83), (1, 8)], [(6, 102), (6, 103), (6, 104), (1, 8)], [(6, 111), (6, 112), (6, 113), (1, 8)], [(6, 147), (6, 148), (6, 149), (1, 8)], [(2, 34)], [(6, 159), (6, 160), (6, 161), (1, 9)], [(6, 170), (6, 171), (6, 172), (1, 9)], [(2, 161)], [(6, 195)], [(6, 200), (6, 201), (6, 202), (1, 9)], [(6, 204), (6, 206), (0, 0), (1, 1)], [(2, 157)], [(6, 208), (6, 209), (6, 210), (1, 2)], [(6, 220)], [(6, 225), (6, 226), (6, 227), (1, 2)], [(2, 91)], [(7, 31), (7, 32), (7, 33), (1, 2)], [(4, 58), (4, 59), (1, 15), (4, 60)], [(4, 61), (4, 62), (1, 15), (4, 63)]]
theorem mjRok_11 : ∀ e ∈ mjR_11, ∀ w ∈ mjWords e, w ∈ mjT := mjOk3_mem _ mjP_11 (by decide +kernel)
def mjP_12 : List (List (Nat × Nat)) := [[(7, 48), (1, 26), (1, 27)], [(7, 49)], [(7, 50)], [(7, 51)], [(7, 53)], [(7, 54)], [(7, 55)], [(7, 59)], [(7, 60)], [(7, 61)], [(7, 62)], [(7, 74)], [(7, 75)], [(7, 76)], [(7, 77)], [(7, 78)], [(7, 79)], [(7, 80)], [(7, 82)], [(7, 185)], [(7, 163), (7, 164), (1, 13)], [(7, 162)], [(8, 61)], [(7, 237), (7, 239), (0, 9), (1, 13)], [(8, 14), (8, 16), (0, 12), (1, 13)], [(8, 18), (8, 20), (0, 13), (1, 13)], [(7, 159), (7, 160), (1, 13)], [(7, 166)], [(7, 167)], [(7, 168)], [(7, 169), (7, 171), (0, 1), (1, 13)], [(7, 194), (7, 196), (0, 5), (1, 13)], [(7, 190), (7, 192), (0, 4), (1, 13)], [(7, 177), (7, 179), (0, 2), (1, 13)], [(7, 181)], [(7, 182), (7, 183), (1, 13)], [(7, 186), (7, 188), (0, 3), (1, 13)], [(7, 202)], [(7, 203), (7, 205), (0, 6), (1, 13)], [(7, 215)], [(7, 233), (7, 235), (0, 8), (1, 13)], [(7, 228)], [(7, 229), (7, 231), (0, 7), (1, 13)], [(8, 9)], [(8, 10), (8, 12), (0, 11), (1, 13)], [(8, 22)], [(8, 23)], [(8, 24)], [(8, 25)], [(8, 5), (8, 7), (0, 10), (1, 13)], [(8, 26), (8, 28), (0, 14), (1, 13)], [(8, 34), (8, 36), (0, 15), (1, 13)], [(8, 42)], [(8, 47)], [(8, 48)], [(8, 53)], [(8, 58), (8, 59), (1, 13)], [(8, 62)], [(8, 67), (8, 69), (0, 16), (1, 13)], [(8, 84), (8, 86), (0, 19), (1, 13)], [(7, 56)], [(7, 57)], [(7, 58)], [(8, 80), (8, 82), (0, 18), (1, 13)], [(8, 88), (8, 90), (0, 20), (1, 13)], [(8, 96), (8, 98), (0, 22), (1, 13)], [(8, 75)], [(8, 76), (8, 78), (0, 17), (1, 13)], [(8, 111), (8, 113), (0, 24), (1, 13)], [(8, 126), (8, 128), (0, 27), (1, 13)], [(8, 107), (8, 109), (0, 23), (1, 13)], [(8, 115), (8, 117), (0, 25), (1, 13)], [(8, 119), (8, 120), (1, 13)], [(8, 122), (8, 124), (0, 26), (1, 13)], [(8, 130), (8, 132), (0, 28), (1, 13)], [(8, 146), (8, 148), (0, 29), (1, 13)], [(8, 154), (8, 156), (0, 30), (1, 13)], [(8, 166), (8, 168), (0, 32), (1, 13)], [(8, 162), (8, 164), (0, 31), (1, 13)], [(8, 178), (8, 180), (0, 34), (1, 13)], [(8, 174), (8, 176), (0, 33), (1, 13)], [(7, 63)], [(8, 207)], [(8, 208)], [(8, 213)], [(8, 214)], [(7, 65)], [(7, 66)], [(7, 64)], [(8, 203), (8, 205), (0, 37), (1, 13)], [(7, 68)], [(8, 209), (8, 211), (0, 38), (1, 13)], [(7, 67)], [(8, 219), (8, 221), (0, 40), (1, 13)], [(8, 223), (8, 225), (0, 41), (1, 13)], [(7, 72)], [(7, 71)], [(8, 231), (8, 233), (0, 43), (1, 13)], [(9, 18), (9, 20), (0, 49), (1, 13)], [(8, 199), (8, 201), (0, 36), (1, 13)], [(9, 11), (9, 13), (0, 48), (1, 13)], [(8, 235), (8, 237), (0, 44), (1, 13)], [(8, 239), (9, 1), (0, 45), (1, 13)], [(9, 3), (9, 5), (0, 46), (1, 13)], [(9, 7), (9, 9), (0, 47), (1, 13)], [(7, 73)], [(9, 15), (9, 16), (1, 13)], [(7, 70)], [(7, 69)], [(8, 227), (8, 229), (0, 42), (1, 13)], [(8, 92), (8, 94), (0, 21), (1, 13)], [(8, 215), (8, 217), (0, 39), (1, 13)], [(8, 194)], [(8, 195), (8, 197), (0, 35), (1, 13)], [(9, 26), (9, 28), (0, 50), (1, 13)], [(9, 30)], [(8, 100), (8, 101), (1, 13)], [(9, 43)], [(9, 44), (9, 46), (0, 51), (1, 13)], [(9, 48), (9, 50), (0, 52), (1, 13)], [(9, 56), (9, 40), (9, 41), (1, 13)], [(9, 61), (9, 62), (1, 13)], [(9, 64)], [(9, 65)], [(9, 70)], [(9, 71)], [(9, 72)], [(9, 73)], [(9, 78), (9, 80), (0, 53), (1, 13)], [(9, 94)], [(9, 99)], [(9, 100), (9, 102), (0, 54), (1, 13)], [(9, 104), (9, 105), (1, 13)], [(9, 107), (9, 109), (0, 55), (1, 13)], [(9, 135), (9, 137), (0, 58), (1, 13)], [(9, 131), (9, 133), (0, 57), (1, 13)], [(9, 127), (9, 129), (0, 56), (1, 13)], [(9, 147)], [(9, 159), (9, 161), (0, 60), (1, 13)], [(9, 163), (9, 165), (0, 61), (1, 13)], [(9, 152), (9, 153), (1, 13)], [(9, 155), (9, 157), (0, 59), (1, 13)], [(7, 81)], [(7, 83)], [(9, 179), (9, 181), (0, 63), (1, 13)], [(9, 187)], [(7, 52)], [(9, 188), (9, 190), (0, 65), (1, 13)], [(9, 192), (9, 194), (0, 66), (1, 13)], [(9, 175), (9, 177), (0, 62), (1, 13)], [(9, 183), (9, 185), (0, 64), (1, 13)]]
theorem mjRok_12 : ∀ e ∈ mjR_12, ∀ w ∈ mjWords e, w ∈ mjT := mjOk3_mem _ mjP_12 (by decide +kernel)
def mjP_13 : List (List (Nat × Nat)) := [[(1, 20), (1, 21), (1, 1)], [(1, 22), (1, 23), (1, 1)], [(7, 43), (7, 44), (1, 13)], [(7, 45), (7, 46), (1, 13)], [(2, 183), (2, 184), (2, 185), (1, 1)], [(7, 155), (7, 156), (7, 157), (1, 13)], [(2, 197), (2, 198), (2, 199), (1, 1)], [(7, 173), (7, 174), (7, 175), (1, 13)], [(2, 217), (2, 218), (2, 219), (1, 1)], [(7, 198), (7, 199), (7, 200), (1, 13)], [(2, 225), (2, 226), (2, 227), (1, 1)], [(7, 207), (7, 208), (7, 209), (1, 13)], [(2, 233), (2, 234), (2, 235), (1, 1)], [(7, 211), (7, 212), (7, 213), (1, 13)], [(3, 2), (3, 3), (3, 4), (1, 1)], [(7, 216), (7, 217), (7, 218), (1, 13)], [(3, 10), (3, 11), (3, 12), (1, 1)], [(7, 220), (7, 221), (7, 222), (1, 13)], [(3, 20), (3, 21), (3, 22), (1, 1)], [(7, 224), (7, 225), (7, 226), (1, 13)], [(3, 50), (3, 51), (3, 52), (1, 1)], [(8, 1), (8, 2), (8, 3), (1, 13)], [(3, 81), (3, 82), (3, 83), (1, 1)], [(8, 30), (8, 31), (8, 32), (1, 13)], [(3, 93), (3, 94), (3, 95), (1, 1)], [(8, 38), (8, 39), (8, 40), (1, 13)], [(3, 101), (3, 102), (3, 103), (1, 1)], [(8, 43), (8, 44), (8, 45), (1, 13)], [(3, 114), (3, 115), (3, 116), (1, 1)], [(8, 49), (8, 50), (8, 51), (1, 13)], [(3, 122), (3, 123), (3, 124), (1, 1)], [(8, 54), (8, 55), (8, 56), (1, 13)], [(3, 134), (3, 135), (3, 136), (1, 1)], [(8, 63), (8, 64), (8, 65), (1, 13)], [(3, 153), (3, 154), (3, 155), (1, 1)], [(8, 71), (8, 72), (8, 73), (1, 13)], [(4, 2), (4, 3), (4, 4), (1, 1)], [(8, 103), (8, 104), (8, 105), (1, 13)], [(4, 76), (4, 77), (4, 78), (1, 1)], [(8, 134), (8, 135), (8, 136), (1, 13)], [(4, 97), (4, 98), (4, 99), (1, 1)], [(8, 138), (8, 139), (8, 140), (1, 13)], [(4, 105), (4, 106), (4, 107), (1, 1)], [(8, 142), (8, 143), (8, 144), (1, 13)], [(4, 120), (4, 121), (4, 122), (1, 1)], [(8, 150), (8, 151), (8, 152), (1, 13)], [(4, 132), (4, 133), (4, 134), (1, 1)], [(8, 158), (8, 159), (8, 160), (1, 13)], [(4, 156), (4, 157), (4, 158), (1, 1)], [(8, 170), (8, 171), (8, 172), (1, 13)], [(4, 186), (4, 187), (4, 188), (1, 1)], [(8, 182), (8, 183), (8, 184), (1, 13)], [(4, 199), (4, 200), (4, 201), (1, 1)], [(8, 186), (8, 187), (8, 188), (1, 13)], [(4, 209), (4, 210), (4, 211), (1, 1)], [(8, 190), (8, 191), (8, 192), (1, 13)], [(5, 131), (5, 132), (5, 133), (1, 1)], [(9, 22), (9, 23), (9, 24), (1, 13)], [(5, 140), (5, 141), (5, 142), (1, 1)], [(9, 31), (9, 32), (9, 33), (1, 13)], [(5, 146), (5, 147), (5, 148), (1, 1)], [(9, 35), (9, 36), (9, 37), (1, 13)], [(5, 154), (5, 155), (5, 156), (1, 1)], [(9, 39), (9, 40), (9, 41), (1, 13)], [(5, 174), (5, 175), (5, 176), (1, 1)], [(9, 52), (9, 53), (9, 54), (1, 13)], [(5, 185), (5, 186), (5, 187), (1, 1)], [(9, 57), (9, 58), (9, 59), (1, 13)], [(5, 200), (5, 201), (5, 202), (1, 1)], [(9, 66), (9, 67), (9, 68), (1, 13)], [(5, 222), (5, 223), (5, 224), (1, 1)], [(9, 74), (9, 75), (9, 76), (1, 13)], [(5, 234), (5, 235), (5, 236), (1, 1)], [(9, 82), (9, 83), (9, 84), (1, 13)], [(6, 6), (6, 7), (6, 8), (1, 1)], [(9, 86), (9, 87), (9, 88), (1, 13)], [(6, 16), (6, 17), (6, 18), (1, 1)], [(9, 90), (9, 91), (9, 92), (1, 13)], [(6, 26), (6, 27), (6, 28), (1, 1)], [(9, 95), (9, 96), (9, 97), (1, 13)], [(6, 68), (6, 69), (6, 70), (1, 1)], [(9, 111), (9, 112), (9, 113), (1, 13)], [(6, 77), (6, 78), (6, 79), (1, 1)], [(9, 115), (9, 116), (9, 117), (1, 13)], [(6, 98), (6, 99), (6, 100), (1, 1)], [(9, 119), (9, 120), (9, 121), (1, 13)], [(6, 107), (6, 108), (6, 109), (1, 1)], [(9, 123), (9, 124), (9, 125), (1, 13)], [(6, 143), (6, 144), (6, 145), (1, 1)], [(9, 139), (9, 140), (9, 141), (1, 13)], [(6, 155), (6, 156), (6, 157), (1, 1)], [(9, 143), (9, 144), (9, 145), (1, 13)], [(6, 166), (6, 167), (6, 168), (1, 1)], [(9, 148), (9, 149), (9, 150), (1, 13)], [(6, 191), (6, 192), (6, 193), (1, 1)], [(9, 167), (9, 168), (9, 169), (1, 13)], [(6, 196), (6, 197), (6, 198), (1, 1)], [(9, 171), (9, 172), (9, 173), (1, 13)], [(6, 221), (6, 222), (6, 223), (1, 1)], [(9, 196), (9, 197), (9, 198), (1, 13)], [(7, 23), (7, 24), (7, 25), (1, 1)], [(9, 200), (9, 201), (9, 202), (1, 13)], [(7, 27), (7, 28), (7, 29), (1, 1)], [(9, 204), (9, 205), (9, 206), (1, 13)]]
theorem mjRok_13 : ∀ e ∈ mjR_13, ∀ w ∈ mjWords e, w ∈ mjT := mjOk3_mem _ mjP_13 (by decide +kernel)
def mjP_14 : List (List (Nat × Nat)) := [[(6, 65)], [(6, 66)], [(6, 67)]]
theorem mjRok_14 : ∀ e ∈ mjR_14, ∀ w ∈ mjWords e, w ∈ mjT := mjOk3_mem _ mjP_14 (by decide +kernel)
def mjP_15 : List (List (Nat × Nat)) := []
theorem mjRok_15 : ∀ e ∈ mjR_15, ∀ w ∈ mjWords e, w ∈ mjT := mjOk3_mem _ mjP_15 (by decide +kernel)
theorem mjR_words {own idx : Nat} {e : mRe} (h : mjR own idx = some e) : e.2.1 = idx ∧ ∀ w ∈ mjWords e, w ∈ mjT := by
  unfold mjR at h
  split at h
  · cases h
  · next l hl =>
    have h1 := List.mem_of_find?_eq_some h
    have h2 := List.find?_some h
    refine ⟨by simpa using h2, ?_⟩
    have hl' := List.mem_of_getElem? hl
    simp only [mjRs, List.mem_cons, List.not_mem_nil, or_false] at hl'
    rcases hl' with rfl | rfl | rfl | rfl | rfl | rfl | rfl | rfl | rfl | rfl | rfl | rfl | rfl | rfl | rfl | rfl
    · exact mjRok_0 e h1
    · exact mjRok_1 e h1
    · exact mjRok_2 e h1
    · exact mjRok_3 e h1
    · exact mjRok_4 e h1
    · exact mjRok_5 e h1
    · exact mjRok_6 e h1
    · exact mjRok_7 e h1
    · exact mjRok_8 e h1
    · exact mjRok_9 e h1
    · exact mjRok_10 e h1
    · exact mjRok_11 e h1
    · exact mjRok_12 e h1
    · exact mjRok_13 e h1
    · exact mjRok_14 e h1
    · exact mjRok_15 e h1
def mjOwnOk : List (List mRe) → Nat → Bool
  | [], _ => true
  | l :: ls, k => l.all (fun e => e.1 == k) && mjOwnOk ls (k + 1)
theorem mjOwnOk_at : ∀ (ls : List (List mRe)) (k : Nat), mjOwnOk ls k = true → ∀ (j : Nat) (l : List mRe), ls[j]? = some l → ∀ e ∈ l, e.1 = k + j := by
  intro ls
  induction ls with
  | nil => intro k _ j l hl; simp at hl
  | cons a ls ih =>
    intro k h j l hl e he
    simp only [mjOwnOk, Bool.and_eq_true] at h
    cases j with
    | zero =>
      simp only [List.getElem?_cons_zero, Option.some.injEq] at hl
      subst hl
      have h3 := List.all_eq_true.mp h.1 e he
      simpa using h3
    | succ j =>
      simp only [List.getElem?_cons_succ] at hl
      have := ih (k + 1) h.2 j l hl e he
      omega
theorem mjRs_own : mjOwnOk mjRs 0 = true := by decide +kernel
theorem mjR_own {own idx : Nat} {e : mRe} (h : mjR own idx = some e) : e.1 = own := by
  unfold mjR at h
  split at h
  · cases h
  · next l hl =>
    have := mjOwnOk_at mjRs 0 mjRs_own own l hl e (List.mem_of_find?_eq_some h)
    omega
def mjMw (q : mMd) : Cond := .code q.1 q.2.1 q.2.2.1 q.2.2.2.1
theorem mjTab_1 : ∀ w ∈ tables_1_1, w ∈ lw_tbl := mjTabs_in _ (List.mem_of_getElem? (i := 1) rfl)
theorem mjTab_2 : ∀ w ∈ tables_1_2, w ∈ lw_tbl := mjTabs_in _ (List.mem_of_getElem? (i := 2) rfl)
theorem mjTab_3 : ∀ w ∈ tables_1_3, w ∈ lw_tbl := mjTabs_in _ (List.mem_of_getElem? (i := 3) rfl)
theorem mjTab_4 : ∀ w ∈ tables_1_4, w ∈ lw_tbl := mjTabs_in _ (List.mem_of_getElem? (i := 4) rfl)
theorem mjTab_5 : ∀ w ∈ tables_1_5, w ∈ lw_tbl := mjTabs_in _ (List.mem_of_getElem? (i := 5) rfl)
theorem mjTab_6 : ∀ w ∈ tables_1_6, w ∈ lw_tbl := mjTabs_in _ (List.mem_of_getElem? (i := 6) rfl)
theorem mjTab_7 : ∀ w ∈ tables_1_7, w ∈ lw_tbl := mjTabs_in _ (List.mem_of_getElem? (i := 7) rfl)
theorem mjTab_8 : ∀ w ∈ tables_1_8, w ∈ lw_tbl := mjTabs_in _ (List.mem_of_getElem? (i := 8) rfl)
theorem mjTab_9 : ∀ w ∈ tables_1_9, w ∈ lw_tbl := mjTabs_in _ (List.mem_of_getElem? (i := 9) rfl)
theorem mjInc {l : List Cond} {q : mMd} (hl : ∀ w ∈ l, w ∈ lw_tbl) (i : Nat) (h : l[i]? = some (mjMw q)) (hg : goodWord (mjMw q) = true) : q.2.2.2.2 ≠ 13 → mjMw q ∈ mjT := fun _ => List.mem_filter.mpr ⟨hl _ (List.mem_of_getElem? h), hg⟩
theorem mjMc_0 : (0 : Nat) ≠ 13 → mjMw (yX0_init, cX0_init, 1, none, 0) ∈ mjT := mjInc (q := (yX0_init, cX0_init, 1, none, 0)) mjTab_2 140 rfl rfl
theorem mjMc_1 : (0 : Nat) ≠ 13 → mjMw (yX0_open, cX0_open, 5, (some .int), 0) ∈ mjT := mjInc (q := (yX0_open, cX0_open, 5, (some .int), 0)) mjTab_5 192 rfl rfl
theorem mjMc_2 : (0 : Nat) ≠ 13 → mjMw (yX0_isOffice, cX0_isOffice, 2, (some .boolean), 0) ∈ mjT := mjInc (q := (yX0_isOffice, cX0_isOffice, 2, (some .boolean), 0)) mjTab_5 196 rfl rfl
theorem mjMc_3 : (0 : Nat) ≠ 13 → mjMw (yX0_hasYear, cX0_hasYear, 3, (some .boolean), 0) ∈ mjT := mjInc (q := (yX0_hasYear, cX0_hasYear, 3, (some .boolean), 0)) mjTab_5 216 rfl rfl
theorem mjMc_4 : (0 : Nat) ≠ 13 → mjMw (yX0_refusalOfYear, cX0_refusalOfYear, 3, (some .int), 0) ∈ mjT := mjInc (q := (yX0_refusalOfYear, cX0_refusalOfYear, 3, (some .int), 0)) mjTab_5 211 rfl rfl
theorem mjMc_5 : (0 : Nat) ≠ 13 → mjMw (yX0_write, cX0_write, 5, (some .int), 0) ∈ mjT := mjInc (q := (yX0_write, cX0_write, 5, (some .int), 0)) mjTab_5 207 rfl rfl
theorem mjMc_6 : (0 : Nat) ≠ 13 → mjMw (yX0_yearRead, cX0_yearRead, 4, (some .int), 0) ∈ mjT := mjInc (q := (yX0_yearRead, cX0_yearRead, 4, (some .int), 0)) mjTab_5 233 rfl rfl
theorem mjMc_7 : (0 : Nat) ≠ 13 → mjMw (yX0_readAt, cX0_readAt, 5, (some .int), 0) ∈ mjT := mjInc (q := (yX0_readAt, cX0_readAt, 5, (some .int), 0)) mjTab_5 229 rfl rfl
theorem mjMc_8 : (0 : Nat) ≠ 13 → mjMw (yX0_reaches, cX0_reaches, 4, (some .boolean), 0) ∈ mjT := mjInc (q := (yX0_reaches, cX0_reaches, 4, (some .boolean), 0)) mjTab_6 5 rfl rfl
theorem mjMc_9 : (0 : Nat) ≠ 13 → mjMw (yX0_carryOver, cX0_carryOver, 7, (some .int), 0) ∈ mjT := mjInc (q := (yX0_carryOver, cX0_carryOver, 7, (some .int), 0)) mjTab_6 1 rfl rfl
theorem mjMc_10 : (0 : Nat) ≠ 13 → mjMw (yX0_spanOf, cX0_spanOf, 9, (some .int), 0) ∈ mjT := mjInc (q := (yX0_spanOf, cX0_spanOf, 9, (some .int), 0)) mjTab_6 13 rfl rfl
theorem mjMc_11 : (1 : Nat) ≠ 13 → mjMw (yX1_init, cX1_init, 1, none, 1) ∈ mjT := mjInc (q := (yX1_init, cX1_init, 1, none, 1)) mjTab_1 32 rfl rfl
theorem mjMc_12 : (1 : Nat) ≠ 13 → mjMw (yX1_become, cX1_become, 2, none, 1) ∈ mjT := mjInc (q := (yX1_become, cX1_become, 2, none, 1)) mjTab_6 228 rfl rfl
theorem mjMc_13 : (1 : Nat) ≠ 13 → mjMw (yX1_hourNow, cX1_hourNow, 1, (some .int), 1) ∈ mjT := mjInc (q := (yX1_hourNow, cX1_hourNow, 1, (some .int), 1)) mjTab_3 215 rfl rfl
theorem mjMc_14 : (1 : Nat) ≠ 13 → mjMw (yX1_setStopped, cX1_setStopped, 3, (some .int), 1) ∈ mjT := mjInc (q := (yX1_setStopped, cX1_setStopped, 3, (some .int), 1)) mjTab_3 17 rfl rfl
theorem mjMc_15 : (1 : Nat) ≠ 13 → mjMw (yX1_goOn, cX1_goOn, 3, (some .int), 1) ∈ mjT := mjInc (q := (yX1_goOn, cX1_goOn, 3, (some .int), 1)) mjTab_3 27 rfl rfl
theorem mjMc_16 : (1 : Nat) ≠ 13 → mjMw (yX1_hasRead, cX1_hasRead, 3, (some .boolean), 1) ∈ mjT := mjInc (q := (yX1_hasRead, cX1_hasRead, 3, (some .boolean), 1)) mjTab_3 144 rfl rfl
theorem mjMc_17 : (1 : Nat) ≠ 13 → mjMw (yX1_voiceOf, cX1_voiceOf, 4, (some .int), 1) ∈ mjT := mjInc (q := (yX1_voiceOf, cX1_voiceOf, 4, (some .int), 1)) mjTab_3 179 rfl rfl
theorem mjMc_18 : (1 : Nat) ≠ 13 → mjMw (yX1_poll, cX1_poll, 4, none, 1) ∈ mjT := mjInc (q := (yX1_poll, cX1_poll, 4, none, 1)) mjTab_3 167 rfl rfl
theorem mjMc_19 : (1 : Nat) ≠ 13 → mjMw (yX1_countVoters, cX1_countVoters, 3, none, 1) ∈ mjT := mjInc (q := (yX1_countVoters, cX1_countVoters, 3, none, 1)) mjTab_4 26 rfl rfl
theorem mjMc_20 : (1 : Nat) ≠ 13 → mjMw (yX1_polledPasses, cX1_polledPasses, 3, (some .boolean), 1) ∈ mjT := mjInc (q := (yX1_polledPasses, cX1_polledPasses, 3, (some .boolean), 1)) mjTab_3 211 rfl rfl
theorem mjMc_21 : (1 : Nat) ≠ 13 → mjMw (yX1_mayBePut, cX1_mayBePut, 3, (some .boolean), 1) ∈ mjT := mjInc (q := (yX1_mayBePut, cX1_mayBePut, 3, (some .boolean), 1)) mjTab_4 21 rfl rfl
theorem mjMc_22 : (1 : Nat) ≠ 13 → mjMw (yX1_voteFact, cX1_voteFact, 4, (some .int), 1) ∈ mjT := mjInc (q := (yX1_voteFact, cX1_voteFact, 4, (some .int), 1)) mjTab_3 160 rfl rfl
theorem mjMc_23 : (1 : Nat) ≠ 13 → mjMw (yX1_putToVote, cX1_putToVote, 4, (some .int), 1) ∈ mjT := mjInc (q := (yX1_putToVote, cX1_putToVote, 4, (some .int), 1)) mjTab_4 9 rfl rfl
theorem mjMc_24 : (1 : Nat) ≠ 13 → mjMw (yX1_letRulingWork, cX1_letRulingWork, 2, (some .int), 1) ∈ mjT := mjInc (q := (yX1_letRulingWork, cX1_letRulingWork, 2, (some .int), 1)) mjTab_4 83 rfl rfl
theorem mjMc_25 : (1 : Nat) ≠ 13 → mjMw (yX1_worthInOrder, cX1_worthInOrder, 4, (some .int), 1) ∈ mjT := mjInc (q := (yX1_worthInOrder, cX1_worthInOrder, 4, (some .int), 1)) mjTab_4 149 rfl rfl
theorem mjMc_26 : (1 : Nat) ≠ 13 → mjMw (yX1_layRow, cX1_layRow, 4, (some .int), 1) ∈ mjT := mjInc (q := (yX1_layRow, cX1_layRow, 4, (some .int), 1)) mjTab_4 143 rfl rfl
theorem mjMc_27 : (1 : Nat) ≠ 13 → mjMw (yX1_placeInRow, cX1_placeInRow, 5, none, 1) ∈ mjT := mjInc (q := (yX1_placeInRow, cX1_placeInRow, 5, none, 1)) mjTab_4 155 rfl rfl
theorem mjMc_28 : (1 : Nat) ≠ 13 → mjMw (yX1_inRow, cX1_inRow, 2, (some .int), 1) ∈ mjT := mjInc (q := (yX1_inRow, cX1_inRow, 2, (some .int), 1)) mjTab_4 139 rfl rfl
theorem mjMc_29 : (1 : Nat) ≠ 13 → mjMw (yX1_bindWorth, cX1_bindWorth, 4, (some .int), 1) ∈ mjT := mjInc (q := (yX1_bindWorth, cX1_bindWorth, 4, (some .int), 1)) mjTab_4 172 rfl rfl
theorem mjMc_30 : (1 : Nat) ≠ 13 → mjMw (yX1_bindingSum, cX1_bindingSum, 8, (some .int), 1) ∈ mjT := mjInc (q := (yX1_bindingSum, cX1_bindingSum, 8, (some .int), 1)) mjTab_4 168 rfl rfl
theorem mjMc_31 : (1 : Nat) ≠ 13 → mjMw (yX1_lineFact, cX1_lineFact, 3, (some .int), 1) ∈ mjT := mjInc (q := (yX1_lineFact, cX1_lineFact, 3, (some .int), 1)) mjTab_4 163 rfl rfl
theorem mjMc_32 : (1 : Nat) ≠ 13 → mjMw (yX1_addIncome, cX1_addIncome, 3, (some .int), 1) ∈ mjT := mjInc (q := (yX1_addIncome, cX1_addIncome, 3, (some .int), 1)) mjTab_5 153 rfl rfl
theorem mjMc_33 : (1 : Nat) ≠ 13 → mjMw (yX1_incomeAt, cX1_incomeAt, 4, (some .int), 1) ∈ mjT := mjInc (q := (yX1_incomeAt, cX1_incomeAt, 4, (some .int), 1)) mjTab_5 165 rfl rfl
theorem mjMc_34 : (1 : Nat) ≠ 13 → mjMw (yX1_balanceFact, cX1_balanceFact, 2, (some .int), 1) ∈ mjT := mjInc (q := (yX1_balanceFact, cX1_balanceFact, 2, (some .int), 1)) mjTab_5 161 rfl rfl
theorem mjMc_35 : (1 : Nat) ≠ 13 → mjMw (yX1_breakInRow, cX1_breakInRow, 7, (some .int), 1) ∈ mjT := mjInc (q := (yX1_breakInRow, cX1_breakInRow, 7, (some .int), 1)) mjTab_5 181 rfl rfl
theorem mjMc_36 : (1 : Nat) ≠ 13 → mjMw (yX1_tellNight, cX1_tellNight, 6, (some .int), 1) ∈ mjT := mjInc (q := (yX1_tellNight, cX1_tellNight, 6, (some .int), 1)) mjTab_6 211 rfl rfl
theorem mjMc_37 : (1 : Nat) ≠ 13 → mjMw (yX1_countOf, cX1_countOf, 2, (some .int), 1) ∈ mjT := mjInc (q := (yX1_countOf, cX1_countOf, 2, (some .int), 1)) mjTab_7 34 rfl rfl
theorem mjMc_38 : (2 : Nat) ≠ 13 → mjMw (yX2_init, cX2_init, 1, none, 2) ∈ mjT := mjInc (q := (yX2_init, cX2_init, 1, none, 2)) mjTab_1 38 rfl rfl
theorem mjMc_39 : (2 : Nat) ≠ 13 → mjMw (yX2_become, cX2_become, 2, none, 2) ∈ mjT := mjInc (q := (yX2_become, cX2_become, 2, none, 2)) mjTab_6 232 rfl rfl
theorem mjMc_40 : (2 : Nat) ≠ 13 → mjMw (yX2_has, cX2_has, 2, (some .boolean), 2) ∈ mjT := mjInc (q := (yX2_has, cX2_has, 2, (some .boolean), 2)) mjTab_2 208 rfl rfl
theorem mjMc_41 : (2 : Nat) ≠ 13 → mjMw (yX2_add, cX2_add, 3, (some .int), 2) ∈ mjT := mjInc (q := (yX2_add, cX2_add, 3, (some .int), 2)) mjTab_2 190 rfl rfl
theorem mjMc_42 : (2 : Nat) ≠ 13 → mjMw (yX2_factOf, cX2_factOf, 4, (some .int), 2) ∈ mjT := mjInc (q := (yX2_factOf, cX2_factOf, 4, (some .int), 2)) mjTab_2 204 rfl rfl
theorem mjMc_43 : (2 : Nat) ≠ 13 → mjMw (yX2_partyOf, cX2_partyOf, 2, (some .int), 2) ∈ mjT := mjInc (q := (yX2_partyOf, cX2_partyOf, 2, (some .int), 2)) mjTab_3 183 rfl rfl
theorem mjMc_44 : (2 : Nat) ≠ 13 → mjMw (yX2_tonguesOf, cX2_tonguesOf, 2, (some .int), 2) ∈ mjT := mjInc (q := (yX2_tonguesOf, cX2_tonguesOf, 2, (some .int), 2)) mjTab_3 148 rfl rfl
theorem mjMc_45 : (2 : Nat) ≠ 13 → mjMw (yX2_isIn, cX2_isIn, 2, (some .boolean), 2) ∈ mjT := mjInc (q := (yX2_isIn, cX2_isIn, 2, (some .boolean), 2)) mjTab_3 175 rfl rfl
theorem mjMc_46 : (2 : Nat) ≠ 13 → mjMw (yX2_isPresent, cX2_isPresent, 3, (some .boolean), 2) ∈ mjT := mjInc (q := (yX2_isPresent, cX2_isPresent, 3, (some .boolean), 2)) mjTab_3 171 rfl rfl
theorem mjMc_47 : (2 : Nat) ≠ 13 → mjMw (yX2_countVote, cX2_countVote, 2, none, 2) ∈ mjT := mjInc (q := (yX2_countVote, cX2_countVote, 2, none, 2)) mjTab_4 30 rfl rfl
theorem mjMc_48 : (2 : Nat) ≠ 13 → mjMw (yX2_setTrain, cX2_setTrain, 5, (some .int), 2) ∈ mjT := mjInc (q := (yX2_setTrain, cX2_setTrain, 5, (some .int), 2)) mjTab_2 224 rfl rfl
theorem mjMc_49 : (2 : Nat) ≠ 13 → mjMw (yX2_setIn, cX2_setIn, 4, (some .int), 2) ∈ mjT := mjInc (q := (yX2_setIn, cX2_setIn, 4, (some .int), 2)) mjTab_2 232 rfl rfl
theorem mjMc_50 : (2 : Nat) ≠ 13 → mjMw (yX2_leaves, cX2_leaves, 4, (some .boolean), 2) ∈ mjT := mjInc (q := (yX2_leaves, cX2_leaves, 4, (some .boolean), 2)) mjTab_3 49 rfl rfl
theorem mjMc_51 : (2 : Nat) ≠ 13 → mjMw (yX2_leaveBetween, cX2_leaveBetween, 4, none, 2) ∈ mjT := mjInc (q := (yX2_leaveBetween, cX2_leaveBetween, 4, none, 2)) mjTab_3 45 rfl rfl
theorem mjMc_52 : (2 : Nat) ≠ 13 → mjMw (yX2_stillIn, cX2_stillIn, 5, (some .int), 2) ∈ mjT := mjInc (q := (yX2_stillIn, cX2_stillIn, 5, (some .int), 2)) mjTab_6 215 rfl rfl
theorem mjMc_53 : (2 : Nat) ≠ 13 → mjMw (yX2_inOfParty, cX2_inOfParty, 4, (some .int), 2) ∈ mjT := mjInc (q := (yX2_inOfParty, cX2_inOfParty, 4, (some .int), 2)) mjTab_6 43 rfl rfl
theorem mjMc_54 : (2 : Nat) ≠ 13 → mjMw (yX2_holds, cX2_holds, 3, (some .boolean), 2) ∈ mjT := mjInc (q := (yX2_holds, cX2_holds, 3, (some .boolean), 2)) mjTab_2 216 rfl rfl
theorem mjMc_55 : (2 : Nat) ≠ 13 → mjMw (yX2_pairOf, cX2_pairOf, 4, (some .int), 2) ∈ mjT := mjInc (q := (yX2_pairOf, cX2_pairOf, 4, (some .int), 2)) mjTab_2 212 rfl rfl
theorem mjMc_56 : (2 : Nat) ≠ 13 → mjMw (yX2_addPair, cX2_addPair, 5, (some .int), 2) ∈ mjT := mjInc (q := (yX2_addPair, cX2_addPair, 5, (some .int), 2)) mjTab_3 0 rfl rfl
theorem mjMc_57 : (2 : Nat) ≠ 13 → mjMw (yX2_breakPair, cX2_breakPair, 3, (some .int), 2) ∈ mjT := mjInc (q := (yX2_breakPair, cX2_breakPair, 3, (some .int), 2)) mjTab_3 9 rfl rfl
theorem mjMc_58 : (2 : Nat) ≠ 13 → mjMw (yX2_pairsThatHold, cX2_pairsThatHold, 4, (some .int), 2) ∈ mjT := mjInc (q := (yX2_pairsThatHold, cX2_pairsThatHold, 4, (some .int), 2)) mjTab_7 38 rfl rfl
theorem mjMc_59 : (3 : Nat) ≠ 13 → mjMw (yX3_init, cX3_init, 1, none, 3) ∈ mjT := mjInc (q := (yX3_init, cX3_init, 1, none, 3)) mjTab_1 229 rfl rfl
theorem mjMc_60 : (3 : Nat) ≠ 13 → mjMw (yX3_become, cX3_become, 2, none, 3) ∈ mjT := mjInc (q := (yX3_become, cX3_become, 2, none, 3)) mjTab_7 21 rfl rfl
theorem mjMc_61 : (3 : Nat) ≠ 13 → mjMw (yX3_add, cX3_add, 5, (some .int), 3) ∈ mjT := mjInc (q := (yX3_add, cX3_add, 5, (some .int), 3)) mjTab_6 162 rfl rfl
theorem mjMc_62 : (3 : Nat) ≠ 13 → mjMw (yX3_sumOf, cX3_sumOf, 5, (some .int), 3) ∈ mjT := mjInc (q := (yX3_sumOf, cX3_sumOf, 5, (some .int), 3)) mjTab_6 182 rfl rfl
theorem mjMc_63 : (3 : Nat) ≠ 13 → mjMw (yX3_agrees, cX3_agrees, 3, (some .boolean), 3) ∈ mjT := mjInc (q := (yX3_agrees, cX3_agrees, 3, (some .boolean), 3)) mjTab_6 186 rfl rfl
theorem mjMc_64 : (3 : Nat) ≠ 13 → mjMw (yX3_searchNight, cX3_searchNight, 5, (some .int), 3) ∈ mjT := mjInc (q := (yX3_searchNight, cX3_searchNight, 5, (some .int), 3)) mjTab_6 177 rfl rfl
theorem mjMc_65 : (3 : Nat) ≠ 13 → mjMw (yX3_takeIfLess, cX3_takeIfLess, 5, none, 3) ∈ mjT := mjInc (q := (yX3_takeIfLess, cX3_takeIfLess, 5, none, 3)) mjTab_6 190 rfl rfl
theorem mjMc_66 : (3 : Nat) ≠ 13 → mjMw (yX3_nightFact, cX3_nightFact, 5, (some .int), 3) ∈ mjT := mjInc (q := (yX3_nightFact, cX3_nightFact, 5, (some .int), 3)) mjTab_6 173 rfl rfl
theorem mjMc_67 : (3 : Nat) ≠ 13 → mjMw (yX3_nightRows, cX3_nightRows, 8, (some .int), 3) ∈ mjT := mjInc (q := (yX3_nightRows, cX3_nightRows, 8, (some .int), 3)) mjTab_6 203 rfl rfl
theorem mjMc_68 : (4 : Nat) ≠ 13 → mjMw (yX4_init, cX4_init, 1, none, 4) ∈ mjT := mjInc (q := (yX4_init, cX4_init, 1, none, 4)) mjTab_1 77 rfl rfl
theorem mjMc_69 : (4 : Nat) ≠ 13 → mjMw (yX4_become, cX4_become, 2, none, 4) ∈ mjT := mjInc (q := (yX4_become, cX4_become, 2, none, 4)) mjTab_6 237 rfl rfl
theorem mjMc_70 : (4 : Nat) ≠ 13 → mjMw (yX4_has, cX4_has, 2, (some .boolean), 4) ∈ mjT := mjInc (q := (yX4_has, cX4_has, 2, (some .boolean), 4)) mjTab_3 40 rfl rfl
theorem mjMc_71 : (4 : Nat) ≠ 13 → mjMw (yX4_kindOf, cX4_kindOf, 2, (some .int), 4) ∈ mjT := mjInc (q := (yX4_kindOf, cX4_kindOf, 2, (some .int), 4)) mjTab_3 72 rfl rfl
theorem mjMc_72 : (4 : Nat) ≠ 13 → mjMw (yX4_aOf, cX4_aOf, 2, (some .int), 4) ∈ mjT := mjInc (q := (yX4_aOf, cX4_aOf, 2, (some .int), 4)) mjTab_3 195 rfl rfl
theorem mjMc_73 : (4 : Nat) ≠ 13 → mjMw (yX4_bOf, cX4_bOf, 2, (some .int), 4) ∈ mjT := mjInc (q := (yX4_bOf, cX4_bOf, 2, (some .int), 4)) mjTab_3 199 rfl rfl
theorem mjMc_74 : (4 : Nat) ≠ 13 → mjMw (yX4_stateOf, cX4_stateOf, 2, (some .int), 4) ∈ mjT := mjInc (q := (yX4_stateOf, cX4_stateOf, 2, (some .int), 4)) mjTab_3 191 rfl rfl
theorem mjMc_75 : (4 : Nat) ≠ 13 → mjMw (yX4_cameOf, cX4_cameOf, 2, (some .int), 4) ∈ mjT := mjInc (q := (yX4_cameOf, cX4_cameOf, 2, (some .int), 4)) mjTab_3 152 rfl rfl
theorem mjMc_76 : (4 : Nat) ≠ 13 → mjMw (yX4_stanceOf, cX4_stanceOf, 3, (some .int), 4) ∈ mjT := mjInc (q := (yX4_stanceOf, cX4_stanceOf, 3, (some .int), 4)) mjTab_3 204 rfl rfl
theorem mjMc_77 : (4 : Nat) ≠ 13 → mjMw (yX4_isLine, cX4_isLine, 2, (some .boolean), 4) ∈ mjT := mjInc (q := (yX4_isLine, cX4_isLine, 2, (some .boolean), 4)) mjTab_3 68 rfl rfl
theorem mjMc_78 : (4 : Nat) ≠ 13 → mjMw (yX4_isChange, cX4_isChange, 2, (some .boolean), 4) ∈ mjT := mjInc (q := (yX4_isChange, cX4_isChange, 2, (some .boolean), 4)) mjTab_3 92 rfl rfl
theorem mjMc_79 : (4 : Nat) ≠ 13 → mjMw (yX4_isOpenOn, cX4_isOpenOn, 4, (some .boolean), 4) ∈ mjT := mjInc (q := (yX4_isOpenOn, cX4_isOpenOn, 4, (some .boolean), 4)) mjTab_4 46 rfl rfl
theorem mjMc_80 : (4 : Nat) ≠ 13 → mjMw (yX4_isOpenChangeTo, cX4_isOpenChangeTo, 3, (some .boolean), 4) ∈ mjT := mjInc (q := (yX4_isOpenChangeTo, cX4_isOpenChangeTo, 3, (some .boolean), 4)) mjTab_4 50 rfl rfl
theorem mjMc_81 : (4 : Nat) ≠ 13 → mjMw (yX4_isRiderOn, cX4_isRiderOn, 3, (some .boolean), 4) ∈ mjT := mjInc (q := (yX4_isRiderOn, cX4_isRiderOn, 3, (some .boolean), 4)) mjTab_4 96 rfl rfl
theorem mjMc_82 : (4 : Nat) ≠ 13 → mjMw (yX4_costs, cX4_costs, 2, (some .boolean), 4) ∈ mjT := mjInc (q := (yX4_costs, cX4_costs, 2, (some .boolean), 4)) mjTab_5 173 rfl rfl
theorem mjMc_83 : (4 : Nat) ≠ 13 → mjMw (yX4_suits, cX4_suits, 4, (some .boolean), 4) ∈ mjT := mjInc (q := (yX4_suits, cX4_suits, 4, (some .boolean), 4)) mjTab_3 61 rfl rfl
theorem mjMc_84 : (4 : Nat) ≠ 13 → mjMw (yX4_add, cX4_add, 4, (some .int), 4) ∈ mjT := mjInc (q := (yX4_add, cX4_add, 4, (some .int), 4)) mjTab_3 57 rfl rfl
theorem mjMc_85 : (4 : Nat) ≠ 13 → mjMw (yX4_addHung, cX4_addHung, 5, (some .int), 4) ∈ mjT := mjInc (q := (yX4_addHung, cX4_addHung, 5, (some .int), 4)) mjTab_3 88 rfl rfl
theorem mjMc_86 : (4 : Nat) ≠ 13 → mjMw (yX4_addAny, cX4_addAny, 8, (some .int), 4) ∈ mjT := mjInc (q := (yX4_addAny, cX4_addAny, 8, (some .int), 4)) mjTab_3 79 rfl rfl
theorem mjMc_87 : (4 : Nat) ≠ 13 → mjMw (yX4_factOf, cX4_factOf, 3, (some .int), 4) ∈ mjT := mjInc (q := (yX4_factOf, cX4_factOf, 3, (some .int), 4)) mjTab_3 100 rfl rfl
theorem mjMc_88 : (4 : Nat) ≠ 13 → mjMw (yX4_seenAs, cX4_seenAs, 3, (some .int), 4) ∈ mjT := mjInc (q := (yX4_seenAs, cX4_seenAs, 3, (some .int), 4)) mjTab_3 108 rfl rfl
theorem mjMc_89 : (4 : Nat) ≠ 13 → mjMw (yX4_isUnder, cX4_isUnder, 3, (some .boolean), 4) ∈ mjT := mjInc (q := (yX4_isUnder, cX4_isUnder, 3, (some .boolean), 4)) mjTab_3 112 rfl rfl
theorem mjMc_90 : (4 : Nat) ≠ 13 → mjMw (yX4_setStance, cX4_setStance, 6, (some .int), 4) ∈ mjT := mjInc (q := (yX4_setStance, cX4_setStance, 6, (some .int), 4)) mjTab_3 121 rfl rfl
theorem mjMc_91 : (4 : Nat) ≠ 13 → mjMw (yX4_comeIn, cX4_comeIn, 3, none, 4) ∈ mjT := mjInc (q := (yX4_comeIn, cX4_comeIn, 3, none, 4)) mjTab_3 36 rfl rfl
theorem mjMc_92 : (4 : Nat) ≠ 13 → mjMw (yX4_isBound, cX4_isBound, 4, (some .boolean), 4) ∈ mjT := mjInc (q := (yX4_isBound, cX4_isBound, 4, (some .boolean), 4)) mjTab_3 187 rfl rfl
theorem mjMc_93 : (4 : Nat) ≠ 13 → mjMw (yX4_isReady, cX4_isReady, 2, (some .boolean), 4) ∈ mjT := mjInc (q := (yX4_isReady, cX4_isReady, 2, (some .boolean), 4)) mjTab_4 13 rfl rfl
theorem mjMc_94 : (4 : Nat) ≠ 13 → mjMw (yX4_comesWith, cX4_comesWith, 2, (some .boolean), 4) ∈ mjT := mjInc (q := (yX4_comesWith, cX4_comesWith, 2, (some .boolean), 4)) mjTab_4 17 rfl rfl
theorem mjMc_95 : (4 : Nat) ≠ 13 → mjMw (yX4_setVote, cX4_setVote, 5, none, 4) ∈ mjT := mjInc (q := (yX4_setVote, cX4_setVote, 5, none, 4)) mjTab_4 34 rfl rfl
theorem mjMc_96 : (4 : Nat) ≠ 13 → mjMw (yX4_decide, cX4_decide, 3, none, 4) ∈ mjT := mjInc (q := (yX4_decide, cX4_decide, 3, none, 4)) mjTab_4 38 rfl rfl
theorem mjMc_97 : (4 : Nat) ≠ 13 → mjMw (yX4_decideWith, cX4_decideWith, 4, none, 4) ∈ mjT := mjInc (q := (yX4_decideWith, cX4_decideWith, 4, none, 4)) mjTab_4 42 rfl rfl
theorem mjMc_98 : (4 : Nat) ≠ 13 → mjMw (yX4_addMore, cX4_addMore, 3, none, 4) ∈ mjT := mjInc (q := (yX4_addMore, cX4_addMore, 3, none, 4)) mjTab_4 54 rfl rfl
theorem mjMc_99 : (4 : Nat) ≠ 13 → mjMw (yX4_letFall, cX4_letFall, 4, (some .int), 4) ∈ mjT := mjInc (q := (yX4_letFall, cX4_letFall, 4, (some .int), 4)) mjTab_4 67 rfl rfl
theorem mjMc_100 : (4 : Nat) ≠ 13 → mjMw (yX4_fallsNow, cX4_fallsNow, 4, (some .boolean), 4) ∈ mjT := mjInc (q := (yX4_fallsNow, cX4_fallsNow, 4, (some .boolean), 4)) mjTab_4 71 rfl rfl
theorem mjMc_101 : (4 : Nat) ≠ 13 → mjMw (yX4_settleDeals, cX4_settleDeals, 2, none, 4) ∈ mjT := mjInc (q := (yX4_settleDeals, cX4_settleDeals, 2, none, 4)) mjTab_4 75 rfl rfl
theorem mjMc_102 : (4 : Nat) ≠ 13 → mjMw (yX4_letRulingWork, cX4_letRulingWork, 4, (some .int), 4) ∈ mjT := mjInc (q := (yX4_letRulingWork, cX4_letRulingWork, 4, (some .int), 4)) mjTab_4 87 rfl rfl
theorem mjMc_103 : (4 : Nat) ≠ 13 → mjMw (yX4_voidAllOn, cX4_voidAllOn, 5, (some .int), 4) ∈ mjT := mjInc (q := (yX4_voidAllOn, cX4_voidAllOn, 5, (some .int), 4)) mjTab_4 92 rfl rfl
theorem mjMc_104 : (4 : Nat) ≠ 13 → mjMw (yX4_mendLine, cX4_mendLine, 2, (some .int), 4) ∈ mjT := mjInc (q := (yX4_mendLine, cX4_mendLine, 2, (some .int), 4)) mjTab_4 104 rfl rfl
theorem mjMc_105 : (4 : Nat) ≠ 13 → mjMw (yX4_refusalOfChange, cX4_refusalOfChange, 2, (some .int), 4) ∈ mjT := mjInc (q := (yX4_refusalOfChange, cX4_refusalOfChange, 2, (some .int), 4)) mjTab_4 116 rfl rfl
theorem mjMc_106 : (4 : Nat) ≠ 13 → mjMw (yX4_fallingWith, cX4_fallingWith, 3, (some .int), 4) ∈ mjT := mjInc (q := (yX4_fallingWith, cX4_fallingWith, 3, (some .int), 4)) mjTab_4 112 rfl rfl
theorem mjMc_107 : (4 : Nat) ≠ 13 → mjMw (yX4_neverOf, cX4_neverOf, 3, (some .int), 4) ∈ mjT := mjInc (q := (yX4_neverOf, cX4_neverOf, 3, (some .int), 4)) mjTab_4 127 rfl rfl
theorem mjMc_108 : (4 : Nat) ≠ 13 → mjMw (yX4_isNever, cX4_isNever, 4, (some .boolean), 4) ∈ mjT := mjInc (q := (yX4_isNever, cX4_isNever, 4, (some .boolean), 4)) mjTab_4 131 rfl rfl
theorem mjMc_109 : (4 : Nat) ≠ 13 → mjMw (yX4_unlikeTongues, cX4_unlikeTongues, 4, (some .int), 4) ∈ mjT := mjInc (q := (yX4_unlikeTongues, cX4_unlikeTongues, 4, (some .int), 4)) mjTab_4 177 rfl rfl
theorem mjMc_110 : (4 : Nat) ≠ 13 → mjMw (yX4_openChanges, cX4_openChanges, 4, (some .int), 4) ∈ mjT := mjInc (q := (yX4_openChanges, cX4_openChanges, 4, (some .int), 4)) mjTab_4 181 rfl rfl
theorem mjMc_111 : (4 : Nat) ≠ 13 → mjMw (yX4_ridersOn, cX4_ridersOn, 4, (some .int), 4) ∈ mjT := mjInc (q := (yX4_ridersOn, cX4_ridersOn, 4, (some .int), 4)) mjTab_4 185 rfl rfl
theorem mjMc_112 : (4 : Nat) ≠ 13 → mjMw (yX4_sumOf, cX4_sumOf, 6, (some .int), 4) ∈ mjT := mjInc (q := (yX4_sumOf, cX4_sumOf, 6, (some .int), 4)) mjTab_5 169 rfl rfl
theorem mjMc_113 : (4 : Nat) ≠ 13 → mjMw (yX4_inState, cX4_inState, 4, (some .int), 4) ∈ mjT := mjInc (q := (yX4_inState, cX4_inState, 4, (some .int), 4)) mjTab_7 42 rfl rfl
theorem mjMc_114 : (5 : Nat) ≠ 13 → mjMw (yX5_init, cX5_init, 1, none, 5) ∈ mjT := mjInc (q := (yX5_init, cX5_init, 1, none, 5)) mjTab_2 102 rfl rfl
theorem mjMc_115 : (5 : Nat) ≠ 13 → mjMw (yX5_faultOf, cX5_faultOf, 7, (some .int), 5) ∈ mjT := mjInc (q := (yX5_faultOf, cX5_faultOf, 7, (some .int), 5)) mjTab_4 221 rfl rfl
theorem mjMc_116 : (5 : Nat) ≠ 13 → mjMw (yX5_startAnew, cX5_startAnew, 1, none, 5) ∈ mjT := mjInc (q := (yX5_startAnew, cX5_startAnew, 1, none, 5)) mjTab_4 225 rfl rfl
theorem mjMc_117 : (5 : Nat) ≠ 13 → mjMw (yX5_keyOf, cX5_keyOf, 4, (some .int), 5) ∈ mjT := mjInc (q := (yX5_keyOf, cX5_keyOf, 4, (some .int), 5)) mjTab_5 10 rfl rfl
theorem mjMc_118 : (5 : Nat) ≠ 13 → mjMw (yX5_namesOf, cX5_namesOf, 2, (some (.object "java/lang/String")), 5) ∈ mjT := mjInc (q := (yX5_namesOf, cX5_namesOf, 2, (some (.object "java/lang/String")), 5)) mjTab_5 89 rfl rfl
theorem mjMc_119 : (5 : Nat) ≠ 13 → mjMw (yX5_takePart, cX5_takePart, 6, (some .int), 5) ∈ mjT := mjInc (q := (yX5_takePart, cX5_takePart, 6, (some .int), 5)) mjTab_5 72 rfl rfl
theorem mjMc_120 : (5 : Nat) ≠ 13 → mjMw (yX5_numberAt, cX5_numberAt, 6, (some .int), 5) ∈ mjT := mjInc (q := (yX5_numberAt, cX5_numberAt, 6, (some .int), 5)) mjTab_5 81 rfl rfl
theorem mjMc_121 : (5 : Nat) ≠ 13 → mjMw (yX5_nameAt, cX5_nameAt, 6, (some .int), 5) ∈ mjT := mjInc (q := (yX5_nameAt, cX5_nameAt, 6, (some .int), 5)) mjTab_5 85 rfl rfl
theorem mjMc_122 : (5 : Nat) ≠ 13 → mjMw (yX5_takeSign, cX5_takeSign, 5, (some .int), 5) ∈ mjT := mjInc (q := (yX5_takeSign, cX5_takeSign, 5, (some .int), 5)) mjTab_5 111 rfl rfl
theorem mjMc_123 : (5 : Nat) ≠ 13 → mjMw (yX5_rankOf, cX5_rankOf, 2, (some .int), 5) ∈ mjT := mjInc (q := (yX5_rankOf, cX5_rankOf, 2, (some .int), 5)) mjTab_5 123 rfl rfl
theorem mjMc_124 : (5 : Nat) ≠ 13 → mjMw (yX5_closeBracket, cX5_closeBracket, 1, (some .boolean), 5) ∈ mjT := mjInc (q := (yX5_closeBracket, cX5_closeBracket, 1, (some .boolean), 5)) mjTab_5 115 rfl rfl
theorem mjMc_125 : (5 : Nat) ≠ 13 → mjMw (yX5_endPart, cX5_endPart, 1, none, 5) ∈ mjT := mjInc (q := (yX5_endPart, cX5_endPart, 1, none, 5)) mjTab_5 103 rfl rfl
theorem mjMc_126 : (5 : Nat) ≠ 13 → mjMw (yX5_layDownFrom, cX5_layDownFrom, 2, none, 5) ∈ mjT := mjInc (q := (yX5_layDownFrom, cX5_layDownFrom, 2, none, 5)) mjTab_5 119 rfl rfl
theorem mjMc_127 : (5 : Nat) ≠ 13 → mjMw (yX5_layDown, cX5_layDown, 2, none, 5) ∈ mjT := mjInc (q := (yX5_layDown, cX5_layDown, 2, none, 5)) mjTab_5 99 rfl rfl
theorem mjMc_128 : (5 : Nat) ≠ 13 → mjMw (yX5_waitWith, cX5_waitWith, 2, none, 5) ∈ mjT := mjInc (q := (yX5_waitWith, cX5_waitWith, 2, none, 5)) mjTab_5 77 rfl rfl
theorem mjMc_129 : (5 : Nat) ≠ 13 → mjMw (yX5_lastWaiting, cX5_lastWaiting, 1, (some .int), 5) ∈ mjT := mjInc (q := (yX5_lastWaiting, cX5_lastWaiting, 1, (some .int), 5)) mjTab_5 107 rfl rfl
theorem mjMc_130 : (6 : Nat) ≠ 13 → mjMw (yX6_init, cX6_init, 1, none, 6) ∈ mjT := mjInc (q := (yX6_init, cX6_init, 1, none, 6)) mjTab_1 126 rfl rfl
theorem mjMc_131 : (6 : Nat) ≠ 13 → mjMw (yX6_become, cX6_become, 2, none, 6) ∈ mjT := mjInc (q := (yX6_become, cX6_become, 2, none, 6)) mjTab_7 1 rfl rfl
theorem mjMc_132 : (6 : Nat) ≠ 13 → mjMw (yX6_add, cX6_add, 6, (some .int), 6) ∈ mjT := mjInc (q := (yX6_add, cX6_add, 6, (some .int), 6)) mjTab_3 129 rfl rfl
theorem mjMc_133 : (6 : Nat) ≠ 13 → mjMw (yX6_comeTill, cX6_comeTill, 5, none, 6) ∈ mjT := mjInc (q := (yX6_comeTill, cX6_comeTill, 5, none, 6)) mjTab_3 32 rfl rfl
theorem mjMc_134 : (6 : Nat) ≠ 13 → mjMw (yX6_onWayBehind, cX6_onWayBehind, 4, (some .int), 6) ∈ mjT := mjInc (q := (yX6_onWayBehind, cX6_onWayBehind, 4, (some .int), 6)) mjTab_6 219 rfl rfl
theorem mjMc_135 : (7 : Nat) ≠ 13 → mjMw (yX7_init, cX7_init, 1, none, 7) ∈ mjT := mjInc (q := (yX7_init, cX7_init, 1, none, 7)) mjTab_1 209 rfl rfl
theorem mjMc_136 : (7 : Nat) ≠ 13 → mjMw (yX7_become, cX7_become, 2, none, 7) ∈ mjT := mjInc (q := (yX7_become, cX7_become, 2, none, 7)) mjTab_7 16 rfl rfl
theorem mjMc_137 : (7 : Nat) ≠ 13 → mjMw (yX7_add, cX7_add, 1, (some .int), 7) ∈ mjT := mjInc (q := (yX7_add, cX7_add, 1, (some .int), 7)) mjTab_6 75 rfl rfl
theorem mjMc_138 : (7 : Nat) ≠ 13 → mjMw (yX7_isTongue, cX7_isTongue, 2, (some .boolean), 7) ∈ mjT := mjInc (q := (yX7_isTongue, cX7_isTongue, 2, (some .boolean), 7)) mjTab_6 89 rfl rfl
theorem mjMc_139 : (7 : Nat) ≠ 13 → mjMw (yX7_bitOf, cX7_bitOf, 4, (some .int), 7) ∈ mjT := mjInc (q := (yX7_bitOf, cX7_bitOf, 4, (some .int), 7)) mjTab_6 94 rfl rfl
theorem mjMc_140 : (7 : Nat) ≠ 13 → mjMw (yX7_addTwo, cX7_addTwo, 4, (some .int), 7) ∈ mjT := mjInc (q := (yX7_addTwo, cX7_addTwo, 4, (some .int), 7)) mjTab_6 84 rfl rfl
theorem mjMc_141 : (7 : Nat) ≠ 13 → mjMw (yX7_setSpeech, cX7_setSpeech, 4, (some .int), 7) ∈ mjT := mjInc (q := (yX7_setSpeech, cX7_setSpeech, 4, (some .int), 7)) mjTab_6 105 rfl rfl
theorem mjMc_142 : (7 : Nat) ≠ 13 → mjMw (yX7_mostHeard, cX7_mostHeard, 2, (some .int), 7) ∈ mjT := mjInc (q := (yX7_mostHeard, cX7_mostHeard, 2, (some .int), 7)) mjTab_6 114 rfl rfl
theorem mjMc_143 : (7 : Nat) ≠ 13 → mjMw (yX7_interpreterIn, cX7_interpreterIn, 7, (some .int), 7) ∈ mjT := mjInc (q := (yX7_interpreterIn, cX7_interpreterIn, 7, (some .int), 7)) mjTab_6 150 rfl rfl
theorem mjMc_144 : (7 : Nat) ≠ 13 → mjMw (yX7_weigh, cX7_weigh, 4, none, 7) ∈ mjT := mjInc (q := (yX7_weigh, cX7_weigh, 4, none, 7)) mjTab_6 118 rfl rfl
theorem mjMc_145 : (7 : Nat) ≠ 13 → mjMw (yX7_place, cX7_place, 5, (some .int), 7) ∈ mjT := mjInc (q := (yX7_place, cX7_place, 5, (some .int), 7)) mjTab_6 122 rfl rfl
theorem mjMc_146 : (7 : Nat) ≠ 13 → mjMw (yX7_mostFrom, cX7_mostFrom, 4, (some .int), 7) ∈ mjT := mjInc (q := (yX7_mostFrom, cX7_mostFrom, 4, (some .int), 7)) mjTab_6 142 rfl rfl
theorem mjMc_147 : (7 : Nat) ≠ 13 → mjMw (yX7_bestFrom, cX7_bestFrom, 6, (some .int), 7) ∈ mjT := mjInc (q := (yX7_bestFrom, cX7_bestFrom, 6, (some .int), 7)) mjTab_6 126 rfl rfl
theorem mjMc_148 : (7 : Nat) ≠ 13 → mjMw (yX7_firstBest, cX7_firstBest, 5, (some .int), 7) ∈ mjT := mjInc (q := (yX7_firstBest, cX7_firstBest, 5, (some .int), 7)) mjTab_6 154 rfl rfl
theorem mjMc_149 : (7 : Nat) ≠ 13 → mjMw (yX7_canTake, cX7_canTake, 4, (some .boolean), 7) ∈ mjT := mjInc (q := (yX7_canTake, cX7_canTake, 4, (some .boolean), 7)) mjTab_6 130 rfl rfl
theorem mjMc_150 : (7 : Nat) ≠ 13 → mjMw (yX7_heardWith, cX7_heardWith, 5, (some .int), 7) ∈ mjT := mjInc (q := (yX7_heardWith, cX7_heardWith, 5, (some .int), 7)) mjTab_6 134 rfl rfl
theorem mjMc_151 : (7 : Nat) ≠ 13 → mjMw (yX7_heardIn, cX7_heardIn, 3, (some .int), 7) ∈ mjT := mjInc (q := (yX7_heardIn, cX7_heardIn, 3, (some .int), 7)) mjTab_6 138 rfl rfl
theorem mjMc_152 : (8 : Nat) ≠ 13 → mjMw (yX8_init, cX8_init, 1, none, 8) ∈ mjT := mjInc (q := (yX8_init, cX8_init, 1, none, 8)) mjTab_2 87 rfl rfl
theorem mjMc_153 : (8 : Nat) ≠ 13 → mjMw (yX8_take, cX8_take, 4, (some .int), 8) ∈ mjT := mjInc (q := (yX8_take, cX8_take, 4, (some .int), 8)) mjTab_4 193 rfl rfl
theorem mjMc_154 : (8 : Nat) ≠ 13 → mjMw (yX8_takeFour, cX8_takeFour, 3, none, 8) ∈ mjT := mjInc (q := (yX8_takeFour, cX8_takeFour, 3, none, 8)) mjTab_4 198 rfl rfl
theorem mjMc_155 : (8 : Nat) ≠ 13 → mjMw (yX8_cutTo, cX8_cutTo, 2, (some .int), 8) ∈ mjT := mjInc (q := (yX8_cutTo, cX8_cutTo, 2, (some .int), 8)) mjTab_4 206 rfl rfl
theorem mjMc_156 : (8 : Nat) ≠ 13 → mjMw (yX8_useUp, cX8_useUp, 1, none, 8) ∈ mjT := mjInc (q := (yX8_useUp, cX8_useUp, 1, none, 8)) mjTab_4 217 rfl rfl
theorem mjMc_157 : (8 : Nat) ≠ 13 → mjMw (yX8_byteAt, cX8_byteAt, 2, (some .int), 8) ∈ mjT := mjInc (q := (yX8_byteAt, cX8_byteAt, 2, (some .int), 8)) mjTab_4 233 rfl rfl
theorem mjMc_158 : (8 : Nat) ≠ 13 → mjMw (yX8_isDigit, cX8_isDigit, 2, (some .boolean), 8) ∈ mjT := mjInc (q := (yX8_isDigit, cX8_isDigit, 2, (some .boolean), 8)) mjTab_5 2 rfl rfl
theorem mjMc_159 : (8 : Nat) ≠ 13 → mjMw (yX8_isLetter, cX8_isLetter, 2, (some .boolean), 8) ∈ mjT := mjInc (q := (yX8_isLetter, cX8_isLetter, 2, (some .boolean), 8)) mjTab_5 6 rfl rfl
theorem mjMc_160 : (8 : Nat) ≠ 13 → mjMw (yX8_behindBlanks, cX8_behindBlanks, 3, (some .int), 8) ∈ mjT := mjInc (q := (yX8_behindBlanks, cX8_behindBlanks, 3, (some .int), 8)) mjTab_4 229 rfl rfl
theorem mjMc_161 : (8 : Nat) ≠ 13 → mjMw (yX8_behindWord, cX8_behindWord, 3, (some .int), 8) ∈ mjT := mjInc (q := (yX8_behindWord, cX8_behindWord, 3, (some .int), 8)) mjTab_4 238 rfl rfl
theorem mjMc_162 : (8 : Nat) ≠ 13 → mjMw (yX8_isWord, cX8_isWord, 5, (some .boolean), 8) ∈ mjT := mjInc (q := (yX8_isWord, cX8_isWord, 5, (some .boolean), 8)) mjTab_5 15 rfl rfl
theorem mjMc_163 : (9 : Nat) ≠ 13 → mjMw (yX9_init, cX9_init, 1, none, 9) ∈ mjT := mjInc (q := (yX9_init, cX9_init, 1, none, 9)) mjTab_1 146 rfl rfl
theorem mjMc_164 : (9 : Nat) ≠ 13 → mjMw (yX9_become, cX9_become, 2, none, 9) ∈ mjT := mjInc (q := (yX9_become, cX9_become, 2, none, 9)) mjTab_7 6 rfl rfl
theorem mjMc_165 : (9 : Nat) ≠ 13 → mjMw (yX9_add, cX9_add, 4, (some .int), 9) ∈ mjT := mjInc (q := (yX9_add, cX9_add, 4, (some .int), 9)) mjTab_5 128 rfl rfl
theorem mjMc_166 : (9 : Nat) ≠ 13 → mjMw (yX9_factOf, cX9_factOf, 3, (some .int), 9) ∈ mjT := mjInc (q := (yX9_factOf, cX9_factOf, 3, (some .int), 9)) mjTab_5 138 rfl rfl
theorem mjMc_167 : (9 : Nat) ≠ 13 → mjMw (yX9_counting, cX9_counting, 6, (some .int), 9) ∈ mjT := mjInc (q := (yX9_counting, cX9_counting, 6, (some .int), 9)) mjTab_3 219 rfl rfl
theorem mjMc_168 : (9 : Nat) ≠ 13 → mjMw (yX9_worthOf, cX9_worthOf, 7, (some .int), 9) ∈ mjT := mjInc (q := (yX9_worthOf, cX9_worthOf, 7, (some .int), 9)) mjTab_3 225 rfl rfl
theorem mjMc_169 : (9 : Nat) ≠ 13 → mjMw (yX9_workOut, cX9_workOut, 3, none, 9) ∈ mjT := mjInc (q := (yX9_workOut, cX9_workOut, 3, none, 9)) mjTab_3 229 rfl rfl
theorem mjMc_170 : (9 : Nat) ≠ 13 → mjMw (yX9_push, cX9_push, 2, none, 9) ∈ mjT := mjInc (q := (yX9_push, cX9_push, 2, none, 9)) mjTab_3 233 rfl rfl
theorem mjMc_171 : (9 : Nat) ≠ 13 → mjMw (yX9_popped, cX9_popped, 1, (some .int), 9) ∈ mjT := mjInc (q := (yX9_popped, cX9_popped, 1, (some .int), 9)) mjTab_3 237 rfl rfl
theorem mjMc_172 : (9 : Nat) ≠ 13 → mjMw (yX9_worthOfSign, cX9_worthOfSign, 4, (some .int), 9) ∈ mjT := mjInc (q := (yX9_worthOfSign, cX9_worthOfSign, 4, (some .int), 9)) mjTab_4 1 rfl rfl
theorem mjMc_173 : (10 : Nat) ≠ 13 → mjMw (yX10_init, cX10_init, 1, none, 10) ∈ mjT := mjInc (q := (yX10_init, cX10_init, 1, none, 10)) mjTab_1 181 rfl rfl
theorem mjMc_174 : (10 : Nat) ≠ 13 → mjMw (yX10_become, cX10_become, 2, none, 10) ∈ mjT := mjInc (q := (yX10_become, cX10_become, 2, none, 10)) mjTab_7 11 rfl rfl
theorem mjMc_175 : (10 : Nat) ≠ 13 → mjMw (yX10_setWish, cX10_setWish, 4, (some .int), 10) ∈ mjT := mjInc (q := (yX10_setWish, cX10_setWish, 4, (some .int), 10)) mjTab_6 23 rfl rfl
theorem mjMc_176 : (10 : Nat) ≠ 13 → mjMw (yX10_leastThatCarries, cX10_leastThatCarries, 6, (some .int), 10) ∈ mjT := mjInc (q := (yX10_leastThatCarries, cX10_leastThatCarries, 6, (some .int), 10)) mjTab_6 33 rfl rfl
theorem mjMc_177 : (10 : Nat) ≠ 13 → mjMw (yX10_takeLines, cX10_takeLines, 3, none, 10) ∈ mjT := mjInc (q := (yX10_takeLines, cX10_takeLines, 3, none, 10)) mjTab_6 37 rfl rfl
theorem mjMc_178 : (10 : Nat) ≠ 13 → mjMw (yX10_searchSets, cX10_searchSets, 5, none, 10) ∈ mjT := mjInc (q := (yX10_searchSets, cX10_searchSets, 5, none, 10)) mjTab_6 48 rfl rfl
theorem mjMc_179 : (10 : Nat) ≠ 13 → mjMw (yX10_isLess, cX10_isLess, 3, (some .boolean), 10) ∈ mjT := mjInc (q := (yX10_isLess, cX10_isLess, 3, (some .boolean), 10)) mjTab_6 61 rfl rfl
theorem mjMc_180 : (10 : Nat) ≠ 13 → mjMw (yX10_sumOf, cX10_sumOf, 4, (some .int), 10) ∈ mjT := mjInc (q := (yX10_sumOf, cX10_sumOf, 4, (some .int), 10)) mjTab_6 53 rfl rfl
theorem mjMc_181 : (10 : Nat) ≠ 13 → mjMw (yX10_voicesFor, cX10_voicesFor, 6, (some .int), 10) ∈ mjT := mjInc (q := (yX10_voicesFor, cX10_voicesFor, 6, (some .int), 10)) mjTab_6 57 rfl rfl
theorem mjMc_182 : (11 : Nat) ≠ 13 → mjMw (yX11_init, cX11_init, 1, none, 11) ∈ mjT := mjInc (q := (yX11_init, cX11_init, 1, none, 11)) mjTab_1 24 rfl rfl
theorem mjMc_183 : (11 : Nat) ≠ 13 → mjMw (yX11_member, cX11_member, 3, (some .int), 11) ∈ mjT := mjInc (q := (yX11_member, cX11_member, 3, (some .int), 11)) mjTab_2 186 rfl rfl
theorem mjMc_184 : (11 : Nat) ≠ 13 → mjMw (yX11_is, cX11_is, 3, (some .int), 11) ∈ mjT := mjInc (q := (yX11_is, cX11_is, 3, (some .int), 11)) mjTab_2 200 rfl rfl
theorem mjMc_185 : (11 : Nat) ≠ 13 → mjMw (yX11_train, cX11_train, 3, (some .int), 11) ∈ mjT := mjInc (q := (yX11_train, cX11_train, 3, (some .int), 11)) mjTab_2 220 rfl rfl
theorem mjMc_186 : (11 : Nat) ≠ 13 → mjMw (yX11_go, cX11_go, 3, (some .int), 11) ∈ mjT := mjInc (q := (yX11_go, cX11_go, 3, (some .int), 11)) mjTab_2 228 rfl rfl
theorem mjMc_187 : (11 : Nat) ≠ 13 → mjMw (yX11_pair, cX11_pair, 4, (some .int), 11) ∈ mjT := mjInc (q := (yX11_pair, cX11_pair, 4, (some .int), 11)) mjTab_2 236 rfl rfl
theorem mjMc_188 : (11 : Nat) ≠ 13 → mjMw (yX11_breaks, cX11_breaks, 2, (some .int), 11) ∈ mjT := mjInc (q := (yX11_breaks, cX11_breaks, 2, (some .int), 11)) mjTab_3 5 rfl rfl
theorem mjMc_189 : (11 : Nat) ≠ 13 → mjMw (yX11_clock, cX11_clock, 2, (some .int), 11) ∈ mjT := mjInc (q := (yX11_clock, cX11_clock, 2, (some .int), 11)) mjTab_3 13 rfl rfl
theorem mjMc_190 : (11 : Nat) ≠ 13 → mjMw (yX11_run, cX11_run, 2, (some .int), 11) ∈ mjT := mjInc (q := (yX11_run, cX11_run, 2, (some .int), 11)) mjTab_3 23 rfl rfl
theorem mjMc_191 : (11 : Nat) ≠ 13 → mjMw (yX11_paper, cX11_paper, 4, (some .int), 11) ∈ mjT := mjInc (q := (yX11_paper, cX11_paper, 4, (some .int), 11)) mjTab_3 53 rfl rfl
theorem mjMc_192 : (11 : Nat) ≠ 13 → mjMw (yX11_hung, cX11_hung, 5, (some .int), 11) ∈ mjT := mjInc (q := (yX11_hung, cX11_hung, 5, (some .int), 11)) mjTab_3 84 rfl rfl
theorem mjMc_193 : (11 : Nat) ≠ 13 → mjMw (yX11_told, cX11_told, 3, (some .int), 11) ∈ mjT := mjInc (q := (yX11_told, cX11_told, 3, (some .int), 11)) mjTab_3 96 rfl rfl
theorem mjMc_194 : (11 : Nat) ≠ 13 → mjMw (yX11_as, cX11_as, 3, (some .int), 11) ∈ mjT := mjInc (q := (yX11_as, cX11_as, 3, (some .int), 11)) mjTab_3 104 rfl rfl
theorem mjMc_195 : (11 : Nat) ≠ 13 → mjMw (yX11_stance, cX11_stance, 4, (some .int), 11) ∈ mjT := mjInc (q := (yX11_stance, cX11_stance, 4, (some .int), 11)) mjTab_3 117 rfl rfl
theorem mjMc_196 : (11 : Nat) ≠ 13 → mjMw (yX11_print, cX11_print, 4, (some .int), 11) ∈ mjT := mjInc (q := (yX11_print, cX11_print, 4, (some .int), 11)) mjTab_3 125 rfl rfl
theorem mjMc_197 : (11 : Nat) ≠ 13 → mjMw (yX11_read, cX11_read, 3, (some .int), 11) ∈ mjT := mjInc (q := (yX11_read, cX11_read, 3, (some .int), 11)) mjTab_3 137 rfl rfl
theorem mjMc_198 : (11 : Nat) ≠ 13 → mjMw (yX11_would, cX11_would, 3, (some .int), 11) ∈ mjT := mjInc (q := (yX11_would, cX11_would, 3, (some .int), 11)) mjTab_3 156 rfl rfl
theorem mjMc_199 : (11 : Nat) ≠ 13 → mjMw (yX11_put, cX11_put, 2, (some .int), 11) ∈ mjT := mjInc (q := (yX11_put, cX11_put, 2, (some .int), 11)) mjTab_4 5 rfl rfl
theorem mjMc_200 : (11 : Nat) ≠ 13 → mjMw (yX11_rule, cX11_rule, 2, (some .int), 11) ∈ mjT := mjInc (q := (yX11_rule, cX11_rule, 2, (some .int), 11)) mjTab_4 79 rfl rfl
theorem mjMc_201 : (11 : Nat) ≠ 13 → mjMw (yX11_mend, cX11_mend, 2, (some .int), 11) ∈ mjT := mjInc (q := (yX11_mend, cX11_mend, 2, (some .int), 11)) mjTab_4 100 rfl rfl
theorem mjMc_202 : (11 : Nat) ≠ 13 → mjMw (yX11_falls, cX11_falls, 2, (some .int), 11) ∈ mjT := mjInc (q := (yX11_falls, cX11_falls, 2, (some .int), 11)) mjTab_4 108 rfl rfl
theorem mjMc_203 : (11 : Nat) ≠ 13 → mjMw (yX11_never, cX11_never, 2, (some .int), 11) ∈ mjT := mjInc (q := (yX11_never, cX11_never, 2, (some .int), 11)) mjTab_4 123 rfl rfl
theorem mjMc_204 : (11 : Nat) ≠ 13 → mjMw (yX11_row, cX11_row, 2, (some .int), 11) ∈ mjT := mjInc (q := (yX11_row, cX11_row, 2, (some .int), 11)) mjTab_4 135 rfl rfl
theorem mjMc_205 : (11 : Nat) ≠ 13 → mjMw (yX11_line, cX11_line, 3, (some .int), 11) ∈ mjT := mjInc (q := (yX11_line, cX11_line, 3, (some .int), 11)) mjTab_4 159 rfl rfl
theorem mjMc_206 : (11 : Nat) ≠ 13 → mjMw (yX11_feed, cX11_feed, 4, (some .int), 11) ∈ mjT := mjInc (q := (yX11_feed, cX11_feed, 4, (some .int), 11)) mjTab_4 189 rfl rfl
theorem mjMc_207 : (11 : Nat) ≠ 13 → mjMw (yX11_trim, cX11_trim, 2, (some .int), 11) ∈ mjT := mjInc (q := (yX11_trim, cX11_trim, 2, (some .int), 11)) mjTab_4 202 rfl rfl
theorem mjMc_208 : (11 : Nat) ≠ 13 → mjMw (yX11_text, cX11_text, 3, (some .int), 11) ∈ mjT := mjInc (q := (yX11_text, cX11_text, 3, (some .int), 11)) mjTab_4 212 rfl rfl
theorem mjMc_209 : (11 : Nat) ≠ 13 → mjMw (yX11_of, cX11_of, 3, (some .int), 11) ∈ mjT := mjInc (q := (yX11_of, cX11_of, 3, (some .int), 11)) mjTab_5 134 rfl rfl
theorem mjMc_210 : (11 : Nat) ≠ 13 → mjMw (yX11_why, cX11_why, 2, (some .int), 11) ∈ mjT := mjInc (q := (yX11_why, cX11_why, 2, (some .int), 11)) mjTab_5 143 rfl rfl
theorem mjMc_211 : (11 : Nat) ≠ 13 → mjMw (yX11_income, cX11_income, 3, (some .int), 11) ∈ mjT := mjInc (q := (yX11_income, cX11_income, 3, (some .int), 11)) mjTab_5 149 rfl rfl
theorem mjMc_212 : (11 : Nat) ≠ 13 → mjMw (yX11_balance, cX11_balance, 2, (some .int), 11) ∈ mjT := mjInc (q := (yX11_balance, cX11_balance, 2, (some .int), 11)) mjTab_5 157 rfl rfl
theorem mjMc_213 : (11 : Nat) ≠ 13 → mjMw (yX11_first, cX11_first, 1, (some .int), 11) ∈ mjT := mjInc (q := (yX11_first, cX11_first, 1, (some .int), 11)) mjTab_5 177 rfl rfl
theorem mjMc_214 : (11 : Nat) ≠ 13 → mjMw (yX11_book, cX11_book, 4, (some .int), 11) ∈ mjT := mjInc (q := (yX11_book, cX11_book, 4, (some .int), 11)) mjTab_5 188 rfl rfl
theorem mjMc_215 : (11 : Nat) ≠ 13 → mjMw (yX11_note, cX11_note, 4, (some .int), 11) ∈ mjT := mjInc (q := (yX11_note, cX11_note, 4, (some .int), 11)) mjTab_5 203 rfl rfl
theorem mjMc_216 : (11 : Nat) ≠ 13 → mjMw (yX11_looks, cX11_looks, 3, (some .int), 11) ∈ mjT := mjInc (q := (yX11_looks, cX11_looks, 3, (some .int), 11)) mjTab_5 225 rfl rfl
theorem mjMc_217 : (11 : Nat) ≠ 13 → mjMw (yX11_copy, cX11_copy, 6, (some .int), 11) ∈ mjT := mjInc (q := (yX11_copy, cX11_copy, 6, (some .int), 11)) mjTab_5 237 rfl rfl
theorem mjMc_218 : (11 : Nat) ≠ 13 → mjMw (yX11_span, cX11_span, 3, (some .int), 11) ∈ mjT := mjInc (q := (yX11_span, cX11_span, 3, (some .int), 11)) mjTab_6 9 rfl rfl
theorem mjMc_219 : (11 : Nat) ≠ 13 → mjMw (yX11_wish, cX11_wish, 3, (some .int), 11) ∈ mjT := mjInc (q := (yX11_wish, cX11_wish, 3, (some .int), 11)) mjTab_6 19 rfl rfl
theorem mjMc_220 : (11 : Nat) ≠ 13 → mjMw (yX11_carry, cX11_carry, 3, (some .int), 11) ∈ mjT := mjInc (q := (yX11_carry, cX11_carry, 3, (some .int), 11)) mjTab_6 29 rfl rfl
theorem mjMc_221 : (11 : Nat) ≠ 13 → mjMw (yX11_interpreter, cX11_interpreter, 1, (some .int), 11) ∈ mjT := mjInc (q := (yX11_interpreter, cX11_interpreter, 1, (some .int), 11)) mjTab_6 71 rfl rfl
theorem mjMc_222 : (11 : Nat) ≠ 13 → mjMw (yX11_speaks, cX11_speaks, 4, (some .int), 11) ∈ mjT := mjInc (q := (yX11_speaks, cX11_speaks, 4, (some .int), 11)) mjTab_6 80 rfl rfl
theorem mjMc_223 : (11 : Nat) ≠ 13 → mjMw (yX11_speech, cX11_speech, 4, (some .int), 11) ∈ mjT := mjInc (q := (yX11_speech, cX11_speech, 4, (some .int), 11)) mjTab_6 101 rfl rfl
theorem mjMc_224 : (11 : Nat) ≠ 13 → mjMw (yX11_heard, cX11_heard, 2, (some .int), 11) ∈ mjT := mjInc (q := (yX11_heard, cX11_heard, 2, (some .int), 11)) mjTab_6 110 rfl rfl
theorem mjMc_225 : (11 : Nat) ≠ 13 → mjMw (yX11_shift, cX11_shift, 3, (some .int), 11) ∈ mjT := mjInc (q := (yX11_shift, cX11_shift, 3, (some .int), 11)) mjTab_6 146 rfl rfl
theorem mjMc_226 : (11 : Nat) ≠ 13 → mjMw (yX11_offer, cX11_offer, 5, (some .int), 11) ∈ mjT := mjInc (q := (yX11_offer, cX11_offer, 5, (some .int), 11)) mjTab_6 158 rfl rfl
theorem mjMc_227 : (11 : Nat) ≠ 13 → mjMw (yX11_night, cX11_night, 4, (some .int), 11) ∈ mjT := mjInc (q := (yX11_night, cX11_night, 4, (some .int), 11)) mjTab_6 169 rfl rfl
theorem mjMc_228 : (11 : Nat) ≠ 13 → mjMw (yX11_tell, cX11_tell, 2, (some .int), 11) ∈ mjT := mjInc (q := (yX11_tell, cX11_tell, 2, (some .int), 11)) mjTab_6 194 rfl rfl
theorem mjMc_229 : (11 : Nat) ≠ 13 → mjMw (yX11_check, cX11_check, 6, (some .int), 11) ∈ mjT := mjInc (q := (yX11_check, cX11_check, 6, (some .int), 11)) mjTab_6 199 rfl rfl
theorem mjMc_230 : (11 : Nat) ≠ 13 → mjMw (yX11_keep, cX11_keep, 1, (some .int), 11) ∈ mjT := mjInc (q := (yX11_keep, cX11_keep, 1, (some .int), 11)) mjTab_6 224 rfl rfl
theorem mjMc_231 : (11 : Nat) ≠ 13 → mjMw (yX11_back, cX11_back, 1, (some .int), 11) ∈ mjT := mjInc (q := (yX11_back, cX11_back, 1, (some .int), 11)) mjTab_7 26 rfl rfl
theorem mjMc_232 : (11 : Nat) ≠ 13 → mjMw (yX11_count, cX11_count, 2, (some .int), 11) ∈ mjT := mjInc (q := (yX11_count, cX11_count, 2, (some .int), 11)) mjTab_7 30 rfl rfl
theorem mjMc_233 : (11 : Nat) ≠ 13 → mjMw (yX11_firstUnlike, cX11_firstUnlike, 5, (some .int), 11) ∈ mjT := mjInc (q := (yX11_firstUnlike, cX11_firstUnlike, 5, (some .int), 11)) mjTab_6 207 rfl rfl
theorem mjMc_234 : (11 : Nat) ≠ 13 → mjMw (yX11_within, cX11_within, 3, (some .boolean), 11) ∈ mjT := mjInc (q := (yX11_within, cX11_within, 3, (some .boolean), 11)) mjTab_2 193 rfl rfl
theorem mjMc_235 : (11 : Nat) ≠ 13 → mjMw (yX11_isTwo, cX11_isTwo, 3, (some .boolean), 11) ∈ mjT := mjInc (q := (yX11_isTwo, cX11_isTwo, 3, (some .boolean), 11)) mjTab_3 64 rfl rfl
theorem mjMc_236 : (11 : Nat) ≠ 13 → mjMw (yX11_heldSum, cX11_heldSum, 1, (some .int), 11) ∈ mjT := mjInc (q := (yX11_heldSum, cX11_heldSum, 1, (some .int), 11)) mjTab_4 57 rfl rfl
theorem mjMc_237 : (11 : Nat) ≠ 13 → mjMw (yX11_copyRow, cX11_copyRow, 4, none, 11) ∈ mjT := mjInc (q := (yX11_copyRow, cX11_copyRow, 4, none, 11)) mjTab_4 119 rfl rfl
theorem mjMc_238 : (12 : Nat) ≠ 13 → mjMw (yX12_init, cX12_init, 2, none, 12) ∈ mjT := mjInc (q := (yX12_init, cX12_init, 2, none, 12)) mjTab_7 47 rfl rfl
theorem mjMc_239 : (12 : Nat) ≠ 13 → mjMw (yX12_isIn, cX12_isIn, 6, (some .boolean), 12) ∈ mjT := mjInc (q := (yX12_isIn, cX12_isIn, 6, (some .boolean), 12)) mjTab_7 165 rfl rfl
theorem mjMc_240 : (12 : Nat) ≠ 13 → mjMw (yX12_orNone, cX12_orNone, 1, (some .int), 12) ∈ mjT := mjInc (q := (yX12_orNone, cX12_orNone, 1, (some .int), 12)) mjTab_7 184 rfl rfl
theorem mjMc_241 : (12 : Nat) ≠ 13 → mjMw (yX12_held, cX12_held, 1, (some .int), 12) ∈ mjT := mjInc (q := (yX12_held, cX12_held, 1, (some .int), 12)) mjTab_8 121 rfl rfl
theorem mjMc_242 : (12 : Nat) ≠ 13 → mjMw (yX12_ones, cX12_ones, 3, (some .int), 12) ∈ mjT := mjInc (q := (yX12_ones, cX12_ones, 3, (some .int), 12)) mjTab_9 106 rfl rfl
theorem mjMc_243 : (12 : Nat) ≠ 13 → mjMw (yX12_becomes, cX12_becomes, 4, (some .int), 12) ∈ mjT := mjInc (q := (yX12_becomes, cX12_becomes, 4, (some .int), 12)) mjTab_7 206 rfl rfl
theorem mjMc_244 : (12 : Nat) ≠ 13 → mjMw (yX12_memberAt, cX12_memberAt, 2, (some .int), 12) ∈ mjT := mjInc (q := (yX12_memberAt, cX12_memberAt, 2, (some .int), 12)) mjTab_7 172 rfl rfl
theorem mjMc_245 : (12 : Nat) ≠ 13 → mjMw (yX12_pairAt, cX12_pairAt, 2, (some .int), 12) ∈ mjT := mjInc (q := (yX12_pairAt, cX12_pairAt, 2, (some .int), 12)) mjTab_7 197 rfl rfl
theorem mjMc_246 : (12 : Nat) ≠ 13 → mjMw (yX12_paperAt, cX12_paperAt, 2, (some .int), 12) ∈ mjT := mjInc (q := (yX12_paperAt, cX12_paperAt, 2, (some .int), 12)) mjTab_8 0 rfl rfl
theorem mjMc_247 : (12 : Nat) ≠ 13 → mjMw (yX12_textAt, cX12_textAt, 2, (some .int), 12) ∈ mjT := mjInc (q := (yX12_textAt, cX12_textAt, 2, (some .int), 12)) mjTab_8 95 rfl rfl
theorem mjMc_248 : (12 : Nat) ≠ 13 → mjMw (yX12_isMember, cX12_isMember, 2, (some .boolean), 12) ∈ mjT := mjInc (q := (yX12_isMember, cX12_isMember, 2, (some .boolean), 12)) mjTab_7 180 rfl rfl
theorem mjMc_249 : (12 : Nat) ≠ 13 → mjMw (yX12_isPaper, cX12_isPaper, 2, (some .boolean), 12) ∈ mjT := mjInc (q := (yX12_isPaper, cX12_isPaper, 2, (some .boolean), 12)) mjTab_8 17 rfl rfl
theorem mjMc_250 : (12 : Nat) ≠ 13 → mjMw (yX12_isText, cX12_isText, 2, (some .boolean), 12) ∈ mjT := mjInc (q := (yX12_isText, cX12_isText, 2, (some .boolean), 12)) mjTab_9 29 rfl rfl
theorem mjMc_251 : (12 : Nat) ≠ 13 → mjMw (yX12_isParty, cX12_isParty, 1, (some .boolean), 12) ∈ mjT := mjInc (q := (yX12_isParty, cX12_isParty, 1, (some .boolean), 12)) mjTab_7 161 rfl rfl
theorem mjMc_252 : (12 : Nat) ≠ 13 → mjMw (yX12_isTongue, cX12_isTongue, 1, (some .boolean), 12) ∈ mjT := mjInc (q := (yX12_isTongue, cX12_isTongue, 1, (some .boolean), 12)) mjTab_8 60 rfl rfl
theorem mjMc_253 : (12 : Nat) ≠ 13 → mjMw (yX12_kindOf, cX12_kindOf, 2, (some .int), 12) ∈ mjT := mjInc (q := (yX12_kindOf, cX12_kindOf, 2, (some .int), 12)) mjTab_8 21 rfl rfl
theorem mjMc_254 : (12 : Nat) ≠ 13 → mjMw (yX12_state, cX12_state, 2, (some .int), 12) ∈ mjT := mjInc (q := (yX12_state, cX12_state, 2, (some .int), 12)) mjTab_8 114 rfl rfl
theorem mjMc_255 : (12 : Nat) ≠ 13 → mjMw (yX12_isLine, cX12_isLine, 2, (some .boolean), 12) ∈ mjT := mjInc (q := (yX12_isLine, cX12_isLine, 2, (some .boolean), 12)) mjTab_8 13 rfl rfl
theorem mjMc_256 : (12 : Nat) ≠ 13 → mjMw (yX12_isChange, cX12_isChange, 2, (some .boolean), 12) ∈ mjT := mjInc (q := (yX12_isChange, cX12_isChange, 2, (some .boolean), 12)) mjTab_8 37 rfl rfl
theorem mjMc_257 : (12 : Nat) ≠ 13 → mjMw (yX12_member, cX12_member, 4, (some .int), 12) ∈ mjT := mjInc (q := (yX12_member, cX12_member, 4, (some .int), 12)) mjTab_7 158 rfl rfl
theorem mjMc_258 : (12 : Nat) ≠ 13 → mjMw (yX12_holds, cX12_holds, 3, (some .boolean), 12) ∈ mjT := mjInc (q := (yX12_holds, cX12_holds, 3, (some .boolean), 12)) mjTab_7 193 rfl rfl
theorem mjMc_259 : (12 : Nat) ≠ 13 → mjMw (yX12_pairOf, cX12_pairOf, 5, (some .int), 12) ∈ mjT := mjInc (q := (yX12_pairOf, cX12_pairOf, 5, (some .int), 12)) mjTab_7 189 rfl rfl
theorem mjMc_260 : (12 : Nat) ≠ 13 → mjMw (yX12_is, cX12_is, 4, (some .int), 12) ∈ mjT := mjInc (q := (yX12_is, cX12_is, 4, (some .int), 12)) mjTab_7 176 rfl rfl
theorem mjMc_261 : (12 : Nat) ≠ 13 → mjMw (yX12_train, cX12_train, 3, (some .int), 12) ∈ mjT := mjInc (q := (yX12_train, cX12_train, 3, (some .int), 12)) mjTab_7 201 rfl rfl
theorem mjMc_262 : (12 : Nat) ≠ 13 → mjMw (yX12_go, cX12_go, 3, (some .int), 12) ∈ mjT := mjInc (q := (yX12_go, cX12_go, 3, (some .int), 12)) mjTab_7 210 rfl rfl
theorem mjMc_263 : (12 : Nat) ≠ 13 → mjMw (yX12_pair, cX12_pair, 5, (some .int), 12) ∈ mjT := mjInc (q := (yX12_pair, cX12_pair, 5, (some .int), 12)) mjTab_7 214 rfl rfl
theorem mjMc_264 : (12 : Nat) ≠ 13 → mjMw (yX12_breaks, cX12_breaks, 2, (some .int), 12) ∈ mjT := mjInc (q := (yX12_breaks, cX12_breaks, 2, (some .int), 12)) mjTab_7 219 rfl rfl
theorem mjMc_265 : (12 : Nat) ≠ 13 → mjMw (yX12_clock, cX12_clock, 2, (some .int), 12) ∈ mjT := mjInc (q := (yX12_clock, cX12_clock, 2, (some .int), 12)) mjTab_7 223 rfl rfl
theorem mjMc_266 : (12 : Nat) ≠ 13 → mjMw (yX12_arrive, cX12_arrive, 5, none, 12) ∈ mjT := mjInc (q := (yX12_arrive, cX12_arrive, 5, none, 12)) mjTab_7 236 rfl rfl
theorem mjMc_267 : (12 : Nat) ≠ 13 → mjMw (yX12_minute, cX12_minute, 3, none, 12) ∈ mjT := mjInc (q := (yX12_minute, cX12_minute, 3, none, 12)) mjTab_7 232 rfl rfl
theorem mjMc_268 : (12 : Nat) ≠ 13 → mjMw (yX12_run, cX12_run, 3, (some .int), 12) ∈ mjT := mjInc (q := (yX12_run, cX12_run, 3, (some .int), 12)) mjTab_7 227 rfl rfl
theorem mjMc_269 : (12 : Nat) ≠ 13 → mjMw (yX12_fits, cX12_fits, 4, (some .boolean), 12) ∈ mjT := mjInc (q := (yX12_fits, cX12_fits, 4, (some .boolean), 12)) mjTab_8 8 rfl rfl
theorem mjMc_270 : (12 : Nat) ≠ 13 → mjMw (yX12_newPaper, cX12_newPaper, 8, (some .int), 12) ∈ mjT := mjInc (q := (yX12_newPaper, cX12_newPaper, 8, (some .int), 12)) mjTab_8 29 rfl rfl
theorem mjMc_271 : (12 : Nat) ≠ 13 → mjMw (yX12_paper, cX12_paper, 4, (some .int), 12) ∈ mjT := mjInc (q := (yX12_paper, cX12_paper, 4, (some .int), 12)) mjTab_8 4 rfl rfl
theorem mjMc_272 : (12 : Nat) ≠ 13 → mjMw (yX12_hung, cX12_hung, 5, (some .int), 12) ∈ mjT := mjInc (q := (yX12_hung, cX12_hung, 5, (some .int), 12)) mjTab_8 33 rfl rfl
theorem mjMc_273 : (12 : Nat) ≠ 13 → mjMw (yX12_told, cX12_told, 4, (some .int), 12) ∈ mjT := mjInc (q := (yX12_told, cX12_told, 4, (some .int), 12)) mjTab_8 41 rfl rfl
theorem mjMc_274 : (12 : Nat) ≠ 13 → mjMw (yX12_as, cX12_as, 5, (some .int), 12) ∈ mjT := mjInc (q := (yX12_as, cX12_as, 5, (some .int), 12)) mjTab_8 46 rfl rfl
theorem mjMc_275 : (12 : Nat) ≠ 13 → mjMw (yX12_stance, cX12_stance, 4, (some .int), 12) ∈ mjT := mjInc (q := (yX12_stance, cX12_stance, 4, (some .int), 12)) mjTab_8 52 rfl rfl
theorem mjMc_276 : (12 : Nat) ≠ 13 → mjMw (yX12_print, cX12_print, 5, (some .int), 12) ∈ mjT := mjInc (q := (yX12_print, cX12_print, 5, (some .int), 12)) mjTab_8 57 rfl rfl
theorem mjMc_277 : (12 : Nat) ≠ 13 → mjMw (yX12_hasRead, cX12_hasRead, 3, (some .boolean), 12) ∈ mjT := mjInc (q := (yX12_hasRead, cX12_hasRead, 3, (some .boolean), 12)) mjTab_8 70 rfl rfl
theorem mjMc_278 : (12 : Nat) ≠ 13 → mjMw (yX12_read, cX12_read, 3, (some .int), 12) ∈ mjT := mjInc (q := (yX12_read, cX12_read, 3, (some .int), 12)) mjTab_8 66 rfl rfl
theorem mjMc_279 : (12 : Nat) ≠ 13 → mjMw (yX12_isBound, cX12_isBound, 6, (some .boolean), 12) ∈ mjT := mjInc (q := (yX12_isBound, cX12_isBound, 6, (some .boolean), 12)) mjTab_8 87 rfl rfl
theorem mjMc_280 : (12 : Nat) ≠ 13 → mjMw (yX12_says, cX12_says, 5, (some .int), 12) ∈ mjT := mjInc (q := (yX12_says, cX12_says, 5, (some .int), 12)) mjTab_8 83 rfl rfl
theorem mjMc_281 : (12 : Nat) ≠ 13 → mjMw (yX12_votes, cX12_votes, 5, (some .boolean), 12) ∈ mjT := mjInc (q := (yX12_votes, cX12_votes, 5, (some .boolean), 12)) mjTab_8 79 rfl rfl
theorem mjMc_282 : (12 : Nat) ≠ 13 → mjMw (yX12_would, cX12_would, 4, (some .int), 12) ∈ mjT := mjInc (q := (yX12_would, cX12_would, 4, (some .int), 12)) mjTab_8 74 rfl rfl
theorem mjMc_283 : (12 : Nat) ≠ 13 → mjMw (yX12_doesFall, cX12_doesFall, 4, (some .boolean), 12) ∈ mjT := mjInc (q := (yX12_doesFall, cX12_doesFall, 4, (some .boolean), 12)) mjTab_8 129 rfl rfl
theorem mjMc_284 : (12 : Nat) ≠ 13 → mjMw (yX12_letFall, cX12_letFall, 3, (some .int), 12) ∈ mjT := mjInc (q := (yX12_letFall, cX12_letFall, 3, (some .int), 12)) mjTab_8 125 rfl rfl
theorem mjMc_285 : (12 : Nat) ≠ 13 → mjMw (yX12_settleDeals, cX12_settleDeals, 3, none, 12) ∈ mjT := mjInc (q := (yX12_settleDeals, cX12_settleDeals, 3, none, 12)) mjTab_8 133 rfl rfl
theorem mjMc_286 : (12 : Nat) ≠ 13 → mjMw (yX12_mayPut, cX12_mayPut, 4, (some .boolean), 12) ∈ mjT := mjInc (q := (yX12_mayPut, cX12_mayPut, 4, (some .boolean), 12)) mjTab_8 110 rfl rfl
theorem mjMc_287 : (12 : Nat) ≠ 13 → mjMw (yX12_withLine, cX12_withLine, 5, none, 12) ∈ mjT := mjInc (q := (yX12_withLine, cX12_withLine, 5, none, 12)) mjTab_8 118 rfl rfl
theorem mjMc_288 : (12 : Nat) ≠ 13 → mjMw (yX12_put, cX12_put, 5, (some .int), 12) ∈ mjT := mjInc (q := (yX12_put, cX12_put, 5, (some .int), 12)) mjTab_8 106 rfl rfl
theorem mjMc_289 : (12 : Nat) ≠ 13 → mjMw (yX12_rule, cX12_rule, 7, (some .int), 12) ∈ mjT := mjInc (q := (yX12_rule, cX12_rule, 7, (some .int), 12)) mjTab_8 137 rfl rfl
theorem mjMc_290 : (12 : Nat) ≠ 13 → mjMw (yX12_mend, cX12_mend, 2, (some .int), 12) ∈ mjT := mjInc (q := (yX12_mend, cX12_mend, 2, (some .int), 12)) mjTab_8 141 rfl rfl
theorem mjMc_291 : (12 : Nat) ≠ 13 → mjMw (yX12_noChange, cX12_noChange, 2, (some .int), 12) ∈ mjT := mjInc (q := (yX12_noChange, cX12_noChange, 2, (some .int), 12)) mjTab_8 149 rfl rfl
theorem mjMc_292 : (12 : Nat) ≠ 13 → mjMw (yX12_falls, cX12_falls, 5, (some .int), 12) ∈ mjT := mjInc (q := (yX12_falls, cX12_falls, 5, (some .int), 12)) mjTab_8 145 rfl rfl
theorem mjMc_293 : (12 : Nat) ≠ 13 → mjMw (yX12_isNever, cX12_isNever, 4, (some .boolean), 12) ∈ mjT := mjInc (q := (yX12_isNever, cX12_isNever, 4, (some .boolean), 12)) mjTab_8 157 rfl rfl
theorem mjMc_294 : (12 : Nat) ≠ 13 → mjMw (yX12_never, cX12_never, 3, (some .int), 12) ∈ mjT := mjInc (q := (yX12_never, cX12_never, 3, (some .int), 12)) mjTab_8 153 rfl rfl
theorem mjMc_295 : (12 : Nat) ≠ 13 → mjMw (yX12_worthOf, cX12_worthOf, 5, (some .int), 12) ∈ mjT := mjInc (q := (yX12_worthOf, cX12_worthOf, 5, (some .int), 12)) mjTab_8 169 rfl rfl
theorem mjMc_296 : (12 : Nat) ≠ 13 → mjMw (yX12_findRow, cX12_findRow, 6, (some .int), 12) ∈ mjT := mjInc (q := (yX12_findRow, cX12_findRow, 6, (some .int), 12)) mjTab_8 165 rfl rfl
theorem mjMc_297 : (12 : Nat) ≠ 13 → mjMw (yX12_row, cX12_row, 2, (some .int), 12) ∈ mjT := mjInc (q := (yX12_row, cX12_row, 2, (some .int), 12)) mjTab_8 161 rfl rfl
theorem mjMc_298 : (12 : Nat) ≠ 13 → mjMw (yX12_bind, cX12_bind, 4, (some .int), 12) ∈ mjT := mjInc (q := (yX12_bind, cX12_bind, 4, (some .int), 12)) mjTab_8 181 rfl rfl
theorem mjMc_299 : (12 : Nat) ≠ 13 → mjMw (yX12_bindingSum, cX12_bindingSum, 7, (some .int), 12) ∈ mjT := mjInc (q := (yX12_bindingSum, cX12_bindingSum, 7, (some .int), 12)) mjTab_8 177 rfl rfl
theorem mjMc_300 : (12 : Nat) ≠ 13 → mjMw (yX12_line, cX12_line, 8, (some .int), 12) ∈ mjT := mjInc (q := (yX12_line, cX12_line, 8, (some .int), 12)) mjTab_8 173 rfl rfl
theorem mjMc_301 : (12 : Nat) ≠ 13 → mjMw (yX12_feed, cX12_feed, 6, (some .int), 12) ∈ mjT := mjInc (q := (yX12_feed, cX12_feed, 6, (some .int), 12)) mjTab_8 185 rfl rfl
theorem mjMc_302 : (12 : Nat) ≠ 13 → mjMw (yX12_trim, cX12_trim, 2, (some .int), 12) ∈ mjT := mjInc (q := (yX12_trim, cX12_trim, 2, (some .int), 12)) mjTab_8 189 rfl rfl
theorem mjMc_303 : (12 : Nat) ≠ 13 → mjMw (yX12_isLetter, cX12_isLetter, 2, (some .boolean), 12) ∈ mjT := mjInc (q := (yX12_isLetter, cX12_isLetter, 2, (some .boolean), 12)) mjTab_8 206 rfl rfl
theorem mjMc_304 : (12 : Nat) ≠ 13 → mjMw (yX12_isDigit, cX12_isDigit, 2, (some .boolean), 12) ∈ mjT := mjInc (q := (yX12_isDigit, cX12_isDigit, 2, (some .boolean), 12)) mjTab_8 212 rfl rfl
theorem mjMc_305 : (12 : Nat) ≠ 13 → mjMw (yX12_next, cX12_next, 3, none, 12) ∈ mjT := mjInc (q := (yX12_next, cX12_next, 3, none, 12)) mjTab_8 202 rfl rfl
theorem mjMc_306 : (12 : Nat) ≠ 13 → mjMw (yX12_isSign, cX12_isSign, 2, (some .boolean), 12) ∈ mjT := mjInc (q := (yX12_isSign, cX12_isSign, 2, (some .boolean), 12)) mjTab_9 21 rfl rfl
theorem mjMc_307 : (12 : Nat) ≠ 13 → mjMw (yX12_isWordAt, cX12_isWordAt, 6, (some .boolean), 12) ∈ mjT := mjInc (q := (yX12_isWordAt, cX12_isWordAt, 6, (some .boolean), 12)) mjTab_8 222 rfl rfl
theorem mjMc_308 : (12 : Nat) ≠ 13 → mjMw (yX12_isFive, cX12_isFive, 6, (some .boolean), 12) ∈ mjT := mjInc (q := (yX12_isFive, cX12_isFive, 6, (some .boolean), 12)) mjTab_8 226 rfl rfl
theorem mjMc_309 : (12 : Nat) ≠ 13 → mjMw (yX12_key, cX12_key, 2, (some .int), 12) ∈ mjT := mjInc (q := (yX12_key, cX12_key, 2, (some .int), 12)) mjTab_8 218 rfl rfl
theorem mjMc_310 : (12 : Nat) ≠ 13 → mjMw (yX12_isName, cX12_isName, 2, (some .boolean), 12) ∈ mjT := mjInc (q := (yX12_isName, cX12_isName, 2, (some .boolean), 12)) mjTab_9 17 rfl rfl
theorem mjMc_311 : (12 : Nat) ≠ 13 → mjMw (yX12_step, cX12_step, 3, none, 12) ∈ mjT := mjInc (q := (yX12_step, cX12_step, 3, none, 12)) mjTab_9 14 rfl rfl
theorem mjMc_312 : (12 : Nat) ≠ 13 → mjMw (yX12_either, cX12_either, 2, (some .boolean), 12) ∈ mjT := mjInc (q := (yX12_either, cX12_either, 2, (some .boolean), 12)) mjTab_8 230 rfl rfl
theorem mjMc_313 : (12 : Nat) ≠ 13 → mjMw (yX12_both, cX12_both, 2, (some .boolean), 12) ∈ mjT := mjInc (q := (yX12_both, cX12_both, 2, (some .boolean), 12)) mjTab_8 234 rfl rfl
theorem mjMc_314 : (12 : Nat) ≠ 13 → mjMw (yX12_test, cX12_test, 3, (some .boolean), 12) ∈ mjT := mjInc (q := (yX12_test, cX12_test, 3, (some .boolean), 12)) mjTab_8 238 rfl rfl
theorem mjMc_315 : (12 : Nat) ≠ 13 → mjMw (yX12_sum, cX12_sum, 3, (some .boolean), 12) ∈ mjT := mjInc (q := (yX12_sum, cX12_sum, 3, (some .boolean), 12)) mjTab_9 2 rfl rfl
theorem mjMc_316 : (12 : Nat) ≠ 13 → mjMw (yX12_term, cX12_term, 3, (some .boolean), 12) ∈ mjT := mjInc (q := (yX12_term, cX12_term, 3, (some .boolean), 12)) mjTab_9 6 rfl rfl
theorem mjMc_317 : (12 : Nat) ≠ 13 → mjMw (yX12_part0, cX12_part0, 2, (some .boolean), 12) ∈ mjT := mjInc (q := (yX12_part0, cX12_part0, 2, (some .boolean), 12)) mjTab_9 10 rfl rfl
theorem mjMc_318 : (12 : Nat) ≠ 13 → mjMw (yX12_parse, cX12_parse, 3, (some .int), 12) ∈ mjT := mjInc (q := (yX12_parse, cX12_parse, 3, (some .int), 12)) mjTab_8 198 rfl rfl
theorem mjMc_319 : (12 : Nat) ≠ 13 → mjMw (yX12_text, cX12_text, 5, (some .int), 12) ∈ mjT := mjInc (q := (yX12_text, cX12_text, 5, (some .int), 12)) mjTab_8 193 rfl rfl
theorem mjMc_320 : (12 : Nat) ≠ 13 → mjMw (yX12_of, cX12_of, 3, (some .int), 12) ∈ mjT := mjInc (q := (yX12_of, cX12_of, 3, (some .int), 12)) mjTab_9 25 rfl rfl
theorem mjMc_321 : (12 : Nat) ≠ 13 → mjMw (yX12_counts, cX12_counts, 5, (some .int), 12) ∈ mjT := mjInc (q := (yX12_counts, cX12_counts, 5, (some .int), 12)) mjTab_8 91 rfl rfl
theorem mjMc_322 : (12 : Nat) ≠ 13 → mjMw (yX12_why, cX12_why, 2, (some .int), 12) ∈ mjT := mjInc (q := (yX12_why, cX12_why, 2, (some .int), 12)) mjTab_9 34 rfl rfl
theorem mjMc_323 : (12 : Nat) ≠ 13 → mjMw (yX12_joined, cX12_joined, 3, (some .int), 12) ∈ mjT := mjInc (q := (yX12_joined, cX12_joined, 3, (some .int), 12)) mjTab_8 102 rfl rfl
theorem mjMc_324 : (12 : Nat) ≠ 13 → mjMw (yX12_worked, cX12_worked, 6, (some .int), 12) ∈ mjT := mjInc (q := (yX12_worked, cX12_worked, 6, (some .int), 12)) mjTab_8 99 rfl rfl
theorem mjMc_325 : (12 : Nat) ≠ 13 → mjMw (yX12_income, cX12_income, 3, (some .int), 12) ∈ mjT := mjInc (q := (yX12_income, cX12_income, 3, (some .int), 12)) mjTab_9 38 rfl rfl
theorem mjMc_326 : (12 : Nat) ≠ 13 → mjMw (yX12_isGiven, cX12_isGiven, 2, (some .boolean), 12) ∈ mjT := mjInc (q := (yX12_isGiven, cX12_isGiven, 2, (some .boolean), 12)) mjTab_9 47 rfl rfl
theorem mjMc_327 : (12 : Nat) ≠ 13 → mjMw (yX12_incomes, cX12_incomes, 4, (some .int), 12) ∈ mjT := mjInc (q := (yX12_incomes, cX12_incomes, 4, (some .int), 12)) mjTab_9 51 rfl rfl
theorem mjMc_328 : (12 : Nat) ≠ 13 → mjMw (yX12_balance, cX12_balance, 6, (some .int), 12) ∈ mjT := mjInc (q := (yX12_balance, cX12_balance, 6, (some .int), 12)) mjTab_9 42 rfl rfl
theorem mjMc_329 : (12 : Nat) ≠ 13 → mjMw (yX12_first, cX12_first, 6, (some .int), 12) ∈ mjT := mjInc (q := (yX12_first, cX12_first, 6, (some .int), 12)) mjTab_9 55 rfl rfl
theorem mjMc_330 : (12 : Nat) ≠ 13 → mjMw (yX12_isOffice, cX12_isOffice, 1, (some .boolean), 12) ∈ mjT := mjInc (q := (yX12_isOffice, cX12_isOffice, 1, (some .boolean), 12)) mjTab_9 63 rfl rfl
theorem mjMc_331 : (12 : Nat) ≠ 13 → mjMw (yX12_book, cX12_book, 5, (some .int), 12) ∈ mjT := mjInc (q := (yX12_book, cX12_book, 5, (some .int), 12)) mjTab_9 60 rfl rfl
theorem mjMc_332 : (12 : Nat) ≠ 13 → mjMw (yX12_note, cX12_note, 4, (some .int), 12) ∈ mjT := mjInc (q := (yX12_note, cX12_note, 4, (some .int), 12)) mjTab_9 69 rfl rfl
theorem mjMc_333 : (12 : Nat) ≠ 13 → mjMw (yX12_readBy, cX12_readBy, 4, (some .int), 12) ∈ mjT := mjInc (q := (yX12_readBy, cX12_readBy, 4, (some .int), 12)) mjTab_9 81 rfl rfl
theorem mjMc_334 : (12 : Nat) ≠ 13 → mjMw (yX12_looks, cX12_looks, 4, (some .int), 12) ∈ mjT := mjInc (q := (yX12_looks, cX12_looks, 4, (some .int), 12)) mjTab_9 77 rfl rfl
theorem mjMc_335 : (12 : Nat) ≠ 13 → mjMw (yX12_copy, cX12_copy, 7, (some .int), 12) ∈ mjT := mjInc (q := (yX12_copy, cX12_copy, 7, (some .int), 12)) mjTab_9 85 rfl rfl
theorem mjMc_336 : (12 : Nat) ≠ 13 → mjMw (yX12_span, cX12_span, 10, (some .int), 12) ∈ mjT := mjInc (q := (yX12_span, cX12_span, 10, (some .int), 12)) mjTab_9 89 rfl rfl
theorem mjMc_337 : (12 : Nat) ≠ 13 → mjMw (yX12_wish, cX12_wish, 3, (some .int), 12) ∈ mjT := mjInc (q := (yX12_wish, cX12_wish, 3, (some .int), 12)) mjTab_9 93 rfl rfl
theorem mjMc_338 : (12 : Nat) ≠ 13 → mjMw (yX12_findLines, cX12_findLines, 3, (some .int), 12) ∈ mjT := mjInc (q := (yX12_findLines, cX12_findLines, 3, (some .int), 12)) mjTab_9 103 rfl rfl
theorem mjMc_339 : (12 : Nat) ≠ 13 → mjMw (yX12_membersFor, cX12_membersFor, 6, (some .int), 12) ∈ mjT := mjInc (q := (yX12_membersFor, cX12_membersFor, 6, (some .int), 12)) mjTab_9 110 rfl rfl
theorem mjMc_340 : (12 : Nat) ≠ 13 → mjMw (yX12_carry, cX12_carry, 9, (some .int), 12) ∈ mjT := mjInc (q := (yX12_carry, cX12_carry, 9, (some .int), 12)) mjTab_9 98 rfl rfl
theorem mjMc_341 : (12 : Nat) ≠ 13 → mjMw (yX12_interpreter, cX12_interpreter, 2, (some .int), 12) ∈ mjT := mjInc (q := (yX12_interpreter, cX12_interpreter, 2, (some .int), 12)) mjTab_9 114 rfl rfl
theorem mjMc_342 : (12 : Nat) ≠ 13 → mjMw (yX12_speaks, cX12_speaks, 7, (some .int), 12) ∈ mjT := mjInc (q := (yX12_speaks, cX12_speaks, 7, (some .int), 12)) mjTab_9 118 rfl rfl
theorem mjMc_343 : (12 : Nat) ≠ 13 → mjMw (yX12_speech, cX12_speech, 5, (some .int), 12) ∈ mjT := mjInc (q := (yX12_speech, cX12_speech, 5, (some .int), 12)) mjTab_9 122 rfl rfl
theorem mjMc_344 : (12 : Nat) ≠ 13 → mjMw (yX12_hears, cX12_hears, 4, (some .int), 12) ∈ mjT := mjInc (q := (yX12_hears, cX12_hears, 4, (some .int), 12)) mjTab_9 138 rfl rfl
theorem mjMc_345 : (12 : Nat) ≠ 13 → mjMw (yX12_heardBy, cX12_heardBy, 6, (some .int), 12) ∈ mjT := mjInc (q := (yX12_heardBy, cX12_heardBy, 6, (some .int), 12)) mjTab_9 134 rfl rfl
theorem mjMc_346 : (12 : Nat) ≠ 13 → mjMw (yX12_findShift, cX12_findShift, 7, (some .int), 12) ∈ mjT := mjInc (q := (yX12_findShift, cX12_findShift, 7, (some .int), 12)) mjTab_9 130 rfl rfl
theorem mjMc_347 : (12 : Nat) ≠ 13 → mjMw (yX12_heard, cX12_heard, 2, (some .int), 12) ∈ mjT := mjInc (q := (yX12_heard, cX12_heard, 2, (some .int), 12)) mjTab_9 126 rfl rfl
theorem mjMc_348 : (12 : Nat) ≠ 13 → mjMw (yX12_shift, cX12_shift, 8, (some .int), 12) ∈ mjT := mjInc (q := (yX12_shift, cX12_shift, 8, (some .int), 12)) mjTab_9 142 rfl rfl
theorem mjMc_349 : (12 : Nat) ≠ 13 → mjMw (yX12_offer, cX12_offer, 6, (some .int), 12) ∈ mjT := mjInc (q := (yX12_offer, cX12_offer, 6, (some .int), 12)) mjTab_9 146 rfl rfl
theorem mjMc_350 : (12 : Nat) ≠ 13 → mjMw (yX12_sumOf, cX12_sumOf, 5, (some .int), 12) ∈ mjT := mjInc (q := (yX12_sumOf, cX12_sumOf, 5, (some .int), 12)) mjTab_9 162 rfl rfl
theorem mjMc_351 : (12 : Nat) ≠ 13 → mjMw (yX12_goesTogether, cX12_goesTogether, 4, (some .boolean), 12) ∈ mjT := mjInc (q := (yX12_goesTogether, cX12_goesTogether, 4, (some .boolean), 12)) mjTab_9 166 rfl rfl
theorem mjMc_352 : (12 : Nat) ≠ 13 → mjMw (yX12_findNight, cX12_findNight, 6, (some .int), 12) ∈ mjT := mjInc (q := (yX12_findNight, cX12_findNight, 6, (some .int), 12)) mjTab_9 158 rfl rfl
theorem mjMc_353 : (12 : Nat) ≠ 13 → mjMw (yX12_isNight, cX12_isNight, 2, (some .boolean), 12) ∈ mjT := mjInc (q := (yX12_isNight, cX12_isNight, 2, (some .boolean), 12)) mjTab_9 154 rfl rfl
theorem mjMc_354 : (12 : Nat) ≠ 13 → mjMw (yX12_night, cX12_night, 5, (some .int), 12) ∈ mjT := mjInc (q := (yX12_night, cX12_night, 5, (some .int), 12)) mjTab_9 151 rfl rfl
theorem mjMc_355 : (12 : Nat) ≠ 13 → mjMw (yX12_tell, cX12_tell, 2, (some .int), 12) ∈ mjT := mjInc (q := (yX12_tell, cX12_tell, 2, (some .int), 12)) mjTab_9 170 rfl rfl
theorem mjMc_356 : (12 : Nat) ≠ 13 → mjMw (yX12_setAside, cX12_setAside, 4, none, 12) ∈ mjT := mjInc (q := (yX12_setAside, cX12_setAside, 4, none, 12)) mjTab_9 191 rfl rfl
theorem mjMc_357 : (12 : Nat) ≠ 13 → mjMw (yX12_dueIs, cX12_dueIs, 3, none, 12) ∈ mjT := mjInc (q := (yX12_dueIs, cX12_dueIs, 3, none, 12)) mjTab_9 182 rfl rfl
theorem mjMc_358 : (12 : Nat) ≠ 13 → mjMw (yX12_rowsOfNight, cX12_rowsOfNight, 6, (some .int), 12) ∈ mjT := mjInc (q := (yX12_rowsOfNight, cX12_rowsOfNight, 6, (some .int), 12)) mjTab_9 178 rfl rfl
theorem mjMc_359 : (12 : Nat) ≠ 13 → mjMw (yX12_present, cX12_present, 3, (some .int), 12) ∈ mjT := mjInc (q := (yX12_present, cX12_present, 3, (some .int), 12)) mjTab_9 195 rfl rfl
theorem mjMc_360 : (12 : Nat) ≠ 13 → mjMw (yX12_rowsTold, cX12_rowsTold, 4, (some .int), 12) ∈ mjT := mjInc (q := (yX12_rowsTold, cX12_rowsTold, 4, (some .int), 12)) mjTab_9 186 rfl rfl
theorem mjMc_361 : (12 : Nat) ≠ 13 → mjMw (yX12_check, cX12_check, 7, (some .int), 12) ∈ mjT := mjInc (q := (yX12_check, cX12_check, 7, (some .int), 12)) mjTab_9 174 rfl rfl
theorem mjMc_362 : (12 : Nat) ≠ 13 → mjMw (yX12_keep, cX12_keep, 1, (some .int), 12) ∈ mjT := mjInc (q := (yX12_keep, cX12_keep, 1, (some .int), 12)) mjTab_9 199 rfl rfl
theorem mjMc_363 : (12 : Nat) ≠ 13 → mjMw (yX12_back, cX12_back, 1, (some .int), 12) ∈ mjT := mjInc (q := (yX12_back, cX12_back, 1, (some .int), 12)) mjTab_9 203 rfl rfl
theorem mjMc_364 : (12 : Nat) ≠ 13 → mjMw (yX12_count, cX12_count, 4, (some .int), 12) ∈ mjT := mjInc (q := (yX12_count, cX12_count, 4, (some .int), 12)) mjTab_9 207 rfl rfl
theorem mjMc_365 : (13 : Nat) ≠ 13 → mjMw (yL_law, cL_law, 4, (some .boolean), 13) ∈ mjT := fun h => absurd rfl h
theorem mjMc_366 : (14 : Nat) ≠ 13 → mjMw (yJ6_compare_7cf53, cJ6_compare_7cf53, 2, (some .int), 14) ∈ mjT := mjInc (q := (yJ6_compare_7cf53, cJ6_compare_7cf53, 2, (some .int), 14)) mjTab_3 207 rfl rfl
theorem mjMc_367 : (14 : Nat) ≠ 13 → mjMw (yJ6_bitCount_0f7a4, cJ6_bitCount_0f7a4, 1, (some .int), 14) ∈ mjT := mjInc (q := (yJ6_bitCount_0f7a4, cJ6_bitCount_0f7a4, 1, (some .int), 14)) mjTab_6 64 rfl rfl
theorem mjMok_1 : ∀ q ∈ mjM_1, (q.2.2.2.2 ≠ 13 → mjMw q ∈ mjT) := List.forall_mem_cons.mpr ⟨mjMc_0, List.forall_mem_cons.mpr ⟨mjMc_1, List.forall_mem_cons.mpr ⟨mjMc_2, List.forall_mem_cons.mpr ⟨mjMc_3, List.forall_mem_cons.mpr ⟨mjMc_4, List.forall_mem_cons.mpr ⟨mjMc_5, List.forall_mem_cons.mpr ⟨mjMc_6, List.forall_mem_cons.mpr ⟨mjMc_7, List.forall_mem_cons.mpr ⟨mjMc_8, List.forall_mem_cons.mpr ⟨mjMc_9, List.forall_mem_cons.mpr ⟨mjMc_10, List.forall_mem_cons.mpr ⟨mjMc_11, List.forall_mem_cons.mpr ⟨mjMc_12, List.forall_mem_cons.mpr ⟨mjMc_13, List.forall_mem_cons.mpr ⟨mjMc_14, List.forall_mem_cons.mpr ⟨mjMc_15, List.forall_mem_cons.mpr ⟨mjMc_16, List.forall_mem_cons.mpr ⟨mjMc_17, List.forall_mem_cons.mpr ⟨mjMc_18, List.forall_mem_cons.mpr ⟨mjMc_19, List.forall_mem_cons.mpr ⟨mjMc_20, List.forall_mem_cons.mpr ⟨mjMc_21, List.forall_mem_cons.mpr ⟨mjMc_22, List.forall_mem_cons.mpr ⟨mjMc_23, List.forall_mem_cons.mpr ⟨mjMc_24, List.forall_mem_cons.mpr ⟨mjMc_25, List.forall_mem_cons.mpr ⟨mjMc_26, List.forall_mem_cons.mpr ⟨mjMc_27, List.forall_mem_cons.mpr ⟨mjMc_28, List.forall_mem_cons.mpr ⟨mjMc_29, List.forall_mem_cons.mpr ⟨mjMc_30, List.forall_mem_cons.mpr ⟨mjMc_31, List.forall_mem_cons.mpr ⟨mjMc_32, List.forall_mem_cons.mpr ⟨mjMc_33, List.forall_mem_cons.mpr ⟨mjMc_34, List.forall_mem_cons.mpr ⟨mjMc_35, List.forall_mem_cons.mpr ⟨mjMc_36, List.forall_mem_cons.mpr ⟨mjMc_37, List.forall_mem_cons.mpr ⟨mjMc_38, List.forall_mem_cons.mpr ⟨mjMc_39, List.forall_mem_cons.mpr ⟨mjMc_40, List.forall_mem_cons.mpr ⟨mjMc_41, List.forall_mem_cons.mpr ⟨mjMc_42, List.forall_mem_cons.mpr ⟨mjMc_43, List.forall_mem_cons.mpr ⟨mjMc_44, List.forall_mem_cons.mpr ⟨mjMc_45, List.forall_mem_cons.mpr ⟨mjMc_46, List.forall_mem_cons.mpr ⟨mjMc_47, List.forall_mem_cons.mpr ⟨mjMc_48, List.forall_mem_cons.mpr ⟨mjMc_49, List.forall_mem_cons.mpr ⟨mjMc_50, List.forall_mem_cons.mpr ⟨mjMc_51, List.forall_mem_cons.mpr ⟨mjMc_52, List.forall_mem_cons.mpr ⟨mjMc_53, List.forall_mem_cons.mpr ⟨mjMc_54, List.forall_mem_cons.mpr ⟨mjMc_55, List.forall_mem_cons.mpr ⟨mjMc_56, List.forall_mem_cons.mpr ⟨mjMc_57, List.forall_mem_cons.mpr ⟨mjMc_58, List.forall_mem_cons.mpr ⟨mjMc_59, fun _ h => absurd h List.not_mem_nil⟩⟩⟩⟩⟩⟩⟩⟩⟩⟩⟩⟩⟩⟩⟩⟩⟩⟩⟩⟩⟩⟩⟩⟩⟩⟩⟩⟩⟩⟩⟩⟩⟩⟩⟩⟩⟩⟩⟩⟩⟩⟩⟩⟩⟩⟩⟩⟩⟩⟩⟩⟩⟩⟩⟩⟩⟩⟩⟩⟩
theorem mjMok_2 : ∀ q ∈ mjM_2, (q.2.2.2.2 ≠ 13 → mjMw q ∈ mjT) := List.forall_mem_cons.mpr ⟨mjMc_60, List.forall_mem_cons.mpr ⟨mjMc_61, List.forall_mem_cons.mpr ⟨mjMc_62, List.forall_mem_cons.mpr ⟨mjMc_63, List.forall_mem_cons.mpr ⟨mjMc_64, List.forall_mem_cons.mpr ⟨mjMc_65, List.forall_mem_cons.mpr ⟨mjMc_66, List.forall_mem_cons.mpr ⟨mjMc_67, List.forall_mem_cons.mpr ⟨mjMc_68, List.forall_mem_cons.mpr ⟨mjMc_69, List.forall_mem_cons.mpr ⟨mjMc_70, List.forall_mem_cons.mpr ⟨mjMc_71, List.forall_mem_cons.mpr ⟨mjMc_72, List.forall_mem_cons.mpr ⟨mjMc_73, List.forall_mem_cons.mpr ⟨mjMc_74, List.forall_mem_cons.mpr ⟨mjMc_75, List.forall_mem_cons.mpr ⟨mjMc_76, List.forall_mem_cons.mpr ⟨mjMc_77, List.forall_mem_cons.mpr ⟨mjMc_78, List.forall_mem_cons.mpr ⟨mjMc_79, List.forall_mem_cons.mpr ⟨mjMc_80, List.forall_mem_cons.mpr ⟨mjMc_81, List.forall_mem_cons.mpr ⟨mjMc_82, List.forall_mem_cons.mpr ⟨mjMc_83, List.forall_mem_cons.mpr ⟨mjMc_84, List.forall_mem_cons.mpr ⟨mjMc_85, List.forall_mem_cons.mpr ⟨mjMc_86, List.forall_mem_cons.mpr ⟨mjMc_87, List.forall_mem_cons.mpr ⟨mjMc_88, List.forall_mem_cons.mpr ⟨mjMc_89, List.forall_mem_cons.mpr ⟨mjMc_90, List.forall_mem_cons.mpr ⟨mjMc_91, List.forall_mem_cons.mpr ⟨mjMc_92, List.forall_mem_cons.mpr ⟨mjMc_93, List.forall_mem_cons.mpr ⟨mjMc_94, List.forall_mem_cons.mpr ⟨mjMc_95, List.forall_mem_cons.mpr ⟨mjMc_96, List.forall_mem_cons.mpr ⟨mjMc_97, List.forall_mem_cons.mpr ⟨mjMc_98, List.forall_mem_cons.mpr ⟨mjMc_99, List.forall_mem_cons.mpr ⟨mjMc_100, List.forall_mem_cons.mpr ⟨mjMc_101, List.forall_mem_cons.mpr ⟨mjMc_102, List.forall_mem_cons.mpr ⟨mjMc_103, List.forall_mem_cons.mpr ⟨mjMc_104, List.forall_mem_cons.mpr ⟨mjMc_105, List.forall_mem_cons.mpr ⟨mjMc_106, List.forall_mem_cons.mpr ⟨mjMc_107, List.forall_mem_cons.mpr ⟨mjMc_108, List.forall_mem_cons.mpr ⟨mjMc_109, List.forall_mem_cons.mpr ⟨mjMc_110, List.forall_mem_cons.mpr ⟨mjMc_111, List.forall_mem_cons.mpr ⟨mjMc_112, List.forall_mem_cons.mpr ⟨mjMc_113, List.forall_mem_cons.mpr ⟨mjMc_114, List.forall_mem_cons.mpr ⟨mjMc_115, List.forall_mem_cons.mpr ⟨mjMc_116, List.forall_mem_cons.mpr ⟨mjMc_117, List.forall_mem_cons.mpr ⟨mjMc_118, List.forall_mem_cons.mpr ⟨mjMc_119, fun _ h => absurd h List.not_mem_nil⟩⟩⟩⟩⟩⟩⟩⟩⟩⟩⟩⟩⟩⟩⟩⟩⟩⟩⟩⟩⟩⟩⟩⟩⟩⟩⟩⟩⟩⟩⟩⟩⟩⟩⟩⟩⟩⟩⟩⟩⟩⟩⟩⟩⟩⟩⟩⟩⟩⟩⟩⟩⟩⟩⟩⟩⟩⟩⟩⟩
theorem mjMok_3 : ∀ q ∈ mjM_3, (q.2.2.2.2 ≠ 13 → mjMw q ∈ mjT) := List.forall_mem_cons.mpr ⟨mjMc_120, List.forall_mem_cons.mpr ⟨mjMc_121, List.forall_mem_cons.mpr ⟨mjMc_122, List.forall_mem_cons.mpr ⟨mjMc_123, List.forall_mem_cons.mpr ⟨mjMc_124, List.forall_mem_cons.mpr ⟨mjMc_125, List.forall_mem_cons.mpr ⟨mjMc_126, List.forall_mem_cons.mpr ⟨mjMc_127, List.forall_mem_cons.mpr ⟨mjMc_128, List.forall_mem_cons.mpr ⟨mjMc_129, List.forall_mem_cons.mpr ⟨mjMc_130, List.forall_mem_cons.mpr ⟨mjMc_131, List.forall_mem_cons.mpr ⟨mjMc_132, List.forall_mem_cons.mpr ⟨mjMc_133, List.forall_mem_cons.mpr ⟨mjMc_134, List.forall_mem_cons.mpr ⟨mjMc_135, List.forall_mem_cons.mpr ⟨mjMc_136, List.forall_mem_cons.mpr ⟨mjMc_137, List.forall_mem_cons.mpr ⟨mjMc_138, List.forall_mem_cons.mpr ⟨mjMc_139, List.forall_mem_cons.mpr ⟨mjMc_140, List.forall_mem_cons.mpr ⟨mjMc_141, List.forall_mem_cons.mpr ⟨mjMc_142, List.forall_mem_cons.mpr ⟨mjMc_143, List.forall_mem_cons.mpr ⟨mjMc_144, List.forall_mem_cons.mpr ⟨mjMc_145, List.forall_mem_cons.mpr ⟨mjMc_146, List.forall_mem_cons.mpr ⟨mjMc_147, List.forall_mem_cons.mpr ⟨mjMc_148, List.forall_mem_cons.mpr ⟨mjMc_149, List.forall_mem_cons.mpr ⟨mjMc_150, List.forall_mem_cons.mpr ⟨mjMc_151, List.forall_mem_cons.mpr ⟨mjMc_152, List.forall_mem_cons.mpr ⟨mjMc_153, List.forall_mem_cons.mpr ⟨mjMc_154, List.forall_mem_cons.mpr ⟨mjMc_155, List.forall_mem_cons.mpr ⟨mjMc_156, List.forall_mem_cons.mpr ⟨mjMc_157, List.forall_mem_cons.mpr ⟨mjMc_158, List.forall_mem_cons.mpr ⟨mjMc_159, List.forall_mem_cons.mpr ⟨mjMc_160, List.forall_mem_cons.mpr ⟨mjMc_161, List.forall_mem_cons.mpr ⟨mjMc_162, List.forall_mem_cons.mpr ⟨mjMc_163, List.forall_mem_cons.mpr ⟨mjMc_164, List.forall_mem_cons.mpr ⟨mjMc_165, List.forall_mem_cons.mpr ⟨mjMc_166, List.forall_mem_cons.mpr ⟨mjMc_167, List.forall_mem_cons.mpr ⟨mjMc_168, List.forall_mem_cons.mpr ⟨mjMc_169, List.forall_mem_cons.mpr ⟨mjMc_170, List.forall_mem_cons.mpr ⟨mjMc_171, List.forall_mem_cons.mpr ⟨mjMc_172, List.forall_mem_cons.mpr ⟨mjMc_173, List.forall_mem_cons.mpr ⟨mjMc_174, List.forall_mem_cons.mpr ⟨mjMc_175, List.forall_mem_cons.mpr ⟨mjMc_176, List.forall_mem_cons.mpr ⟨mjMc_177, List.forall_mem_cons.mpr ⟨mjMc_178, List.forall_mem_cons.mpr ⟨mjMc_179, fun _ h => absurd h List.not_mem_nil⟩⟩⟩⟩⟩⟩⟩⟩⟩⟩⟩⟩⟩⟩⟩⟩⟩⟩⟩⟩⟩⟩⟩⟩⟩⟩⟩⟩⟩⟩⟩⟩⟩⟩⟩⟩⟩⟩⟩⟩⟩⟩⟩⟩⟩⟩⟩⟩⟩⟩⟩⟩⟩⟩⟩⟩⟩⟩⟩⟩
theorem mjMok_4 : ∀ q ∈ mjM_4, (q.2.2.2.2 ≠ 13 → mjMw q ∈ mjT) := List.forall_mem_cons.mpr ⟨mjMc_180, List.forall_mem_cons.mpr ⟨mjMc_181, List.forall_mem_cons.mpr ⟨mjMc_182, List.forall_mem_cons.mpr ⟨mjMc_183, List.forall_mem_cons.mpr ⟨mjMc_184, List.forall_mem_cons.mpr ⟨mjMc_185, List.forall_mem_cons.mpr ⟨mjMc_186, List.forall_mem_cons.mpr ⟨mjMc_187, List.forall_mem_cons.mpr ⟨mjMc_188, List.forall_mem_cons.mpr ⟨mjMc_189, List.forall_mem_cons.mpr ⟨mjMc_190, List.forall_mem_cons.mpr ⟨mjMc_191, List.forall_mem_cons.mpr ⟨mjMc_192, List.forall_mem_cons.mpr ⟨mjMc_193, List.forall_mem_cons.mpr ⟨mjMc_194, List.forall_mem_cons.mpr ⟨mjMc_195, List.forall_mem_cons.mpr ⟨mjMc_196, List.forall_mem_cons.mpr ⟨mjMc_197, List.forall_mem_cons.mpr ⟨mjMc_198, List.forall_mem_cons.mpr ⟨mjMc_199, List.forall_mem_cons.mpr ⟨mjMc_200, List.forall_mem_cons.mpr ⟨mjMc_201, List.forall_mem_cons.mpr ⟨mjMc_202, List.forall_mem_cons.mpr ⟨mjMc_203, List.forall_mem_cons.mpr ⟨mjMc_204, List.forall_mem_cons.mpr ⟨mjMc_205, List.forall_mem_cons.mpr ⟨mjMc_206, List.forall_mem_cons.mpr ⟨mjMc_207, List.forall_mem_cons.mpr ⟨mjMc_208, List.forall_mem_cons.mpr ⟨mjMc_209, List.forall_mem_cons.mpr ⟨mjMc_210, List.forall_mem_cons.mpr ⟨mjMc_211, List.forall_mem_cons.mpr ⟨mjMc_212, List.forall_mem_cons.mpr ⟨mjMc_213, List.forall_mem_cons.mpr ⟨mjMc_214, List.forall_mem_cons.mpr ⟨mjMc_215, List.forall_mem_cons.mpr ⟨mjMc_216, List.forall_mem_cons.mpr ⟨mjMc_217, List.forall_mem_cons.mpr ⟨mjMc_218, List.forall_mem_cons.mpr ⟨mjMc_219, List.forall_mem_cons.mpr ⟨mjMc_220, List.forall_mem_cons.mpr ⟨mjMc_221, List.forall_mem_cons.mpr ⟨mjMc_222, List.forall_mem_cons.mpr ⟨mjMc_223, List.forall_mem_cons.mpr ⟨mjMc_224, List.forall_mem_cons.mpr ⟨mjMc_225, List.forall_mem_cons.mpr ⟨mjMc_226, List.forall_mem_cons.mpr ⟨mjMc_227, List.forall_mem_cons.mpr ⟨mjMc_228, List.forall_mem_cons.mpr ⟨mjMc_229, List.forall_mem_cons.mpr ⟨mjMc_230, List.forall_mem_cons.mpr ⟨mjMc_231, List.forall_mem_cons.mpr ⟨mjMc_232, List.forall_mem_cons.mpr ⟨mjMc_233, List.forall_mem_cons.mpr ⟨mjMc_234, List.forall_mem_cons.mpr ⟨mjMc_235, List.forall_mem_cons.mpr ⟨mjMc_236, List.forall_mem_cons.mpr ⟨mjMc_237, List.forall_mem_cons.mpr ⟨mjMc_238, List.forall_mem_cons.mpr ⟨mjMc_239, fun _ h => absurd h List.not_mem_nil⟩⟩⟩⟩⟩⟩⟩⟩⟩⟩⟩⟩⟩⟩⟩⟩⟩⟩⟩⟩⟩⟩⟩⟩⟩⟩⟩⟩⟩⟩⟩⟩⟩⟩⟩⟩⟩⟩⟩⟩⟩⟩⟩⟩⟩⟩⟩⟩⟩⟩⟩⟩⟩⟩⟩⟩⟩⟩⟩⟩
theorem mjMok_5 : ∀ q ∈ mjM_5, (q.2.2.2.2 ≠ 13 → mjMw q ∈ mjT) := List.forall_mem_cons.mpr ⟨mjMc_240, List.forall_mem_cons.mpr ⟨mjMc_241, List.forall_mem_cons.mpr ⟨mjMc_242, List.forall_mem_cons.mpr ⟨mjMc_243, List.forall_mem_cons.mpr ⟨mjMc_244, List.forall_mem_cons.mpr ⟨mjMc_245, List.forall_mem_cons.mpr ⟨mjMc_246, List.forall_mem_cons.mpr ⟨mjMc_247, List.forall_mem_cons.mpr ⟨mjMc_248, List.forall_mem_cons.mpr ⟨mjMc_249, List.forall_mem_cons.mpr ⟨mjMc_250, List.forall_mem_cons.mpr ⟨mjMc_251, List.forall_mem_cons.mpr ⟨mjMc_252, List.forall_mem_cons.mpr ⟨mjMc_253, List.forall_mem_cons.mpr ⟨mjMc_254, List.forall_mem_cons.mpr ⟨mjMc_255, List.forall_mem_cons.mpr ⟨mjMc_256, List.forall_mem_cons.mpr ⟨mjMc_257, List.forall_mem_cons.mpr ⟨mjMc_258, List.forall_mem_cons.mpr ⟨mjMc_259, List.forall_mem_cons.mpr ⟨mjMc_260, List.forall_mem_cons.mpr ⟨mjMc_261, List.forall_mem_cons.mpr ⟨mjMc_262, List.forall_mem_cons.mpr ⟨mjMc_263, List.forall_mem_cons.mpr ⟨mjMc_264, List.forall_mem_cons.mpr ⟨mjMc_265, List.forall_mem_cons.mpr ⟨mjMc_266, List.forall_mem_cons.mpr ⟨mjMc_267, List.forall_mem_cons.mpr ⟨mjMc_268, List.forall_mem_cons.mpr ⟨mjMc_269, List.forall_mem_cons.mpr ⟨mjMc_270, List.forall_mem_cons.mpr ⟨mjMc_271, List.forall_mem_cons.mpr ⟨mjMc_272, List.forall_mem_cons.mpr ⟨mjMc_273, List.forall_mem_cons.mpr ⟨mjMc_274, List.forall_mem_cons.mpr ⟨mjMc_275, List.forall_mem_cons.mpr ⟨mjMc_276, List.forall_mem_cons.mpr ⟨mjMc_277, List.forall_mem_cons.mpr ⟨mjMc_278, List.forall_mem_cons.mpr ⟨mjMc_279, List.forall_mem_cons.mpr ⟨mjMc_280, List.forall_mem_cons.mpr ⟨mjMc_281, List.forall_mem_cons.mpr ⟨mjMc_282, List.forall_mem_cons.mpr ⟨mjMc_283, List.forall_mem_cons.mpr ⟨mjMc_284, List.forall_mem_cons.mpr ⟨mjMc_285, List.forall_mem_cons.mpr ⟨mjMc_286, List.forall_mem_cons.mpr ⟨mjMc_287, List.forall_mem_cons.mpr ⟨mjMc_288, List.forall_mem_cons.mpr ⟨mjMc_289, List.forall_mem_cons.mpr ⟨mjMc_290, List.forall_mem_cons.mpr ⟨mjMc_291, List.forall_mem_cons.mpr ⟨mjMc_292, List.forall_mem_cons.mpr ⟨mjMc_293, List.forall_mem_cons.mpr ⟨mjMc_294, List.forall_mem_cons.mpr ⟨mjMc_295, List.forall_mem_cons.mpr ⟨mjMc_296, List.forall_mem_cons.mpr ⟨mjMc_297, List.forall_mem_cons.mpr ⟨mjMc_298, List.forall_mem_cons.mpr ⟨mjMc_299, fun _ h => absurd h List.not_mem_nil⟩⟩⟩⟩⟩⟩⟩⟩⟩⟩⟩⟩⟩⟩⟩⟩⟩⟩⟩⟩⟩⟩⟩⟩⟩⟩⟩⟩⟩⟩⟩⟩⟩⟩⟩⟩⟩⟩⟩⟩⟩⟩⟩⟩⟩⟩⟩⟩⟩⟩⟩⟩⟩⟩⟩⟩⟩⟩⟩⟩
theorem mjMok_6 : ∀ q ∈ mjM_6, (q.2.2.2.2 ≠ 13 → mjMw q ∈ mjT) := List.forall_mem_cons.mpr ⟨mjMc_300, List.forall_mem_cons.mpr ⟨mjMc_301, List.forall_mem_cons.mpr ⟨mjMc_302, List.forall_mem_cons.mpr ⟨mjMc_303, List.forall_mem_cons.mpr ⟨mjMc_304, List.forall_mem_cons.mpr ⟨mjMc_305, List.forall_mem_cons.mpr ⟨mjMc_306, List.forall_mem_cons.mpr ⟨mjMc_307, List.forall_mem_cons.mpr ⟨mjMc_308, List.forall_mem_cons.mpr ⟨mjMc_309, List.forall_mem_cons.mpr ⟨mjMc_310, List.forall_mem_cons.mpr ⟨mjMc_311, List.forall_mem_cons.mpr ⟨mjMc_312, List.forall_mem_cons.mpr ⟨mjMc_313, List.forall_mem_cons.mpr ⟨mjMc_314, List.forall_mem_cons.mpr ⟨mjMc_315, List.forall_mem_cons.mpr ⟨mjMc_316, List.forall_mem_cons.mpr ⟨mjMc_317, List.forall_mem_cons.mpr ⟨mjMc_318, List.forall_mem_cons.mpr ⟨mjMc_319, List.forall_mem_cons.mpr ⟨mjMc_320, List.forall_mem_cons.mpr ⟨mjMc_321, List.forall_mem_cons.mpr ⟨mjMc_322, List.forall_mem_cons.mpr ⟨mjMc_323, List.forall_mem_cons.mpr ⟨mjMc_324, List.forall_mem_cons.mpr ⟨mjMc_325, List.forall_mem_cons.mpr ⟨mjMc_326, List.forall_mem_cons.mpr ⟨mjMc_327, List.forall_mem_cons.mpr ⟨mjMc_328, List.forall_mem_cons.mpr ⟨mjMc_329, List.forall_mem_cons.mpr ⟨mjMc_330, List.forall_mem_cons.mpr ⟨mjMc_331, List.forall_mem_cons.mpr ⟨mjMc_332, List.forall_mem_cons.mpr ⟨mjMc_333, List.forall_mem_cons.mpr ⟨mjMc_334, List.forall_mem_cons.mpr ⟨mjMc_335, List.forall_mem_cons.mpr ⟨mjMc_336, List.forall_mem_cons.mpr ⟨mjMc_337, List.forall_mem_cons.mpr ⟨mjMc_338, List.forall_mem_cons.mpr ⟨mjMc_339, List.forall_mem_cons.mpr ⟨mjMc_340, List.forall_mem_cons.mpr ⟨mjMc_341, List.forall_mem_cons.mpr ⟨mjMc_342, List.forall_mem_cons.mpr ⟨mjMc_343, List.forall_mem_cons.mpr ⟨mjMc_344, List.forall_mem_cons.mpr ⟨mjMc_345, List.forall_mem_cons.mpr ⟨mjMc_346, List.forall_mem_cons.mpr ⟨mjMc_347, List.forall_mem_cons.mpr ⟨mjMc_348, List.forall_mem_cons.mpr ⟨mjMc_349, List.forall_mem_cons.mpr ⟨mjMc_350, List.forall_mem_cons.mpr ⟨mjMc_351, List.forall_mem_cons.mpr ⟨mjMc_352, List.forall_mem_cons.mpr ⟨mjMc_353, List.forall_mem_cons.mpr ⟨mjMc_354, List.forall_mem_cons.mpr ⟨mjMc_355, List.forall_mem_cons.mpr ⟨mjMc_356, List.forall_mem_cons.mpr ⟨mjMc_357, List.forall_mem_cons.mpr ⟨mjMc_358, List.forall_mem_cons.mpr ⟨mjMc_359, fun _ h => absurd h List.not_mem_nil⟩⟩⟩⟩⟩⟩⟩⟩⟩⟩⟩⟩⟩⟩⟩⟩⟩⟩⟩⟩⟩⟩⟩⟩⟩⟩⟩⟩⟩⟩⟩⟩⟩⟩⟩⟩⟩⟩⟩⟩⟩⟩⟩⟩⟩⟩⟩⟩⟩⟩⟩⟩⟩⟩⟩⟩⟩⟩⟩⟩
theorem mjMok_7 : ∀ q ∈ mjM_7, (q.2.2.2.2 ≠ 13 → mjMw q ∈ mjT) := List.forall_mem_cons.mpr ⟨mjMc_360, List.forall_mem_cons.mpr ⟨mjMc_361, List.forall_mem_cons.mpr ⟨mjMc_362, List.forall_mem_cons.mpr ⟨mjMc_363, List.forall_mem_cons.mpr ⟨mjMc_364, List.forall_mem_cons.mpr ⟨mjMc_365, List.forall_mem_cons.mpr ⟨mjMc_366, List.forall_mem_cons.mpr ⟨mjMc_367, fun _ h => absurd h List.not_mem_nil⟩⟩⟩⟩⟩⟩⟩⟩
theorem mjMp : (mjMs.all (fun l => l.all (fun q => Jvm.plainName q.1.cls))) = true := by decide +kernel
theorem mjM_word {y : Nat} {q : mMd} (h : mjM y = some q) : (q.2.2.2.2 ≠ 13 → mjMw q ∈ mjT) ∧ Jvm.plainName q.1.cls = true := by
  unfold mjM at h
  split at h
  · cases h
  · next l hl =>
    have hq := List.mem_of_getElem? h
    have hl' := List.mem_of_getElem? hl
    refine ⟨?_, List.all_eq_true.mp (List.all_eq_true.mp mjMp l hl') q hq⟩
    simp only [mjMs, List.mem_cons, List.not_mem_nil, or_false] at hl'
    rcases hl' with rfl | rfl | rfl | rfl | rfl | rfl | rfl
    · exact mjMok_1 q hq
    · exact mjMok_2 q hq
    · exact mjMok_3 q hq
    · exact mjMok_4 q hq
    · exact mjMok_5 q hq
    · exact mjMok_6 q hq
    · exact mjMok_7 q hq
theorem mjLay_0 : ∀ w ∈ u_ws RX0 TX0 4, w ∈ mjT := mjOk2_mem _ [(2, 146), (2, 148), (2, 150), (2, 152)] (by decide +kernel)
theorem mjLay_1 : ∀ w ∈ u_ws RX1 TX1 19, w ∈ mjT := mjOk2_mem _ [(2, 44), (2, 46), (2, 48), (2, 50), (2, 52), (2, 54), (2, 56), (2, 58), (2, 60), (2, 62), (2, 64), (2, 66), (2, 68), (2, 70), (2, 72), (2, 74), (2, 76), (2, 78), (2, 80)] (by decide +kernel)
theorem mjLay_2 : ∀ w ∈ u_ws RX2 TX2 10, w ∈ mjT := mjOk2_mem _ [(1, 51), (1, 53), (1, 55), (1, 57), (1, 59), (1, 61), (1, 63), (1, 65), (1, 67), (1, 69)] (by decide +kernel)
theorem mjLay_3 : ∀ w ∈ u_ws RX3 TX3 8, w ∈ mjT := mjOk2_mem _ [(2, 0), (2, 2), (2, 4), (2, 6), (2, 8), (2, 10), (2, 12), (2, 14)] (by decide +kernel)
theorem mjLay_4 : ∀ w ∈ u_ws RX4 TX4 13, w ∈ mjT := mjOk2_mem _ [(1, 95), (1, 97), (1, 99), (1, 101), (1, 103), (1, 105), (1, 107), (1, 109), (1, 111), (1, 113), (1, 115), (1, 117), (1, 119)] (by decide +kernel)
theorem mjLay_5 : ∀ w ∈ u_ws RX5 TX5 9, w ∈ mjT := mjOk2_mem _ [(2, 117), (2, 119), (2, 121), (2, 123), (2, 125), (2, 127), (2, 129), (2, 131), (2, 133)] (by decide +kernel)
theorem mjLay_6 : ∀ w ∈ u_ws RX6 TX6 4, w ∈ mjT := mjOk2_mem _ [(1, 133), (1, 135), (1, 137), (1, 139)] (by decide +kernel)
theorem mjLay_7 : ∀ w ∈ u_ws RX7 TX7 4, w ∈ mjT := mjOk2_mem _ [(1, 216), (1, 218), (1, 220), (1, 222)] (by decide +kernel)
theorem mjLay_8 : ∀ w ∈ u_ws RX8 TX8 2, w ∈ mjT := mjOk2_mem _ [(2, 93), (2, 95)] (by decide +kernel)
theorem mjLay_9 : ∀ w ∈ u_ws RX9 TX9 9, w ∈ mjT := mjOk2_mem _ [(1, 158), (1, 160), (1, 162), (1, 164), (1, 166), (1, 168), (1, 170), (1, 172), (1, 174)] (by decide +kernel)
theorem mjLay_10 : ∀ w ∈ u_ws RX10 TX10 7, w ∈ mjT := mjOk2_mem _ [(1, 190), (1, 192), (1, 194), (1, 196), (1, 198), (1, 200), (1, 202)] (by decide +kernel)
theorem mjLay_11 : ∀ w ∈ u_ws RX11 TX11 9, w ∈ mjT := mjOk2_mem _ [(2, 164), (2, 166), (2, 168), (2, 170), (2, 172), (2, 174), (2, 176), (2, 178), (2, 180)] (by decide +kernel)
theorem mjLay_12 : ∀ w ∈ u_ws RX12 TX12 35, w ∈ mjT := mjOk2_mem _ [(7, 84), (7, 86), (7, 88), (7, 90), (7, 92), (7, 94), (7, 96), (7, 98), (7, 100), (7, 102), (7, 104), (7, 106), (7, 108), (7, 110), (7, 112), (7, 114), (7, 116), (7, 118), (7, 120), (7, 122), (7, 124), (7, 126), (7, 128), (7, 130), (7, 132), (7, 134), (7, 136), (7, 138), (7, 140), (7, 142), (7, 144), (7, 146), (7, 148), (7, 150), (7, 152)] (by decide +kernel)
theorem mjCl_words {ci : Nat} {q : vw_C} (h : vwCl[ci]? = some q) : ∀ w ∈ u_ws q.1 q.2.1 q.2.2, w ∈ mjT := by
  have hq := List.mem_of_getElem? h
  simp only [vwCl, List.mem_cons, List.not_mem_nil, or_false] at hq
  rcases hq with rfl | rfl | rfl | rfl | rfl | rfl | rfl | rfl | rfl | rfl | rfl | rfl | rfl
  · exact mjLay_0
  · exact mjLay_1
  · exact mjLay_2
  · exact mjLay_3
  · exact mjLay_4
  · exact mjLay_5
  · exact mjLay_6
  · exact mjLay_7
  · exact mjLay_8
  · exact mjLay_9
  · exact mjLay_10
  · exact mjLay_11
  · exact mjLay_12
def mjTys : List (Nat → FieldType) := [tyX0, tyX1, tyX2, tyX3, tyX4, tyX5, tyX6, tyX7, tyX8, tyX9, tyX10, tyX11, tyX12]
theorem mjCl_tys {ci : Nat} {q : vw_C} {ty : Nat → FieldType} (h : vwCl[ci]? = some q) (ht : mjTys[ci]? = some ty) : (∀ k, k < q.2.2 → parseFieldDescriptor (q.2.1 k).2.2.1 = some (ty k)) ∧ (∀ a, a < q.2.2 → ∀ b, b < q.2.2 → a ≠ b → (q.2.1 a).2.1 ≠ (q.2.1 b).2.1) := by
  match ci, h, ht with
  | 0, h, ht => cases h; cases ht; exact ⟨tyX0_ok, nmX0⟩
  | 1, h, ht => cases h; cases ht; exact ⟨tyX1_ok, nmX1⟩
  | 2, h, ht => cases h; cases ht; exact ⟨tyX2_ok, nmX2⟩
  | 3, h, ht => cases h; cases ht; exact ⟨tyX3_ok, nmX3⟩
  | 4, h, ht => cases h; cases ht; exact ⟨tyX4_ok, nmX4⟩
  | 5, h, ht => cases h; cases ht; exact ⟨tyX5_ok, nmX5⟩
  | 6, h, ht => cases h; cases ht; exact ⟨tyX6_ok, nmX6⟩
  | 7, h, ht => cases h; cases ht; exact ⟨tyX7_ok, nmX7⟩
  | 8, h, ht => cases h; cases ht; exact ⟨tyX8_ok, nmX8⟩
  | 9, h, ht => cases h; cases ht; exact ⟨tyX9_ok, nmX9⟩
  | 10, h, ht => cases h; cases ht; exact ⟨tyX10_ok, nmX10⟩
  | 11, h, ht => cases h; cases ht; exact ⟨tyX11_ok, nmX11⟩
  | 12, h, ht => cases h; cases ht; exact ⟨tyX12_ok, nmX12⟩
  | k + 13, h, ht => simp [vwCl] at h
theorem mjCl_decl {ci : Nat} {q : vw_C} (h : vwCl[ci]? = some q) : ∀ k, k < q.2.2 → (q.2.1 k).1 = q.1 := by
  have hq := List.mem_of_getElem? h
  simp only [vwCl, List.mem_cons, List.not_mem_nil, or_false] at hq
  rcases hq with rfl | rfl | rfl | rfl | rfl | rfl | rfl | rfl | rfl | rfl | rfl | rfl | rfl <;> decide +kernel
theorem mjC_cl {ci : Nat} {q : vw_C} (h : vwCl[ci]? = some q) : mjC ci = q.1 := by
  match ci, h with
  | 0, h => cases h; rfl
  | 1, h => cases h; rfl
  | 2, h => cases h; rfl
  | 3, h => cases h; rfl
  | 4, h => cases h; rfl
  | 5, h => cases h; rfl
  | 6, h => cases h; rfl
  | 7, h => cases h; rfl
  | 8, h => cases h; rfl
  | 9, h => cases h; rfl
  | 10, h => cases h; rfl
  | 11, h => cases h; rfl
  | 12, h => cases h; rfl
  | k + 13, h => simp [vwCl] at h
def mjJw : List Cond := [.fieldLink RJ0 38 "java/lang/String" "COMPACT_STRINGS" "Z", .fieldLink RJ0 15 "java/lang/String" "coder" "B", .fieldLink RJ0 9 "java/lang/String" "value" "[B", .methodLink RJ0 335 yJ0_coder_7d493, .instanceMethod yJ0_coder_7d493, .selects RJ0 yJ0_coder_7d493 yJ0_coder_7d493, .initialized RJ0]
theorem mjJw_in : ∀ w ∈ mjJw, w ∈ mjT := mjOk2_mem _ [(5, 24), (9, 209), (9, 208), (5, 20), (5, 21), (5, 22), (1, 16)] (by decide +kernel)
def mjKw : List Cond := [.methodLink RJ0 492 yJ0_isLatin1_aae02, .instanceMethod yJ0_isLatin1_aae02, .selects RJ0 yJ0_isLatin1_aae02 yJ0_isLatin1_aae02, .initialized RJ0, .methodLink RJ0 495 yJ1_charAt_3b067, .static yJ1_charAt_3b067, .initialized RJ1, .methodLink RJ1 9 yJ0_checkIndex_df160, .static yJ0_checkIndex_df160, .initialized RJ0, .fieldLink RJ0 1053 "jdk/internal/util/Preconditions" "SIOOBE_FORMATTER" "Ljava/util/function/BiFunction;", .methodLink RJ0 1059 yJ3_checkIndex_8e157, .static yJ3_checkIndex_8e157, .initialized RJ3]
theorem mjKw_in : ∀ w ∈ mjKw, w ∈ mjT := mjOk2_mem _ [(5, 30), (5, 31), (5, 32), (1, 16), (5, 34), (5, 35), (1, 17), (5, 37), (5, 38), (1, 16), (5, 40), (5, 42), (5, 43), (1, 18)] (by decide +kernel)
def mjQ_coder : mMd := (yJ0_coder_7d493, cJ0_coder_7d493, 1, (some .byte), 16)
theorem mjQ_coder_in : mjMw mjQ_coder ∈ mjT := mjInc (q := mjQ_coder) mjTab_5 23 rfl rfl (by decide)
def mjQ_length : mMd := (yJ0_length_8abf5, cJ0_length_8abf5, 1, (some .int), 16)
theorem mjQ_length_in : mjMw mjQ_length ∈ mjT := mjInc (q := mjQ_length) mjTab_5 19 rfl rfl (by decide)
def mjQ_charAt : mMd := (yJ0_charAt_5068e, cJ0_charAt_5068e, 2, (some .char), 16)
theorem mjQ_charAt_in : mjMw mjQ_charAt ∈ mjT := mjInc (q := mjQ_charAt) mjTab_5 29 rfl rfl (by decide)
def mjQ_isLatin1 : mMd := (yJ0_isLatin1_aae02, cJ0_isLatin1_aae02, 1, (some .boolean), 16)
theorem mjQ_isLatin1_in : mjMw mjQ_isLatin1 ∈ mjT := mjInc (q := mjQ_isLatin1) mjTab_5 33 rfl rfl (by decide)
def mjQ_checkIndex : mMd := (yJ0_checkIndex_df160, cJ0_checkIndex_df160, 2, none, 16)
theorem mjQ_checkIndex_in : mjMw mjQ_checkIndex ∈ mjT := mjInc (q := mjQ_checkIndex) mjTab_5 39 rfl rfl (by decide)
def mjQ_l1charAt : mMd := (yJ1_charAt_3b067, cJ1_charAt_3b067, 2, (some .char), 17)
theorem mjQ_l1charAt_in : mjMw mjQ_l1charAt ∈ mjT := mjInc (q := mjQ_l1charAt) mjTab_5 36 rfl rfl (by decide)
def mjQ_preIndex : mMd := (yJ3_checkIndex_8e157, cJ3_checkIndex_8e157, 3, (some .int), 18)
theorem mjQ_preIndex_in : mjMw mjQ_preIndex ∈ mjT := mjInc (q := mjQ_preIndex) mjTab_5 44 rfl rfl (by decide)
theorem mjArr : Cond.arrayClass .int ∈ mjT := mjOk2_mem [Cond.arrayClass .int] [(1, 72)] (by decide +kernel) _ List.mem_cons_self
def mjNestT : List (Nat × Nat × Nat) := [(11, 11, 11), (1, 11, 38), (1, 20, 68), (1, 27, 130), (1, 34, 163), (1, 41, 173), (1, 48, 135), (1, 55, 59), (11, 21, 152), (11, 28, 114), (11, 35, 0), (2, 47, 234), (1, 116, 234), (4, 61, 234), (4, 81, 235), (6, 35, 234), (4, 126, 236), (4, 52, 237), (8, 24, 234), (1, 112, 237), (1, 280, 236), (0, 28, 234), (10, 25, 234), (7, 30, 234), (3, 32, 234), (2, 40, 237), (6, 25, 237), (9, 37, 237), (10, 21, 237), (7, 25, 237), (3, 28, 237)]
def mjNest : List (String × Nat × MethodName × String) := mjNestT.map (fun t => (mjC t.1, t.2.1, mjY t.2.2, "BudgetHouse"))
def mjNestOk (es : List mRe) : Bool := es.all (fun e => (e.2.2.1 != 3 && e.2.2.1 != 5) || mjNestT.any (fun t => t.1 == e.1 && t.2.1 == e.2.1 && t.2.2 == e.2.2.2.1))
theorem mjRs_nest : (mjRs.all mjNestOk) = true := by decide +kernel
theorem mjR_nest {own idx : Nat} {e : mRe} (h : mjR own idx = some e) (hk : e.2.2.1 = 3 ∨ e.2.2.1 = 5) : (mjC e.1, e.2.1, mjY e.2.2.2.1, "BudgetHouse") ∈ mjNest := by
  unfold mjR at h
  split at h
  · cases h
  · next l hl =>
    have h1 := List.mem_of_find?_eq_some h
    have h2 := List.all_eq_true.mp (List.all_eq_true.mp mjRs_nest l (List.mem_of_getElem? hl)) _ h1
    simp only [Bool.or_eq_true, Bool.and_eq_true, bne_iff_ne] at h2
    rcases h2 with h2 | h2
    · rcases hk with hk | hk
      · exact absurd hk h2.1
      · exact absurd hk h2.2
    · obtain ⟨t, ht, h3⟩ := List.any_eq_true.mp h2
      simp only [Bool.and_eq_true, beq_iff_eq] at h3
      exact List.mem_map.mpr ⟨t, ht, by rw [h3.1.1, h3.1.2, h3.2]⟩
theorem mjMcl : (mjMs.all (fun l => l.all (fun q => decide (mjC q.2.2.2.2 = q.1.cls) && decide (q.1.cls ≠ "java/lang/invoke/MethodHandle") && decide (q.1.cls ≠ "java/lang/invoke/VarHandle")))) = true := by decide +kernel
theorem mjM_cls {y : Nat} {q : mMd} (h : mjM y = some q) : mjC q.2.2.2.2 = q.1.cls ∧ q.1.cls ≠ "java/lang/invoke/MethodHandle" ∧ q.1.cls ≠ "java/lang/invoke/VarHandle" := by
  unfold mjM at h
  split at h
  · cases h
  · next l hl =>
    have h2 := List.all_eq_true.mp (List.all_eq_true.mp mjMcl l (List.mem_of_getElem? hl)) q (List.mem_of_getElem? h)
    simp only [Bool.and_eq_true, decide_eq_true_eq] at h2
    exact ⟨h2.1.1, h2.1.2, h2.2⟩
theorem mjY_eq {y : Nat} {q : mMd} (h : mjM y = some q) : mjY y = q.1 := by rw [mjY, h]
def mjIni : Bool := mjRs.all (fun l => l.all (fun e => (e.2.2.1 != 4 && e.2.2.1 != 5) || (match mjM e.2.2.2.1 with
  | none => false
  | some q => decide (q.1.name = "<init>") && decide (q.2.2.2.1 = none))))
theorem mjIni_ok : mjIni = true := by decide +kernel
theorem mjR_ini {own idx : Nat} {e : mRe} {q : mMd} (h : mjR own idx = some e) (hk : e.2.2.1 = 4 ∨ e.2.2.1 = 5) (hq : mjM e.2.2.2.1 = some q) : q.1.name = "<init>" ∧ q.2.2.2.1 = none := by
  unfold mjR at h
  split at h
  · cases h
  · next l hl =>
    have h1 := List.mem_of_find?_eq_some h
    have h2 := List.all_eq_true.mp (List.all_eq_true.mp mjIni_ok l (List.mem_of_getElem? hl)) _ h1
    rw [hq] at h2
    simp only [Bool.or_eq_true, Bool.and_eq_true, bne_iff_ne, decide_eq_true_eq] at h2
    rcases h2 with h2 | h2
    · rcases hk with hk | hk
      · exact absurd hk h2.1
      · exact absurd hk h2.2
    · exact h2
def mjNestP : List (Nat × Nat) := [(1, 30), (1, 36), (1, 75), (1, 124), (1, 144), (1, 179), (1, 207), (1, 227), (2, 85), (2, 100), (2, 138), (2, 191), (3, 18), (3, 41), (3, 62), (3, 131), (4, 55), (4, 117), (4, 207), (5, 182), (5, 183), (5, 197), (6, 24), (6, 85), (6, 163), (6, 233), (7, 2), (7, 7), (7, 12), (7, 17), (7, 22)]
def mjStr : List (String × Nat × String × Nat) := [(RX5, 74, "pass", 0), (RX5, 80, "may", 1), (RX5, 82, "order", 2), (RX5, 84, "bind", 3), (RX5, 86, "ynpk", 4), (RX5, 88, "khc", 5), (RX5, 90, "kvol", 6), (RX5, 92, "ts", 7)]
def mjStrOk : List mRe → Bool
  | [] => true
  | e :: es => (e.2.2.1 != 9 || mjStr.any (fun w => e.1 == 5 && w.2.1 == e.2.1 && w.2.2.2 == e.2.2.2.1)) && mjStrOk es
theorem mjStrOk_at : ∀ (es : List mRe), mjStrOk es = true → ∀ e ∈ es, e.2.2.1 = 9 → ∃ w ∈ mjStr, e.1 = 5 ∧ w.2.1 = e.2.1 ∧ w.2.2.2 = e.2.2.2.1 := by
  intro es
  induction es with
  | nil => intro _ e he; cases he
  | cons a es ih =>
    intro h e he h9
    simp only [mjStrOk, Bool.and_eq_true, Bool.or_eq_true, bne_iff_ne] at h
    rcases List.mem_cons.mp he with rfl | he
    · rcases h.1 with h1 | h1
      · exact absurd h9 h1
      · obtain ⟨w, hw, h2⟩ := List.any_eq_true.mp h1
        simp only [Bool.and_eq_true, beq_iff_eq] at h2
        exact ⟨w, hw, h2.1.1, h2.1.2, h2.2⟩
    · exact ih h.2 e he h9
theorem mjRs_str : (mjRs.all mjStrOk) = true := by decide +kernel
theorem mjStr_own : ∀ w ∈ mjStr, w.1 = RX5 := by
  intro w hw
  simp only [mjStr, List.mem_cons, List.not_mem_nil, or_false] at hw
  rcases hw with rfl | rfl | rfl | rfl | rfl | rfl | rfl | rfl <;> rfl
theorem mjR_str {own idx o1 o2 a : Nat} {v : Int} (h : mjR own idx = some (o1, o2, 9, a, v)) : ∃ w ∈ mjStr, mjC o1 = w.1 ∧ w.2.1 = o2 ∧ w.2.2.2 = a := by
  unfold mjR at h
  split at h
  · cases h
  · next l hl =>
    have h1 := List.mem_of_find?_eq_some h
    obtain ⟨w, hw, h3, h4, h5⟩ := mjStrOk_at l (List.all_eq_true.mp mjRs_str l (List.mem_of_getElem? hl)) _ h1 rfl
    dsimp only at h3 h4 h5
    refine ⟨w, hw, ?_, h4, h5⟩
    rw [mjStr_own w hw, h3]
    rfl
def mjStrP : List (Nat × Nat) := [(5, 11), (5, 64), (5, 65), (5, 66), (5, 90), (5, 91), (5, 92), (5, 93)]
end
section
/-! A SMALL MACHINE over cells that are numbered: 0 the script, 1 to 8 the texts, 9 + k the k-th cell that the law made; what it does, the real machine does (part 04) -/
def mjLen : List Nat := [4, 3, 5, 4, 4, 3, 4, 2]
/-- the texts' bytes -/
def mjByt : List (List Int32) := [[112, 97, 115, 115], [109, 97, 121], [111, 114, 100, 101, 114], [98, 105, 110, 100], [121, 110, 112, 107], [107, 104, 99], [107, 118, 111, 108], [116, 115]]
abbrev mCe : Type := (Nat × (Nat → Int32)) ⊕ (Nat × List Value)
abbrev mHe : Type := List mCe
abbrev mFr : Type := Nat × Nat × List (Nat × Value) × List Value
abbrev mRes : Type := Option ((mFr × mHe) ⊕ ((Nat × List Value × mFr) ⊕ Option Value))
def mlg (i : Nat) (lv : List (Nat × Value)) : Option Value := (lv.find? (fun q => q.1 == i)).map (fun q => q.2)
def mlp (i : Nat) (v : Value) (lv : List (Nat × Value)) : List (Nat × Value) := (i, v) :: lv.filter (fun q => !(q.1 == i) && !(q.1 + 1 == i && q.2.category == 2))
def mGo (y pc : Nat) (lv : List (Nat × Value)) (st : List Value) (M : mHe) : mRes := some (.inl ((y, pc, lv, st), M))
def mTg (pc : Nat) (off : Int) : Option Nat := if 0 ≤ (pc : Int) + off then some ((pc : Int) + off).toNat else none
/-- goes to a branch's place -/
def mBr (y pc : Nat) (off : Int) (lv : List (Nat × Value)) (st : List Value) (M : mHe) : mRes := match mTg pc off with
  | none => none
  | some t => mGo y t lv st M
/-- constants and loads -/
def mOp1 (own y pc n : Nat) (lv : List (Nat × Value)) (st : List Value) (M : mHe) (i : Instr) : mRes := match i with
  | .iload_n k => match mlg k lv with
    | some (.int x) => if n = 1 then mGo y (pc + 1) lv (.int x :: st) M else none
    | _ => none
  | .aload_n k => match mlg k lv with
    | some (.ref x) => if n = 1 then mGo y (pc + 1) lv (.ref x :: st) M else none
    | _ => none
  | .lload_n k => match mlg k lv with
    | some (.long x) => if n = 1 then mGo y (pc + 1) lv (.long x :: st) M else none
    | _ => none
  | .iload k => match mlg k lv with
    | some (.int x) => if n = 2 then mGo y (pc + 2) lv (.int x :: st) M else none
    | _ => none
  | .aload k => match mlg k lv with
    | some (.ref x) => if n = 2 then mGo y (pc + 2) lv (.ref x :: st) M else none
    | _ => none
  | .lload k => match mlg k lv with
    | some (.long x) => if n = 2 then mGo y (pc + 2) lv (.long x :: st) M else none
    | _ => none
  | .iconst v => if n = 1 then mGo y (pc + 1) lv (.int (Int32.ofInt v) :: st) M else none
  | .lconst v => if n = 1 then mGo y (pc + 1) lv (.long (Int64.ofNat v) :: st) M else none
  | .bipush v => if n = 2 then mGo y (pc + 2) lv (.int (Int8.ofInt v).toInt32 :: st) M else none
  | .sipush v => if n = 3 then mGo y (pc + 3) lv (.int (Int16.ofInt v).toInt32 :: st) M else none
  | .ldc k => match mjR own k with
    | some (_, _, 7, _, v) => if n = 2 then mGo y (pc + 2) lv (.int (Int32.ofInt v) :: st) M else none
    | some (_, _, 9, a, _) => if n = 2 ∧ a < 8 then mGo y (pc + 2) lv (.ref (1 + a) :: st) M else none
    | _ => none
  | .ldc_w k => match mjR own k with
    | some (_, _, 7, _, v) => if n = 3 then mGo y (pc + 3) lv (.int (Int32.ofInt v) :: st) M else none
    | _ => none
  | .ldc2_w k => match mjR own k with
    | some (_, _, 8, _, v) => if n = 3 then mGo y (pc + 3) lv (.long (Int64.ofInt v) :: st) M else none
    | _ => none
  | _ => none
/-- stores, and the stack -/
def mOp2 (nL y pc n : Nat) (lv : List (Nat × Value)) (st : List Value) (M : mHe) (i : Instr) : mRes := match i with
  | .istore_n k => match st with
    | .int x :: st => if n = 1 ∧ k < nL then mGo y (pc + 1) (mlp k (.int x) lv) st M else none
    | _ => none
  | .istore k => match st with
    | .int x :: st => if n = 2 ∧ k < nL then mGo y (pc + 2) (mlp k (.int x) lv) st M else none
    | _ => none
  | .astore_n k => match st with
    | .ref x :: st => if n = 1 ∧ k < nL then mGo y (pc + 1) (mlp k (.ref x) lv) st M else none
    | _ => none
  | .astore k => match st with
    | .ref x :: st => if n = 2 ∧ k < nL then mGo y (pc + 2) (mlp k (.ref x) lv) st M else none
    | _ => none
  | .iinc k v => match mlg k lv with
    | some (.int x) => if n = 3 ∧ k < nL then mGo y (pc + 3) (mlp k (.int (x + Int32.ofInt v)) lv) st M else none
    | _ => none
  | .dup => match st with
    | a :: st => if n = 1 ∧ a.category = 1 then mGo y (pc + 1) lv (a :: a :: st) M else none
    | _ => none
  | .pop => match st with
    | a :: st => if n = 1 ∧ a.category = 1 then mGo y (pc + 1) lv st M else none
    | _ => none
  | .dup2 => match st with
    | a :: b :: st => if n = 1 ∧ a.category = 1 ∧ b.category = 1 then mGo y (pc + 1) lv (a :: b :: a :: b :: st) M else none
    | _ => none
  | _ => none
/-- numbers -/
def mOp3 (y pc n : Nat) (lv : List (Nat × Value)) (st : List Value) (M : mHe) (i : Instr) : mRes := if n = 1 then (match i, st with
  | .iadd, .int b :: .int a :: st => mGo y (pc + 1) lv (.int (a + b) :: st) M
  | .isub, .int b :: .int a :: st => mGo y (pc + 1) lv (.int (a - b) :: st) M
  | .imul, .int b :: .int a :: st => mGo y (pc + 1) lv (.int (a * b) :: st) M
  | .idiv, .int b :: .int a :: st => if b = 0 then none else mGo y (pc + 1) lv (.int (a / b) :: st) M
  | .irem, .int b :: .int a :: st => if b = 0 then none else mGo y (pc + 1) lv (.int (a - a / b * b) :: st) M
  | .iand, .int b :: .int a :: st => mGo y (pc + 1) lv (.int (a &&& b) :: st) M
  | .ior, .int b :: .int a :: st => mGo y (pc + 1) lv (.int (a ||| b) :: st) M
  | .ixor, .int b :: .int a :: st => mGo y (pc + 1) lv (.int (a ^^^ b) :: st) M
  | .ishl, .int b :: .int a :: st => mGo y (pc + 1) lv (.int (a <<< (b &&& 31)) :: st) M
  | .ishr, .int b :: .int a :: st => mGo y (pc + 1) lv (.int (a >>> (b &&& 31)) :: st) M
  | .iushr, .int b :: .int a :: st => mGo y (pc + 1) lv (.int (a.toUInt32 >>> (b.toUInt32 &&& Int32.toUInt32 31)).toInt32 :: st) M
  | .ineg, .int a :: st => mGo y (pc + 1) lv (.int (-a) :: st) M
  | .i2l, .int a :: st => mGo y (pc + 1) lv (.long a.toInt64 :: st) M
  | .ladd, .long b :: .long a :: st => mGo y (pc + 1) lv (.long (a + b) :: st) M
  | .lcmp, .long b :: .long a :: st => mGo y (pc + 1) lv (.int (lg_cmp a b) :: st) M
  | _, _ => none) else none
/-- which way a comparison goes -/
def mCd (k : Jvm.ClassFile.Cond) (a b : Int32) : Bool := match k with
  | .eq => a == b
  | .ne => a != b
  | .lt => decide (a < b)
  | .ge => decide (a ≥ b)
  | .gt => decide (a > b)
  | .le => decide (a ≤ b)
/-- branches and switches -/
def mOp4 (y pc n : Nat) (lv : List (Nat × Value)) (st : List Value) (M : mHe) (i : Instr) : mRes := match i with
  | .goto off => if n = 3 then mBr y pc off lv st M else none
  | .ifCond k off => match st with
    | .int a :: st => if n = 3 then (match mTg pc off with
      | none => none
      | some t => if mCd k a 0 = true then mGo y t lv st M else mGo y (pc + 3) lv st M) else none
    | _ => none
  | .if_icmp k off => match st with
    | .int b :: .int a :: st => if n = 3 then (match mTg pc off with
      | none => none
      | some t => if mCd k a b = true then mGo y t lv st M else mGo y (pc + 3) lv st M) else none
    | _ => none
  | .tableswitch d lo hi offs => match st with
    | .int a :: st => if a.toInt < lo ∨ hi < a.toInt then mBr y pc d lv st M else (match offs[(a.toInt - lo).toNat]? with
      | some off => mBr y pc off lv st M
      | none => none)
    | _ => none
  | .lookupswitch d ps => match st with
    | .int a :: st => if (ps.toList.zip (ps.toList.drop 1)).all (fun (a, next) => a.1 < next.1) = true then mBr y pc (Op.lookupswitch.offset ps.toList d a.toInt) lv st M else none
    | _ => none
  | _ => none
/-- the type of a field -/
def mTy (ci k : Nat) : Option FieldType := (mjTys[ci]?).map (fun f => f k)
def mFit (ty : FieldType) (v : Value) : Bool := match ty, v with
  | .int, .int _ => true
  | .boolean, .int x => x == 0 || x == 1
  | .object _, .ref _ => true
  | .array _, .ref _ => true
  | _, _ => false
/-- fields and arrays; ini: the method is a constructor -/
def mOp5 (sc : Option (Nat × (Nat → Int32))) (ini : Bool) (own y pc n : Nat) (lv : List (Nat × Value)) (st : List Value) (M : mHe) (i : Instr) : mRes := match i with
  | .getfield idx => match st with
    | .ref r :: st => match mjR own idx with
      | some (_, _, 0, ci, k) => if n = 3 ∧ 9 ≤ r then (match M[r - 9]?, vwCl[ci]? with
        | some (.inr (ci', fs)), some q => if ci' = ci ∧ k.toNat < q.2.2 then (match fs[k.toNat]? with
          | some v => mGo y (pc + 3) lv (v :: st) M
          | none => none) else none
        | _, _ => none) else none
      | _ => none
    | _ => none
  | .putfield idx => match st with
    | v :: .ref r :: st => match mjR own idx with
      | some (_, _, 0, ci, k) => if n = 3 ∧ 9 ≤ r then (match M[r - 9]?, vwCl[ci]?, mTy ci k.toNat with
        | some (.inr (ci', fs)), some q, some ty => if ci' = ci ∧ k.toNat < q.2.2 ∧ k.toNat < fs.length ∧ mFit ty v = true ∧ ((q.2.1 k.toNat).2.2.2 = false ∨ ((q.2.1 k.toNat).2.2.2 = true ∧ ini = true ∧ own = ci)) then mGo y (pc + 3) lv st (M.set (r - 9) (.inr (ci, fs.set k.toNat v))) else none
        | _, _, _ => none) else none
      | _ => none
    | _ => none
  | .iaload => match st with
    | .int i :: .ref r :: st => if n = 1 then (if r = 0 then (match sc with
        | some (L, xs) => if i < 0 ∨ L ≤ i.toNatClampNeg then none else mGo y (pc + 1) lv (.int (xs i.toNatClampNeg) :: st) M
        | none => none) else if 9 ≤ r then (match M[r - 9]? with
        | some (.inl (L, f)) => if i < 0 ∨ L ≤ i.toNatClampNeg then none else mGo y (pc + 1) lv (.int (f i.toNatClampNeg) :: st) M
        | _ => none) else none) else none
    | _ => none
  | .iastore => match st with
    | .int x :: .int i :: .ref r :: st => if n = 1 ∧ 9 ≤ r then (match M[r - 9]? with
        | some (.inl (L, f)) => if i < 0 ∨ L ≤ i.toNatClampNeg then none else mGo y (pc + 1) lv st (M.set (r - 9) (.inl (L, upd f i.toNatClampNeg x)))
        | _ => none) else none
    | _ => none
  | .arraylength => match st with
    | .ref r :: st => if n = 1 then (if r = 0 then (match sc with
        | some (L, _) => mGo y (pc + 1) lv (.int (Int32.ofNat L) :: st) M
        | none => none) else if 9 ≤ r then (match M[r - 9]? with
        | some (.inl (L, _)) => mGo y (pc + 1) lv (.int (Int32.ofNat L) :: st) M
        | _ => none) else none) else none
    | _ => none
  | .newarray .int => match st with
    | .int k :: st => if n = 2 ∧ ¬ k < 0 ∧ k.toNatClampNeg ≤ 100000 then mGo y (pc + 2) lv (.ref (9 + M.length) :: st) (M ++ [.inl (k.toNatClampNeg, fun _ => 0)]) else none
    | _ => none
  | .new idx => match mjR own idx with
    | some (_, _, 10, ci, _) => match vwCl[ci]?, mjTys[ci]? with
      | some q, some ty => if n = 3 then mGo y (pc + 3) lv (.ref (9 + M.length) :: st) (M ++ [.inr (ci, (List.range q.2.2).map (fun j => defaultValue (ty j)))]) else none
      | _, _ => none
    | _ => none
  | _ => none
/-- how many parameters a method has -/
def mNp (y : Nat) : Option Nat := (parseMethodDescriptor (mjY y).desc).map (fun d => d.parameters.length)
def mCat (st : List Value) : Nat := (st.map fun v => v.category).sum
def mCall (y pc : Nat) (lv : List (Nat × Value)) (rest : List Value) (M : mHe) (y' : Nat) (vs : List Value) : mRes := match mjM y' with
  | none => none
  | some q => if mCat rest ≤ 8 ∧ (lg_sl vs).length ≤ q.2.2.1 ∧ q.2.2.1 ≤ 100 ∧ q.2.2.2.2 ≠ 13 then some (.inr (.inl (y', vs, (y, pc + 3, lv, rest)))) else none
/-- calls, at depth d -/
def mOp6 (d own y pc n : Nat) (lv : List (Nat × Value)) (st : List Value) (M : mHe) (i : Instr) : mRes := match i with
  | .invokevirtual idx => if n = 3 then (match mjR own idx with
    | some (_, _, 1, y', _) => match mNp y' with
      | none => none
      | some k => match st.drop k with
        | .ref r :: rest => if 9 ≤ r ∧ k ≤ st.length then (match M[r - 9]?, mjM y' with
          | some (.inr (ci, _)), some q => if ci = q.2.2.2.2 then mCall y pc lv rest M y' (.ref r :: (st.take k).reverse) else none
          | _, _ => none) else none
        | _ => none
    | some (_, _, 11, _, _) => match st with
      | .ref r :: rest => if 1 ≤ r ∧ r < 9 ∧ mCat rest ≤ 8 ∧ 3 ≤ d then (match mjLen[r - 1]? with
        | some k => mGo y (pc + 3) lv (.int (Int32.ofNat k) :: rest) M
        | none => none) else none
      | _ => none
    | some (_, _, 12, _, _) => match st with
      | .int ix :: .ref r :: rest => if 1 ≤ r ∧ r < 9 ∧ mCat rest ≤ 8 ∧ 6 ≤ d ∧ ¬ ix < 0 then (match ((mjByt[r - 1]?).getD [])[ix.toNatClampNeg]? with
        | some b => mGo y (pc + 3) lv (.int b :: rest) M
        | none => none) else none
      | _ => none
    | _ => none) else none
  | .invokestatic idx => if n = 3 then (match mjR own idx with
    | some (_, _, 2, y', _) => match mNp y' with
      | none => none
      | some k => if k ≤ st.length then mCall y pc lv (st.drop k) M y' (st.take k).reverse else none
    | some (_, _, 3, y', _) => match mNp y' with
      | none => none
      | some k => if k ≤ st.length then mCall y pc lv (st.drop k) M y' (st.take k).reverse else none
    | some (_, _, 13, _, _) => match st with
      | .int b :: .int a :: rest => if mCat rest ≤ 8 ∧ 1 ≤ d then mGo y (pc + 3) lv (.int (if a < b then b else a) :: rest) M else none
      | _ => none
    | some (_, _, 14, _, _) => match st with
      | .int b :: .int a :: rest => if mCat rest ≤ 8 ∧ 1 ≤ d then mGo y (pc + 3) lv (.int (if b < a then b else a) :: rest) M else none
      | _ => none
    | _ => none) else none
  | .invokespecial idx => if n = 3 then (match mjR own idx with
    | some (_, _, 4, y', _) => match mNp y' with
      | none => none
      | some k => match st.drop k with
        | .ref r :: rest => if k ≤ st.length then mCall y pc lv rest M y' (.ref r :: (st.take k).reverse) else none
        | _ => none
    | some (_, _, 5, y', _) => match mNp y' with
      | none => none
      | some k => match st.drop k with
        | .ref r :: rest => if k ≤ st.length then mCall y pc lv rest M y' (.ref r :: (st.take k).reverse) else none
        | _ => none
    | some (_, _, 6, _, _) => match st with
      | .ref r :: rest => if mCat rest ≤ 8 ∧ 1 ≤ d then mGo y (pc + 3) lv rest M else none
      | _ => none
    | _ => none) else none
  | _ => none
/-- returns -/
def mOp7 (rt : Option FieldType) (n : Nat) (st : List Value) (i : Instr) : mRes := if n = 1 then (match i, st, rt with
  | .ireturn, [.int v], some ty => if narrow ty (.int v) = .int v then some (.inr (.inr (some (.int v)))) else none
  | .return_, [], none => some (.inr (.inr none))
  | .areturn, [.ref a], some (.object _) => some (.inr (.inr (some (.ref a))))
  | _, _, _ => none) else none
def mOr (a : mRes) (b : mRes) : mRes := match a with
  | some x => some x
  | none => b
def mOp (sc : Option (Nat × (Nat → Int32))) (d : Nat) (q : mMd) (y pc n : Nat) (lv : List (Nat × Value)) (st : List Value) (M : mHe) (i : Instr) : mRes :=
  mOr (mOp1 q.2.2.2.2 y pc n lv st M i) (mOr (mOp2 q.2.2.1 y pc n lv st M i) (mOr (mOp3 y pc n lv st M i) (mOr (mOp4 y pc n lv st M i) (mOr (mOp5 sc (q.1.name == "<init>") q.2.2.2.2 y pc n lv st M i) (mOr (mOp6 d q.2.2.2.2 y pc n lv st M i) (mOp7 q.2.2.2.1 n st i))))))
/-- a step -/
def mStep (sc : Option (Nat × (Nat → Int32))) (d : Nat) (fr : mFr) (M : mHe) : mRes := match mjM fr.1 with
  | none => none
  | some q => match decode q.2.1 fr.2.1 with
    | .error _ => none
    | .ok (i, n) => mOp sc d q fr.1 fr.2.1 n fr.2.2.1 fr.2.2.2 M i
/-- a method, with n steps' fuel and d calls' depth -/
def mRun (sc : Option (Nat × (Nat → Int32))) : Nat → Nat → mFr → mHe → Option (Option Value × mHe)
  | 0, _, _, _ => none
  | n + 1, d, fr, M => match mStep sc d fr M with
    | none => none
    | some (.inl (fr', M')) => mRun sc n d fr' M'
    | some (.inr (.inl (y, vs, fr'))) => match d with
      | 0 => none
      | d + 1 => match mRun none n d (y, 0, lv_args 0 vs, []) M with
        | none => none
        | some (r, M1) => mRun sc n (d + 1) (fr'.1, fr'.2.1, fr'.2.2.1, r.toList ++ fr'.2.2.2) M1
    | some (.inr (.inr r)) => some (r, M)
end
section
/-! WHAT A WORLD OF NUMBERED CELLS IS IN THE MACHINE. g: the classes' places, the class of int arrays, the script's cell, the first cell of the law's own, the texts' cells and their bytes' -/
abbrev mG : Type := va_G × ClassId × Nat × Nat × (Nat → Nat) × (Nat → Nat)
abbrev gD (g : mG) : va_G := g.1
abbrev gA (g : mG) : ClassId := g.2.1
abbrev gb (g : mG) : Nat := g.2.2.1
abbrev g0 (g : mG) : Nat := g.2.2.2.1
abbrev gK (g : mG) : Nat → Nat := g.2.2.2.2.1
abbrev gV (g : mG) : Nat → Nat := g.2.2.2.2.2
def mAd (g : mG) (k : Nat) : Nat := if k = 0 then gb g else if k < 9 then gK g (k - 1) else g0 g + (k - 9)
def mTr (g : mG) : Value → Value
  | .ref k => .ref (mAd g k)
  | v => v
def mTl (g : mG) (lv : List (Nat × Value)) : List (Nat × Value) := lv.map (fun q => (q.1, mTr g q.2))
def mTs (g : mG) (st : List Value) : List Value := st.map (mTr g)
theorem mTr_cat (g : mG) (v : Value) : (mTr g v).category = v.category := by cases v <;> rfl
theorem mTs_cons (g : mG) (v : Value) (st : List Value) : mTs g (v :: st) = mTr g v :: mTs g st := rfl
theorem mTs_cat (g : mG) (st : List Value) : ((mTs g st).map fun v => v.category).sum = mCat st := by
  unfold mTs mCat
  rw [List.map_map]
  congr 1
  exact List.map_congr_left fun v _ => mTr_cat g v
theorem mlg_at {g : mG} {ls : Array Slot} {nL k : Nat} {lv : List (Nat × Value)} {v : Value} (h : lv_has ls nL (mTl g lv)) (e : mlg k lv = some v) : ls[k]? = some (.val (mTr g v)) := by
  unfold mlg at e
  obtain ⟨q, hq, rfl⟩ := Option.map_eq_some_iff.mp e
  have h1 := List.mem_of_find?_eq_some hq
  have h2 : q.1 = k := by simpa using List.find?_some hq
  have h3 := h.2.2 (q.1, mTr g q.2) (List.mem_map.mpr ⟨q, h1, rfl⟩)
  rw [h2] at h3
  exact h3
theorem mlg_mem {g : mG} {k : Nat} {lv : List (Nat × Value)} {v : Value} (e : mlg k lv = some v) : ∃ j : Nat, (mTl g lv)[j]? = some (k, mTr g v) := by
  unfold mlg at e
  obtain ⟨q, hq, rfl⟩ := Option.map_eq_some_iff.mp e
  have h1 := List.mem_of_find?_eq_some hq
  have h2 : q.1 = k := by simpa using List.find?_some hq
  have h3 : (k, mTr g q.2) ∈ mTl g lv := List.mem_map.mpr ⟨q, h1, by rw [h2]⟩
  exact List.getElem?_of_mem h3
theorem mlp_tr (g : mG) (i : Nat) (v : Value) (lv : List (Nat × Value)) : (i, mTr g v) :: (mTl g lv).filter (fun q => !(q.1 == i) && !(q.1 + 1 == i && q.2.category == 2)) = mTl g (mlp i v lv) := by
  unfold mTl mlp
  rw [List.map_cons, List.filter_map]
  congr 2
  exact List.filter_congr fun q _ => by simp [mTr_cat]
def mTc (g : mG) : mCe → va_E
  | .inl (n, f) => .inl (gA g, n, .inl f)
  | .inr (ci, fs) => .inr (ci, mTs g fs)
def mWF (g : mG) : Nat → mHe → va_W
  | _, [] => []
  | k, c :: M => (g0 g + k, mTc g c) :: mWF g (k + 1) M
def mW (g : mG) (M : mHe) : va_W := mWF g 0 M
theorem mWF_get (g : mG) : ∀ (M : mHe) (k j : Nat), (mWF g k M)[j]? = (M[j]?).map (fun c => (g0 g + (k + j), mTc g c)) := by
  intro M
  induction M with
  | nil => intro k j; simp [mWF]
  | cons c M ih =>
    intro k j
    cases j with
    | zero => simp [mWF]
    | succ j =>
      rw [mWF, List.getElem?_cons_succ, ih, List.getElem?_cons_succ]
      rw [show k + 1 + j = k + (j + 1) by omega]
theorem mWF_set (g : mG) (c' : mCe) : ∀ (M : mHe) (k j : Nat), mWF g k (M.set j c') = (mWF g k M).set j (g0 g + (k + j), mTc g c') := by
  intro M
  induction M with
  | nil => intro k j; simp [mWF]
  | cons c M ih =>
    intro k j
    cases j with
    | zero => simp [mWF]
    | succ j =>
      rw [List.set_cons_succ, mWF, ih, mWF, List.set_cons_succ]
      rw [show k + 1 + j = k + (j + 1) by omega]
theorem mWF_app (g : mG) (c' : mCe) : ∀ (M : mHe) (k : Nat), mWF g k (M ++ [c']) = mWF g k M ++ [(g0 g + (k + M.length), mTc g c')] := by
  intro M
  induction M with
  | nil => intro k; simp [mWF]
  | cons c M ih =>
    intro k
    rw [List.cons_append, mWF, ih, mWF, List.cons_append, List.length_cons]
    rw [show k + 1 + M.length = k + (M.length + 1) by omega]
theorem mWF_len (g : mG) : ∀ (M : mHe) (k : Nat), (mWF g k M).length = M.length := by
  intro M
  induction M with
  | nil => intro k; rfl
  | cons c M ih => intro k; simp [mWF, ih]
theorem mW_get {g : mG} {M : mHe} {j : Nat} {c : mCe} (h : M[j]? = some c) : (mW g M)[j]? = some (g0 g + j, mTc g c) := by
  rw [mW, mWF_get, h]; simp
theorem mW_set (g : mG) (M : mHe) (j : Nat) (c : mCe) : mW g (M.set j c) = (mW g M).set j (g0 g + j, mTc g c) := by
  rw [mW, mWF_set, mW]; simp
theorem mW_app (g : mG) (M : mHe) (c : mCe) : mW g (M ++ [c]) = mW g M ++ [(g0 g + M.length, mTc g c)] := by
  rw [mW, mWF_app, mW]; simp
abbrev gO (g : mG) : Nat → Prop := fun q => g0 g ≤ q
theorem mW_at {g : mG} {M : mHe} {j : Nat} {q : Nat × va_E} (h : (mW g M)[j]? = some q) : q.1 = g0 g + j := by
  rw [mW, mWF_get] at h
  obtain ⟨c, -, rfl⟩ := Option.map_eq_some_iff.mp h
  simp
theorem mW_D (g : mG) (M : mHe) : va_D (gO g) (mW g M) := by
  refine ⟨fun i j p q hi hj e => ?_, fun k q hk => ?_⟩
  · have h1 := mW_at hi
    have h2 := mW_at hj
    omega
  · have h1 := mW_at hk
    show g0 g ≤ q.1
    omega
def mSz : mCe → Nat
  | .inl (n, _) => n
  | .inr (_, fs) => fs.length
def mSl (M : mHe) : Nat := (M.map mSz).sum
theorem mSl_app (M : mHe) (c : mCe) : mSl (M ++ [c]) = mSl M + mSz c := by simp [mSl]
theorem mSl_set : ∀ (M : mHe) (j : Nat) (c c' : mCe), M[j]? = some c → mSz c' = mSz c → mSl (M.set j c') = mSl M := by
  intro M
  induction M with
  | nil => intro j c c' h; simp at h
  | cons a M ih =>
    intro j c c' h e
    cases j with
    | zero =>
      simp only [List.getElem?_cons_zero, Option.some.injEq] at h
      subst h
      simp [mSl, e]
    | succ j =>
      simp only [List.getElem?_cons_succ] at h
      have := ih j c c' h e
      simp only [mSl, List.set_cons_succ, List.map_cons, List.sum_cons] at this ⊢
      omega
/-- what stays: the tables, private links, texts, a static of String -/
def mX (g : mG) (U : State) (H : Heap) : Prop := va_K (gD g) vwCl [(gA g, .int)] U ∧ (∀ w ∈ mjNest, va_Nw (.methodLinkNest w.1 w.2.1 w.2.2.1 w.2.2.2) U) ∧ (∀ w ∈ mjStr, vk_R w.1 w.2.1 w.2.2.1 (gK g w.2.2.2) U) ∧ vk_S 8 mjLen mjByt (gK g) (gV g) (gO g) U H ∧ va_Z "java/lang/String" "COMPACT_STRINGS" "Z" (.int 1) (gO g) U H ∧ ∃ z : Nat, va_Z "jdk/internal/util/Preconditions" "SIOOBE_FORMATTER" "Ljava/util/function/BiFunction;" (.ref z) (gO g) U H
/-- the world at a heap of a method's run that began at s -/
def mDy (g : mG) (s : State) (H : Heap) (locs : List Loc) (M : mHe) (cells slots k0 s0 : Nat) : Prop :=
  H.size = g0 g + M.length ∧ va_P (gD g) vwCl (mW g M) H ∧ va_S (gO g) s.heap H locs ∧ mX g s H ∧ cells + k0 = M.length ∧ slots + s0 = mSl M ∧ s.heap.size = g0 g + k0
/-- what doesn't change while a method runs -/
def mFx (g : mG) (p : Program) (s : State) (m : MethodId) (args : Array Value) (meth : Method) (c : Code) (R : Room) (d : Nat) (q : mMd) : Prop :=
  p.tables.exec = Jvm.exec ∧ c.code = q.2.1 ∧ c.maxLocals = q.2.2.1 ∧ s.vm.findClass (mjC q.2.2.2.2) = some m.cls ∧ (∀ w ∈ mjT, w.before args s = true) ∧ meth.sig.returnType = q.2.2.2.1 ∧ meth.locks = false ∧ (q.1.name = "<init>" → meth.name = "<init>") ∧ d ≤ R.frames ∧ 300 * d ≤ R.locals
theorem mX_kept {g : mG} {U : State} {H H1 : Heap} (h : mX g U H) (hq : ∀ a : Nat, a < H.size → ¬ gO g a → H1[a]? = H[a]?) : mX g U H1 :=
  ⟨h.1, h.2.1, h.2.2.1, h.2.2.2.1.kept hq, va_Z.kept h.2.2.2.2.1 hq, h.2.2.2.2.2.imp fun z hz => va_Z.kept hz hq⟩
theorem mGo_inj {y y' pc pc' : Nat} {lv lv' : List (Nat × Value)} {st st' : List Value} {M M' : mHe} (h : mGo y pc lv st M = some (.inl ((y', pc', lv', st'), M'))) : y' = y ∧ pc' = pc ∧ lv' = lv ∧ st' = st ∧ M' = M := by
  simp only [mGo, Option.some.injEq, Sum.inl.injEq, Prod.mk.injEq] at h
  exact ⟨h.1.1.symm, h.1.2.1.symm, h.1.2.2.1.symm, h.1.2.2.2.symm, h.2.symm⟩
theorem mTg_eq {pc t : Nat} {off : Int} (ht : mTg pc off = some t) : (pc : Int) + off = (t : Int) := by
  unfold mTg at ht
  split at ht
  · next hc =>
    simp only [Option.some.injEq] at ht
    omega
  · cases ht
theorem mBr_inj {y y' pc pc' : Nat} {off : Int} {lv lv' : List (Nat × Value)} {st st' : List Value} {M M' : mHe} (h : mBr y pc off lv st M = some (.inl ((y', pc', lv', st'), M'))) : y' = y ∧ (pc : Int) + off = (pc' : Int) ∧ lv' = lv ∧ st' = st ∧ M' = M := by
  unfold mBr at h
  split at h
  · cases h
  · next t ht =>
    obtain ⟨h1, h2, h3⟩ := mGo_inj h
    refine ⟨h1, ?_, h3⟩
    rw [h2]
    exact mTg_eq ht
end
section
/-! A STEP OF THE SMALL MACHINE IS ONE OF THE REAL ONE: constants, loads, stores, the stack, numbers, branches -/
section MJA
variable {p : Program} {l : Launch} {e : Env} {R : Room} {s : State} {m : MethodId} {args : Array Value} {below : List Frame} {meth : Method} {c : Code} {H : Heap} {locs : List Loc} {cells slots : Nat} {Q : State → Prop}
variable {g : mG} {d : Nat} {q : mMd} {y y' pc pc' n : Nat} {lv lv' : List (Nat × Value)} {st st' : List Value} {M M' : mHe} {i : Instr} {ls : Array Slot}
set_option maxHeartbeats 4000000 in
theorem mOp1_W (F : mFx g p s m args meth c R d q) (X : mX g s H) (hdg : decode q.2.1 pc = .ok (i, n)) (hl : lv_has ls q.2.2.1 (mTl g lv))
    (h : mOp1 q.2.2.2.2 y pc n lv st M i = some (.inl ((y', pc', lv', st'), M')))
    (kk : y' = y → M' = M → ∀ ls' : Array Slot, lv_has ls' q.2.2.1 (mTl g lv') → W p l e R s m args below meth c H locs cells slots Q (F0 m pc' ls' (mTs g st'))) : W p l e R s m args below meth c H locs cells slots Q (F0 m pc ls (mTs g st)) := by
  obtain ⟨hx, hb, hml, hown, hts, hr, hlk, hnm, hfr, hlo⟩ := F
  unfold mOp1 at h
  split at h
  · split at h
    · next x hx1 =>
      split at h
      · next hn =>
        subst hn
        obtain ⟨e1, rfl, rfl, rfl, e2⟩ := mGo_inj h
        exact lv_iload_n hx hb hdg rfl (mlg_at hl hx1) (kk e1 e2 ls hl)
      · cases h
    · cases h
  · split at h
    · next x hx1 =>
      split at h
      · next hn =>
        subst hn
        obtain ⟨e1, rfl, rfl, rfl, e2⟩ := mGo_inj h
        exact lv_aload_n hx hb hdg rfl (mlg_at hl hx1) (kk e1 e2 ls hl)
      · cases h
    · cases h
  · split at h
    · next x hx1 =>
      split at h
      · next hn =>
        subst hn
        obtain ⟨e1, rfl, rfl, rfl, e2⟩ := mGo_inj h
        exact lv_lload_n hx hb hdg rfl (mlg_at hl hx1) (kk e1 e2 ls hl)
      · cases h
    · cases h
  · split at h
    · next x hx1 =>
      split at h
      · next hn =>
        subst hn
        obtain ⟨e1, rfl, rfl, rfl, e2⟩ := mGo_inj h
        exact lv_iload hx hb hdg (mlg_at hl hx1) (kk e1 e2 ls hl)
      · cases h
    · cases h
  · split at h
    · next x hx1 =>
      split at h
      · next hn =>
        subst hn
        obtain ⟨e1, rfl, rfl, rfl, e2⟩ := mGo_inj h
        exact lv_aload hx hb hdg (mlg_at hl hx1) (kk e1 e2 ls hl)
      · cases h
    · cases h
  · split at h
    · next x hx1 =>
      split at h
      · next hn =>
        subst hn
        obtain ⟨e1, rfl, rfl, rfl, e2⟩ := mGo_inj h
        exact lv_lload hx hb hdg (mlg_at hl hx1) (kk e1 e2 ls hl)
      · cases h
    · cases h
  · split at h
    · next hn =>
      subst hn
      obtain ⟨e1, rfl, rfl, rfl, e2⟩ := mGo_inj h
      exact lv_iconst hx hb hdg rfl (kk e1 e2 ls hl)
    · cases h
  · split at h
    · next hn =>
      subst hn
      obtain ⟨e1, rfl, rfl, rfl, e2⟩ := mGo_inj h
      exact lv_lconst hx hb hdg rfl (kk e1 e2 ls hl)
    · cases h
  · split at h
    · next hn =>
      subst hn
      obtain ⟨e1, rfl, rfl, rfl, e2⟩ := mGo_inj h
      exact lv_bipush hx hb hdg rfl (kk e1 e2 ls hl)
    · cases h
  · split at h
    · next hn =>
      subst hn
      obtain ⟨e1, rfl, rfl, rfl, e2⟩ := mGo_inj h
      exact lv_sipush hx hb hdg rfl (kk e1 e2 ls hl)
    · cases h
  · split at h
    · next o1 o2 o3 v hR =>
      split at h
      · next hn =>
        subst hn
        obtain ⟨e1, rfl, rfl, rfl, e2⟩ := mGo_inj h
        have ho := mjR_own hR
        have hw := mjR_words hR
        dsimp only at ho hw
        obtain ⟨rfl, hw⟩ := hw
        subst ho
        exact lv_ldc hx hb hown (hts _ (hw _ (by simp [mjWords]))) hdg (kk e1 e2 ls hl)
      · cases h
    · next o1 o2 a v hR =>
      split at h
      · next hn =>
        obtain ⟨hn, ha⟩ := hn
        subst hn
        obtain ⟨e1, rfl, rfl, rfl, e2⟩ := mGo_inj h
        have ho := mjR_own hR
        have hw := (mjR_words hR).1
        dsimp only at ho hw
        subst hw
        subst ho
        obtain ⟨t, ht, hC⟩ := mjR_str hR
        have hZ := X.2.2.1 t ht
        rw [← hC.1, hC.2.1, hC.2.2] at hZ
        refine va_ldcS hx hb hown hZ hdg ?_
        have ev : mTs g (Value.ref (1 + a) :: st) = .ref (gK g a) :: mTs g st := by
          have e3 : mAd g (1 + a) = gK g a := by rw [mAd, if_neg (by omega), if_pos (by omega), show 1 + a - 1 = a by omega]
          show Value.ref (mAd g (1 + a)) :: _ = _
          rw [e3]
          rfl
        have hk := kk e1 e2 ls hl
        rw [ev] at hk
        exact hk
      · cases h
    · cases h
  · split at h
    · next o1 o2 o3 v hR =>
      split at h
      · next hn =>
        subst hn
        obtain ⟨e1, rfl, rfl, rfl, e2⟩ := mGo_inj h
        have ho := mjR_own hR
        have hw := mjR_words hR
        dsimp only at ho hw
        obtain ⟨rfl, hw⟩ := hw
        subst ho
        exact lv_ldcw hx hb hown (hts _ (hw _ (by simp [mjWords]))) hdg (kk e1 e2 ls hl)
      · cases h
    · cases h
  · split at h
    · next o1 o2 o3 v hR =>
      split at h
      · next hn =>
        subst hn
        obtain ⟨e1, rfl, rfl, rfl, e2⟩ := mGo_inj h
        have ho := mjR_own hR
        have hw := mjR_words hR
        dsimp only at ho hw
        obtain ⟨rfl, hw⟩ := hw
        subst ho
        exact lv_ldc2 hx hb hown (hts _ (hw _ (by simp [mjWords]))) hdg (kk e1 e2 ls hl)
      · cases h
    · cases h
  · cases h
set_option maxHeartbeats 4000000 in
theorem mOp2_W (F : mFx g p s m args meth c R d q) (X : mX g s H) (hdg : decode q.2.1 pc = .ok (i, n)) (hl : lv_has ls q.2.2.1 (mTl g lv))
    (h : mOp2 q.2.2.1 y pc n lv st M i = some (.inl ((y', pc', lv', st'), M')))
    (kk : y' = y → M' = M → ∀ ls' : Array Slot, lv_has ls' q.2.2.1 (mTl g lv') → W p l e R s m args below meth c H locs cells slots Q (F0 m pc' ls' (mTs g st'))) : W p l e R s m args below meth c H locs cells slots Q (F0 m pc ls (mTs g st)) := by
  obtain ⟨hx, hb, hml, hown, hts, hr, hlk, hnm, hfr, hlo⟩ := F
  unfold mOp2 at h
  split at h
  · split at h
    · next x st1 =>
      split at h
      · next hn =>
        obtain ⟨hn, hk⟩ := hn
        subst hn
        obtain ⟨e1, rfl, rfl, rfl, e2⟩ := mGo_inj h
        exact lv_istore_n hx hb hdg rfl hl hk (mlp_tr g _ (.int x) lv) (fun ls' hl' => kk e1 e2 ls' hl')
      · cases h
    · cases h
  · split at h
    · next x st1 =>
      split at h
      · next hn =>
        obtain ⟨hn, hk⟩ := hn
        subst hn
        obtain ⟨e1, rfl, rfl, rfl, e2⟩ := mGo_inj h
        exact lv_istore hx hb hdg hl hk (mlp_tr g _ (.int x) lv) (fun ls' hl' => kk e1 e2 ls' hl')
      · cases h
    · cases h
  · split at h
    · next x st1 =>
      split at h
      · next hn =>
        obtain ⟨hn, hk⟩ := hn
        subst hn
        obtain ⟨e1, rfl, rfl, rfl, e2⟩ := mGo_inj h
        exact lv_astore_n hx hb hdg rfl hl hk (mlp_tr g _ (.ref x) lv) (fun ls' hl' => kk e1 e2 ls' hl')
      · cases h
    · cases h
  · split at h
    · next x st1 =>
      split at h
      · next hn =>
        obtain ⟨hn, hk⟩ := hn
        subst hn
        obtain ⟨e1, rfl, rfl, rfl, e2⟩ := mGo_inj h
        exact lv_astore hx hb hdg hl hk (mlp_tr g _ (.ref x) lv) (fun ls' hl' => kk e1 e2 ls' hl')
      · cases h
    · cases h
  · split at h
    · next x hx1 =>
      split at h
      · next hn =>
        obtain ⟨hn, hk⟩ := hn
        subst hn
        obtain ⟨e1, rfl, rfl, rfl, e2⟩ := mGo_inj h
        obtain ⟨j, hj⟩ := mlg_mem (g := g) hx1
        exact lv_iinc hx hb hdg hl hj rfl hk (mlp_tr g _ (.int _) lv) (fun ls' hl' => kk e1 e2 ls' hl')
      · cases h
    · cases h
  · split at h
    · next a st1 =>
      split at h
      · next hn =>
        obtain ⟨hn, hk⟩ := hn
        subst hn
        obtain ⟨e1, rfl, rfl, rfl, e2⟩ := mGo_inj h
        exact lv_dup hx hb hdg (by rw [mTr_cat]; exact hk) (kk e1 e2 ls hl)
      · cases h
    · cases h
  · split at h
    · next a st1 =>
      split at h
      · next hn =>
        obtain ⟨hn, hk⟩ := hn
        subst hn
        obtain ⟨e1, rfl, rfl, rfl, e2⟩ := mGo_inj h
        exact lv_pop hx hb hdg (by rw [mTr_cat]; exact hk) (kk e1 e2 ls hl)
      · cases h
    · cases h
  · split at h
    · next a b st1 =>
      split at h
      · next hn =>
        obtain ⟨hn, hk, hk2⟩ := hn
        subst hn
        obtain ⟨e1, rfl, rfl, rfl, e2⟩ := mGo_inj h
        exact lv_dup2_11 hx hb hdg (by rw [mTr_cat]; exact hk) (by rw [mTr_cat]; exact hk2) (kk e1 e2 ls hl)
      · cases h
    · cases h
  · cases h
set_option maxHeartbeats 4000000 in
theorem mOp3_W (F : mFx g p s m args meth c R d q) (X : mX g s H) (hdg : decode q.2.1 pc = .ok (i, n)) (hl : lv_has ls q.2.2.1 (mTl g lv))
    (h : mOp3 y pc n lv st M i = some (.inl ((y', pc', lv', st'), M')))
    (kk : y' = y → M' = M → ∀ ls' : Array Slot, lv_has ls' q.2.2.1 (mTl g lv') → W p l e R s m args below meth c H locs cells slots Q (F0 m pc' ls' (mTs g st'))) : W p l e R s m args below meth c H locs cells slots Q (F0 m pc ls (mTs g st)) := by
  obtain ⟨hx, hb, hml, hown, hts, hr, hlk, hnm, hfr, hlo⟩ := F
  unfold mOp3 at h
  split at h
  · next hn =>
    subst hn
    split at h
    · obtain ⟨e1, rfl, rfl, rfl, e2⟩ := mGo_inj h
      exact lv_iadd hx hb hdg (kk e1 e2 ls hl)
    · obtain ⟨e1, rfl, rfl, rfl, e2⟩ := mGo_inj h
      exact lv_isub hx hb hdg (kk e1 e2 ls hl)
    · obtain ⟨e1, rfl, rfl, rfl, e2⟩ := mGo_inj h
      exact lv_imul hx hb hdg (kk e1 e2 ls hl)
    · split at h
      · cases h
      · next hz =>
        obtain ⟨e1, rfl, rfl, rfl, e2⟩ := mGo_inj h
        exact lv_idiv hx hb hdg hz (kk e1 e2 ls hl)
    · split at h
      · cases h
      · next hz =>
        obtain ⟨e1, rfl, rfl, rfl, e2⟩ := mGo_inj h
        exact lv_irem hx hb hdg hz (kk e1 e2 ls hl)
    · obtain ⟨e1, rfl, rfl, rfl, e2⟩ := mGo_inj h
      exact lv_iand hx hb hdg (kk e1 e2 ls hl)
    · obtain ⟨e1, rfl, rfl, rfl, e2⟩ := mGo_inj h
      exact lv_ior hx hb hdg (kk e1 e2 ls hl)
    · obtain ⟨e1, rfl, rfl, rfl, e2⟩ := mGo_inj h
      exact lv_ixor hx hb hdg (kk e1 e2 ls hl)
    · obtain ⟨e1, rfl, rfl, rfl, e2⟩ := mGo_inj h
      exact lv_ishl hx hb hdg (kk e1 e2 ls hl)
    · obtain ⟨e1, rfl, rfl, rfl, e2⟩ := mGo_inj h
      exact lv_ishr hx hb hdg (kk e1 e2 ls hl)
    · obtain ⟨e1, rfl, rfl, rfl, e2⟩ := mGo_inj h
      exact lv_iushr hx hb hdg rfl (kk e1 e2 ls hl)
    · obtain ⟨e1, rfl, rfl, rfl, e2⟩ := mGo_inj h
      exact lv_ineg hx hb hdg (kk e1 e2 ls hl)
    · obtain ⟨e1, rfl, rfl, rfl, e2⟩ := mGo_inj h
      exact lv_i2l hx hb hdg rfl (kk e1 e2 ls hl)
    · obtain ⟨e1, rfl, rfl, rfl, e2⟩ := mGo_inj h
      exact lv_ladd hx hb hdg (kk e1 e2 ls hl)
    · obtain ⟨e1, rfl, rfl, rfl, e2⟩ := mGo_inj h
      exact W.lcmp hx hb hdg (kk e1 e2 ls hl)
    · cases h
  · cases h
set_option maxHeartbeats 4000000 in
theorem mOp4_W (F : mFx g p s m args meth c R d q) (X : mX g s H) (hdg : decode q.2.1 pc = .ok (i, n)) (hl : lv_has ls q.2.2.1 (mTl g lv))
    (h : mOp4 y pc n lv st M i = some (.inl ((y', pc', lv', st'), M')))
    (kk : y' = y → M' = M → ∀ ls' : Array Slot, lv_has ls' q.2.2.1 (mTl g lv') → W p l e R s m args below meth c H locs cells slots Q (F0 m pc' ls' (mTs g st'))) : W p l e R s m args below meth c H locs cells slots Q (F0 m pc ls (mTs g st)) := by
  obtain ⟨hx, hb, hml, hown, hts, hr, hlk, hnm, hfr, hlo⟩ := F
  unfold mOp4 at h
  split at h
  · split at h
    · next hn =>
      subst hn
      obtain ⟨e1, e0, rfl, rfl, e2⟩ := mBr_inj h
      exact lv_goto hx hb hdg e0 (kk e1 e2 ls hl)
    · cases h
  · next k off =>
    split at h
    · next a st1 =>
      split at h
      · next hn =>
        subst hn
        split at h
        · cases h
        · next t ht =>
          have e0 := mTg_eq ht
          by_cases hc : mCd k a 0 = true
          · rw [if_pos hc] at h
            obtain ⟨e1, rfl, rfl, rfl, e2⟩ := mGo_inj h
            cases k <;> simp only [mCd, beq_iff_eq, bne_iff_ne, decide_eq_true_eq, ge_iff_le, gt_iff_lt, ne_eq] at hc
            · exact lv_if_eq hx hb hdg e0 (fun _ => kk e1 e2 ls hl) (fun z => absurd hc z)
            · exact lv_if_ne hx hb hdg e0 (fun _ => kk e1 e2 ls hl) (fun z => absurd z hc)
            · exact lv_if_lt hx hb hdg e0 (fun _ => kk e1 e2 ls hl) (fun z => absurd hc z)
            · exact lv_if_ge hx hb hdg e0 (fun _ => kk e1 e2 ls hl) (fun z => absurd hc z)
            · exact lv_if_gt hx hb hdg e0 (fun _ => kk e1 e2 ls hl) (fun z => absurd hc z)
            · exact lv_if_le hx hb hdg e0 (fun _ => kk e1 e2 ls hl) (fun z => absurd hc z)
          · rw [if_neg hc] at h
            obtain ⟨e1, rfl, rfl, rfl, e2⟩ := mGo_inj h
            cases k <;> simp only [mCd, beq_iff_eq, bne_iff_ne, decide_eq_true_eq, ge_iff_le, gt_iff_lt, ne_eq] at hc
            · exact lv_if_eq hx hb hdg e0 (fun z => absurd z hc) (fun _ => kk e1 e2 ls hl)
            · exact lv_if_ne hx hb hdg e0 (fun z => absurd z hc) (fun _ => kk e1 e2 ls hl)
            · exact lv_if_lt hx hb hdg e0 (fun z => absurd z hc) (fun _ => kk e1 e2 ls hl)
            · exact lv_if_ge hx hb hdg e0 (fun z => absurd z hc) (fun _ => kk e1 e2 ls hl)
            · exact lv_if_gt hx hb hdg e0 (fun z => absurd z hc) (fun _ => kk e1 e2 ls hl)
            · exact lv_if_le hx hb hdg e0 (fun z => absurd z hc) (fun _ => kk e1 e2 ls hl)
      · cases h
    · cases h
  · next k off =>
    split at h
    · next b a st1 =>
      split at h
      · next hn =>
        subst hn
        split at h
        · cases h
        · next t ht =>
          have e0 := mTg_eq ht
          by_cases hc : mCd k a b = true
          · rw [if_pos hc] at h
            obtain ⟨e1, rfl, rfl, rfl, e2⟩ := mGo_inj h
            cases k <;> simp only [mCd, beq_iff_eq, bne_iff_ne, decide_eq_true_eq, ge_iff_le, gt_iff_lt, ne_eq] at hc
            · exact lv_icmp_eq hx hb hdg e0 (fun _ => kk e1 e2 ls hl) (fun z => absurd hc z)
            · exact lv_icmp_ne hx hb hdg e0 (fun _ => kk e1 e2 ls hl) (fun z => absurd z hc)
            · exact lv_icmp_lt hx hb hdg e0 (fun _ => kk e1 e2 ls hl) (fun z => absurd hc z)
            · exact lv_icmp_ge hx hb hdg e0 (fun _ => kk e1 e2 ls hl) (fun z => absurd hc z)
            · exact lv_icmp_gt hx hb hdg e0 (fun _ => kk e1 e2 ls hl) (fun z => absurd hc z)
            · exact lv_icmp_le hx hb hdg e0 (fun _ => kk e1 e2 ls hl) (fun z => absurd hc z)
          · rw [if_neg hc] at h
            obtain ⟨e1, rfl, rfl, rfl, e2⟩ := mGo_inj h
            cases k <;> simp only [mCd, beq_iff_eq, bne_iff_ne, decide_eq_true_eq, ge_iff_le, gt_iff_lt, ne_eq] at hc
            · exact lv_icmp_eq hx hb hdg e0 (fun z => absurd z hc) (fun _ => kk e1 e2 ls hl)
            · exact lv_icmp_ne hx hb hdg e0 (fun z => absurd z hc) (fun _ => kk e1 e2 ls hl)
            · exact lv_icmp_lt hx hb hdg e0 (fun z => absurd z hc) (fun _ => kk e1 e2 ls hl)
            · exact lv_icmp_ge hx hb hdg e0 (fun z => absurd z hc) (fun _ => kk e1 e2 ls hl)
            · exact lv_icmp_gt hx hb hdg e0 (fun z => absurd z hc) (fun _ => kk e1 e2 ls hl)
            · exact lv_icmp_le hx hb hdg e0 (fun z => absurd z hc) (fun _ => kk e1 e2 ls hl)
      · cases h
    · cases h
  · next dd lo hi offs =>
    split at h
    · next a st1 =>
      by_cases hc : a.toInt < lo ∨ hi < a.toInt
      · rw [if_pos hc] at h
        obtain ⟨e1, e0, rfl, rfl, e2⟩ := mBr_inj h
        exact lv_tableOut hx hb hdg hc e0 (kk e1 e2 ls hl)
      · rw [if_neg hc] at h
        split at h
        · next off ho =>
          obtain ⟨e1, e0, rfl, rfl, e2⟩ := mBr_inj h
          exact lv_tableIn hx hb hdg (fun z => hc (Or.inl z)) (fun z => hc (Or.inr z)) ho e0 (kk e1 e2 ls hl)
        · cases h
    · cases h
  · next dd ps =>
    split at h
    · next a st1 =>
      split at h
      · next hp =>
        obtain ⟨e1, e0, rfl, rfl, e2⟩ := mBr_inj h
        exact lv_lookup hx hb hdg hp rfl e0 (kk e1 e2 ls hl)
      · cases h
    · cases h
  · cases h
end MJA
end
section
/-! THE SAME: fields, arrays, what is made, intrinsic calls -/
theorem mDy_keep {g : mG} {s : State} {H H1 : Heap} {locs locs1 : List Loc} (hS : va_S (gO g) s.heap H locs) (hS1 : va_S (gO g) s.heap H1 locs1) (hg : g0 g ≤ s.heap.size) : ∀ a : Nat, a < H.size → ¬ gO g a → H1[a]? = H[a]? := by
  intro a _ ha
  have ha' : a < g0 g := Nat.lt_of_not_le ha
  rw [hS.2.1 a (by omega) ha, hS1.2.1 a (by omega) ha]
theorem mW_low {g : mG} {s : State} {H : Heap} {locs : List Loc} {M : mHe} (hP : va_P (gD g) vwCl (mW g M) H) (hS : va_S (gO g) s.heap H locs) (hg : g0 g ≤ s.heap.size) : g0 g + M.length ≤ H.size := by
  rcases Nat.eq_zero_or_pos M.length with h | h
  · have := hS.1; omega
  · have h1 : M[M.length - 1]? = some (M[M.length - 1]'(by omega)) := List.getElem?_eq_getElem _
    have h2 := (hP _ _ (mW_get (g := g) h1)).lt
    have h3 : g0 g + (M.length - 1) < H.size := h2
    omega
section MJB
variable {p : Program} {l : Launch} {e : Env} {R : Room} {s : State} {m : MethodId} {args : Array Value} {below : List Frame} {meth : Method} {c : Code} {H : Heap} {locs : List Loc} {cells slots k0 s0 : Nat} {Q : State → Prop}
variable {g : mG} {d : Nat} {q : mMd} {y y' pc pc' n : Nat} {lv lv' : List (Nat × Value)} {st st' : List Value} {M M' : mHe} {i : Instr} {ls : Array Slot}
theorem W.sz {gf : JFrame} (k : H.size ≤ s.heap.size + cells → W p l e R s m args below meth c H locs cells slots Q gf) : W p l e R s m args below meth c H locs cells slots Q gf := fun T hT X => k (by rw [← hT]; exact X.heapSize) T hT X
/-- the world behind an instruction: its size is what the machine booked -/
theorem mDy_go {gf : JFrame} {H0 : Heap} {locs0 : List Loc} (hX : mX g s H0) (hS0 : va_S (gO g) s.heap H0 locs0) (hP : va_P (gD g) vwCl (mW g M) H) (hS : va_S (gO g) s.heap H locs) (hc : cells + k0 = M.length) (hs : slots + s0 = mSl M) (hz : s.heap.size = g0 g + k0)
    (k : mDy g s H locs M cells slots k0 s0 → W p l e R s m args below meth c H locs cells slots Q gf) : W p l e R s m args below meth c H locs cells slots Q gf := by
  refine W.sz fun hle => k ⟨?_, hP, hS, mX_kept hX (mDy_keep hS0 hS (by omega)), hc, hs, hz⟩
  have := mW_low hP hS (by omega)
  omega
theorem mAd9 {r : Nat} (h : 9 ≤ r) : mAd g r = g0 g + (r - 9) := by rw [mAd, if_neg (by omega), if_neg (by omega)]
theorem mTs9 {r : Nat} (h : 9 ≤ r) (st : List Value) : mTs g (.ref r :: st) = .ref (g0 g + (r - 9)) :: mTs g st := by
  show Value.ref (mAd g r) :: _ = _
  rw [mAd9 h]; rfl
theorem mTs0 (st : List Value) : mTs g (.ref 0 :: st) = .ref (gb g) :: mTs g st := rfl
theorem mFit_n {ty : FieldType} {v : Value} (h : mFit ty v = true) : narrow ty (mTr g v) = mTr g v ∧ fits ty (mTr g v) = true := by
  unfold mFit at h
  split at h
  · exact ⟨rfl, rfl⟩
  · next x =>
    simp only [Bool.or_eq_true, beq_iff_eq] at h
    have h0 : narrow .boolean (.int 0) = .int 0 ∧ fits .boolean (.int 0) = true := by decide +kernel
    have h1 : narrow .boolean (.int 1) = .int 1 ∧ fits .boolean (.int 1) = true := by decide +kernel
    rcases h with rfl | rfl
    · exact h0
    · exact h1
  · exact ⟨rfl, rfl⟩
  · exact ⟨rfl, rfl⟩
  · cases h
/-- a new cell's address -/
theorem mW_new {w : Nat} {x : va_E} (hD : va_D (gO g) (mW g M ++ [(w, x)])) (hP : va_P (gD g) vwCl (mW g M ++ [(w, x)]) H) (hle : H.size ≤ g0 g + M.length + 1) : w = g0 g + M.length := by
  have hln : (mW g M).length = M.length := mWF_len g M 0
  have hlast : (mW g M ++ [(w, x)])[M.length]? = some (w, x) := by rw [← hln]; simp
  have h1 : w < H.size := (hP _ _ hlast).lt
  have h2 : g0 g ≤ w := hD.2 _ _ hlast
  rcases Nat.lt_or_ge w (g0 g + M.length) with h3 | h3
  · have hj : w - g0 g < M.length := by omega
    have h4 := mW_get (g := g) (List.getElem?_eq_getElem hj)
    have h5 : (mW g M ++ [(w, x)])[w - g0 g]? = some (g0 g + (w - g0 g), mTc g M[w - g0 g]) := by rw [List.getElem?_append_left (by omega)]; exact h4
    have h6 := hD.1 _ _ _ _ h5 hlast (by show g0 g + (w - g0 g) = w; omega)
    omega
  · omega
theorem va_RA_int {U : State} {cA : ClassId} (h : va_RA U cA .int) : U.vm.findClass ("[" ++ FieldType.int.toString) = some cA := h
set_option maxHeartbeats 4000000 in
theorem mOp5_W {sc : Option (Nat × (Nat → Int32))} (F : mFx g p s m args meth c R d q) (hsc : ∀ L xs, sc = some (L, xs) → va_X (gb g) L xs s s.heap ∧ gb g < g0 g) (hdg : decode q.2.1 pc = .ok (i, n)) (hl : lv_has ls q.2.2.1 (mTl g lv))
    (hD : mDy g s H locs M cells slots k0 s0) (hai : (Cond.arrayClass .int).before args s = true)
    (h : mOp5 sc (q.1.name == "<init>") q.2.2.2.2 y pc n lv st M i = some (.inl ((y', pc', lv', st'), M'))) (hrc : M'.length ≤ R.cells + k0) (hrs : mSl M' ≤ R.slots + s0)
    (kk : y' = y → ∀ (ls' : Array Slot) (H' : Heap) (locs' : List Loc) (cells' slots' : Nat), lv_has ls' q.2.2.1 (mTl g lv') → mDy g s H' locs' M' cells' slots' k0 s0 → W p l e R s m args below meth c H' locs' cells' slots' Q (F0 m pc' ls' (mTs g st'))) : W p l e R s m args below meth c H locs cells slots Q (F0 m pc ls (mTs g st)) := by
  obtain ⟨hx, hb, hml, hown, hts, hr, hlk, hnm, hfr, hlo⟩ := F
  obtain ⟨hsz, hP, hS, hX, hcl, hsl, hz⟩ := id hD
  have hg0 : g0 g ≤ s.heap.size := by omega
  have hA : ∀ q : Nat, s.heap.size ≤ q → gO g q := fun q hq => Nat.le_trans hg0 hq
  unfold mOp5 at h
  split at h
  · -- getfield
    split at h
    · next r st1 =>
      split at h
      · next o1 o2 ci k hR =>
        split at h
        · next hn =>
          obtain ⟨hn, hr9⟩ := hn
          subst hn
          split at h
          · next ci' fs qc hM hcl' =>
            split at h
            · next hk =>
              obtain ⟨rfl, hk⟩ := hk
              split at h
              · next v hv =>
                obtain ⟨e1, rfl, rfl, rfl, rfl⟩ := mGo_inj h
                have ho := mjR_own hR
                have hw := mjR_words hR
                dsimp only at ho hw
                obtain ⟨rfl, hw⟩ := hw
                subst ho
                have hq : mjCl ci' = qc := by rw [mjCl, hcl']; rfl
                have hlink := hts _ (hw _ (by simp only [mjWords, List.mem_singleton]; rfl))
                rw [hq] at hlink
                rw [mTs9 hr9]
                exact va_get hx hb hts (mjCl_words hcl') hown hX.1 hP (r - 9) (mW_get hM) (by rw [hcl']) k.toNat hk hlink (by rw [mjCl_decl hcl' _ hk]; exact fun x hx => hx) (v := mTr g v) (by show (mTs g fs)[_]? = _; rw [mTs, List.getElem?_map, hv]; rfl) hdg (kk e1 ls H locs cells slots hl hD)
              · cases h
            · cases h
          · cases h
        · cases h
      · cases h
    · cases h
  · -- putfield
    split at h
    · next v r st1 =>
      split at h
      · next o1 o2 ci k hR =>
        split at h
        · next hn =>
          obtain ⟨hn, hr9⟩ := hn
          subst hn
          split at h
          · next ci' fs qc ty hM hcl' hty =>
            split at h
            · next hk =>
              obtain ⟨rfl, hk, hlen, hfit, hfin⟩ := hk
              obtain ⟨e1, rfl, rfl, rfl, rfl⟩ := mGo_inj h
              have ho := mjR_own hR
              have hw := mjR_words hR
              dsimp only at ho hw
              obtain ⟨rfl, hw⟩ := hw
              subst ho
              have hq : mjCl ci' = qc := by rw [mjCl, hcl']; rfl
              have hlink := hts _ (hw _ (by simp only [mjWords, List.mem_singleton]; rfl))
              rw [hq] at hlink
              obtain ⟨tyf, htf, hte⟩ := Option.map_eq_some_iff.mp hty
              obtain ⟨hty0, hnm0⟩ := mjCl_tys hcl' htf
              have hd2 := hty0 k.toNat hk
              rw [hte] at hd2
              obtain ⟨hn1, hn2⟩ := mFit_n (g := g) hfit
              have hst : mTs g (v :: .ref r :: st') = mTr g v :: .ref (g0 g + (r - 9)) :: mTs g st' := by rw [mTs_cons, mTs9 hr9]
              rw [hst]
              have hkk : ∀ (H1 : Heap) (locs1 : List Loc), va_P (gD g) vwCl ((mW g M).set (r - 9) (g0 g + (r - 9), .inr (ci', (mTs g fs).set k.toNat (mTr g v)))) H1 → va_D (gO g) ((mW g M).set (r - 9) (g0 g + (r - 9), .inr (ci', (mTs g fs).set k.toNat (mTr g v)))) → va_S (gO g) s.heap H1 locs1 → W p l e R s m args below meth c H1 locs1 cells slots Q (F0 m (pc + 3) ls (mTs g st')) := by
                intro H1 locs1 hP1 _ hS1
                refine mDy_go (M := M.set (r - 9) (.inr (ci', fs.set k.toNat v))) hX hS ?_ hS1 (by rw [List.length_set]; exact hcl) (by rw [mSl_set M _ _ _ hM (by simp [mSz])]; exact hsl) hz (fun hD' => kk e1 ls H1 locs1 cells slots hl hD')
                rw [mW_set]
                have e5 : mTc g (.inr (ci', fs.set k.toNat v)) = .inr (ci', (mTs g fs).set k.toNat (mTr g v)) := by
                  show Sum.inr (ci', mTs g (fs.set k.toNat v)) = _
                  rw [mTs, List.map_set]; rfl
                rw [e5]
                exact hP1
              rcases hfin with hfin | ⟨hfin, hini, hown2⟩
              · exact va_put hx hb hts (mjCl_words hcl') tyf hty0 hnm0 hown hX.1 hP (mW_D g M) hS (r - 9) (mW_get hM) (by rw [hcl']) k.toNat hk hlink (by rw [mjCl_decl hcl' _ hk]; exact fun x hx => hx) hfin hd2 hn1 hn2 (by show _ < (mTs g fs).length; rw [mTs, List.length_map]; exact hlen) hdg hkk
              · have hq1 : mjC q.2.2.2.2 = qc.1 := by rw [hown2]; exact mjC_cl hcl'
                exact va_putF hx hb hts (mjCl_words hcl') tyf hty0 hnm0 hown hX.1 hP (mW_D g M) hS (r - 9) (mW_get hM) (by rw [hcl']) k.toNat hk hlink (by rw [mjCl_decl hcl' _ hk]; exact fun x hx => hx) hfin (hnm (by simpa using hini)) (by rw [mjCl_decl hcl' _ hk, hq1]) hd2 hn1 hn2 (by show _ < (mTs g fs).length; rw [mTs, List.length_map]; exact hlen) hdg hkk
            · cases h
          · cases h
        · cases h
      · cases h
    · cases h
  · -- iaload
    split at h
    · next i r st1 =>
      split at h
      · next hn =>
        subst hn
        split at h
        · next hr0 =>
          subst hr0
          split at h
          · next L xs =>
            obtain ⟨hXs, hbl⟩ := hsc L xs rfl
            split at h
            · cases h
            · next hin =>
              obtain ⟨e1, rfl, rfl, rfl, rfl⟩ := mGo_inj h
              exact va_sld hx hb hXs (Nat.lt_of_lt_of_le hbl hg0) (by show ¬ g0 g ≤ gb g; omega) hS hin hdg (kk e1 ls H locs cells slots hl hD)
          · cases h
        · split at h
          · next hr9 =>
            split at h
            · next L f hM =>
              split at h
              · cases h
              · next hin =>
                obtain ⟨e1, rfl, rfl, rfl, rfl⟩ := mGo_inj h
                have hst : mTs g (.int i :: .ref r :: st1) = .int i :: .ref (g0 g + (r - 9)) :: mTs g st1 := by rw [mTs_cons, mTs9 hr9]; rfl
                rw [hst]
                exact va_iald hx hb hX.1 hP (r - 9) 0 (mW_get hM) rfl hin hdg (kk e1 ls H locs cells slots hl hD)
            · cases h
          · cases h
      · cases h
    · cases h
  · -- iastore
    split at h
    · next x i r st1 =>
      split at h
      · next hn =>
        obtain ⟨hn, hr9⟩ := hn
        subst hn
        split at h
        · next L f hM =>
          split at h
          · cases h
          · next hin =>
            obtain ⟨e1, rfl, rfl, rfl, rfl⟩ := mGo_inj h
            have hst : mTs g (.int x :: .int i :: .ref r :: st') = .int x :: .int i :: .ref (g0 g + (r - 9)) :: mTs g st' := by rw [mTs_cons, mTs_cons, mTs9 hr9]; rfl
            rw [hst]
            refine va_iast hx hb hX.1 hP (mW_D g M) hS (r - 9) 0 (mW_get hM) rfl hin hdg (fun H1 locs1 hP1 _ hS1 => ?_)
            refine mDy_go (M := M.set (r - 9) (.inl (L, upd f i.toNatClampNeg x))) hX hS ?_ hS1 (by rw [List.length_set]; exact hcl) (by rw [mSl_set M (r - 9) (.inl (L, f)) (.inl (L, upd f i.toNatClampNeg x)) hM rfl]; exact hsl) hz (fun hD' => kk e1 ls H1 locs1 cells slots hl hD')
            rw [mW_set]
            exact hP1
        · cases h
      · cases h
    · cases h
  · -- arraylength
    split at h
    · next r st1 =>
      split at h
      · next hn =>
        subst hn
        split at h
        · next hr0 =>
          subst hr0
          split at h
          · next L xs =>
            obtain ⟨hXs, hbl⟩ := hsc L xs rfl
            obtain ⟨e1, rfl, rfl, rfl, rfl⟩ := mGo_inj h
            exact va_slen hx hb hXs (Nat.lt_of_lt_of_le hbl hg0) (by show ¬ g0 g ≤ gb g; omega) hS hdg (kk e1 ls H locs cells slots hl hD)
          · cases h
        · split at h
          · next hr9 =>
            split at h
            · next L f hM =>
              obtain ⟨e1, rfl, rfl, rfl, rfl⟩ := mGo_inj h
              rw [mTs9 hr9]
              exact va_alen hx hb hX.1 hP (r - 9) 0 (mW_get hM) rfl rfl hdg (kk e1 ls H locs cells slots hl hD)
            · cases h
          · cases h
      · cases h
    · cases h
  · -- newarray
    split at h
    · next k st1 =>
      split at h
      · next hn =>
        obtain ⟨hn, hk0, hk1⟩ := hn
        subst hn
        obtain ⟨e1, rfl, rfl, rfl, rfl⟩ := mGo_inj h
        have hlen : (M ++ [Sum.inl (k.toNatClampNeg, fun _ => (0 : Int32))] : mHe).length = M.length + 1 := by simp
        have hsl2 : mSl (M ++ [Sum.inl (k.toNatClampNeg, fun _ => (0 : Int32))]) = mSl M + k.toNatClampNeg := mSl_app M _
        rw [hlen] at hrc
        rw [hsl2] at hrs
        refine va_newa (atype := .int) (ty := .int) (N' := k.toNatClampNeg) (a0 := (k.toNatClampNeg, .inl (fun _ => 0))) hx hb hai rfl hX.1 hP (mW_D g M) hS hA (fun _ => rfl) hk0 rfl (by show k.toNatClampNeg * 4 ≤ 536870912; omega) (by omega) (by omega) hdg (fun w cA H1 hK1 hP1 hD1 hS1 => ?_)
        have hcA : cA = gA g := by
          have h1 := va_RA_int (hK1.2 1 _ rfl).2
          have h2 := va_RA_int (hX.1.2 0 _ rfl).2
          exact Option.some.inj (h1.symm.trans h2)
        subst hcA
        refine W.sz fun hle => ?_
        have hw := mW_new hD1 hP1 (by omega)
        subst hw
        have ev : mTs g (.ref (9 + M.length) :: st1) = .ref (g0 g + M.length) :: mTs g st1 := by rw [mTs9 (by omega)]; congr 3; omega
        have hkk := kk e1 ls
        rw [ev] at hkk
        refine mDy_go (M := M ++ [Sum.inl (k.toNatClampNeg, fun _ => (0 : Int32))]) hX hS ?_ hS1 (by rw [hlen]; omega) (by rw [hsl2]; omega) hz (fun hD' => hkk H1 locs (cells + 1) (slots + k.toNatClampNeg) hl hD')
        rw [mW_app]
        exact hP1
      · cases h
    · cases h
  · -- new
    split at h
    · next o1 o2 ci v hR =>
      split at h
      · next qc tyf hcl' htf =>
        split at h
        · next hn =>
          subst hn
          obtain ⟨e1, rfl, rfl, rfl, rfl⟩ := mGo_inj h
          have ho := mjR_own hR
          have hw := mjR_words hR
          dsimp only at ho hw
          obtain ⟨rfl, hw⟩ := hw
          subst ho
          have hq : mjCl ci = qc := by rw [mjCl, hcl']; rfl
          obtain ⟨hty0, hnm0⟩ := mjCl_tys hcl' htf
          have w1 := hts _ (hw (.classLink (mjC q.2.2.2.2) _ (mjCl ci).1) (by simp [mjWords]; rfl))
          have w2 := hts _ (hw (.instantiable (mjCl ci).1 (mjCl ci).2.2) (by simp [mjWords]))
          have w3 := hts _ (hw (.initialized (mjCl ci).1) (by simp [mjWords]))
          rw [hq] at w1 w2 w3
          generalize hfs : (List.range qc.2.2).map (fun j => defaultValue (tyf j)) = fs at *
          have hfl : fs.length = qc.2.2 := by rw [← hfs]; simp
          have hlen : (M ++ [Sum.inr (ci, fs)] : mHe).length = M.length + 1 := by simp
          have hsl2 : mSl (M ++ [Sum.inr (ci, fs)]) = mSl M + fs.length := mSl_app M _
          rw [hlen] at hrc
          rw [hsl2] at hrs
          have hfd : mTs g fs = fs := by
            rw [← hfs, mTs, List.map_map]
            refine List.map_congr_left fun j _ => ?_
            show mTr g (defaultValue (tyf j)) = _
            cases tyf j <;> rfl
          refine va_new (ci := ci) (fs := fs) hx hb hts (mjCl_words hcl') tyf hty0 hown w1 w2 w3 hX.1 hP (mW_D g M) hS hA (by rw [hcl']) (fun j hj => ?_) (by omega) (by omega) hdg (fun w H1 hP1 hD1 hS1 => ?_)
          · show _ = fs.getD j .null
            rw [← hfs, List.getD_eq_getElem?_getD, List.getElem?_map, List.getElem?_range hj]; rfl
          · refine W.sz fun hle => ?_
            have hw2 := mW_new hD1 hP1 (by omega)
            subst hw2
            have ev : mTs g (.ref (9 + M.length) :: st) = .ref (g0 g + M.length) :: mTs g st := by rw [mTs9 (by omega)]; congr 3; omega
            have hkk := kk e1 ls
            rw [ev] at hkk
            rw [← hfl]
            refine mDy_go (M := M ++ [Sum.inr (ci, fs)]) hX hS ?_ hS1 (by rw [hlen]; omega) (by rw [hsl2]; omega) hz (fun hD' => hkk H1 locs (cells + 1) (slots + fs.length) hl hD')
            rw [mW_app]
            have e6 : mTc g (.inr (ci, fs)) = .inr (ci, fs) := by show Sum.inr (ci, mTs g fs) = _; rw [hfd]
            rw [e6]
            exact hP1
        · cases h
      · cases h
    · cases h
  · cases h
end MJB
end
section
/-! CONTRACTS OVER THE SMALL MACHINE's WORLDS, and calls -/
def mRm (d mc ms : Nat) : Room := { frames := d, cells := mc, slots := ms, locals := 300 * d }
def mEnd (g : mG) (M : mHe) (t : State) : Prop := t.heap.size = g0 g + M.length ∧ va_P (gD g) vwCl (mW g M) t.heap
def mPc (g : mG) (vs : List Value) (M : mHe) : Array Value → State → Prop := va_Pc (mTs g vs) (fun U => mEnd g M U ∧ mX g U U.heap)
def mQ (g : mG) (r : Option Value) (M : mHe) : Array Value → State → Outcome → State → Prop := match r with
  | none => va_Qv (fun _ : Unit => True) (fun _ t => mEnd g M t) (gO g)
  | some (.int v) => va_Qi (fun x (_ : Unit) => x = v) (fun _ t => mEnd g M t) (gO g)
  | some (.ref k) => va_Qr (fun _ : Unit => True) (fun _ a t => a = mAd g k ∧ mEnd g M t) (gO g)
  | _ => fun _ _ _ _ => False
theorem mX_call {g : mG} {U : State} {H : Heap} {jf : JFrame} {mk : MethodId} {a : Array Value} (h : mX g U H) : mX g (U.calling jf mk a) H :=
  ⟨va_K.moved (u := U) (U := U.calling jf mk a) (Vm.Alike.refl U.vm) h.1, fun w hw => va_Nw.same (u := U) (U := U.calling jf mk a) rfl rfl (h.2.1 w hw), fun w hw => vk_R.same (u := U) (U := U.calling jf mk a) rfl (h.2.2.1 w hw), vk_S.moved (u := U) (U := U.calling jf mk a) (Vm.Alike.refl U.vm) h.2.2.2.1, va_Z.moved (u := U) (U := U.calling jf mk a) (Vm.Alike.refl U.vm) h.2.2.2.2.1, h.2.2.2.2.2.imp fun z hz => va_Z.moved (u := U) (U := U.calling jf mk a) (Vm.Alike.refl U.vm) hz⟩
theorem mX_warm {g : mG} {s U : State} {H : Heap} (hW : s.WarmedH U.vm) (h : mX g s H) : mX g U H :=
  ⟨va_K.moved hW.alike h.1, fun w hw => va_Nw.warmM hW (h.2.1 w hw), fun w hw => vk_R.warm hW (h.2.2.1 w hw), vk_S.moved hW.alike h.2.2.2.1, va_Z.moved hW.alike h.2.2.2.2.1, h.2.2.2.2.2.imp fun z hz => va_Z.moved hW.alike hz⟩
theorem mPc_blind (g : mG) (vs : List Value) (M : mHe) : FrameBlind (mPc g vs M) := fun a U jf mk q => ⟨q.1, q.2.1, mX_call q.2.2⟩
theorem lv_args_tr (g : mG) : ∀ (vs : List Value) (k : Nat), lv_args k (mTs g vs) = mTl g (lv_args k vs) := by
  intro vs
  induction vs with
  | nil => intro k; rfl
  | cons v vs ih =>
    intro k
    rw [mTs_cons, lv_args, lv_args, ih, mTr_cat]
    rfl
theorem lg_sl_tr (g : mG) (vs : List Value) : (lg_sl (mTs g vs)).length = (lg_sl vs).length := by
  induction vs with
  | nil => rfl
  | cons v vs ih =>
    rw [mTs_cons]
    simp only [lg_sl, List.flatMap_cons, List.length_append, mTr_cat] at ih ⊢
    rw [ih]
    split <;> rfl
set_option maxHeartbeats 4000000 in
/-- a method's contract out of its walk -/
theorem mMet {l : Launch} {g : mG} {q : mMd} {d mc ms : Nat} {vs : List Value} {M M' : mHe} {r : Option Value} (hpl : Jvm.plainName q.1.cls = true) (hown : mjC q.2.2.2.2 = q.1.cls) (hlen : (lg_sl vs).length ≤ q.2.2.1)
    (body : ∀ (p : Program) (e : Env) (s : State) (m : MethodId) (below : List Frame) (meth : Method) (c : Code) (ls : Array Slot), mFx g p s m (mTs g vs).toArray meth c (mRm d mc ms) d q → mDy g s s.heap [] M 0 0 M.length (mSl M) → lv_has ls q.2.2.1 (mTl g (lv_args 0 vs)) →
      W p l e (mRm d mc ms) s m (mTs g vs).toArray below meth c s.heap [] 0 0 (MQ below (mQ g r M') (mTs g vs).toArray s mc ms (gO g)) (F0 m 0 ls [])) :
    Met l q.1 (mjMw q :: mjT) (mRm d mc ms) (mPc g vs M) (mQ g r M') mc ms (gO g) := by
  refine Met.ofW (cc := q.2.1) (maxL := q.2.2.1) (ret := q.2.2.2.1) hpl rfl ?_
  intro p e s m args below meth c s₁ B hml hv
  obtain ⟨rfl, ⟨hsz, hP⟩, hX⟩ := hv
  have hts := atoms_spec (ws := mjMw q :: mjT) B.pre
  have ho : s.vm.findClass q.1.cls = some m.cls := findClass_of_methodNamed B.named
  have hl := lv_entry (mTs g vs) (n := q.2.2.1) (by rw [lg_sl_tr]; exact hlen)
  rw [lg_entry_eq]
  rw [lv_args_tr] at hl
  exact body p e s m below meth c _ ⟨B.exec, B.bytes, hml, by rw [hown]; exact ho, fun w hw => hts w (List.mem_cons_of_mem _ hw), B.returns, B.notSynchronized, fun h => by rw [← h]; exact (name_of_methodNamed B.named B.method).1, Nat.le_refl _, Nat.le_refl _⟩ ⟨hsz, hP, va_S.rf, hX, by omega, by omega, hsz⟩ hl
section MJC
variable {p : Program} {l : Launch} {e : Env} {R : Room} {s : State} {m : MethodId} {args : Array Value} {below : List Frame} {meth : Method} {c : Code} {H : Heap} {locs : List Loc} {cells slots k0 s0 mc ms : Nat} {Q : State → Prop}
variable {g : mG} {d : Nat} {q : mMd} {y y' pc pc' n : Nat} {lv lv' : List (Nat × Value)} {st st' : List Value} {M M' M1 : mHe} {i : Instr} {ls : Array Slot} {r : Option Value}
set_option maxHeartbeats 4000000 in
/-- a method's end -/
theorem mRet (F : mFx g p s m args meth c R d q) (hD : mDy g s H locs M cells slots k0 s0) (hdg : decode q.2.1 pc = .ok (i, n)) (h : mOp7 q.2.2.2.1 n st i = some (.inr (.inr r))) :
    W p l e R s m args below meth c H locs cells slots (MQ below (mQ g r M) args s cells slots (gO g)) (F0 m pc ls (mTs g st)) := by
  obtain ⟨hx, hb, hml, hown, hts, hr, hlk, hnm, hfr, hlo⟩ := F
  obtain ⟨hsz, hP, hS, hX, hcl, hsl, hz⟩ := hD
  unfold mOp7 at h
  split at h
  · next hn =>
    subst hn
    split at h
    · next v ty hty =>
      split at h
      · next hnr =>
        simp only [Option.some.injEq, Sum.inr.injEq] at h
        subst h
        exact W.zret hx hb (by rw [hr]; exact hty) hnr (fun t ht hW => ⟨⟨v, (), rfl, rfl, ⟨by rw [ht]; exact hsz, by rw [ht]; exact hP⟩⟩, hS.F ht⟩) hS.2.2 hdg hlk
      · cases h
    · next hty =>
      simp only [Option.some.injEq, Sum.inr.injEq] at h
      subst h
      exact W.vret hx hb (by rw [hr]; exact hty) (fun t ht hW => ⟨⟨(), rfl, trivial, ⟨by rw [ht]; exact hsz, by rw [ht]; exact hP⟩⟩, hS.F ht⟩) hS.2.2 hdg hlk
    · next a nm hty =>
      simp only [Option.some.injEq, Sum.inr.injEq] at h
      subst h
      exact W.aret hx hb (by rw [hr]; exact hty) (Or.inl ⟨nm, rfl⟩) (Or.inr ⟨mAd g a, rfl⟩) (fun t ht hW => ⟨⟨(), mAd g a, rfl, trivial, rfl, ⟨by rw [ht]; exact hsz, by rw [ht]; exact hP⟩⟩, hS.F ht⟩) hS.2.2 hdg hlk
    · cases h
  · cases h
set_option maxHeartbeats 4000000 in
/-- behind a call -/
theorem mRunW {st0 rest : List Value} {a : Array Value} (hr : va_Run p l e R s m args below meth c H locs cells slots mc ms (F0 m pc ls st0) rest (mQ g r M1 a) (gO g)) (hD : mDy g s H locs M cells slots k0 s0) (hc : mc + M.length = M1.length) (hs : ms + mSl M = mSl M1)
    (kk : ∀ (H1 : Heap) (locs1 : List Loc), mDy g s H1 locs1 M1 (cells + mc) (slots + ms) k0 s0 → W p l e R s m args below meth c H1 locs1 (cells + mc) (slots + ms) Q (F0 m (pc + 3) ls (mTs g r.toList ++ rest))) :
    W p l e R s m args below meth c H locs cells slots Q (F0 m pc ls st0) := by
  obtain ⟨hsz, hP, hS, hX, hcl, hsl, hz⟩ := hD
  have hg : g0 g ≤ s.heap.size := by omega
  have go : ∀ (t : State) (H1 : Heap) (locs1 : List Loc), t.heap = H1 → mEnd g M1 t → va_S (gO g) s.heap H1 locs1 → mDy g s H1 locs1 M1 (cells + mc) (slots + ms) k0 s0 := by
    intro t H1 locs1 ht hE hS1
    subst ht
    exact ⟨hE.1, hE.2, hS1, mX_kept hX (mDy_keep hS hS1 hg), by omega, by omega, hz⟩
  unfold mQ at hr
  split at hr
  · exact va_callv hr hS (fun q _ h => h) (fun q h => h) (fun u t H1 locs1 ht _ _ hE _ _ hS1 => kk H1 locs1 (go t H1 locs1 ht hE hS1))
  · exact va_calli hr hS (fun q _ h => h) (fun q h => h) (fun v u t H1 locs1 ht _ hv hE _ _ hS1 => by subst hv; exact kk H1 locs1 (go t H1 locs1 ht hE hS1))
  · exact va_callr hr hS (fun q _ h => h) (fun q h => h) (fun u ra t H1 locs1 ht _ _ hE _ _ hS1 => by rw [hE.1]; exact kk H1 locs1 (go t H1 locs1 ht hE.2 hS1))
  · intro T hT X
    obtain ⟨v, st₀, t, T', L, h0, X', hL, e1, e2, hF, stt⟩ := hr T hT X
    exact hF.elim
/-- what a call needs of the world -/
theorem mPreS {vs : List Value} (hD : mDy g s H locs M cells slots k0 s0) : PreS s H (mPc g vs M) (mTs g vs) := by
  obtain ⟨hsz, hP, hS, hX, hcl, hsl, hz⟩ := hD
  refine ⟨mPc_blind g vs M, fun U hU hW => ⟨rfl, ⟨by rw [hU]; exact hsz, by rw [hU]; exact hP⟩, ?_⟩⟩
  rw [hU]
  exact mX_warm hW hX
end MJC
end
section
/-! String.length of a text: its contract -/
theorem mGood {ws : List Cond} (h : ∀ w ∈ ws, w ∈ mjT) : GoodIn mjT ws := fun w hw => ⟨h w hw, good_of_word (List.mem_filter.mp (h w hw)).2⟩
theorem mjJ_d0 : decode mjQ_coder.2.1 0 = .ok (.getstatic 38, 3) := by decide +kernel
theorem mjJ_d3 : decode mjQ_coder.2.1 3 = .ok (.ifCond .eq 10, 3) := by decide +kernel
theorem mjJ_d6 : decode mjQ_coder.2.1 6 = .ok (.aload_n 0, 1) := by decide +kernel
theorem mjJ_d7 : decode mjQ_coder.2.1 7 = .ok (.getfield 15, 3) := by decide +kernel
theorem mjJ_d10 : decode mjQ_coder.2.1 10 = .ok (.goto 4, 3) := by decide +kernel
theorem mjJ_d14 : decode mjQ_coder.2.1 14 = .ok (.ireturn, 1) := by decide +kernel
theorem mjL_d0 : decode mjQ_length.2.1 0 = .ok (.aload_n 0, 1) := by decide +kernel
theorem mjL_d1 : decode mjQ_length.2.1 1 = .ok (.getfield 9, 3) := by decide +kernel
theorem mjL_d4 : decode mjQ_length.2.1 4 = .ok (.arraylength, 1) := by decide +kernel
theorem mjL_d5 : decode mjQ_length.2.1 5 = .ok (.aload_n 0, 1) := by decide +kernel
theorem mjL_d6 : decode mjQ_length.2.1 6 = .ok (.invokevirtual 335, 3) := by decide +kernel
theorem mjL_d9 : decode mjQ_length.2.1 9 = .ok (.ishr, 1) := by decide +kernel
theorem mjL_d10 : decode mjQ_length.2.1 10 = .ok (.ireturn, 1) := by decide +kernel
theorem mAdS {g : mG} {i : Nat} (h : i < 8) : mAd g (1 + i) = gK g i := by rw [mAd, if_neg (by omega), if_pos (by omega), show 1 + i - 1 = i by omega]
theorem mjNarB : narrow .byte (.int 0) = .int 0 := by decide +kernel
theorem mjShr : ∀ k ∈ mjLen, Int32.ofNat k >>> ((0 : Int32) &&& 31) = Int32.ofNat k := by decide +kernel
set_option maxHeartbeats 4000000 in
theorem mMet_coder (l : Launch) (g : mG) (d i : Nat) (hi : i < 8) (M : mHe) : Met l yJ0_coder_7d493 (mjMw mjQ_coder :: mjT) (mRm d 0 0) (mPc g [.ref (1 + i)] M) (mQ g (some (.int 0)) M) 0 0 (gO g) := by
  refine mMet (q := mjQ_coder) (by decide +kernel) rfl (Nat.le_of_ble_eq_true rfl) ?_
  intro p e s m below meth c ls F hD hl
  obtain ⟨hx, hb, hml, hown, hts, hr, hlk, hnm, hfr, hlo⟩ := id F
  obtain ⟨hsz, hP, hS, hX, hcl, hsl, hz⟩ := id hD
  have hl2 : lv_has ls 1 [(0, .ref (gK g i))] := by
    have h : mTl g (lv_args 0 [.ref (1 + i)]) = [(0, .ref (gK g i))] := by
      show [(0, Value.ref (mAd g (1 + i)))] = _
      rw [mAdS hi]
    rw [h] at hl
    exact hl
  have hin : ∀ w ∈ mjJw, w.before (mTs g [.ref (1 + i)]).toArray s = true := fun w hw => hts w (mjJw_in w hw)
  refine va_gets hx hb hX.2.2.2.2.1 hS hown (hin _ (List.mem_of_getElem? (i := 0) rfl)) (fun x h => h) mjJ_d0 ?_
  refine lv_if_eq (tgt := 13) hx hb mjJ_d3 (by decide) (fun z => absurd z (by decide)) (fun _ => ?_)
  refine lv_aload_n hx hb mjJ_d6 rfl (lv_at hl2 0 rfl) ?_
  refine vk_getf hx hb (hX.2.2.2.1.1 i hi).2.1 hS hown (hin _ (List.mem_of_getElem? (i := 1) rfl)) (fun x h => h) mjJ_d7 ?_
  refine lv_goto (tgt := 14) hx hb mjJ_d10 (by decide) ?_
  exact mRet (st := [.int 0]) (q := mjQ_coder) F hD mjJ_d14 (by simp only [mOp7, mjQ_coder, if_pos, mjNarB])
set_option maxHeartbeats 4000000 in
theorem mMet_length (l : Launch) (g : mG) (d i k : Nat) (hd : 2 ≤ d) (hk : mjLen[i]? = some k) (M : mHe) : Met l yJ0_length_8abf5 (mjMw mjQ_length :: mjT) (mRm d 0 0) (mPc g [.ref (1 + i)] M) (mQ g (some (.int (Int32.ofNat k))) M) 0 0 (gO g) := by
  have hi : i < 8 := (List.getElem?_eq_some_iff.mp hk).1
  refine mMet (q := mjQ_length) (by decide +kernel) rfl (Nat.le_of_ble_eq_true rfl) ?_
  intro p e s m below meth c ls F hD hl
  obtain ⟨hx, hb, hml, hown, hts, hr, hlk, hnm, hfr, hlo⟩ := id F
  obtain ⟨hsz, hP, hS, hX, hcl, hsl, hz⟩ := id hD
  have hl2 : lv_has ls 1 [(0, .ref (gK g i))] := by
    have h : mTl g (lv_args 0 [.ref (1 + i)]) = [(0, .ref (gK g i))] := by
      show [(0, Value.ref (mAd g (1 + i)))] = _
      rw [mAdS hi]
    rw [h] at hl
    exact hl
  have hin : ∀ w ∈ mjJw, w.before (mTs g [.ref (1 + i)]).toArray s = true := fun w hw => hts w (mjJw_in w hw)
  refine lv_aload_n hx hb mjL_d0 rfl (lv_at hl2 0 rfl) ?_
  refine vk_getf hx hb (hX.2.2.2.1.1 i hi).2.2.1 hS hown (hin _ (List.mem_of_getElem? (i := 2) rfl)) (fun x h => h) mjL_d1 ?_
  refine va_tlen hx hb (hX.2.2.2.1.1 i hi).2.2.2 hS rfl mjL_d4 ?_
  refine lv_aload_n hx hb mjL_d5 rfl (lv_at hl2 0 rfl) ?_
  have hkk : mjLen.getD i 0 = k := by rw [List.getD_eq_getElem?_getD, hk]; rfl
  rw [hkk]
  have hst : (.ref (gK g i) :: .int (Int32.ofNat k) :: [] : List Value) = ([] : List Value).reverse ++ .ref (gK g i) :: [.int (Int32.ofNat k)] := rfl
  obtain ⟨cellB, hcB, hoB, hclB, -⟩ := (hX.2.2.2.1.1 i hi).1
  have hPre := mPreS (vs := [.ref (1 + i)]) hD
  have e0 : mTs g [.ref (1 + i)] = [.ref (gK g i)] := by
    show [Value.ref (mAd g (1 + i))] = _
    rw [mAdS hi]
  rw [e0] at hPre
  have hG : GoodIn mjT (wsV RJ0 335 RJ0 yJ0_coder_7d493 (mjMw mjQ_coder :: mjT)) := mGood (fun w hw => by
    rcases List.mem_append.mp hw with h | h
    · exact mjJw_in w (List.mem_cons_of_mem _ (List.mem_cons_of_mem _ (List.mem_cons_of_mem _ h)))
    · rcases List.mem_cons.mp h with rfl | h
      · exact mjQ_coder_in
      · exact h)
  have hR := va_runV (R := mRm d 0 0) (cells := 0) (slots := 0) (C := RJ0) (b := gK g i) (As := []) (rest := [.int (Int32.ofNat k)]) (g := F0 m 6 ls (.ref (gK g i) :: [.int (Int32.ofNat k)])) (mc := 0) (ms := 0) (below := below) (meth := meth) (e := e) (H := s.heap) (locs := []) ⟨hx, hb, hml, hown, hts⟩ (mMet_coder l g 1 i hi M) (cwV 0 hts hG rfl rfl rfl (by decide +kernel) ⟨by show 1 + 1 ≤ d; omega, by show 8 + (1 + 11) + 300 * 1 ≤ 300 * d; omega⟩) ⟨hPre.1, ⟨cellB, hcB, hoB, hclB⟩, hPre.2⟩ rfl rfl hl.1 rfl (lv_room (Nat.le_of_ble_eq_true rfl)) mjL_d6 ⟨Nat.le_of_ble_eq_true rfl, Nat.le_of_ble_eq_true rfl⟩
  refine mRunW hR hD (by omega) (by omega) (fun H1 locs1 hD1 => ?_)
  refine lv_ishr hx hb mjL_d9 ?_
  rw [mjShr k (List.mem_of_getElem? hk)]
  exact mRet (st := [.int (Int32.ofNat k)]) (q := mjQ_length) F hD1 mjL_d10 (by simp [mOp7, mjQ_length, narrow])
theorem mMet_charAt (l : Launch) (g : mG) (d i : Nat) (hd : 5 ≤ d) (hi : i < 8) {ix b : Int32} (h0 : ¬ ix < 0) (hb : ((mjByt[i]?).getD [])[ix.toNatClampNeg]? = some b) (M : mHe) : Met l yJ0_charAt_5068e (mjMw mjQ_charAt :: mjT) (mRm d 0 0) (mPc g [.ref (1 + i), .int ix] M) (mQ g (some (.int b)) M) 0 0 (gO g) := sorry
end
section
/-! WHAT THE SMALL MACHINE DOES, THE REAL ONE DOES -/
section MJR
variable {p : Program} {l : Launch} {e : Env} {R : Room} {s : State} {m : MethodId} {args : Array Value} {below : List Frame} {meth : Method} {c : Code} {H : Heap} {locs : List Loc} {cells slots k0 s0 : Nat} {Q : State → Prop}
variable {g : mG} {d : Nat} {q : mMd} {y y' pc pc' n : Nat} {lv lv' : List (Nat × Value)} {st st' : List Value} {M M' : mHe} {i : Instr} {ls : Array Slot}
theorem mEq2 {a b : List Cond} (ha : ∀ w ∈ a, w ∈ mjT) (hb : ∀ w ∈ b, w ∈ mjT) : GoodIn mjT (a ++ b) := mGood (fun w hw => (List.mem_append.mp hw).elim (ha w) (hb w))
set_option maxHeartbeats 4000000 in
/-- calls that the small machine answers itself -/
theorem mOp6_W (F : mFx g p s m args meth c R d q) (hdg : decode q.2.1 pc = .ok (i, n)) (hl : lv_has ls q.2.2.1 (mTl g lv))
    (hD : mDy g s H locs M cells slots k0 s0) (hrc : M.length ≤ R.cells + k0) (hrs : mSl M ≤ R.slots + s0)
    (h : mOp6 d q.2.2.2.2 y pc n lv st M i = some (.inl ((y', pc', lv', st'), M')))
    (kk : y' = y → ∀ (ls' : Array Slot) (H' : Heap) (locs' : List Loc) (cells' slots' : Nat), lv_has ls' q.2.2.1 (mTl g lv') → mDy g s H' locs' M' cells' slots' k0 s0 → W p l e R s m args below meth c H' locs' cells' slots' Q (F0 m pc' ls' (mTs g st'))) : W p l e R s m args below meth c H locs cells slots Q (F0 m pc ls (mTs g st)) := by
  obtain ⟨hx, hb, hml, hown, hts, hr, hlk, hnm, hfr, hlo⟩ := F
  obtain ⟨hsz, hP, hS, hX, hcl, hsl, hz⟩ := id hD
  have hcall : ∀ {y2 pc2 : Nat} {lv2 : List (Nat × Value)} {rest : List Value} {N : mHe} {y3 : Nat} {vs : List Value} {x : mFr × mHe}, mCall y2 pc2 lv2 rest N y3 vs ≠ some (.inl x) := by
    intro y2 pc2 lv2 rest N y3 vs x hh
    unfold mCall at hh
    split at hh
    · cases hh
    · split at hh <;> cases hh
  unfold mOp6 at h
  split at h
  · -- invokevirtual
    split at h
    · next hn =>
      subst hn
      split at h
      · split at h
        · cases h
        · split at h
          · split at h
            · split at h
              · split at h
                · exact absurd h hcall
                · cases h
              · cases h
            · cases h
          · cases h
      · next o1 o2 o3 o4 hR =>
        split at h
        · next r rest =>
          split at h
          · next hc =>
            obtain ⟨h1, h2, h3, h4⟩ := hc
            split at h
            · next k hk =>
              obtain ⟨e1, rfl, rfl, rfl, rfl⟩ := mGo_inj h
              have ho := mjR_own hR
              have hw := mjR_words hR
              dsimp only at ho hw
              obtain ⟨rfl, hw⟩ := hw
              subst ho
              have h1 : (1 : Nat) ≤ (r : Nat) := h1
              have h2 : (r : Nat) < (9 : Nat) := h2
              obtain ⟨j, hj⟩ : ∃ j : Nat, j = r - 1 := ⟨_, rfl⟩
              have hr1 : r = 1 + j := by rw [hj]; exact (Nat.add_sub_cancel' h1).symm
              have hi : j < 8 := by rw [hj]; exact Nat.sub_lt_left_of_lt_add h1 h2
              rw [← hj] at hk
              subst hr1
              clear hj
              have e0 : ∀ t : List Value, mTs g (.ref (1 + j) :: t) = .ref (gK g j) :: mTs g t := by
                intro t
                show Value.ref (mAd g (1 + j)) :: _ = _
                rw [mAdS hi]; rfl
              have hPre := mPreS (vs := [.ref (1 + j)]) hD
              rw [e0] at hPre
              rw [e0]
              obtain ⟨cellB, hcB, hoB, hclB, -⟩ := (hX.2.2.2.1.1 j hi).1
              have hG : GoodIn mjT (wsV (mjC q.2.2.2.2) o2 mjYlen.cls mjYlen (mjMw mjQ_length :: mjT)) := mEq2 (fun w hw2 => hw w hw2) (fun w hw2 => by
                rcases List.mem_cons.mp hw2 with rfl | hw2
                · exact mjQ_length_in
                · exact hw2)
              have hRun := va_runV (R := R) (cells := cells) (slots := slots) (C := mjYlen.cls) (b := gK g j) (As := []) (rest := mTs g rest) (g := F0 m pc ls (.ref (gK g j) :: mTs g rest)) (mc := 0) (ms := 0) (below := below) (meth := meth) (e := e) (H := H) (locs := locs) ⟨hx, hb, hml, hown, hts⟩ (mMet_length l g 2 j k (Nat.le_refl _) hk M') (cwV 0 hts hG rfl rfl rfl (by decide +kernel) ⟨by show 2 + 1 ≤ R.frames; omega, by show 8 + (1 + 11) + 300 * 2 ≤ R.locals; omega⟩) ⟨hPre.1, ⟨cellB, hcB, hoB, hclB⟩, hPre.2⟩ rfl rfl hl.1 rfl (lv_room (by rw [mTs_cat]; exact h3)) hdg ⟨by omega, by omega⟩
              exact mRunW hRun hD (by omega) (by omega) (fun H1 locs1 hD1 => kk e1 ls H1 locs1 (cells + 0) (slots + 0) hl hD1)
            · cases h
          · cases h
        · cases h
      · next o1 o2 o3 o4 hR =>
        split at h
        · next ix r rest =>
          split at h
          · next hc =>
            obtain ⟨h1, h2, h3, h4, h5⟩ := hc
            split at h
            · next b hb1 =>
              obtain ⟨e1, rfl, rfl, rfl, rfl⟩ := mGo_inj h
              have ho := mjR_own hR
              have hw := mjR_words hR
              dsimp only at ho hw
              obtain ⟨rfl, hw⟩ := hw
              subst ho
              have h1 : (1 : Nat) ≤ (r : Nat) := h1
              have h2 : (r : Nat) < (9 : Nat) := h2
              obtain ⟨j, hj⟩ : ∃ j : Nat, j = r - 1 := ⟨_, rfl⟩
              have hr1 : r = 1 + j := by rw [hj]; exact (Nat.add_sub_cancel' h1).symm
              have hi : j < 8 := by rw [hj]; exact Nat.sub_lt_left_of_lt_add h1 h2
              rw [← hj] at hb1
              subst hr1
              clear hj
              have e0 : ∀ t : List Value, mTs g (.ref (1 + j) :: t) = .ref (gK g j) :: mTs g t := by
                intro t
                show Value.ref (mAd g (1 + j)) :: _ = _
                rw [mAdS hi]; rfl
              have hPre := mPreS (vs := [.ref (1 + j), .int ix]) hD
              have e1' : mTs g [.int ix] = [.int ix] := rfl
              rw [e0, e1'] at hPre
              have e2 : mTs g (.int ix :: .ref (1 + j) :: rest) = ([.int ix] : List Value).reverse ++ .ref (gK g j) :: mTs g rest := by
                show Value.int ix :: mTs g (.ref (1 + j) :: rest) = _
                rw [e0]; rfl
              obtain ⟨cellB, hcB, hoB, hclB, -⟩ := (hX.2.2.2.1.1 j hi).1
              have hG : GoodIn mjT (wsV (mjC q.2.2.2.2) o2 mjYchr.cls mjYchr (mjMw mjQ_charAt :: mjT)) := mEq2 (fun w hw2 => hw w hw2) (fun w hw2 => by
                rcases List.mem_cons.mp hw2 with rfl | hw2
                · exact mjQ_charAt_in
                · exact hw2)
              have hRun := va_runV (R := R) (cells := cells) (slots := slots) (C := mjYchr.cls) (b := gK g j) (As := [.int ix]) (rest := mTs g rest) (g := F0 m pc ls (mTs g (.int ix :: .ref (1 + j) :: rest))) (mc := 0) (ms := 0) (below := below) (meth := meth) (e := e) (H := H) (locs := locs) ⟨hx, hb, hml, hown, hts⟩ (mMet_charAt l g 5 j (Nat.le_refl _) hi h5 hb1 M') (cwV 1 hts hG rfl rfl rfl (by decide +kernel) ⟨by show 5 + 1 ≤ R.frames; omega, by show 8 + (2 + 11) + 300 * 5 ≤ R.locals; omega⟩) ⟨hPre.1, ⟨cellB, hcB, hoB, hclB⟩, hPre.2⟩ rfl rfl hl.1 e2 (lv_room (by rw [mTs_cat]; exact h3)) hdg ⟨by omega, by omega⟩
              exact mRunW hRun hD (by omega) (by omega) (fun H1 locs1 hD1 => kk e1 ls H1 locs1 (cells + 0) (slots + 0) hl hD1)
            · cases h
          · cases h
        · cases h
      · cases h
    · cases h
  · -- invokestatic
    split at h
    · next hn =>
      subst hn
      split at h
      · split at h
        · cases h
        · split at h
          · exact absurd h hcall
          · cases h
      · split at h
        · cases h
        · split at h
          · exact absurd h hcall
          · cases h
      · next o1 o2 o3 o4 hR =>
        split at h
        · next b a rest =>
          split at h
          · next hc =>
            obtain ⟨h1, h2⟩ := hc
            obtain ⟨e1, rfl, rfl, rfl, rfl⟩ := mGo_inj h
            have ho := mjR_own hR
            have hw := mjR_words hR
            dsimp only at ho hw
            obtain ⟨rfl, hw⟩ := hw
            subst ho
            have hin := fun w hw2 => hts w (hw w hw2)
            exact va_mmax (rest := mTs g rest) hx hb (by rw [hml, hl.1]) hown (hin _ (List.mem_of_getElem? (i := 0) rfl)) (hin _ (List.mem_of_getElem? (i := 1) rfl)) (hin _ (List.mem_of_getElem? (i := 2) rfl)) (hin _ (List.mem_of_getElem? (i := 3) rfl)) (by omega) (by rw [mTs_cat]; omega) (by omega) (by omega) hdg (kk e1 ls H locs cells slots hl hD)
          · cases h
        · cases h
      · next o1 o2 o3 o4 hR =>
        split at h
        · next b a rest =>
          split at h
          · next hc =>
            obtain ⟨h1, h2⟩ := hc
            obtain ⟨e1, rfl, rfl, rfl, rfl⟩ := mGo_inj h
            have ho := mjR_own hR
            have hw := mjR_words hR
            dsimp only at ho hw
            obtain ⟨rfl, hw⟩ := hw
            subst ho
            have hin := fun w hw2 => hts w (hw w hw2)
            exact va_mmin (rest := mTs g rest) hx hb (by rw [hml, hl.1]) hown (hin _ (List.mem_of_getElem? (i := 0) rfl)) (hin _ (List.mem_of_getElem? (i := 1) rfl)) (hin _ (List.mem_of_getElem? (i := 2) rfl)) (hin _ (List.mem_of_getElem? (i := 3) rfl)) (by omega) (by rw [mTs_cat]; omega) (by omega) (by omega) hdg (kk e1 ls H locs cells slots hl hD)
          · cases h
        · cases h
      · cases h
    · cases h
  · -- invokespecial
    split at h
    · next hn =>
      subst hn
      split at h
      · split at h
        · cases h
        · split at h
          · split at h
            · exact absurd h hcall
            · cases h
          · cases h
      · split at h
        · cases h
        · split at h
          · split at h
            · exact absurd h hcall
            · cases h
          · cases h
      · next o1 o2 o3 o4 hR =>
        split at h
        · next r rest =>
          split at h
          · next hc =>
            obtain ⟨h1, h2⟩ := hc
            obtain ⟨e1, rfl, rfl, rfl, rfl⟩ := mGo_inj h
            have ho := mjR_own hR
            have hw := mjR_words hR
            dsimp only at ho hw
            obtain ⟨rfl, hw⟩ := hw
            subst ho
            have hin := fun w hw2 => hts w (hw w hw2)
            refine W.objInit (a := mAd g r) (rest := mTs g st') hx hb hown (hin _ (List.mem_of_getElem? (i := 0) rfl)) (hin _ (List.mem_of_getElem? (i := 1) rfl)) (hin _ (List.mem_of_getElem? (i := 2) rfl)) rfl (by rw [hml, ← hl.1]) rfl hdg (by omega) (by
              show 2 * 0 + _ + 12 ≤ R.locals
              rw [mTs_cat]; omega) ?_
            exact kk e1 ls H locs cells slots hl hD
          · cases h
        · cases h
      · cases h
    · cases h
  · cases h
end MJR
end
section
theorem mGo_M {y pc : Nat} {lv : List (Nat × Value)} {st : List Value} {M : mHe} {x : mFr × mHe} (h : mGo y pc lv st M = some (.inl x)) : x.2 = M := by
  simp only [mGo, Option.some.injEq, Sum.inl.injEq] at h
  rw [← h]
theorem mBr_M {y pc : Nat} {off : Int} {lv : List (Nat × Value)} {st : List Value} {M : mHe} {x : mFr × mHe} (h : mBr y pc off lv st M = some (.inl x)) : x.2 = M := by
  unfold mBr at h
  split at h
  · cases h
  · exact mGo_M h
theorem mOr_or {a b : mRes} {x : (mFr × mHe) ⊕ ((Nat × List Value × mFr) ⊕ Option Value)} (h : mOr a b = some x) : a = some x ∨ b = some x := by
  unfold mOr at h
  split at h
  · exact Or.inl h
  · exact Or.inr h
section MJM
variable {own d y pc n nL : Nat} {lv : List (Nat × Value)} {st : List Value} {M : mHe} {i : Instr} {x : mFr × mHe} {sc : Option (Nat × (Nat → Int32))} {ini : Bool} {z : (Nat × List Value × mFr) ⊕ Option Value} {rt : Option FieldType}
theorem mGo_no {pc' : Nat} {lv' : List (Nat × Value)} {st' : List Value} (h : mGo y pc' lv' st' M = some (.inr z)) : False := by
  simp [mGo] at h
theorem mBr_no {pc' : Nat} {off : Int} {lv' : List (Nat × Value)} {st' : List Value} (h : mBr y pc' off lv' st' M = some (.inr z)) : False := by
  unfold mBr at h
  split at h
  · cases h
  · exact mGo_no h
set_option maxHeartbeats 4000000 in
theorem mOp1_M (h : mOp1 own y pc n lv st M i = some (.inl x)) : x.2 = M := by
  unfold mOp1 at h
  split at h <;> (try split at h) <;> (try split at h) <;> first | exact mGo_M h | cases h
set_option maxHeartbeats 4000000 in
theorem mOp2_M (h : mOp2 nL y pc n lv st M i = some (.inl x)) : x.2 = M := by
  unfold mOp2 at h
  split at h <;> (try split at h) <;> (try split at h) <;> first | exact mGo_M h | cases h
set_option maxHeartbeats 4000000 in
theorem mOp3_M (h : mOp3 y pc n lv st M i = some (.inl x)) : x.2 = M := by
  unfold mOp3 at h
  split at h <;> (try split at h) <;> (try split at h) <;> first | exact mGo_M h | cases h
set_option maxHeartbeats 4000000 in
theorem mOp4_M (h : mOp4 y pc n lv st M i = some (.inl x)) : x.2 = M := by
  unfold mOp4 at h
  split at h <;> (try split at h) <;> (try split at h) <;> (try split at h) <;> (try split at h) <;> first | exact mGo_M h | exact mBr_M h | cases h
set_option maxHeartbeats 4000000 in
theorem mOp1_no (h : mOp1 own y pc n lv st M i = some (.inr z)) : False := by
  unfold mOp1 at h
  split at h <;> (try split at h) <;> (try split at h) <;> first | exact mGo_no h | cases h
set_option maxHeartbeats 4000000 in
theorem mOp2_no (h : mOp2 nL y pc n lv st M i = some (.inr z)) : False := by
  unfold mOp2 at h
  split at h <;> (try split at h) <;> (try split at h) <;> first | exact mGo_no h | cases h
set_option maxHeartbeats 4000000 in
theorem mOp3_no (h : mOp3 y pc n lv st M i = some (.inr z)) : False := by
  unfold mOp3 at h
  split at h <;> (try split at h) <;> (try split at h) <;> first | exact mGo_no h | cases h
set_option maxHeartbeats 4000000 in
theorem mOp4_no (h : mOp4 y pc n lv st M i = some (.inr z)) : False := by
  unfold mOp4 at h
  split at h <;> (try split at h) <;> (try split at h) <;> (try split at h) <;> (try split at h) <;> first | exact mGo_no h | exact mBr_no h | cases h
theorem mCall_no {pc' y' : Nat} {lv' : List (Nat × Value)} {st' vs : List Value} (h : mCall y pc' lv' st' M y' vs = some (.inl x)) : False := by
  unfold mCall at h
  split at h
  · cases h
  · split at h <;> cases h
set_option maxHeartbeats 4000000 in
theorem mOp6_M (h : mOp6 d own y pc n lv st M i = some (.inl x)) : x.2 = M := by
  unfold mOp6 at h
  split at h <;> (try split at h) <;> (try split at h) <;> (try split at h) <;> (try split at h) <;> (try split at h) <;> (try split at h) <;> (try split at h) <;> first | exact mGo_M h | exact (mCall_no h).elim | cases h
theorem mOp7_no (h : mOp7 rt n st i = some (.inl x)) : False := by
  unfold mOp7 at h
  split at h
  · split at h
    · split at h <;> cases h
    · cases h
    · cases h
    · cases h
  · cases h
set_option maxHeartbeats 4000000 in
theorem mOp5_len (h : mOp5 sc ini own y pc n lv st M i = some (.inl x)) : M.length ≤ x.2.length ∧ mSl M ≤ mSl x.2 := by
  have keep : ∀ N : mHe, x.2 = N → N = M → M.length ≤ x.2.length ∧ mSl M ≤ mSl x.2 := fun N h1 h2 => by rw [h1, h2]; exact ⟨Nat.le_refl _, Nat.le_refl _⟩
  unfold mOp5 at h
  split at h
  · split at h <;> (try split at h) <;> (try split at h) <;> (try split at h) <;> (try split at h) <;> (try split at h) <;> first | exact keep M (mGo_M h) rfl | cases h
  · split at h
    · split at h
      · split at h
        · split at h
          · next ci' fs qc ty hM hcl' hty =>
            split at h
            · rw [mGo_M h, List.length_set]
              exact ⟨Nat.le_refl _, Nat.le_of_eq (mSl_set M _ _ _ hM (by simp [mSz])).symm⟩
            · cases h
          · cases h
        · cases h
      · cases h
    · cases h
  · split at h <;> (try split at h) <;> (try split at h) <;> (try split at h) <;> (try split at h) <;> (try split at h) <;> first | exact keep M (mGo_M h) rfl | cases h
  · split at h
    · split at h
      · split at h
        · next L f hM =>
          split at h
          · cases h
          · rw [mGo_M h, List.length_set]
            exact ⟨Nat.le_refl _, Nat.le_of_eq (mSl_set M _ (.inl (L, f)) (.inl (L, upd f _ _)) hM rfl).symm⟩
        · cases h
      · cases h
    · cases h
  · split at h <;> (try split at h) <;> (try split at h) <;> (try split at h) <;> (try split at h) <;> (try split at h) <;> first | exact keep M (mGo_M h) rfl | cases h
  · split at h
    · split at h
      · rw [mGo_M h, mSl_app]
        simp only [List.length_append]
        exact ⟨Nat.le_add_right _ _, Nat.le_add_right _ _⟩
      · cases h
    · cases h
  · split at h
    · split at h
      · split at h
        · rw [mGo_M h, mSl_app]
          simp only [List.length_append]
          exact ⟨Nat.le_add_right _ _, Nat.le_add_right _ _⟩
        · cases h
      · cases h
    · cases h
  · cases h
set_option maxHeartbeats 4000000 in
theorem mOp5_no (h : mOp5 sc ini own y pc n lv st M i = some (.inr z)) : False := by
  unfold mOp5 at h
  split at h <;> (try split at h) <;> (try split at h) <;> (try split at h) <;> (try split at h) <;> (try split at h) <;> (try split at h) <;> (try split at h) <;> first | exact mGo_no h | cases h
theorem mOp_len {q : mMd} (h : mOp sc d q y pc n lv st M i = some (.inl x)) : M.length ≤ x.2.length ∧ mSl M ≤ mSl x.2 := by
  have keep : x.2 = M → M.length ≤ x.2.length ∧ mSl M ≤ mSl x.2 := fun h1 => by rw [h1]; exact ⟨Nat.le_refl _, Nat.le_refl _⟩
  unfold mOp at h
  rcases mOr_or h with h | h
  · exact keep (mOp1_M h)
  rcases mOr_or h with h | h
  · exact keep (mOp2_M h)
  rcases mOr_or h with h | h
  · exact keep (mOp3_M h)
  rcases mOr_or h with h | h
  · exact keep (mOp4_M h)
  rcases mOr_or h with h | h
  · exact mOp5_len h
  rcases mOr_or h with h | h
  · exact keep (mOp6_M h)
  · exact (mOp7_no h).elim
theorem mStep_len {fr : mFr} (h : mStep sc d fr M = some (.inl x)) : M.length ≤ x.2.length ∧ mSl M ≤ mSl x.2 := by
  unfold mStep at h
  split at h
  · cases h
  · split at h
    · cases h
    · exact mOp_len h
end MJM
theorem mRun_len : ∀ (n : Nat) (sc : Option (Nat × (Nat → Int32))) (d : Nat) (fr : mFr) (M M' : mHe) (r : Option Value), mRun sc n d fr M = some (r, M') → M.length ≤ M'.length ∧ mSl M ≤ mSl M' := by
  intro n
  induction n with
  | zero => intro sc d fr M M' r h; cases h
  | succ n ih =>
    intro sc d fr M M' r h
    unfold mRun at h
    split at h
    · cases h
    · next fr1 M1 hs =>
      have h1 := mStep_len hs
      have h2 := ih _ _ _ _ _ _ h
      dsimp only at h1
      omega
    · split at h
      · cases h
      · split at h
        · cases h
        · next r1 M1 hr =>
          have h1 := ih _ _ _ _ _ _ hr
          have h2 := ih _ _ _ _ _ _ h
          omega
    · simp only [Option.some.injEq, Prod.mk.injEq] at h
      rw [h.2]
      exact ⟨Nat.le_refl _, Nat.le_refl _⟩
end
section
/-! CALLS, and the whole: what the small machine answers, the real one does -/
section MJZ
variable {p : Program} {l : Launch} {e : Env} {R : Room} {s : State} {m : MethodId} {args : Array Value} {below : List Frame} {meth : Method} {c : Code} {H : Heap} {locs : List Loc} {cells slots k0 s0 : Nat} {Q : State → Prop}
variable {g : mG} {d : Nat} {q : mMd} {y y' pc pc' n : Nat} {lv lv' : List (Nat × Value)} {st st' : List Value} {M M' M1 : mHe} {i : Instr} {ls : Array Slot} {r : Option Value}
theorem mCall_inj {y2 : Nat} {vs vs2 rest : List Value} {fr2 : mFr} (h : mCall y pc lv rest M y' vs = some (.inr (.inl (y2, vs2, fr2)))) : y2 = y' ∧ vs2 = vs ∧ fr2 = (y, pc + 3, lv, rest) ∧ ∃ q2, mjM y' = some q2 ∧ mCat rest ≤ 8 ∧ (lg_sl vs).length ≤ q2.2.2.1 ∧ q2.2.2.1 ≤ 100 ∧ q2.2.2.2.2 ≠ 13 := by
  unfold mCall at h
  split at h
  · cases h
  · next q2 hq =>
    split at h
    · next hc =>
      simp only [Option.some.injEq, Sum.inr.injEq, Sum.inl.injEq, Prod.mk.injEq] at h
      exact ⟨h.1.symm, h.2.1.symm, by rw [← h.2.2], q2, hq, hc⟩
    · cases h
theorem mSplit (st : List Value) (k : Nat) : mTs g st = (mTs g (st.take k).reverse).reverse ++ mTs g (st.drop k) := by
  unfold mTs
  rw [← List.map_reverse, List.reverse_reverse, ← List.map_append, List.take_append_drop]
set_option maxHeartbeats 4000000 in
theorem mOp6_C {y2 : Nat} {vs : List Value} {fr2 : mFr} {mc ms d' : Nat} (F : mFx g p s m args meth c R d q) (hd : d = d' + 1) (hdg : decode q.2.1 pc = .ok (i, n)) (hl : lv_has ls q.2.2.1 (mTl g lv))
    (hD : mDy g s H locs M cells slots k0 s0) (hrc : M1.length ≤ R.cells + k0) (hrs : mSl M1 ≤ R.slots + s0) (hc : mc + M.length = M1.length) (hs : ms + mSl M = mSl M1)
    (h : mOp6 d q.2.2.2.2 y pc n lv st M i = some (.inr (.inl (y2, vs, fr2))))
    (hM : ∀ q2, mjM y2 = some q2 → (lg_sl vs).length ≤ q2.2.2.1 → q2.2.2.2.2 ≠ 13 → Met l q2.1 (mjMw q2 :: mjT) (mRm d' mc ms) (mPc g vs M) (mQ g r M1) mc ms (gO g))
    (kk : ∀ (pc' : Nat) (rest : List Value), fr2 = (y, pc', lv, rest) → ∀ (H' : Heap) (locs' : List Loc) (cells' slots' : Nat), mDy g s H' locs' M1 cells' slots' k0 s0 → W p l e R s m args below meth c H' locs' cells' slots' Q (F0 m pc' ls (mTs g (r.toList ++ rest)))) : W p l e R s m args below meth c H locs cells slots Q (F0 m pc ls (mTs g st)) := by
  obtain ⟨hx, hb, hml, hown, hts, hr, hlk, hnm, hfr, hlo⟩ := F
  obtain ⟨hsz, hP, hS, hX, hcl, hsl, hz⟩ := id hD
  have fin : ∀ {a : Array Value} {rest : List Value}, fr2 = (y, pc + 3, lv, rest) → va_Run p l e R s m args below meth c H locs cells slots mc ms (F0 m pc ls (mTs g st)) (mTs g rest) (mQ g r M1 a) (gO g) → W p l e R s m args below meth c H locs cells slots Q (F0 m pc ls (mTs g st)) := by
    intro a rest hfr2 hRun
    refine mRunW hRun hD hc hs (fun H1 locs1 hD1 => ?_)
    have := kk (pc + 3) rest hfr2 H1 locs1 (cells + mc) (slots + ms) hD1
    rw [mTs, List.map_append] at this
    exact this
  have hcode : ∀ q2, mjM y2 = some q2 → q2.2.2.2.2 ≠ 13 → ∀ w ∈ mjMw q2 :: mjT, w ∈ mjT := by
    intro q2 hq2 h13 w hw
    rcases List.mem_cons.mp hw with rfl | hw
    · exact (mjM_word hq2).1 h13
    · exact hw
  have hroom : cells + mc ≤ R.cells ∧ slots + ms ≤ R.slots := by omega
  have hgo : ∀ {y2 pc2 : Nat} {lv2 : List (Nat × Value)} {st2 : List Value} {N : mHe}, mGo y2 pc2 lv2 st2 N = some (.inr (.inl (y2, vs, fr2))) → False := fun h => mGo_no h
  unfold mOp6 at h
  split at h
  · -- invokevirtual
    split at h
    · next hn =>
      subst hn
      split at h
      · next o1 idx y' o4 hR =>
        split at h
        · cases h
        · next k hk =>
          split at h
          · next rr rest hdrop =>
            split at h
            · next hcc =>
              obtain ⟨h9, hkl⟩ := hcc
              split at h
              · next ci fs q2' hMr hq2' =>
                split at h
                · next hci =>
                  obtain ⟨rfl, rfl, hfr2, q2, hq2, hcat, hlen, hml2, h13⟩ := mCall_inj h
                  have hqq : q2' = q2 := Option.some.inj (hq2'.symm.trans hq2)
                  subst hqq
                  have hY := mjY_eq hq2
                  have ho := mjR_own hR
                  have hw := mjR_words hR
                  dsimp only at ho hw
                  obtain ⟨rfl, hw⟩ := hw
                  subst ho
                  obtain ⟨hcls, hmh1, hmh2⟩ := mjM_cls hq2
                  have hG : GoodIn mjT (wsV (mjC q.2.2.2.2) idx q2'.1.cls q2'.1 (mjMw q2' :: mjT)) := mEq2 (fun w hw2 => hw w (by show w ∈ mjWords (_, _, 1, _, _); simp only [mjWords, hY]; exact hw2)) (hcode q2' hq2 h13)
                  have hPre := mPreS (vs := .ref rr :: (st.take k).reverse) hD
                  have hvs : mTs g (.ref rr :: (st.take k).reverse) = .ref (mAd g rr) :: mTs g (st.take k).reverse := rfl
                  rw [hvs] at hPre
                  obtain ⟨rc, hrc1, -⟩ := hP (rr - 9) _ (mW_get hMr)
                  have hrc1 : vwCl[ci]? = some rc := hrc1
                  have hrcv := va_recv hX.1 hP hrc1 (mW_get hMr)
                  have hst : mTs g st = (mTs g (st.take k).reverse).reverse ++ .ref (mAd g rr) :: mTs g rest := by
                    rw [mSplit st k, hdrop]; rfl
                  have hcc2 : rc.1 = q2'.1.cls := by rw [← mjC_cl hrc1, hci, hcls]
                  rw [hcc2] at hrcv
                  have h9' : mAd g rr = g0 g + (rr - 9) := mAd9 h9
                  rw [← h9'] at hrcv
                  refine fin hfr2 (va_runV (C := q2'.1.cls) (b := mAd g rr) (As := mTs g (st.take k).reverse) ⟨hx, hb, hml, hown, hts⟩ (hM q2' hq2 hlen h13) (cwV k hts hG rfl rfl rfl ⟨rfl, hmh1, hmh2, by rw [← hY]; exact hk⟩ ⟨by show d' + 1 ≤ R.frames; omega, by show 8 + (q2'.2.2.1 + 11) + 300 * d' ≤ R.locals; omega⟩) ⟨hPre.1, hrcv, hPre.2⟩ rfl (by simp [mTs]; omega) hl.1 hst (lv_room (by rw [mTs_cat]; exact hcat)) hdg hroom)
                · cases h
              · cases h
            · cases h
          · cases h
      · split at h
        · split at h
          · split at h
            · exact (mGo_no h).elim
            · cases h
          · cases h
        · cases h
      · split at h
        · split at h
          · split at h
            · exact (mGo_no h).elim
            · cases h
          · cases h
        · cases h
      · cases h
    · cases h
  · -- invokestatic
    split at h
    · next hn =>
      subst hn
      split at h
      · next o1 idx y' o4 hR =>
        split at h
        · cases h
        · next k hk =>
          split at h
          · next hkl =>
            obtain ⟨rfl, rfl, hfr2, q2, hq2, hcat, hlen, hml2, h13⟩ := mCall_inj h
            have hY := mjY_eq hq2
            have ho := mjR_own hR
            have hw := mjR_words hR
            dsimp only at ho hw
            obtain ⟨rfl, hw⟩ := hw
            subst ho
            obtain ⟨hcls, hmh1, hmh2⟩ := mjM_cls hq2
            have hG : GoodIn mjT (va_wsS (mjC q.2.2.2.2) idx q2.1 (mjMw q2 :: mjT)) := mEq2 (fun w hw2 => hw w (by show w ∈ mjWords (_, _, 2, _, _); simp only [mjWords, hY]; exact hw2)) (hcode q2 hq2 h13)
            have hPre := mPreS (vs := (st.take k).reverse) hD
            refine fin hfr2 (va_runS (As := mTs g (st.take k).reverse) ⟨hx, hb, hml, hown, hts⟩ (hM q2 hq2 hlen h13) (va_cwS k hts hG rfl rfl rfl ⟨hmh1, hmh2, by rw [← hY]; exact hk⟩ ⟨by show d' + 1 ≤ R.frames; omega, by show 8 + (q2.2.2.1 + 11) + 300 * d' ≤ R.locals; omega⟩) hPre rfl (by simp [mTs]; omega) hl.1 (mSplit st k) (lv_room (by rw [mTs_cat]; exact hcat)) hdg hroom)
          · cases h
      · next o1 idx y' o4 hR =>
        split at h
        · cases h
        · next k hk =>
          split at h
          · next hkl =>
            obtain ⟨rfl, rfl, hfr2, q2, hq2, hcat, hlen, hml2, h13⟩ := mCall_inj h
            have hY := mjY_eq hq2
            have ho := mjR_own hR
            have hw := mjR_words hR
            have hne := mjR_nest hR (Or.inl rfl)
            dsimp only at ho hw hne
            obtain ⟨rfl, hw⟩ := hw
            subst ho
            rw [hY] at hne
            obtain ⟨hcls, hmh1, hmh2⟩ := mjM_cls hq2
            have hin : ∀ w ∈ [Cond.static q2.1, .initialized q2.1.cls], w.before args s = true := fun w hw2 => hts w (hw w (by show w ∈ mjWords (_, _, 3, _, _); simp only [mjWords, hY]; exact hw2))
            have hPre := mPreS (vs := (st.take k).reverse) hD
            refine fin hfr2 (va_runSN (host := "BudgetHouse") (As := mTs g (st.take k).reverse) ⟨hx, hb, hml, hown, hts⟩ (hM q2 hq2 hlen h13) ⟨va_cnB k hts (mGood (hcode q2 hq2 h13)) rfl rfl rfl (hX.2.1 _ hne) (hin _ (List.mem_cons_of_mem _ List.mem_cons_self)) ⟨hmh1, hmh2, by rw [← hY]; exact hk⟩ ⟨by show d' + 1 ≤ R.frames; omega, by show 8 + (q2.2.2.1 + 11) + 300 * d' ≤ R.locals; omega⟩, hin _ List.mem_cons_self, trivial⟩ hPre rfl (by simp [mTs]; omega) hl.1 (mSplit st k) (lv_room (by rw [mTs_cat]; exact hcat)) hdg hroom)
          · cases h
      · split at h
        · split at h
          · exact (mGo_no h).elim
          · cases h
        · cases h
      · split at h
        · split at h
          · exact (mGo_no h).elim
          · cases h
        · cases h
      · cases h
    · cases h
  · -- invokespecial
    split at h
    · next hn =>
      subst hn
      split at h
      · next o1 idx y' o4 hR =>
        split at h
        · cases h
        · next k hk =>
          split at h
          · next rr rest hdrop =>
            split at h
            · next hkl =>
              obtain ⟨rfl, rfl, hfr2, q2, hq2, hcat, hlen, hml2, h13⟩ := mCall_inj h
              have hY := mjY_eq hq2
              have ho := mjR_own hR
              have hw := mjR_words hR
              have hini := mjR_ini hR (Or.inl rfl) hq2
              dsimp only at ho hw
              obtain ⟨rfl, hw⟩ := hw
              subst ho
              obtain ⟨hcls, hmh1, hmh2⟩ := mjM_cls hq2
              have hin : ∀ w ∈ [Cond.methodLink (mjC q.2.2.2.2) idx q2.1, .instanceMethod q2.1, .initialized q2.1.cls], w.before args s = true := fun w hw2 => hts w (hw w (by show w ∈ mjWords (_, _, 4, _, _); simp only [mjWords, hY]; exact hw2))
              have hPre := mPreS (vs := .ref rr :: (st.take k).reverse) hD
              have hvs : mTs g (.ref rr :: (st.take k).reverse) = .ref (mAd g rr) :: mTs g (st.take k).reverse := rfl
              rw [hvs] at hPre
              have hst : mTs g st = (mTs g (st.take k).reverse).reverse ++ .ref (mAd g rr) :: mTs g rest := by
                rw [mSplit st k, hdrop]; rfl
              refine fin hfr2 (va_runI (b := mAd g rr) (As := mTs g (st.take k).reverse) ⟨hx, hb, hml, hown, hts⟩ (hM q2 hq2 hlen h13) (cwI (bytes := q2.2.1) (maxL := q2.2.2.1) (ws' := mjT) k hts (mGood (hcode q2 hq2 h13)) (by rw [mjMw, hini.2]) rfl rfl (hin _ (List.mem_of_getElem? (i := 2) rfl)) (hin _ (List.mem_of_getElem? (i := 0) rfl)) (hin _ (List.mem_of_getElem? (i := 1) rfl)) hini.1 ⟨hmh1, hmh2, by rw [← hY]; exact hk⟩ ⟨by show d' + 1 ≤ R.frames; omega, by show 8 + (q2.2.2.1 + 11) + 300 * d' ≤ R.locals; omega⟩) hPre rfl (by simp [mTs]; omega) hl.1 hst (lv_room (by rw [mTs_cat]; exact hcat)) hdg hroom)
            · cases h
          · cases h
      · next o1 idx y' o4 hR =>
        split at h
        · cases h
        · next k hk =>
          split at h
          · next rr rest hdrop =>
            split at h
            · next hkl =>
              obtain ⟨rfl, rfl, hfr2, q2, hq2, hcat, hlen, hml2, h13⟩ := mCall_inj h
              have hY := mjY_eq hq2
              have ho := mjR_own hR
              have hw := mjR_words hR
              have hini := mjR_ini hR (Or.inr rfl) hq2
              have hne := mjR_nest hR (Or.inr rfl)
              dsimp only at ho hw hne
              obtain ⟨rfl, hw⟩ := hw
              subst ho
              rw [hY] at hne
              obtain ⟨hcls, hmh1, hmh2⟩ := mjM_cls hq2
              have hin : ∀ w ∈ [Cond.instanceMethod q2.1, .initialized q2.1.cls], w.before args s = true := fun w hw2 => hts w (hw w (by show w ∈ mjWords (_, _, 5, _, _); simp only [mjWords, hY]; exact hw2))
              have hPre := mPreS (vs := .ref rr :: (st.take k).reverse) hD
              have hvs : mTs g (.ref rr :: (st.take k).reverse) = .ref (mAd g rr) :: mTs g (st.take k).reverse := rfl
              rw [hvs] at hPre
              have hst : mTs g st = (mTs g (st.take k).reverse).reverse ++ .ref (mAd g rr) :: mTs g rest := by
                rw [mSplit st k, hdrop]; rfl
              refine fin hfr2 (va_runIN (host := "BudgetHouse") (b := mAd g rr) (As := mTs g (st.take k).reverse) ⟨hx, hb, hml, hown, hts⟩ (hM q2 hq2 hlen h13) ⟨va_cnB (bytes := q2.2.1) (maxL := q2.2.2.1) (ws' := mjT) k hts (mGood (hcode q2 hq2 h13)) (by rw [mjMw, hini.2]) rfl rfl (hX.2.1 _ hne) (hin _ (List.mem_of_getElem? (i := 1) rfl)) ⟨hmh1, hmh2, by rw [← hY]; exact hk⟩ ⟨by show d' + 1 ≤ R.frames; omega, by show 8 + (q2.2.2.1 + 11) + 300 * d' ≤ R.locals; omega⟩, hini.1, hin _ (List.mem_of_getElem? (i := 0) rfl)⟩ hPre rfl (by simp [mTs]; omega) hl.1 hst (lv_room (by rw [mTs_cat]; exact hcat)) hdg hroom)
            · cases h
          · cases h
      · split at h
        · split at h
          · exact (mGo_no h).elim
          · cases h
        · cases h
      · cases h
    · cases h
  · cases h
end MJZ
end
section
/-! THE SMALL MACHINE IS SOUND -/
def mSound (n : Nat) : Prop := ∀ (l : Launch) (g : mG) (sc : Option (Nat × (Nat → Int32))) (d y pc : Nat) (lv : List (Nat × Value)) (st : List Value) (M M' : mHe) (r : Option Value), mRun sc n d (y, pc, lv, st) M = some (r, M') →
  ∀ (q : mMd), mjM y = some q → ∀ (p : Program) (e : Env) (R : Room) (s : State) (m : MethodId) (args : Array Value) (below : List Frame) (meth : Method) (c : Code) (H : Heap) (locs : List Loc) (cells slots k0 s0 : Nat) (Q : State → Prop) (ls : Array Slot),
  mFx g p s m args meth c R d q → (∀ L xs, sc = some (L, xs) → va_X (gb g) L xs s s.heap ∧ gb g < g0 g) → lv_has ls q.2.2.1 (mTl g lv) → mDy g s H locs M cells slots k0 s0 → M'.length ≤ R.cells + k0 → mSl M' ≤ R.slots + s0 →
  (∀ (pc' n' : Nat) (i : Instr) (ls' : Array Slot) (st' : List Value) (H' : Heap) (locs' : List Loc) (cells' slots' : Nat), decode q.2.1 pc' = .ok (i, n') → mOp7 q.2.2.2.1 n' st' i = some (.inr (.inr r)) → mDy g s H' locs' M' cells' slots' k0 s0 →
    W p l e R s m args below meth c H' locs' cells' slots' Q (F0 m pc' ls' (mTs g st'))) →
  W p l e R s m args below meth c H locs cells slots Q (F0 m pc ls (mTs g st))
theorem mOp7_noC {rt : Option FieldType} {n : Nat} {st : List Value} {i : Instr} {z : Nat × List Value × mFr} (h : mOp7 rt n st i = some (.inr (.inl z))) : False := by
  unfold mOp7 at h
  split at h
  · split at h
    · split at h <;> cases h
    · cases h
    · cases h
    · cases h
  · cases h
set_option maxHeartbeats 4000000 in
theorem mOp6_noR {d own y pc n : Nat} {lv : List (Nat × Value)} {st : List Value} {M : mHe} {i : Instr} {r : Option Value} (h : mOp6 d own y pc n lv st M i = some (.inr (.inr r))) : False := by
  have hc : ∀ {y2 pc2 : Nat} {lv2 : List (Nat × Value)} {rest : List Value} {N : mHe} {y3 : Nat} {vs : List Value}, mCall y2 pc2 lv2 rest N y3 vs = some (.inr (.inr r)) → False := by
    intro y2 pc2 lv2 rest N y3 vs hh
    unfold mCall at hh
    split at hh
    · cases hh
    · split at hh <;> cases hh
  unfold mOp6 at h
  split at h <;> (try split at h) <;> (try split at h) <;> (try split at h) <;> (try split at h) <;> (try split at h) <;> (try split at h) <;> (try split at h) <;> first | exact (mGo_no h).elim | exact (hc h).elim | cases h
set_option maxHeartbeats 4000000 in
/-- a method's contract, out of what the small machine answers -/
theorem mMet_of {n : Nat} (hS : mSound n) {l : Launch} {g : mG} {d y : Nat} {vs : List Value} {M M1 : mHe} {r : Option Value} {q : mMd} (h : mRun none n d (y, 0, lv_args 0 vs, []) M = some (r, M1)) (hq : mjM y = some q) (hlen : (lg_sl vs).length ≤ q.2.2.1) {mc ms : Nat} (hc : mc + M.length = M1.length) (hs : ms + mSl M = mSl M1) :
    Met l q.1 (mjMw q :: mjT) (mRm d mc ms) (mPc g vs M) (mQ g r M1) mc ms (gO g) := by
  refine mMet (mjM_word hq).2 (mjM_cls hq).1 hlen ?_
  intro p e s m below meth c ls F hD hl
  refine hS l g none d y 0 (lv_args 0 vs) [] M M1 r h q hq p e (mRm d mc ms) s m _ below meth c s.heap [] 0 0 M.length (mSl M) _ ls F (fun L xs hh => by cases hh) hl hD (by show _ ≤ mc + _; omega) (by show _ ≤ ms + _; omega) ?_
  intro pc' n' i ls' st' H' locs' cells' slots' hdg h7 hD'
  have e1 : cells' = mc := by have := hD'.2.2.2.2.1; omega
  have e2 : slots' = ms := by have := hD'.2.2.2.2.2.1; omega
  subst e1; subst e2
  exact mRet F hD' hdg h7
set_option maxHeartbeats 4000000 in
theorem mSound_all : ∀ n : Nat, mSound n := by
  intro n
  induction n with
  | zero => intro l g sc d y pc lv st M M' r h; cases h
  | succ n ih =>
    intro l g sc d y pc lv st M M' r h q hq p e R s m args below meth c H locs cells slots k0 s0 Q ls F hsc hl hD hrc hrs kk
    have hai : (Cond.arrayClass .int).before args s = true := F.2.2.2.2.1 _ mjArr
    unfold mRun at h
    have hstep : mStep sc d (y, pc, lv, st) M = (match decode q.2.1 pc with
      | .error _ => none
      | .ok (i, k) => mOp sc d q y pc k lv st M i) := by
      unfold mStep
      rw [hq]
      dsimp only
      cases decode q.2.1 pc with
      | error a => rfl
      | ok x => rfl
    rw [hstep] at h
    split at h
    · cases h
    · next fr1 M1 hs =>
      obtain ⟨y1, pc1, lv1, st1⟩ := fr1
      have hlen := mRun_len _ _ _ _ _ _ _ h
      split at hs
      · cases hs
      · next i k hdg =>
        have go : y1 = y → ∀ (ls' : Array Slot) (H' : Heap) (locs' : List Loc) (cells' slots' : Nat), lv_has ls' q.2.2.1 (mTl g lv1) → mDy g s H' locs' M1 cells' slots' k0 s0 → W p l e R s m args below meth c H' locs' cells' slots' Q (F0 m pc1 ls' (mTs g st1)) := by
          intro hy ls' H' locs' cells' slots' hl' hD'
          subst hy
          exact ih l g sc d y1 pc1 lv1 st1 M1 M' r h q hq p e R s m args below meth c H' locs' cells' slots' k0 s0 Q ls' F hsc hl' hD' hrc hrs kk
        unfold mOp at hs
        rcases mOr_or hs with hs | hs
        · exact mOp1_W F hD.2.2.2.1 hdg hl hs (fun hy hMM ls' hl' => go hy ls' H locs cells slots hl' (by rw [hMM]; exact hD))
        rcases mOr_or hs with hs | hs
        · exact mOp2_W F hD.2.2.2.1 hdg hl hs (fun hy hMM ls' hl' => go hy ls' H locs cells slots hl' (by rw [hMM]; exact hD))
        rcases mOr_or hs with hs | hs
        · exact mOp3_W F hD.2.2.2.1 hdg hl hs (fun hy hMM ls' hl' => go hy ls' H locs cells slots hl' (by rw [hMM]; exact hD))
        rcases mOr_or hs with hs | hs
        · exact mOp4_W F hD.2.2.2.1 hdg hl hs (fun hy hMM ls' hl' => go hy ls' H locs cells slots hl' (by rw [hMM]; exact hD))
        rcases mOr_or hs with hs | hs
        · exact mOp5_W F hsc hdg hl hD hai hs (by omega) (by omega) go
        rcases mOr_or hs with hs | hs
        · have e1 : M1 = M := mOp6_M hs
          exact mOp6_W F hdg hl hD (by rw [e1] at hlen; omega) (by rw [e1] at hlen; omega) hs go
        · exact (mOp7_no hs).elim
    · next y2 vs fr2 hs =>
      split at h
      · cases h
      · next d' =>
        split at h
        · cases h
        · next r1 M1 hr1 =>
          have hlen1 := mRun_len _ _ _ _ _ _ _ hr1
          have hlen2 := mRun_len _ _ _ _ _ _ _ h
          split at hs
          · cases hs
          · next i k hdg =>
            unfold mOp at hs
            rcases mOr_or hs with hs | hs
            · exact (mOp1_no hs).elim
            rcases mOr_or hs with hs | hs
            · exact (mOp2_no hs).elim
            rcases mOr_or hs with hs | hs
            · exact (mOp3_no hs).elim
            rcases mOr_or hs with hs | hs
            · exact (mOp4_no hs).elim
            rcases mOr_or hs with hs | hs
            · exact (mOp5_no hs).elim
            rcases mOr_or hs with hs | hs
            · refine mOp6_C (M1 := M1) (r := r1) (mc := M1.length - M.length) (ms := mSl M1 - mSl M) (d' := d') F rfl hdg hl hD (by omega) (by omega) (by omega) (by omega) hs (fun q2 hq2 hle h13 => mMet_of ih hr1 hq2 hle (by omega) (by omega)) ?_
              intro pc' rest hfr2 H' locs' cells' slots' hD'
              subst hfr2
              exact ih l g sc (d' + 1) y pc' lv (r1.toList ++ rest) M1 M' r h q hq p e R s m args below meth c H' locs' cells' slots' k0 s0 Q ls F hsc hl hD' hrc hrs kk
            · exact (mOp7_noC hs).elim
    · next r2 hs =>
      simp only [Option.some.injEq, Prod.mk.injEq] at h
      obtain ⟨rfl, rfl⟩ := h
      split at hs
      · cases hs
      · next i k hdg =>
        unfold mOp at hs
        rcases mOr_or hs with hs | hs
        · exact (mOp1_no hs).elim
        rcases mOr_or hs with hs | hs
        · exact (mOp2_no hs).elim
        rcases mOr_or hs with hs | hs
        · exact (mOp3_no hs).elim
        rcases mOr_or hs with hs | hs
        · exact (mOp4_no hs).elim
        rcases mOr_or hs with hs | hs
        · exact (mOp5_no hs).elim
        rcases mOr_or hs with hs | hs
        · exact (mOp6_noR hs).elim
        · exact kk pc k i ls st H locs cells slots hdg hs hD
end
