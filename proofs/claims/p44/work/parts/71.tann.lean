/-! LOOPS: what is new at each turn, what grows; locals that are split -/
def tAn_1 : Nat → Option (tAn ⊕ Option Nat) := fun pc => bif Nat.beq pc 69 then some (.inl (92, [(4, 0, 20)], [], [], 0, true, [2, 3], [(115, 0, 140, 20, 0), (115, 0, 159, 1, 0)])) else none
def tAn_6 : Nat → Option (tAn ⊕ Option Nat) := fun pc => bif Nat.beq pc 14 then some (.inl (37, [(3, (-1), 19)], [], [], 0, false, [2], [])) else none
def tAn_8 : Nat → Option (tAn ⊕ Option Nat) := fun pc => bif Nat.beq pc 26 then some (.inr (some 2)) else none
def tAn_9 : Nat → Option (tAn ⊕ Option Nat) := fun pc => bif Nat.beq pc 89 then some (.inl (127, [(6, 0, 20)], [], [], 0, true, [], [(116, 0, 19, 1, 0)])) else (bif Nat.beq pc 133 then some (.inl (172, [(6, 0, 20)], [], [], 0, true, [1, 2], [(115, 0, 140, 20, 0), (115, 0, 159, 1, 0)])) else none)
def tAn_10 : Nat → Option (tAn ⊕ Option Nat) := fun pc => bif Nat.beq pc 27 then some (.inl (111, [(3, (-2147483648), 2147483647), (4, (-2147483648), 2147483647), (5, (-2147483648), 2147483647), (6, 0, 8)], [], [], 3, true, [7, 8], [])) else none
def tAn_18 : Nat → Option (tAn ⊕ Option Nat) := fun pc => bif Nat.beq pc 17 then some (.inl (99, [(2, 0, 20)], [], [], 0, true, [3], [(1, 13, 15, 1, 0)])) else none
def tAn_19 : Nat → Option (tAn ⊕ Option Nat) := fun pc => bif Nat.beq pc 2 then some (.inl (48, [(2, 0, 20)], [], [], 0, true, [], [(6, 0, 19, 1, 0)])) else none
def tAn_26 : Nat → Option (tAn ⊕ Option Nat) := fun pc => bif Nat.beq pc 17 then some (.inl (74, [(2, 0, 40), (3, 0, 40)], [], [], 1, true, [], [(34, 0, 3, 1, 0), (28, 8, 8, 1, 0), (35, 0, 95, 1, 0), (52, 0, 39, 1, 0), (51, 0, 39, 1, 0)])) else none
def tAn_27 : Nat → Option (tAn ⊕ Option Nat) := fun pc => bif Nat.beq pc 3 then some (.inl (63, [(4, 0, 39)], [], [], 0, false, [1], [(52, 1, 39, 1, 0), (51, 1, 39, 1, 0)])) else none
def tAn_30 : Nat → Option (tAn ⊕ Option Nat) := fun pc => bif Nat.beq pc 34 then some (.inl (111, [(3, (-2147483648), 2147483647), (4, (-2147483648), 2147483647), (5, 0, 40)], [], [], 2, true, [6, 7], [(34, 0, 3, 1, 0), (28, 8, 8, 1, 0), (35, 0, 95, 1, 0)])) else none
def tAn_33 : Nat → Option (tAn ⊕ Option Nat) := fun pc => bif Nat.beq pc 4 then some (.inl (27, [(2, (-2147483648), 2147483647), (3, 0, 8)], [], [], 1, true, [], [])) else none
def tAn_35 : Nat → Option (tAn ⊕ Option Nat) := fun pc => bif Nat.beq pc 42 then some (.inl (154, [(1, (-2147483648), 2147483647), (3, 0, 40)], [], [], 1, true, [4, 5, 6], [(53, 0, 39, 1, 0)])) else none
def tAn_36 : Nat → Option (tAn ⊕ Option Nat) := fun pc => bif Nat.beq pc 5 then some (.inl (67, [(3, 0, 60), (4, 1, 31)], [], [], 0, true, [5], [(118, 0, 59, 1, 0)])) else none
def tAn_51 : Nat → Option (tAn ⊕ Option Nat) := fun pc => bif Nat.beq pc 2 then some (.inl (36, [(3, 0, 20)], [], [], 0, true, [], [(7, 0, 19, 1, 0)])) else none
def tAn_52 : Nat → Option (tAn ⊕ Option Nat) := fun pc => bif Nat.beq pc 5 then some (.inl (45, [(3, (-2147483648), 2147483647), (4, 0, 20)], [], [], 1, true, [], [])) else none
def tAn_53 : Nat → Option (tAn ⊕ Option Nat) := fun pc => bif Nat.beq pc 4 then some (.inl (40, [(2, (-2147483648), 2147483647), (3, 0, 20)], [], [], 1, true, [], [])) else none
def tAn_55 : Nat → Option (tAn ⊕ Option Nat) := fun pc => bif Nat.beq pc 2 then some (.inl (50, [(3, 0, 10)], [], [], 0, true, [], [])) else none
def tAn_58 : Nat → Option (tAn ⊕ Option Nat) := fun pc => bif Nat.beq pc 4 then some (.inl (32, [(2, (-2147483648), 2147483647), (3, 0, 10)], [], [], 1, true, [], [])) else none
def tAn_62 : Nat → Option (tAn ⊕ Option Nat) := fun pc => bif Nat.beq pc 5 then some (.inl (45, [(3, (-2147483648), 2147483647), (4, 0, 8)], [], [], 1, true, [], [])) else none
def tAn_63 : Nat → Option (tAn ⊕ Option Nat) := fun pc => bif Nat.beq pc 2 then some (.inl (47, [(2, 0, 8)], [], [], 0, true, [], [])) else none
def tAn_64 : Nat → Option (tAn ⊕ Option Nat) := fun pc => bif Nat.beq pc 32 then some (.inl (99, [(3, 1, 2147483647)], [], [], 0, true, [4], [(44, 5, 7, 1, 0)])) else none
def tAn_67 : Nat → Option (tAn ⊕ Option Nat) := fun pc => bif Nat.beq pc 25 then some (.inl (95, [(5, 0, 60), (6, (-2147483648), 2147483647), (7, 0, 8)], [], [], 2, true, [1, 2, 4], [(118, 0, 59, 1, 0)])) else none
def tAn_86 : Nat → Option (tAn ⊕ Option Nat) := fun pc => bif Nat.beq pc 106 then some (.inl (130, [(7, 0, 9)], [], [], 0, true, [1, 2, 3, 4, 5], [(22, 0, 359, 1, 0)])) else none
def tAn_92 : Nat → Option (tAn ⊕ Option Nat) := fun pc => bif Nat.beq pc 2 then some (.inl (54, [(3, 0, 40)], [], [], 0, true, [], [])) else none
def tAn_97 : Nat → Option (tAn ⊕ Option Nat) := fun pc => bif Nat.beq pc 2 then some (.inl (67, [(3, 0, 40)], [], [], 0, true, [], [(15, 0, 39, 1, 0)])) else none
def tAn_99 : Nat → Option (tAn ⊕ Option Nat) := fun pc => bif Nat.beq pc 4 then some (.inl (52, [(2, (-2147483648), 2147483647), (3, 0, 40)], [], [], 1, true, [], [(15, 0, 39, 1, 0), (23, 0, 39, 1, 0)])) else none
def tAn_101 : Nat → Option (tAn ⊕ Option Nat) := fun pc => bif Nat.beq pc 2 then some (.inl (77, [(1, 0, 40)], [], [], 0, true, [], [(15, 0, 39, 1, 0)])) else none
def tAn_103 : Nat → Option (tAn ⊕ Option Nat) := fun pc => bif Nat.beq pc 4 then some (.inl (89, [(2, (-2147483648), 2147483647), (3, 0, 40)], [], [], 1, true, [4], [(15, 0, 39, 1, 0)])) else none
def tAn_108 : Nat → Option (tAn ⊕ Option Nat) := fun pc => bif Nat.beq pc 4 then some (.inl (75, [(2, (-2147483648), 2147483647), (3, 0, 40)], [], [], 1, true, [1], [])) else none
def tAn_109 : Nat → Option (tAn ⊕ Option Nat) := fun pc => bif Nat.beq pc 4 then some (.inl (50, [(2, (-2147483648), 2147483647), (3, 0, 40)], [], [], 1, true, [], [])) else none
def tAn_110 : Nat → Option (tAn ⊕ Option Nat) := fun pc => bif Nat.beq pc 4 then some (.inl (32, [(2, (-2147483648), 2147483647), (3, 0, 40)], [], [], 1, true, [], [])) else none
def tAn_111 : Nat → Option (tAn ⊕ Option Nat) := fun pc => bif Nat.beq pc 4 then some (.inl (32, [(2, (-2147483648), 2147483647), (3, 0, 40)], [], [], 1, true, [], [])) else none
def tAn_112 : Nat → Option (tAn ⊕ Option Nat) := fun pc => bif Nat.beq pc 5 then some (.inl (73, [(3, (-2147483648), 2147483647), (4, 0, 40)], [], [], 1, true, [5], [])) else none
def tAn_113 : Nat → Option (tAn ⊕ Option Nat) := fun pc => bif Nat.beq pc 4 then some (.inl (32, [(2, (-2147483648), 2147483647), (3, 0, 40)], [], [], 1, true, [], [])) else none
def tAn_115 : Nat → Option (tAn ⊕ Option Nat) := fun pc => bif Nat.beq pc 58 then some (.inl (120, [(4, (-2147483648), 2147483647), (5, 0, 96)], [], [], 1, true, [2, 3, 6], [(110, 0, 95, 1, 0), (109, 1, 8, 1, 0), (111, 0, 95, 1, 0)])) else none
def tAn_120 : Nat → Option (tAn ⊕ Option Nat) := fun pc => bif Nat.beq pc 15 then some (.inl (41, [(4, (-2147483648), 2147483647), (5, (-2147483648), 2147483647)], [], [], 1, true, [0, 2], [])) else none
def tAn_121 : Nat → Option (tAn ⊕ Option Nat) := fun pc => bif Nat.beq pc 22 then some (.inl (57, [(5, 0, 5)], [], [], 0, true, [0, 3], [])) else none
def tAn_125 : Nat → Option (tAn ⊕ Option Nat) := fun pc => bif Nat.beq pc 0 then some (.inl (43, [], [(109, 5, 0, 96)], [], 0, false, [], [(110, 0, 95, 1, 0), (109, 2, 7, 1, 0)])) else none
def tAn_126 : Nat → Option (tAn ⊕ Option Nat) := fun pc => bif Nat.beq pc 0 then some (.inl (41, [], [(109, 5, 0, 96)], [], 0, false, [], [(110, 0, 95, 1, 0), (109, 2, 5, 1, 0)])) else none
def tAn_133 : Nat → Option (tAn ⊕ Option Nat) := fun pc => bif Nat.beq pc 5 then some (.inl (98, [(3, 0, 30), (4, 0, 30)], [], [((0, 0), (0, 1), 0)], 1, true, [], [(25, 0, 29, 1, 0), (26, 0, 29, 1, 0), (27, 0, 29, 1, 0), (18, 0, 39, 1, 0)])) else none
def tAn_134 : Nat → Option (tAn ⊕ Option Nat) := fun pc => bif Nat.beq pc 4 then some (.inl (51, [(2, (-2147483648), 2147483647), (3, 0, 30)], [], [], 1, true, [], [])) else none
def tAn_143 : Nat → Option (tAn ⊕ Option Nat) := fun pc => bif Nat.beq pc 38 then some (.inl (88, [(3, 0, 6), (4, 0, 1), (5, 0, 8)], [], [], 2, true, [1, 6], [])) else none
def tAn_144 : Nat → Option (tAn ⊕ Option Nat) := fun pc => bif Nat.beq pc 2 then some (.inl (21, [(2, 0, 126)], [], [], 0, true, [3], [(43, 0, 125, 1, 0)])) else (bif Nat.beq pc 33 then some (.inl (92, [(2, (-1), 7)], [], [], 0, false, [1, 3], [(43, 0, 111, 1, 0)])) else (bif Nat.beq pc 39 then some (.inl (86, [(3, 0, 7)], [], [], 0, true, [1], [(43, 0, 111, 1, 0)])) else none))
def tAn_147 : Nat → Option (tAn ⊕ Option Nat) := fun pc => bif Nat.beq pc 6 then some (.inl (42, [(4, (-2147483648), 2147483647), (5, 0, 7)], [], [], 1, true, [], [])) else none
def tAn_148 : Nat → Option (tAn ⊕ Option Nat) := fun pc => bif Nat.beq pc 3 then some (.inl (45, [(4, 0, 6)], [], [], 0, true, [], [])) else none
def tAn_154 : Nat → Option (tAn ⊕ Option Nat) := fun pc => bif Nat.beq pc 3 then some (.inl (45, [(2, (-1000), 24)], [], [], 0, false, [], [(108, 0, 95, 1, 0), (107, 0, 0, 1, 0)])) else none
def tAn_160 : Nat → Option (tAn ⊕ Option Nat) := fun pc => bif Nat.beq pc 2 then some (.inl (23, [(2, (-2147483648), 2147483647)], [], [], 0, true, [1], [])) else none
def tAn_161 : Nat → Option (tAn ⊕ Option Nat) := fun pc => bif Nat.beq pc 10 then some (.inl (29, [(2, 0, 96)], [], [], 0, true, [1], [])) else (bif Nat.beq pc 34 then some (.inl (53, [(2, (-2147483648), 2147483647)], [], [], 0, true, [1], [])) else none)
def tAn_162 : Nat → Option (tAn ⊕ Option Nat) := fun pc => bif Nat.beq pc 15 then some (.inl (46, [(4, 0, 5)], [], [], 0, true, [2], [])) else none
def tAn_165 : Nat → Option (tAn ⊕ Option Nat) := fun pc => bif Nat.beq pc 63 then some (.inl (92, [(3, 0, 96)], [], [], 0, true, [2], [(33, 0, 1056, 96, 0), (33, 0, 1151, 1, 0)])) else none
def tAn_167 : Nat → Option (tAn ⊕ Option Nat) := fun pc => bif Nat.beq pc 9 then some (.inl (74, [(3, (-1000000005), 12), (4, (-1), 2147483647), (5, 0, 12)], [], [], 2, true, [], [])) else none
def tAn_168 : Nat → Option (tAn ⊕ Option Nat) := fun pc => bif Nat.beq pc 58 then some (.inl (95, [(6, 0, 96)], [], [], 0, true, [2, 3, 4, 5], [(28, 8, 8, 1, 0), (35, 0, 95, 1, 0)])) else none
def tAn_176 : Nat → Option (tAn ⊕ Option Nat) := fun pc => bif Nat.beq pc 31 then some (.inl (54, [(5, 0, 9)], [], [], 0, true, [1], [(39, 0, 8, 1, 0)])) else none
def tAn_177 : Nat → Option (tAn ⊕ Option Nat) := fun pc => bif Nat.beq pc 7 then some (.inl (59, [(2, 0, 40)], [], [], 0, true, [], [(38, 0, 7, 1, 0), (36, 3, 3, 1, 0)])) else none
def tAn_178 : Nat → Option (tAn ⊕ Option Nat) := fun pc => bif Nat.beq pc 8 then some (.inl (74, [(2, 0, 2147483647)], [], [], 0, true, [3, 4], [(36, 4, 6, 1, 0)])) else none
def tAn_180 : Nat → Option (tAn ⊕ Option Nat) := fun pc => bif Nat.beq pc 4 then some (.inl (43, [(2, (-2147483648), 2147483647), (3, 0, 8)], [], [], 1, true, [], [])) else none
def tAn_181 : Nat → Option (tAn ⊕ Option Nat) := fun pc => bif Nat.beq pc 14 then some (.inl (63, [(3, (-2147483648), 2147483647), (4, 0, 9)], [], [], 1, true, [5], [])) else none
def tAn_233 : Nat → Option (tAn ⊕ Option Nat) := fun pc => bif Nat.beq pc 9 then some (.inl (47, [(4, 0, 60)], [], [], 0, true, [], [])) else none
def tAn_237 : Nat → Option (tAn ⊕ Option Nat) := fun pc => bif Nat.beq pc 10 then some (.inl (24, [(3, 0, 4000)], [], [], 0, true, [], [(23, 0, 39, 1, 0), (53, 0, 39, 1, 0), (56, 0, 19, 1, 0), (57, 0, 19, 1, 0), (58, 0, 19, 1, 0), (59, 0, 19, 1, 0), (60, 0, 19, 1, 0), (61, 0, 9, 1, 0), (62, 0, 9, 1, 0), (63, 0, 9, 1, 0), (65, 0, 39, 1, 0), (66, 0, 39, 1, 0), (67, 0, 39, 1, 0), (68, 0, 39, 1, 0), (69, 0, 39, 1, 0), (70, 0, 39, 1, 0), (71, 0, 39, 1, 0), (72, 0, 39, 1, 0), (73, 0, 39, 1, 0), (74, 0, 39, 1, 0), (75, 0, 359, 1, 0), (78, 0, 29, 1, 0), (79, 0, 29, 1, 0), (80, 0, 29, 1, 0), (82, 0, 11, 1, 0), (83, 0, 11, 1, 0), (84, 0, 11, 1, 0), (85, 0, 11, 1, 0), (86, 0, 1151, 1, 0), (90, 0, 8, 1, 0), (94, 0, 5, 1, 0), (95, 0, 7, 1, 0), (98, 0, 7, 1, 0), (99, 0, 7, 1, 0), (100, 0, 7, 1, 0), (101, 0, 7, 1, 0), (102, 0, 7, 1, 0), (103, 0, 7, 1, 0), (3, 0, 19, 1, 0), (4, 0, 19, 1, 0), (5, 0, 19, 1, 0), (6, 0, 19, 1, 0), (7, 0, 19, 1, 0), (8, 0, 9, 1, 0), (9, 0, 9, 1, 0), (10, 0, 9, 1, 0), (12, 0, 39, 1, 0), (13, 0, 39, 1, 0), (14, 0, 39, 1, 0), (15, 0, 39, 1, 0), (16, 0, 39, 1, 0), (17, 0, 39, 1, 0), (18, 0, 39, 1, 0), (19, 0, 39, 1, 0), (20, 0, 39, 1, 0), (21, 0, 39, 1, 0), (22, 0, 359, 1, 0), (25, 0, 29, 1, 0), (26, 0, 29, 1, 0), (27, 0, 29, 1, 0), (29, 0, 11, 1, 0), (30, 0, 11, 1, 0), (31, 0, 11, 1, 0), (32, 0, 11, 1, 0), (33, 0, 1151, 1, 0), (37, 0, 8, 1, 0), (41, 0, 5, 1, 0), (42, 0, 7, 1, 0), (45, 0, 7, 1, 0), (46, 0, 7, 1, 0), (47, 0, 7, 1, 0), (48, 0, 7, 1, 0), (49, 0, 7, 1, 0), (50, 0, 7, 1, 0)])) else none
def tAn_242 : Nat → Option (tAn ⊕ Option Nat) := fun pc => bif Nat.beq pc 4 then some (.inl (21, [(1, (-2147483648), 2147483647), (2, 0, 8)], [], [], 1, true, [], [])) else none
def tAn_259 : Nat → Option (tAn ⊕ Option Nat) := fun pc => bif Nat.beq pc 4 then some (.inl (73, [(2, (-1), 9), (3, 0, 10)], [], [], 1, true, [4], [])) else none
def tAn_266 : Nat → Option (tAn ⊕ Option Nat) := fun pc => bif Nat.beq pc 4 then some (.inl (119, [(1, 0, 30), (2, 0, 30)], [], [((0, 0), (0, 1), 0)], 1, true, [3, 4], [(120, 920, 1007, 3, 2), (120, 921, 1008, 3, 0), (120, 922, 1009, 3, 1), (120, 166, 556, 10, 6)])) else none
def tAn_267 : Nat → Option (tAn ⊕ Option Nat) := fun pc => bif Nat.beq pc 40 then some (.inl (96, [(1, 0, 20)], [], [], 0, true, [2], [(120, 23, 118, 5, 3)])) else none
def tAn_268 : Nat → Option (tAn ⊕ Option Nat) := fun pc => bif Nat.beq pc 34 then some (.inl (46, [(2, 0, 240)], [], [], 0, true, [], [(120, 0, 7, 1, 0), (120, 920, 1007, 3, 2), (120, 921, 1008, 3, 0), (120, 922, 1009, 3, 1), (120, 166, 556, 10, 6), (120, 23, 118, 5, 3)])) else none
def tAn_270 : Nat → Option (tAn ⊕ Option Nat) := fun pc => bif Nat.beq pc 119 then some (.inl (151, [(7, 0, 9)], [], [], 0, true, [1, 2, 3, 4, 5, 6], [(120, 560, 919, 1, 0)])) else none
def tAn_279 : Nat → Option (tAn ⊕ Option Nat) := fun pc => bif Nat.beq pc 5 then some (.inl (90, [(3, 0, 1), (4, 0, 40)], [], [], 1, true, [5], [])) else none
def tAn_281 : Nat → Option (tAn ⊕ Option Nat) := fun pc => bif Nat.beq pc 17 then some (.inl (139, [(3, 0, 20)], [], [], 0, true, [4], [(119, 7, 9, 1, 0), (120, 24, 119, 5, 4)])) else none
def tAn_285 : Nat → Option (tAn ⊕ Option Nat) := fun pc => bif Nat.beq pc 2 then some (.inl (87, [(1, 0, 40)], [], [], 0, true, [2], [(120, 173, 553, 10, 3)])) else none
def tAn_287 : Nat → Option (tAn ⊕ Option Nat) := fun pc => bif Nat.beq pc 2 then some (.inl (104, [(3, 0, 40)], [], [], 0, true, [4], [(120, 163, 553, 10, 3)])) else none
def tAn_289 : Nat → Option (tAn ⊕ Option Nat) := fun pc => bif Nat.beq pc 75 then some (.inl (145, [(3, (-2147483648), 2147483647), (4, 0, 40)], [], [], 1, true, [5, 6], [(120, 173, 553, 10, 3)])) else (bif Nat.beq pc 157 then some (.inl (229, [(3, (-2147483648), 2147483647), (5, 0, 40)], [], [], 1, true, [4, 6], [(120, 173, 553, 10, 3)])) else none)
def tAn_292 : Nat → Option (tAn ⊕ Option Nat) := fun pc => bif Nat.beq pc 14 then some (.inl (38, [(3, 0, 40)], [], [], 0, true, [2, 4], [(126, 0, 39, 1, 0)])) else (bif Nat.beq pc 62 then some (.inl (96, [(4, 0, 40)], [], [], 0, true, [1, 2], [(120, 163, 553, 10, 3)])) else none)
def tAn_293 : Nat → Option (tAn ⊕ Option Nat) := fun pc => bif Nat.beq pc 2 then some (.inl (65, [(2, 0, 39)], [(120, 5, 0, 40)], [((0, 0), (0, 1), (-1))], 0, false, [1, 3], [])) else none
def tAn_299 : Nat → Option (tAn ⊕ Option Nat) := fun pc => bif Nat.beq pc 31 then some (.inl (160, [(3, (-2147483648), 2147483647), (4, (-2147483648), 2147483647), (5, 0, 40)], [], [], 2, true, [6], [(130, 115, 116, 1, 0), (131, 0, 99, 1, 0)])) else none
def tAn_300 : Nat → Option (tAn ⊕ Option Nat) := fun pc => bif Nat.beq pc 40 then some (.inl (206, [(3, (-2147483648), 2147483647), (4, 0, 40)], [], [], 1, true, [5, 6, 7], [])) else none
def tAn_301 : Nat → Option (tAn ⊕ Option Nat) := fun pc => bif Nat.beq pc 18 then some (.inl (88, [(4, 0, 12)], [(119, 14, 0, 96)], [((0, 1), (0, 0), 84)], 0, true, [5], [(129, 0, 95, 1, 0), (119, 14, 14, 1, 0)])) else none
def tAn_321 : Nat → Option (tAn ⊕ Option Nat) := fun pc => bif Nat.beq pc 4 then some (.inl (107, [(2, (-1), 11), (3, 0, 12)], [], [], 1, true, [4], [])) else none
def tAn_327 : Nat → Option (tAn ⊕ Option Nat) := fun pc => bif Nat.beq pc 4 then some (.inl (35, [(2, (-2147483648), 2147483647), (3, 0, 8)], [], [], 1, true, [], [])) else none
def tAn_328 : Nat → Option (tAn ⊕ Option Nat) := fun pc => bif Nat.beq pc 19 then some (.inl (122, [(2, (-2147483648), 2147483647), (3, 0, 40)], [], [], 1, true, [4, 5], [])) else none
def tAn_331 : Nat → Option (tAn ⊕ Option Nat) := fun pc => bif Nat.beq pc 69 then some (.inl (92, [(4, 0, 20)], [], [], 0, true, [2, 3], [(125, 0, 140, 20, 0), (125, 0, 159, 1, 0)])) else none
def tAn_333 : Nat → Option (tAn ⊕ Option Nat) := fun pc => bif Nat.beq pc 25 then some (.inl (48, [(3, (-1), 19)], [], [], 0, false, [2], [])) else none
def tAn_336 : Nat → Option (tAn ⊕ Option Nat) := fun pc => bif Nat.beq pc 30 then some (.inl (151, [(3, (-2147483648), 2147483647), (4, (-2147483648), 2147483647), (5, (-2147483648), 2147483647), (6, 0, 8)], [], [], 3, true, [7, 8, 9], [])) else none
def tAn_338 : Nat → Option (tAn ⊕ Option Nat) := fun pc => bif Nat.beq pc 4 then some (.inl (42, [(1, 0, 8), (2, 0, 40)], [], [], 1, true, [], [(134, 0, 7, 1, 0)])) else none
def tAn_339 : Nat → Option (tAn ⊕ Option Nat) := fun pc => bif Nat.beq pc 5 then some (.inl (84, [(3, (-2147483648), 2147483647), (4, 0, 20)], [], [], 1, true, [5], [])) else none
def tAn_340 : Nat → Option (tAn ⊕ Option Nat) := fun pc => bif Nat.beq pc 41 then some (.inl (168, [(4, (-1), 2147483646), (5, (-2147483648), 2147483647), (6, 0, 2147483647)], [], [], 2, true, [7, 8], [])) else (bif Nat.beq pc 55 then some (.inl (95, [(7, (-2147483648), 2147483647), (8, 0, 8)], [], [], 1, true, [], [])) else none)
def tAn_341 : Nat → Option (tAn ⊕ Option Nat) := fun pc => bif Nat.beq pc 17 then some (.inl (48, [(1, 0, 49)], [], [], 0, true, [], [(120, 3440, 3685, 49, 10), (120, 3440, 3733, 1, 0)])) else none
def tAn_342 : Nat → Option (tAn ⊕ Option Nat) := fun pc => bif Nat.beq pc 87 then some (.inl (112, [(5, (-2147483648), 2147483647), (6, 0, 49)], [], [], 1, true, [1, 2, 3], [])) else none
def tAn_346 : Nat → Option (tAn ⊕ Option Nat) := fun pc => bif Nat.beq pc 2 then some (.inl (23, [(2, 0, 14)], [], [], 0, true, [3, 4, 5, 6], [(135, 14, 112, 14, 0), (135, 14, 125, 1, 0)])) else (bif Nat.beq pc 30 then some (.inl (114, [(2, (-1), 7)], [], [], 0, false, [1, 3, 4, 5, 6], [(135, 0, 98, 14, 0), (135, 0, 111, 1, 0)])) else (bif Nat.beq pc 36 then some (.inl (108, [(3, 0, 14)], [], [], 0, true, [1, 4, 5, 6], [(135, 0, 98, 14, 0), (135, 0, 111, 1, 0)])) else (bif Nat.beq pc 48 then some (.inl (89, [(4, 0, 2147483647), (5, 0, 7)], [], [], 1, true, [1, 6], [])) else none)))
def tAn_350 : Nat → Option (tAn ⊕ Option Nat) := fun pc => bif Nat.beq pc 5 then some (.inl (45, [(3, (-2147483648), 2147483647), (4, 0, 8)], [], [], 1, true, [], [])) else none
def tAn_351 : Nat → Option (tAn ⊕ Option Nat) := fun pc => bif Nat.beq pc 4 then some (.inl (61, [(2, 0, 1), (3, 0, 8)], [], [], 1, true, [], [])) else none
def tAn_352 : Nat → Option (tAn ⊕ Option Nat) := fun pc => bif Nat.beq pc 5 then some (.inl (127, [(3, (-1), 2147483646), (4, 1, 2147483647)], [], [], 1, true, [5], [])) else none
def tAn_359 : Nat → Option (tAn ⊕ Option Nat) := fun pc => bif Nat.beq pc 4 then some (.inl (32, [(1, (-2147483648), 2147483647), (2, 0, 20)], [], [], 1, true, [], [])) else none
def tAn_360 : Nat → Option (tAn ⊕ Option Nat) := fun pc => bif Nat.beq pc 58 then some (.inl (71, [(3, 0, 10)], [], [], 0, true, [], [(120, 0, 7, 1, 0), (120, 920, 1007, 3, 2), (120, 921, 1008, 3, 0), (120, 922, 1009, 3, 1), (120, 166, 556, 10, 6), (120, 23, 118, 5, 3)])) else none
def tAn_361 : Nat → Option (tAn ⊕ Option Nat) := fun pc => bif Nat.beq pc 57 then some (.inl (93, [(6, 0, 60)], [], [], 0, true, [1, 2, 3, 5], [])) else none
def tAn_364 : Nat → Option (tAn ⊕ Option Nat) := fun pc => bif Nat.beq pc 102 then some (.inl (131, [(2, (-2147483648), 2147483647), (3, 0, 10)], [], [], 1, true, [1], [])) else (bif Nat.beq pc 145 then some (.inl (177, [(2, (-2147483648), 2147483647), (3, 0, 40)], [], [], 1, true, [], [])) else none)
def tAnZ : Nat → Option (tAn ⊕ Option Nat) := fun _ => none
def tAns_0 : List (Nat → Option (tAn ⊕ Option Nat)) := [tAnZ, tAn_1, tAnZ, tAnZ, tAnZ, tAnZ, tAn_6, tAnZ, tAn_8, tAn_9, tAn_10, tAnZ, tAnZ, tAnZ, tAnZ, tAnZ]
def tAns_1 : List (Nat → Option (tAn ⊕ Option Nat)) := [tAnZ, tAnZ, tAn_18, tAn_19, tAnZ, tAnZ, tAnZ, tAnZ, tAnZ, tAnZ, tAn_26, tAn_27, tAnZ, tAnZ, tAn_30, tAnZ]
def tAns_2 : List (Nat → Option (tAn ⊕ Option Nat)) := [tAnZ, tAn_33, tAnZ, tAn_35, tAn_36, tAnZ, tAnZ, tAnZ, tAnZ, tAnZ, tAnZ, tAnZ, tAnZ, tAnZ, tAnZ, tAnZ]
def tAns_3 : List (Nat → Option (tAn ⊕ Option Nat)) := [tAnZ, tAnZ, tAnZ, tAn_51, tAn_52, tAn_53, tAnZ, tAn_55, tAnZ, tAnZ, tAn_58, tAnZ, tAnZ, tAnZ, tAn_62, tAn_63]
def tAns_4 : List (Nat → Option (tAn ⊕ Option Nat)) := [tAn_64, tAnZ, tAnZ, tAn_67, tAnZ, tAnZ, tAnZ, tAnZ, tAnZ, tAnZ, tAnZ, tAnZ, tAnZ, tAnZ, tAnZ, tAnZ]
def tAns_5 : List (Nat → Option (tAn ⊕ Option Nat)) := [tAnZ, tAnZ, tAnZ, tAnZ, tAnZ, tAnZ, tAn_86, tAnZ, tAnZ, tAnZ, tAnZ, tAnZ, tAn_92, tAnZ, tAnZ, tAnZ]
def tAns_6 : List (Nat → Option (tAn ⊕ Option Nat)) := [tAnZ, tAn_97, tAnZ, tAn_99, tAnZ, tAn_101, tAnZ, tAn_103, tAnZ, tAnZ, tAnZ, tAnZ, tAn_108, tAn_109, tAn_110, tAn_111]
def tAns_7 : List (Nat → Option (tAn ⊕ Option Nat)) := [tAn_112, tAn_113, tAnZ, tAn_115, tAnZ, tAnZ, tAnZ, tAnZ, tAn_120, tAn_121, tAnZ, tAnZ, tAnZ, tAn_125, tAn_126, tAnZ]
def tAns_8 : List (Nat → Option (tAn ⊕ Option Nat)) := [tAnZ, tAnZ, tAnZ, tAnZ, tAnZ, tAn_133, tAn_134, tAnZ, tAnZ, tAnZ, tAnZ, tAnZ, tAnZ, tAnZ, tAnZ, tAn_143]
def tAns_9 : List (Nat → Option (tAn ⊕ Option Nat)) := [tAn_144, tAnZ, tAnZ, tAn_147, tAn_148, tAnZ, tAnZ, tAnZ, tAnZ, tAnZ, tAn_154, tAnZ, tAnZ, tAnZ, tAnZ, tAnZ]
def tAns_10 : List (Nat → Option (tAn ⊕ Option Nat)) := [tAn_160, tAn_161, tAn_162, tAnZ, tAnZ, tAn_165, tAnZ, tAn_167, tAn_168, tAnZ, tAnZ, tAnZ, tAnZ, tAnZ, tAnZ, tAnZ]
def tAns_11 : List (Nat → Option (tAn ⊕ Option Nat)) := [tAn_176, tAn_177, tAn_178, tAnZ, tAn_180, tAn_181, tAnZ, tAnZ, tAnZ, tAnZ, tAnZ, tAnZ, tAnZ, tAnZ, tAnZ, tAnZ]
def tAns_12 : List (Nat → Option (tAn ⊕ Option Nat)) := [tAnZ, tAnZ, tAnZ, tAnZ, tAnZ, tAnZ, tAnZ, tAnZ, tAnZ, tAnZ, tAnZ, tAnZ, tAnZ, tAnZ, tAnZ, tAnZ]
def tAns_13 : List (Nat → Option (tAn ⊕ Option Nat)) := [tAnZ, tAnZ, tAnZ, tAnZ, tAnZ, tAnZ, tAnZ, tAnZ, tAnZ, tAnZ, tAnZ, tAnZ, tAnZ, tAnZ, tAnZ, tAnZ]
def tAns_14 : List (Nat → Option (tAn ⊕ Option Nat)) := [tAnZ, tAnZ, tAnZ, tAnZ, tAnZ, tAnZ, tAnZ, tAnZ, tAnZ, tAn_233, tAnZ, tAnZ, tAnZ, tAn_237, tAnZ, tAnZ]
def tAns_15 : List (Nat → Option (tAn ⊕ Option Nat)) := [tAnZ, tAnZ, tAn_242, tAnZ, tAnZ, tAnZ, tAnZ, tAnZ, tAnZ, tAnZ, tAnZ, tAnZ, tAnZ, tAnZ, tAnZ, tAnZ]
def tAns_16 : List (Nat → Option (tAn ⊕ Option Nat)) := [tAnZ, tAnZ, tAnZ, tAn_259, tAnZ, tAnZ, tAnZ, tAnZ, tAnZ, tAnZ, tAn_266, tAn_267, tAn_268, tAnZ, tAn_270, tAnZ]
def tAns_17 : List (Nat → Option (tAn ⊕ Option Nat)) := [tAnZ, tAnZ, tAnZ, tAnZ, tAnZ, tAnZ, tAnZ, tAn_279, tAnZ, tAn_281, tAnZ, tAnZ, tAnZ, tAn_285, tAnZ, tAn_287]
def tAns_18 : List (Nat → Option (tAn ⊕ Option Nat)) := [tAnZ, tAn_289, tAnZ, tAnZ, tAn_292, tAn_293, tAnZ, tAnZ, tAnZ, tAnZ, tAnZ, tAn_299, tAn_300, tAn_301, tAnZ, tAnZ]
def tAns_19 : List (Nat → Option (tAn ⊕ Option Nat)) := [tAnZ, tAnZ, tAnZ, tAnZ, tAnZ, tAnZ, tAnZ, tAnZ, tAnZ, tAnZ, tAnZ, tAnZ, tAnZ, tAnZ, tAnZ, tAnZ]
def tAns_20 : List (Nat → Option (tAn ⊕ Option Nat)) := [tAnZ, tAn_321, tAnZ, tAnZ, tAnZ, tAnZ, tAnZ, tAn_327, tAn_328, tAnZ, tAnZ, tAn_331, tAnZ, tAn_333, tAnZ, tAnZ]
def tAns_21 : List (Nat → Option (tAn ⊕ Option Nat)) := [tAn_336, tAnZ, tAn_338, tAn_339, tAn_340, tAn_341, tAn_342, tAnZ, tAnZ, tAnZ, tAn_346, tAnZ, tAnZ, tAnZ, tAn_350, tAn_351]
def tAns_22 : List (Nat → Option (tAn ⊕ Option Nat)) := [tAn_352, tAnZ, tAnZ, tAnZ, tAnZ, tAnZ, tAnZ, tAn_359, tAn_360, tAn_361, tAnZ, tAnZ, tAn_364, tAnZ, tAnZ, tAnZ]
def tAns : List (List (Nat → Option (tAn ⊕ Option Nat))) := [tAns_0, tAns_1, tAns_2, tAns_3, tAns_4, tAns_5, tAns_6, tAns_7, tAns_8, tAns_9, tAns_10, tAns_11, tAns_12, tAns_13, tAns_14, tAns_15, tAns_16, tAns_17, tAns_18, tAns_19, tAns_20, tAns_21, tAns_22]
def tPt_ (y pc : Nat) : Option (tAn ⊕ Option Nat) := match tAns[y / 16]? with
  | none => none
  | some l => (match l[y % 16]? with
    | none => none
    | some f => f pc)
