/-! where the cells of the class lie: its object at 100; what its references hold, but for the steps of programs and the word of the parser -/
def xkT : List Nat := [10, 33, 34, 36, 37, 8, 20, 38, 2, 9, 21, 20, 20, 4, 20, 20, 20, 6, 20, 20, 20, 20, 0, 6, 20, 20, 20, 20, 20, 20, 1, 20, 5, 20, 20, 7, 4, 20, 20, 20, 20, 3, 3, 20, 20, 20, 3, 3, 3, 3, 3, 3, 3, 3, 4, 20, 20, 20, 4, 20, 20, 20, 4, 20, 20, 20, 4, 20, 20, 20, 6, 20, 20, 20, 20, 6, 20, 20, 20, 20, 6, 20, 20, 20, 20, 6, 20, 20, 20, 20, 7, 4, 20, 20, 20, 20, 7, 4, 20, 20, 20, 20, 7, 4, 20, 20, 20, 20, 7, 4, 20, 20, 20, 20, 7, 4, 20, 20, 20, 20, 7, 4, 20, 20, 20, 20, 7, 4, 20, 20, 20, 20, 7, 4, 20, 20, 20, 20, 7, 4, 20, 20, 20, 20, 7, 4, 20, 20, 20, 20, 7, 4, 20, 20, 20, 20, 7, 4, 20, 20, 20, 20, 7, 4, 20, 20, 20, 20, 7, 4, 20, 20, 20, 20, 7, 4, 20, 20, 20, 20, 7, 4, 20, 20, 20, 20, 7, 4, 20, 20, 20, 20, 7, 4, 20, 20, 20, 20, 7, 4, 20, 20, 20, 20, 7, 4, 20, 20, 20, 20, 7, 4, 20, 20, 20, 20, 7, 4, 20, 20, 20, 20, 7, 4, 20, 20, 20, 20, 7, 4, 20, 20, 20, 20, 8, 20, 8, 20, 8, 20, 8, 20]
def xnT : List Nat := [0, 8, 4, 4, 24, 0, 8, 4, 0, 0, 1000, 1001, 1001, 0, 12, 12, 12, 0, 6, 6, 32, 1000, 0, 0, 6, 6, 32, 0, 12, 3, 0, 20, 0, 1728, 4, 0, 0, 12, 12, 12, 36, 0, 0, 144, 144, 4, 0, 0, 0, 0, 0, 0, 0, 0, 0, 12, 12, 12, 0, 12, 12, 12, 0, 12, 12, 12, 0, 12, 12, 12, 0, 6, 6, 32, 0, 0, 6, 6, 32, 0, 0, 6, 6, 32, 0, 0, 6, 6, 32, 0, 0, 0, 12, 12, 12, 36, 0, 0, 12, 12, 12, 36, 0, 0, 12, 12, 12, 36, 0, 0, 12, 12, 12, 36, 0, 0, 12, 12, 12, 36, 0, 0, 12, 12, 12, 36, 0, 0, 12, 12, 12, 36, 0, 0, 12, 12, 12, 36, 0, 0, 12, 12, 12, 36, 0, 0, 12, 12, 12, 36, 0, 0, 12, 12, 12, 36, 0, 0, 12, 12, 12, 36, 0, 0, 12, 12, 12, 36, 0, 0, 12, 12, 12, 36, 0, 0, 12, 12, 12, 36, 0, 0, 12, 12, 12, 36, 0, 0, 12, 12, 12, 36, 0, 0, 12, 12, 12, 36, 0, 0, 12, 12, 12, 36, 0, 0, 12, 12, 12, 36, 0, 0, 12, 12, 12, 36, 0, 0, 12, 12, 12, 36, 0, 0, 12, 12, 12, 36, 0, 0, 12, 12, 12, 36, 0, 8, 0, 8, 0, 8, 0, 8]
def xrL : List (Nat × Nat × Nat) := [(100, 0, 101), (100, 1, 102), (100, 2, 103), (100, 3, 104), (100, 4, 105), (100, 5, 107), (100, 6, 108), (100, 7, 122), (100, 8, 130), (100, 9, 132), (100, 10, 135), (100, 11, 141), (100, 12, 142), (100, 13, 143), (100, 14, 144), (100, 15, 145), (101, 0, 146), (101, 1, 147), (101, 2, 148), (101, 3, 149), (101, 4, 150), (101, 5, 151), (101, 6, 152), (101, 7, 153), (102, 0, 154), (102, 1, 158), (102, 2, 162), (102, 3, 166), (103, 0, 170), (103, 1, 175), (103, 2, 180), (103, 3, 185), (104, 0, 190), (104, 1, 196), (104, 2, 202), (104, 3, 208), (104, 4, 214), (104, 5, 220), (104, 6, 226), (104, 7, 232), (104, 8, 238), (104, 9, 244), (104, 10, 250), (104, 11, 256), (104, 12, 262), (104, 13, 268), (104, 14, 274), (104, 15, 280), (104, 16, 286), (104, 17, 292), (104, 18, 298), (104, 19, 304), (104, 20, 310), (104, 21, 316), (104, 22, 322), (104, 23, 328), (105, 2, 106), (107, 0, 334), (107, 1, 336), (107, 2, 338), (107, 3, 340), (108, 0, 109), (108, 1, 113), (108, 2, 117), (109, 0, 110), (109, 2, 111), (109, 3, 112), (113, 0, 114), (113, 1, 115), (113, 2, 116), (117, 0, 121), (117, 3, 118), (117, 4, 119), (117, 5, 120), (122, 0, 123), (122, 1, 128), (122, 2, 129), (123, 3, 124), (123, 4, 125), (123, 5, 126), (130, 0, 131), (132, 0, 133), (132, 1, 134), (135, 0, 136), (135, 1, 140), (136, 0, 137), (136, 1, 138), (136, 2, 139), (154, 0, 155), (154, 1, 156), (154, 2, 157), (158, 0, 159), (158, 1, 160), (158, 2, 161), (162, 0, 163), (162, 1, 164), (162, 2, 165), (166, 0, 167), (166, 1, 168), (166, 2, 169), (170, 3, 171), (170, 4, 172), (170, 5, 173), (175, 3, 176), (175, 4, 177), (175, 5, 178), (180, 3, 181), (180, 4, 182), (180, 5, 183), (185, 3, 186), (185, 4, 187), (185, 5, 188), (190, 0, 191), (190, 1, 195), (191, 0, 192), (191, 1, 193), (191, 2, 194), (196, 0, 197), (196, 1, 201), (197, 0, 198), (197, 1, 199), (197, 2, 200), (202, 0, 203), (202, 1, 207), (203, 0, 204), (203, 1, 205), (203, 2, 206), (208, 0, 209), (208, 1, 213), (209, 0, 210), (209, 1, 211), (209, 2, 212), (214, 0, 215), (214, 1, 219), (215, 0, 216), (215, 1, 217), (215, 2, 218), (220, 0, 221), (220, 1, 225), (221, 0, 222), (221, 1, 223), (221, 2, 224), (226, 0, 227), (226, 1, 231), (227, 0, 228), (227, 1, 229), (227, 2, 230), (232, 0, 233), (232, 1, 237), (233, 0, 234), (233, 1, 235), (233, 2, 236), (238, 0, 239), (238, 1, 243), (239, 0, 240), (239, 1, 241), (239, 2, 242), (244, 0, 245), (244, 1, 249), (245, 0, 246), (245, 1, 247), (245, 2, 248), (250, 0, 251), (250, 1, 255), (251, 0, 252), (251, 1, 253), (251, 2, 254), (256, 0, 257), (256, 1, 261), (257, 0, 258), (257, 1, 259), (257, 2, 260), (262, 0, 263), (262, 1, 267), (263, 0, 264), (263, 1, 265), (263, 2, 266), (268, 0, 269), (268, 1, 273), (269, 0, 270), (269, 1, 271), (269, 2, 272), (274, 0, 275), (274, 1, 279), (275, 0, 276), (275, 1, 277), (275, 2, 278), (280, 0, 281), (280, 1, 285), (281, 0, 282), (281, 1, 283), (281, 2, 284), (286, 0, 287), (286, 1, 291), (287, 0, 288), (287, 1, 289), (287, 2, 290), (292, 0, 293), (292, 1, 297), (293, 0, 294), (293, 1, 295), (293, 2, 296), (298, 0, 299), (298, 1, 303), (299, 0, 300), (299, 1, 301), (299, 2, 302), (304, 0, 305), (304, 1, 309), (305, 0, 306), (305, 1, 307), (305, 2, 308), (310, 0, 311), (310, 1, 315), (311, 0, 312), (311, 1, 313), (311, 2, 314), (316, 0, 317), (316, 1, 321), (317, 0, 318), (317, 1, 319), (317, 2, 320), (322, 0, 323), (322, 1, 327), (323, 0, 324), (323, 1, 325), (323, 2, 326), (328, 0, 329), (328, 1, 333), (329, 0, 330), (329, 1, 331), (329, 2, 332), (334, 2, 335), (336, 2, 337), (338, 2, 339), (340, 2, 341)]
def XLY (h : AH) : Prop := (∀ a, a < 242 → hK h (100 + a) = xkT.getD a 0 ∧ (20 ≤ xkT.getD a 0 → hN h (100 + a) = xnT.getD a 0)) ∧ (∀ q ∈ xrL, hR h q.1 q.2.1 = q.2.2)
theorem xk_100 {h : AH} (x : XLY h) : hK h 100 = 10 := (x.1 0 (by decide)).1
theorem xk_101 {h : AH} (x : XLY h) : hK h 101 = 33 := (x.1 1 (by decide)).1
theorem xn_101 {h : AH} (x : XLY h) : hN h 101 = 8 := (x.1 1 (by decide)).2 (by decide)
theorem xk_102 {h : AH} (x : XLY h) : hK h 102 = 34 := (x.1 2 (by decide)).1
theorem xn_102 {h : AH} (x : XLY h) : hN h 102 = 4 := (x.1 2 (by decide)).2 (by decide)
theorem xk_103 {h : AH} (x : XLY h) : hK h 103 = 36 := (x.1 3 (by decide)).1
theorem xn_103 {h : AH} (x : XLY h) : hN h 103 = 4 := (x.1 3 (by decide)).2 (by decide)
theorem xk_104 {h : AH} (x : XLY h) : hK h 104 = 37 := (x.1 4 (by decide)).1
theorem xn_104 {h : AH} (x : XLY h) : hN h 104 = 24 := (x.1 4 (by decide)).2 (by decide)
theorem xk_105 {h : AH} (x : XLY h) : hK h 105 = 8 := (x.1 5 (by decide)).1
theorem xk_106 {h : AH} (x : XLY h) : hK h 106 = 20 := (x.1 6 (by decide)).1
theorem xn_106 {h : AH} (x : XLY h) : hN h 106 = 8 := (x.1 6 (by decide)).2 (by decide)
theorem xk_107 {h : AH} (x : XLY h) : hK h 107 = 38 := (x.1 7 (by decide)).1
theorem xn_107 {h : AH} (x : XLY h) : hN h 107 = 4 := (x.1 7 (by decide)).2 (by decide)
theorem xk_108 {h : AH} (x : XLY h) : hK h 108 = 2 := (x.1 8 (by decide)).1
theorem xk_109 {h : AH} (x : XLY h) : hK h 109 = 9 := (x.1 9 (by decide)).1
theorem xk_110 {h : AH} (x : XLY h) : hK h 110 = 21 := (x.1 10 (by decide)).1
theorem xn_110 {h : AH} (x : XLY h) : hN h 110 = 1000 := (x.1 10 (by decide)).2 (by decide)
theorem xk_111 {h : AH} (x : XLY h) : hK h 111 = 20 := (x.1 11 (by decide)).1
theorem xn_111 {h : AH} (x : XLY h) : hN h 111 = 1001 := (x.1 11 (by decide)).2 (by decide)
theorem xk_112 {h : AH} (x : XLY h) : hK h 112 = 20 := (x.1 12 (by decide)).1
theorem xn_112 {h : AH} (x : XLY h) : hN h 112 = 1001 := (x.1 12 (by decide)).2 (by decide)
theorem xk_113 {h : AH} (x : XLY h) : hK h 113 = 4 := (x.1 13 (by decide)).1
theorem xk_114 {h : AH} (x : XLY h) : hK h 114 = 20 := (x.1 14 (by decide)).1
theorem xn_114 {h : AH} (x : XLY h) : hN h 114 = 12 := (x.1 14 (by decide)).2 (by decide)
theorem xk_115 {h : AH} (x : XLY h) : hK h 115 = 20 := (x.1 15 (by decide)).1
theorem xn_115 {h : AH} (x : XLY h) : hN h 115 = 12 := (x.1 15 (by decide)).2 (by decide)
theorem xk_116 {h : AH} (x : XLY h) : hK h 116 = 20 := (x.1 16 (by decide)).1
theorem xn_116 {h : AH} (x : XLY h) : hN h 116 = 12 := (x.1 16 (by decide)).2 (by decide)
theorem xk_117 {h : AH} (x : XLY h) : hK h 117 = 6 := (x.1 17 (by decide)).1
theorem xk_118 {h : AH} (x : XLY h) : hK h 118 = 20 := (x.1 18 (by decide)).1
theorem xn_118 {h : AH} (x : XLY h) : hN h 118 = 6 := (x.1 18 (by decide)).2 (by decide)
theorem xk_119 {h : AH} (x : XLY h) : hK h 119 = 20 := (x.1 19 (by decide)).1
theorem xn_119 {h : AH} (x : XLY h) : hN h 119 = 6 := (x.1 19 (by decide)).2 (by decide)
theorem xk_120 {h : AH} (x : XLY h) : hK h 120 = 20 := (x.1 20 (by decide)).1
theorem xn_120 {h : AH} (x : XLY h) : hN h 120 = 32 := (x.1 20 (by decide)).2 (by decide)
theorem xk_121 {h : AH} (x : XLY h) : hK h 121 = 20 := (x.1 21 (by decide)).1
theorem xn_121 {h : AH} (x : XLY h) : hN h 121 = 1000 := (x.1 21 (by decide)).2 (by decide)
theorem xk_122 {h : AH} (x : XLY h) : hK h 122 = 0 := (x.1 22 (by decide)).1
theorem xk_123 {h : AH} (x : XLY h) : hK h 123 = 6 := (x.1 23 (by decide)).1
theorem xk_124 {h : AH} (x : XLY h) : hK h 124 = 20 := (x.1 24 (by decide)).1
theorem xn_124 {h : AH} (x : XLY h) : hN h 124 = 6 := (x.1 24 (by decide)).2 (by decide)
theorem xk_125 {h : AH} (x : XLY h) : hK h 125 = 20 := (x.1 25 (by decide)).1
theorem xn_125 {h : AH} (x : XLY h) : hN h 125 = 6 := (x.1 25 (by decide)).2 (by decide)
theorem xk_126 {h : AH} (x : XLY h) : hK h 126 = 20 := (x.1 26 (by decide)).1
theorem xn_126 {h : AH} (x : XLY h) : hN h 126 = 32 := (x.1 26 (by decide)).2 (by decide)
theorem xk_127 {h : AH} (x : XLY h) : hK h 127 = 20 := (x.1 27 (by decide)).1
theorem xn_127 {h : AH} (x : XLY h) : hN h 127 = 0 := (x.1 27 (by decide)).2 (by decide)
theorem xk_128 {h : AH} (x : XLY h) : hK h 128 = 20 := (x.1 28 (by decide)).1
theorem xn_128 {h : AH} (x : XLY h) : hN h 128 = 12 := (x.1 28 (by decide)).2 (by decide)
theorem xk_129 {h : AH} (x : XLY h) : hK h 129 = 20 := (x.1 29 (by decide)).1
theorem xn_129 {h : AH} (x : XLY h) : hN h 129 = 3 := (x.1 29 (by decide)).2 (by decide)
theorem xk_130 {h : AH} (x : XLY h) : hK h 130 = 1 := (x.1 30 (by decide)).1
theorem xk_131 {h : AH} (x : XLY h) : hK h 131 = 20 := (x.1 31 (by decide)).1
theorem xn_131 {h : AH} (x : XLY h) : hN h 131 = 20 := (x.1 31 (by decide)).2 (by decide)
theorem xk_132 {h : AH} (x : XLY h) : hK h 132 = 5 := (x.1 32 (by decide)).1
theorem xk_133 {h : AH} (x : XLY h) : hK h 133 = 20 := (x.1 33 (by decide)).1
theorem xn_133 {h : AH} (x : XLY h) : hN h 133 = 1728 := (x.1 33 (by decide)).2 (by decide)
theorem xk_134 {h : AH} (x : XLY h) : hK h 134 = 20 := (x.1 34 (by decide)).1
theorem xn_134 {h : AH} (x : XLY h) : hN h 134 = 4 := (x.1 34 (by decide)).2 (by decide)
theorem xk_135 {h : AH} (x : XLY h) : hK h 135 = 7 := (x.1 35 (by decide)).1
theorem xk_136 {h : AH} (x : XLY h) : hK h 136 = 4 := (x.1 36 (by decide)).1
theorem xk_137 {h : AH} (x : XLY h) : hK h 137 = 20 := (x.1 37 (by decide)).1
theorem xn_137 {h : AH} (x : XLY h) : hN h 137 = 12 := (x.1 37 (by decide)).2 (by decide)
theorem xk_138 {h : AH} (x : XLY h) : hK h 138 = 20 := (x.1 38 (by decide)).1
theorem xn_138 {h : AH} (x : XLY h) : hN h 138 = 12 := (x.1 38 (by decide)).2 (by decide)
theorem xk_139 {h : AH} (x : XLY h) : hK h 139 = 20 := (x.1 39 (by decide)).1
theorem xn_139 {h : AH} (x : XLY h) : hN h 139 = 12 := (x.1 39 (by decide)).2 (by decide)
theorem xk_140 {h : AH} (x : XLY h) : hK h 140 = 20 := (x.1 40 (by decide)).1
theorem xn_140 {h : AH} (x : XLY h) : hN h 140 = 36 := (x.1 40 (by decide)).2 (by decide)
theorem xk_141 {h : AH} (x : XLY h) : hK h 141 = 3 := (x.1 41 (by decide)).1
theorem xk_142 {h : AH} (x : XLY h) : hK h 142 = 3 := (x.1 42 (by decide)).1
theorem xk_143 {h : AH} (x : XLY h) : hK h 143 = 20 := (x.1 43 (by decide)).1
theorem xn_143 {h : AH} (x : XLY h) : hN h 143 = 144 := (x.1 43 (by decide)).2 (by decide)
theorem xk_144 {h : AH} (x : XLY h) : hK h 144 = 20 := (x.1 44 (by decide)).1
theorem xn_144 {h : AH} (x : XLY h) : hN h 144 = 144 := (x.1 44 (by decide)).2 (by decide)
theorem xk_145 {h : AH} (x : XLY h) : hK h 145 = 20 := (x.1 45 (by decide)).1
theorem xn_145 {h : AH} (x : XLY h) : hN h 145 = 4 := (x.1 45 (by decide)).2 (by decide)
set_option maxRecDepth 10000 in
theorem xr_100_0 {h : AH} (x : XLY h) : hR h 100 0 = 101 := x.2 (100, 0, 101) (by decide)
set_option maxRecDepth 10000 in
theorem xr_100_1 {h : AH} (x : XLY h) : hR h 100 1 = 102 := x.2 (100, 1, 102) (by decide)
set_option maxRecDepth 10000 in
theorem xr_100_2 {h : AH} (x : XLY h) : hR h 100 2 = 103 := x.2 (100, 2, 103) (by decide)
set_option maxRecDepth 10000 in
theorem xr_100_3 {h : AH} (x : XLY h) : hR h 100 3 = 104 := x.2 (100, 3, 104) (by decide)
set_option maxRecDepth 10000 in
theorem xr_100_4 {h : AH} (x : XLY h) : hR h 100 4 = 105 := x.2 (100, 4, 105) (by decide)
set_option maxRecDepth 10000 in
theorem xr_100_5 {h : AH} (x : XLY h) : hR h 100 5 = 107 := x.2 (100, 5, 107) (by decide)
set_option maxRecDepth 10000 in
theorem xr_100_6 {h : AH} (x : XLY h) : hR h 100 6 = 108 := x.2 (100, 6, 108) (by decide)
set_option maxRecDepth 10000 in
theorem xr_100_7 {h : AH} (x : XLY h) : hR h 100 7 = 122 := x.2 (100, 7, 122) (by decide)
set_option maxRecDepth 10000 in
theorem xr_100_8 {h : AH} (x : XLY h) : hR h 100 8 = 130 := x.2 (100, 8, 130) (by decide)
set_option maxRecDepth 10000 in
theorem xr_100_9 {h : AH} (x : XLY h) : hR h 100 9 = 132 := x.2 (100, 9, 132) (by decide)
set_option maxRecDepth 10000 in
theorem xr_100_10 {h : AH} (x : XLY h) : hR h 100 10 = 135 := x.2 (100, 10, 135) (by decide)
set_option maxRecDepth 10000 in
theorem xr_100_11 {h : AH} (x : XLY h) : hR h 100 11 = 141 := x.2 (100, 11, 141) (by decide)
set_option maxRecDepth 10000 in
theorem xr_100_12 {h : AH} (x : XLY h) : hR h 100 12 = 142 := x.2 (100, 12, 142) (by decide)
set_option maxRecDepth 10000 in
theorem xr_100_13 {h : AH} (x : XLY h) : hR h 100 13 = 143 := x.2 (100, 13, 143) (by decide)
set_option maxRecDepth 10000 in
theorem xr_100_14 {h : AH} (x : XLY h) : hR h 100 14 = 144 := x.2 (100, 14, 144) (by decide)
set_option maxRecDepth 10000 in
theorem xr_100_15 {h : AH} (x : XLY h) : hR h 100 15 = 145 := x.2 (100, 15, 145) (by decide)
set_option maxRecDepth 10000 in
theorem xr_105_2 {h : AH} (x : XLY h) : hR h 105 2 = 106 := x.2 (105, 2, 106) (by decide)
set_option maxRecDepth 10000 in
theorem xr_108_0 {h : AH} (x : XLY h) : hR h 108 0 = 109 := x.2 (108, 0, 109) (by decide)
set_option maxRecDepth 10000 in
theorem xr_108_1 {h : AH} (x : XLY h) : hR h 108 1 = 113 := x.2 (108, 1, 113) (by decide)
set_option maxRecDepth 10000 in
theorem xr_108_2 {h : AH} (x : XLY h) : hR h 108 2 = 117 := x.2 (108, 2, 117) (by decide)
set_option maxRecDepth 10000 in
theorem xr_109_0 {h : AH} (x : XLY h) : hR h 109 0 = 110 := x.2 (109, 0, 110) (by decide)
set_option maxRecDepth 10000 in
theorem xr_109_2 {h : AH} (x : XLY h) : hR h 109 2 = 111 := x.2 (109, 2, 111) (by decide)
set_option maxRecDepth 10000 in
theorem xr_109_3 {h : AH} (x : XLY h) : hR h 109 3 = 112 := x.2 (109, 3, 112) (by decide)
set_option maxRecDepth 10000 in
theorem xr_113_0 {h : AH} (x : XLY h) : hR h 113 0 = 114 := x.2 (113, 0, 114) (by decide)
set_option maxRecDepth 10000 in
theorem xr_113_1 {h : AH} (x : XLY h) : hR h 113 1 = 115 := x.2 (113, 1, 115) (by decide)
set_option maxRecDepth 10000 in
theorem xr_113_2 {h : AH} (x : XLY h) : hR h 113 2 = 116 := x.2 (113, 2, 116) (by decide)
set_option maxRecDepth 10000 in
theorem xr_117_0 {h : AH} (x : XLY h) : hR h 117 0 = 121 := x.2 (117, 0, 121) (by decide)
set_option maxRecDepth 10000 in
theorem xr_117_3 {h : AH} (x : XLY h) : hR h 117 3 = 118 := x.2 (117, 3, 118) (by decide)
set_option maxRecDepth 10000 in
theorem xr_117_4 {h : AH} (x : XLY h) : hR h 117 4 = 119 := x.2 (117, 4, 119) (by decide)
set_option maxRecDepth 10000 in
theorem xr_117_5 {h : AH} (x : XLY h) : hR h 117 5 = 120 := x.2 (117, 5, 120) (by decide)
set_option maxRecDepth 10000 in
theorem xr_122_0 {h : AH} (x : XLY h) : hR h 122 0 = 123 := x.2 (122, 0, 123) (by decide)
set_option maxRecDepth 10000 in
theorem xr_122_1 {h : AH} (x : XLY h) : hR h 122 1 = 128 := x.2 (122, 1, 128) (by decide)
set_option maxRecDepth 10000 in
theorem xr_122_2 {h : AH} (x : XLY h) : hR h 122 2 = 129 := x.2 (122, 2, 129) (by decide)
set_option maxRecDepth 10000 in
theorem xr_123_3 {h : AH} (x : XLY h) : hR h 123 3 = 124 := x.2 (123, 3, 124) (by decide)
set_option maxRecDepth 10000 in
theorem xr_123_4 {h : AH} (x : XLY h) : hR h 123 4 = 125 := x.2 (123, 4, 125) (by decide)
set_option maxRecDepth 10000 in
theorem xr_123_5 {h : AH} (x : XLY h) : hR h 123 5 = 126 := x.2 (123, 5, 126) (by decide)
set_option maxRecDepth 10000 in
theorem xr_130_0 {h : AH} (x : XLY h) : hR h 130 0 = 131 := x.2 (130, 0, 131) (by decide)
set_option maxRecDepth 10000 in
theorem xr_132_0 {h : AH} (x : XLY h) : hR h 132 0 = 133 := x.2 (132, 0, 133) (by decide)
set_option maxRecDepth 10000 in
theorem xr_132_1 {h : AH} (x : XLY h) : hR h 132 1 = 134 := x.2 (132, 1, 134) (by decide)
set_option maxRecDepth 10000 in
theorem xr_135_0 {h : AH} (x : XLY h) : hR h 135 0 = 136 := x.2 (135, 0, 136) (by decide)
set_option maxRecDepth 10000 in
theorem xr_135_1 {h : AH} (x : XLY h) : hR h 135 1 = 140 := x.2 (135, 1, 140) (by decide)
set_option maxRecDepth 10000 in
theorem xr_136_0 {h : AH} (x : XLY h) : hR h 136 0 = 137 := x.2 (136, 0, 137) (by decide)
set_option maxRecDepth 10000 in
theorem xr_136_1 {h : AH} (x : XLY h) : hR h 136 1 = 138 := x.2 (136, 1, 138) (by decide)
set_option maxRecDepth 10000 in
theorem xr_136_2 {h : AH} (x : XLY h) : hR h 136 2 = 139 := x.2 (136, 2, 139) (by decide)
set_option maxRecDepth 100000 in
theorem f_pe_m : ∀ p, p < 8 → (101, p, 146 + p) ∈ xrL := by decide +kernel
theorem f_pe {h : AH} (x : XLY h) {p : Nat} (hp : p < 8) : hR h 101 p = 146 + p := x.2 _ (f_pe_m p hp)
set_option maxRecDepth 100000 in
theorem g_pe_t : ∀ p, p < 8 → 146 + p - 100 < 242 ∧ xkT.getD (146 + p - 100) 0 = 3 := by decide +kernel
theorem g_pe_k {h : AH} (x : XLY h) {p : Nat} (hp : p < 8) : hK h (146 + p) = 3 := by
  have t := g_pe_t p hp
  have e := (x.1 _ t.1).1
  rw [show 100 + (146 + p - 100) = 146 + p by omega] at e
  rw [e]; exact t.2
set_option maxRecDepth 100000 in
theorem f_pl_m : ∀ p, p < 4 → (102, p, 154 + 4 * p) ∈ xrL := by decide +kernel
theorem f_pl {h : AH} (x : XLY h) {p : Nat} (hp : p < 4) : hR h 102 p = 154 + 4 * p := x.2 _ (f_pl_m p hp)
set_option maxRecDepth 100000 in
theorem g_pl_t : ∀ p, p < 4 → 154 + 4 * p - 100 < 242 ∧ xkT.getD (154 + 4 * p - 100) 0 = 4 := by decide +kernel
theorem g_pl_k {h : AH} (x : XLY h) {p : Nat} (hp : p < 4) : hK h (154 + 4 * p) = 4 := by
  have t := g_pl_t p hp
  have e := (x.1 _ t.1).1
  rw [show 100 + (154 + 4 * p - 100) = 154 + 4 * p by omega] at e
  rw [e]; exact t.2
set_option maxRecDepth 100000 in
theorem f_pl0_m : ∀ p, p < 4 → (154 + 4 * p, 0, 155 + 4 * p) ∈ xrL := by decide +kernel
theorem f_pl0 {h : AH} (x : XLY h) {p : Nat} (hp : p < 4) : hR h (154 + 4 * p) 0 = 155 + 4 * p := x.2 _ (f_pl0_m p hp)
set_option maxRecDepth 100000 in
theorem g_pl0_t : ∀ p, p < 4 → 155 + 4 * p - 100 < 242 ∧ xkT.getD (155 + 4 * p - 100) 0 = 20 ∧ xnT.getD (155 + 4 * p - 100) 0 = 12 := by decide +kernel
theorem g_pl0_k {h : AH} (x : XLY h) {p : Nat} (hp : p < 4) : hK h (155 + 4 * p) = 20 := by
  have t := g_pl0_t p hp
  have e := (x.1 _ t.1).1
  rw [show 100 + (155 + 4 * p - 100) = 155 + 4 * p by omega] at e
  rw [e]; exact t.2.1
theorem g_pl0_n {h : AH} (x : XLY h) {p : Nat} (hp : p < 4) : hN h (155 + 4 * p) = 12 := by
  have t := g_pl0_t p hp
  have e := (x.1 _ t.1).2 (by rw [t.2.1]; decide)
  rw [show 100 + (155 + 4 * p - 100) = 155 + 4 * p by omega] at e
  rw [e]; exact t.2.2
set_option maxRecDepth 100000 in
theorem f_pl1_m : ∀ p, p < 4 → (154 + 4 * p, 1, 156 + 4 * p) ∈ xrL := by decide +kernel
theorem f_pl1 {h : AH} (x : XLY h) {p : Nat} (hp : p < 4) : hR h (154 + 4 * p) 1 = 156 + 4 * p := x.2 _ (f_pl1_m p hp)
set_option maxRecDepth 100000 in
theorem g_pl1_t : ∀ p, p < 4 → 156 + 4 * p - 100 < 242 ∧ xkT.getD (156 + 4 * p - 100) 0 = 20 ∧ xnT.getD (156 + 4 * p - 100) 0 = 12 := by decide +kernel
theorem g_pl1_k {h : AH} (x : XLY h) {p : Nat} (hp : p < 4) : hK h (156 + 4 * p) = 20 := by
  have t := g_pl1_t p hp
  have e := (x.1 _ t.1).1
  rw [show 100 + (156 + 4 * p - 100) = 156 + 4 * p by omega] at e
  rw [e]; exact t.2.1
theorem g_pl1_n {h : AH} (x : XLY h) {p : Nat} (hp : p < 4) : hN h (156 + 4 * p) = 12 := by
  have t := g_pl1_t p hp
  have e := (x.1 _ t.1).2 (by rw [t.2.1]; decide)
  rw [show 100 + (156 + 4 * p - 100) = 156 + 4 * p by omega] at e
  rw [e]; exact t.2.2
set_option maxRecDepth 100000 in
theorem f_pl2_m : ∀ p, p < 4 → (154 + 4 * p, 2, 157 + 4 * p) ∈ xrL := by decide +kernel
theorem f_pl2 {h : AH} (x : XLY h) {p : Nat} (hp : p < 4) : hR h (154 + 4 * p) 2 = 157 + 4 * p := x.2 _ (f_pl2_m p hp)
set_option maxRecDepth 100000 in
theorem g_pl2_t : ∀ p, p < 4 → 157 + 4 * p - 100 < 242 ∧ xkT.getD (157 + 4 * p - 100) 0 = 20 ∧ xnT.getD (157 + 4 * p - 100) 0 = 12 := by decide +kernel
theorem g_pl2_k {h : AH} (x : XLY h) {p : Nat} (hp : p < 4) : hK h (157 + 4 * p) = 20 := by
  have t := g_pl2_t p hp
  have e := (x.1 _ t.1).1
  rw [show 100 + (157 + 4 * p - 100) = 157 + 4 * p by omega] at e
  rw [e]; exact t.2.1
theorem g_pl2_n {h : AH} (x : XLY h) {p : Nat} (hp : p < 4) : hN h (157 + 4 * p) = 12 := by
  have t := g_pl2_t p hp
  have e := (x.1 _ t.1).2 (by rw [t.2.1]; decide)
  rw [show 100 + (157 + 4 * p - 100) = 157 + 4 * p by omega] at e
  rw [e]; exact t.2.2
set_option maxRecDepth 100000 in
theorem f_rd_m : ∀ p, p < 4 → (103, p, 170 + 5 * p) ∈ xrL := by decide +kernel
theorem f_rd {h : AH} (x : XLY h) {p : Nat} (hp : p < 4) : hR h 103 p = 170 + 5 * p := x.2 _ (f_rd_m p hp)
set_option maxRecDepth 100000 in
theorem g_rd_t : ∀ p, p < 4 → 170 + 5 * p - 100 < 242 ∧ xkT.getD (170 + 5 * p - 100) 0 = 6 := by decide +kernel
theorem g_rd_k {h : AH} (x : XLY h) {p : Nat} (hp : p < 4) : hK h (170 + 5 * p) = 6 := by
  have t := g_rd_t p hp
  have e := (x.1 _ t.1).1
  rw [show 100 + (170 + 5 * p - 100) = 170 + 5 * p by omega] at e
  rw [e]; exact t.2
set_option maxRecDepth 100000 in
theorem f_rd3_m : ∀ p, p < 4 → (170 + 5 * p, 3, 171 + 5 * p) ∈ xrL := by decide +kernel
theorem f_rd3 {h : AH} (x : XLY h) {p : Nat} (hp : p < 4) : hR h (170 + 5 * p) 3 = 171 + 5 * p := x.2 _ (f_rd3_m p hp)
set_option maxRecDepth 100000 in
theorem g_rd3_t : ∀ p, p < 4 → 171 + 5 * p - 100 < 242 ∧ xkT.getD (171 + 5 * p - 100) 0 = 20 ∧ xnT.getD (171 + 5 * p - 100) 0 = 6 := by decide +kernel
theorem g_rd3_k {h : AH} (x : XLY h) {p : Nat} (hp : p < 4) : hK h (171 + 5 * p) = 20 := by
  have t := g_rd3_t p hp
  have e := (x.1 _ t.1).1
  rw [show 100 + (171 + 5 * p - 100) = 171 + 5 * p by omega] at e
  rw [e]; exact t.2.1
theorem g_rd3_n {h : AH} (x : XLY h) {p : Nat} (hp : p < 4) : hN h (171 + 5 * p) = 6 := by
  have t := g_rd3_t p hp
  have e := (x.1 _ t.1).2 (by rw [t.2.1]; decide)
  rw [show 100 + (171 + 5 * p - 100) = 171 + 5 * p by omega] at e
  rw [e]; exact t.2.2
set_option maxRecDepth 100000 in
theorem f_rd4_m : ∀ p, p < 4 → (170 + 5 * p, 4, 172 + 5 * p) ∈ xrL := by decide +kernel
theorem f_rd4 {h : AH} (x : XLY h) {p : Nat} (hp : p < 4) : hR h (170 + 5 * p) 4 = 172 + 5 * p := x.2 _ (f_rd4_m p hp)
set_option maxRecDepth 100000 in
theorem g_rd4_t : ∀ p, p < 4 → 172 + 5 * p - 100 < 242 ∧ xkT.getD (172 + 5 * p - 100) 0 = 20 ∧ xnT.getD (172 + 5 * p - 100) 0 = 6 := by decide +kernel
theorem g_rd4_k {h : AH} (x : XLY h) {p : Nat} (hp : p < 4) : hK h (172 + 5 * p) = 20 := by
  have t := g_rd4_t p hp
  have e := (x.1 _ t.1).1
  rw [show 100 + (172 + 5 * p - 100) = 172 + 5 * p by omega] at e
  rw [e]; exact t.2.1
theorem g_rd4_n {h : AH} (x : XLY h) {p : Nat} (hp : p < 4) : hN h (172 + 5 * p) = 6 := by
  have t := g_rd4_t p hp
  have e := (x.1 _ t.1).2 (by rw [t.2.1]; decide)
  rw [show 100 + (172 + 5 * p - 100) = 172 + 5 * p by omega] at e
  rw [e]; exact t.2.2
set_option maxRecDepth 100000 in
theorem f_rd5_m : ∀ p, p < 4 → (170 + 5 * p, 5, 173 + 5 * p) ∈ xrL := by decide +kernel
theorem f_rd5 {h : AH} (x : XLY h) {p : Nat} (hp : p < 4) : hR h (170 + 5 * p) 5 = 173 + 5 * p := x.2 _ (f_rd5_m p hp)
set_option maxRecDepth 100000 in
theorem g_rd5_t : ∀ p, p < 4 → 173 + 5 * p - 100 < 242 ∧ xkT.getD (173 + 5 * p - 100) 0 = 20 ∧ xnT.getD (173 + 5 * p - 100) 0 = 32 := by decide +kernel
theorem g_rd5_k {h : AH} (x : XLY h) {p : Nat} (hp : p < 4) : hK h (173 + 5 * p) = 20 := by
  have t := g_rd5_t p hp
  have e := (x.1 _ t.1).1
  rw [show 100 + (173 + 5 * p - 100) = 173 + 5 * p by omega] at e
  rw [e]; exact t.2.1
theorem g_rd5_n {h : AH} (x : XLY h) {p : Nat} (hp : p < 4) : hN h (173 + 5 * p) = 32 := by
  have t := g_rd5_t p hp
  have e := (x.1 _ t.1).2 (by rw [t.2.1]; decide)
  rw [show 100 + (173 + 5 * p - 100) = 173 + 5 * p by omega] at e
  rw [e]; exact t.2.2
set_option maxRecDepth 100000 in
theorem f_si_m : ∀ p, p < 24 → (104, p, 190 + 6 * p) ∈ xrL := by decide +kernel
theorem f_si {h : AH} (x : XLY h) {p : Nat} (hp : p < 24) : hR h 104 p = 190 + 6 * p := x.2 _ (f_si_m p hp)
set_option maxRecDepth 100000 in
theorem g_si_t : ∀ p, p < 24 → 190 + 6 * p - 100 < 242 ∧ xkT.getD (190 + 6 * p - 100) 0 = 7 := by decide +kernel
theorem g_si_k {h : AH} (x : XLY h) {p : Nat} (hp : p < 24) : hK h (190 + 6 * p) = 7 := by
  have t := g_si_t p hp
  have e := (x.1 _ t.1).1
  rw [show 100 + (190 + 6 * p - 100) = 190 + 6 * p by omega] at e
  rw [e]; exact t.2
set_option maxRecDepth 100000 in
theorem f_si0_m : ∀ p, p < 24 → (190 + 6 * p, 0, 191 + 6 * p) ∈ xrL := by decide +kernel
theorem f_si0 {h : AH} (x : XLY h) {p : Nat} (hp : p < 24) : hR h (190 + 6 * p) 0 = 191 + 6 * p := x.2 _ (f_si0_m p hp)
set_option maxRecDepth 100000 in
theorem g_sa_t : ∀ p, p < 24 → 191 + 6 * p - 100 < 242 ∧ xkT.getD (191 + 6 * p - 100) 0 = 4 := by decide +kernel
theorem g_sa_k {h : AH} (x : XLY h) {p : Nat} (hp : p < 24) : hK h (191 + 6 * p) = 4 := by
  have t := g_sa_t p hp
  have e := (x.1 _ t.1).1
  rw [show 100 + (191 + 6 * p - 100) = 191 + 6 * p by omega] at e
  rw [e]; exact t.2
set_option maxRecDepth 100000 in
theorem f_si1_m : ∀ p, p < 24 → (190 + 6 * p, 1, 195 + 6 * p) ∈ xrL := by decide +kernel
theorem f_si1 {h : AH} (x : XLY h) {p : Nat} (hp : p < 24) : hR h (190 + 6 * p) 1 = 195 + 6 * p := x.2 _ (f_si1_m p hp)
set_option maxRecDepth 100000 in
theorem g_sj_t : ∀ p, p < 24 → 195 + 6 * p - 100 < 242 ∧ xkT.getD (195 + 6 * p - 100) 0 = 20 ∧ xnT.getD (195 + 6 * p - 100) 0 = 36 := by decide +kernel
theorem g_sj_k {h : AH} (x : XLY h) {p : Nat} (hp : p < 24) : hK h (195 + 6 * p) = 20 := by
  have t := g_sj_t p hp
  have e := (x.1 _ t.1).1
  rw [show 100 + (195 + 6 * p - 100) = 195 + 6 * p by omega] at e
  rw [e]; exact t.2.1
theorem g_sj_n {h : AH} (x : XLY h) {p : Nat} (hp : p < 24) : hN h (195 + 6 * p) = 36 := by
  have t := g_sj_t p hp
  have e := (x.1 _ t.1).2 (by rw [t.2.1]; decide)
  rw [show 100 + (195 + 6 * p - 100) = 195 + 6 * p by omega] at e
  rw [e]; exact t.2.2
set_option maxRecDepth 100000 in
theorem f_sa0_m : ∀ p, p < 24 → (191 + 6 * p, 0, 192 + 6 * p) ∈ xrL := by decide +kernel
theorem f_sa0 {h : AH} (x : XLY h) {p : Nat} (hp : p < 24) : hR h (191 + 6 * p) 0 = 192 + 6 * p := x.2 _ (f_sa0_m p hp)
set_option maxRecDepth 100000 in
theorem g_sa0_t : ∀ p, p < 24 → 192 + 6 * p - 100 < 242 ∧ xkT.getD (192 + 6 * p - 100) 0 = 20 ∧ xnT.getD (192 + 6 * p - 100) 0 = 12 := by decide +kernel
theorem g_sa0_k {h : AH} (x : XLY h) {p : Nat} (hp : p < 24) : hK h (192 + 6 * p) = 20 := by
  have t := g_sa0_t p hp
  have e := (x.1 _ t.1).1
  rw [show 100 + (192 + 6 * p - 100) = 192 + 6 * p by omega] at e
  rw [e]; exact t.2.1
theorem g_sa0_n {h : AH} (x : XLY h) {p : Nat} (hp : p < 24) : hN h (192 + 6 * p) = 12 := by
  have t := g_sa0_t p hp
  have e := (x.1 _ t.1).2 (by rw [t.2.1]; decide)
  rw [show 100 + (192 + 6 * p - 100) = 192 + 6 * p by omega] at e
  rw [e]; exact t.2.2
set_option maxRecDepth 100000 in
theorem f_sa1_m : ∀ p, p < 24 → (191 + 6 * p, 1, 193 + 6 * p) ∈ xrL := by decide +kernel
theorem f_sa1 {h : AH} (x : XLY h) {p : Nat} (hp : p < 24) : hR h (191 + 6 * p) 1 = 193 + 6 * p := x.2 _ (f_sa1_m p hp)
set_option maxRecDepth 100000 in
theorem g_sa1_t : ∀ p, p < 24 → 193 + 6 * p - 100 < 242 ∧ xkT.getD (193 + 6 * p - 100) 0 = 20 ∧ xnT.getD (193 + 6 * p - 100) 0 = 12 := by decide +kernel
theorem g_sa1_k {h : AH} (x : XLY h) {p : Nat} (hp : p < 24) : hK h (193 + 6 * p) = 20 := by
  have t := g_sa1_t p hp
  have e := (x.1 _ t.1).1
  rw [show 100 + (193 + 6 * p - 100) = 193 + 6 * p by omega] at e
  rw [e]; exact t.2.1
theorem g_sa1_n {h : AH} (x : XLY h) {p : Nat} (hp : p < 24) : hN h (193 + 6 * p) = 12 := by
  have t := g_sa1_t p hp
  have e := (x.1 _ t.1).2 (by rw [t.2.1]; decide)
  rw [show 100 + (193 + 6 * p - 100) = 193 + 6 * p by omega] at e
  rw [e]; exact t.2.2
set_option maxRecDepth 100000 in
theorem f_sa2_m : ∀ p, p < 24 → (191 + 6 * p, 2, 194 + 6 * p) ∈ xrL := by decide +kernel
theorem f_sa2 {h : AH} (x : XLY h) {p : Nat} (hp : p < 24) : hR h (191 + 6 * p) 2 = 194 + 6 * p := x.2 _ (f_sa2_m p hp)
set_option maxRecDepth 100000 in
theorem g_sa2_t : ∀ p, p < 24 → 194 + 6 * p - 100 < 242 ∧ xkT.getD (194 + 6 * p - 100) 0 = 20 ∧ xnT.getD (194 + 6 * p - 100) 0 = 12 := by decide +kernel
theorem g_sa2_k {h : AH} (x : XLY h) {p : Nat} (hp : p < 24) : hK h (194 + 6 * p) = 20 := by
  have t := g_sa2_t p hp
  have e := (x.1 _ t.1).1
  rw [show 100 + (194 + 6 * p - 100) = 194 + 6 * p by omega] at e
  rw [e]; exact t.2.1
theorem g_sa2_n {h : AH} (x : XLY h) {p : Nat} (hp : p < 24) : hN h (194 + 6 * p) = 12 := by
  have t := g_sa2_t p hp
  have e := (x.1 _ t.1).2 (by rw [t.2.1]; decide)
  rw [show 100 + (194 + 6 * p - 100) = 194 + 6 * p by omega] at e
  rw [e]; exact t.2.2
set_option maxRecDepth 100000 in
theorem f_mk_m : ∀ p, p < 4 → (107, p, 334 + 2 * p) ∈ xrL := by decide +kernel
theorem f_mk {h : AH} (x : XLY h) {p : Nat} (hp : p < 4) : hR h 107 p = 334 + 2 * p := x.2 _ (f_mk_m p hp)
set_option maxRecDepth 100000 in
theorem g_mk_t : ∀ p, p < 4 → 334 + 2 * p - 100 < 242 ∧ xkT.getD (334 + 2 * p - 100) 0 = 8 := by decide +kernel
theorem g_mk_k {h : AH} (x : XLY h) {p : Nat} (hp : p < 4) : hK h (334 + 2 * p) = 8 := by
  have t := g_mk_t p hp
  have e := (x.1 _ t.1).1
  rw [show 100 + (334 + 2 * p - 100) = 334 + 2 * p by omega] at e
  rw [e]; exact t.2
set_option maxRecDepth 100000 in
theorem f_mk2_m : ∀ p, p < 4 → (334 + 2 * p, 2, 335 + 2 * p) ∈ xrL := by decide +kernel
theorem f_mk2 {h : AH} (x : XLY h) {p : Nat} (hp : p < 4) : hR h (334 + 2 * p) 2 = 335 + 2 * p := x.2 _ (f_mk2_m p hp)
set_option maxRecDepth 100000 in
theorem g_mk2_t : ∀ p, p < 4 → 335 + 2 * p - 100 < 242 ∧ xkT.getD (335 + 2 * p - 100) 0 = 20 ∧ xnT.getD (335 + 2 * p - 100) 0 = 8 := by decide +kernel
theorem g_mk2_k {h : AH} (x : XLY h) {p : Nat} (hp : p < 4) : hK h (335 + 2 * p) = 20 := by
  have t := g_mk2_t p hp
  have e := (x.1 _ t.1).1
  rw [show 100 + (335 + 2 * p - 100) = 335 + 2 * p by omega] at e
  rw [e]; exact t.2.1
theorem g_mk2_n {h : AH} (x : XLY h) {p : Nat} (hp : p < 4) : hN h (335 + 2 * p) = 8 := by
  have t := g_mk2_t p hp
  have e := (x.1 _ t.1).2 (by rw [t.2.1]; decide)
  rw [show 100 + (335 + 2 * p - 100) = 335 + 2 * p by omega] at e
  rw [e]; exact t.2.2
theorem XLY.sI {h : AH} (x : XLY h) (a j : Nat) (v : Int32) : XLY (sI h a j v) := x
theorem XLY.sJ {h : AH} (x : XLY h) (a j : Nat) (v : Int64) : XLY (sJ h a j v) := x
