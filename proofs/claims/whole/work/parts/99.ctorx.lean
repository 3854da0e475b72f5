theorem dAX9_init : ∀ q ∈ ([(0, (.aload_n 0, 1)), (1, (.invokespecial 3, 3)), (4, (.aload_n 0, 1)), (5, (.new 9, 3)), (8, (.dup, 1)), (9, (.invokespecial 11, 3)), (12, (.putfield 12, 3)), (15, (.aload_n 0, 1)), (16, (.new 16, 3)), (19, (.dup, 1)), (20, (.invokespecial 18, 3)), (23, (.putfield 19, 3)), (26, (.aload_n 0, 1)), (27, (.new 16, 3)), (30, (.dup, 1)), (31, (.invokespecial 18, 3)), (34, (.putfield 23, 3)), (37, (.aload_n 0, 1)), (38, (.iconst 0, 1)), (39, (.putfield 26, 3)), (42, (.aload_n 0, 1)), (43, (.iconst 0, 1)), (44, (.putfield 30, 3)), (47, (.aload_n 0, 1)), (48, (.new 34, 3)), (51, (.dup, 1)), (52, (.invokespecial 36, 3)), (55, (.putfield 37, 3)), (58, (.aload_n 0, 1)), (59, (.new 34, 3)), (62, (.dup, 1)), (63, (.invokespecial 36, 3)), (66, (.putfield 41, 3)), (69, (.aload_n 0, 1)), (70, (.new 44, 3)), (73, (.dup, 1)), (74, (.iconst 0, 1)), (75, (.invokespecial 46, 3)), (78, (.putfield 49, 3)), (81, (.aload_n 0, 1)), (82, (.new 44, 3)), (85, (.dup, 1)), (86, (.iconst 1, 1)), (87, (.invokespecial 46, 3)), (90, (.putfield 53, 3)), (93, (.aload_n 0, 1)), (94, (.new 56, 3)), (97, (.dup, 1)), (98, (.invokespecial 58, 3)), (101, (.putfield 59, 3)), (104, (.aload_n 0, 1)), (105, (.iconst 3, 1)), (106, (.anewarray 34, 3)), (109, (.putfield 63, 3)), (112, (.aload_n 0, 1)), (113, (.iconst 0, 1)), (114, (.putfield 67, 3)), (117, (.aload_n 0, 1)), (118, (.new 70, 3)), (121, (.dup, 1)), (122, (.invokespecial 72, 3)), (125, (.putfield 73, 3)), (128, (.aload_n 0, 1)), (129, (.new 77, 3)), (132, (.dup, 1)), (133, (.invokespecial 79, 3)), (136, (.putfield 80, 3)), (139, (.aload_n 0, 1)), (140, (.new 84, 3)), (143, (.dup, 1)), (144, (.invokespecial 86, 3)), (147, (.putfield 87, 3)), (150, (.iconst 0, 1)), (151, (.istore_n 1, 1)), (152, (.iload_n 1, 1)), (153, (.iconst 3, 1)), (154, (.if_icmp .ge 22, 3)), (157, (.aload_n 0, 1)), (158, (.getfield 63, 3)), (161, (.iload_n 1, 1)), (162, (.new 34, 3)), (165, (.dup, 1)), (166, (.invokespecial 36, 3)), (169, (.aastore, 1)), (170, (.iinc 1 1, 3)), (173, (.goto (-21), 3)), (176, (.return_, 1))] : List (Nat × (Instr × Nat))), decode cX9_init q.1 = .ok q.2 := by decide +kernel
theorem dX9_init_0 : decode cX9_init 0 = .ok (.aload_n 0, 1) := dAX9_init (0, (.aload_n 0, 1)) (List.mem_of_getElem? (i := 0) rfl)
theorem dX9_init_1 : decode cX9_init 1 = .ok (.invokespecial 3, 3) := dAX9_init (1, (.invokespecial 3, 3)) (List.mem_of_getElem? (i := 1) rfl)
theorem dX9_init_4 : decode cX9_init 4 = .ok (.aload_n 0, 1) := dAX9_init (4, (.aload_n 0, 1)) (List.mem_of_getElem? (i := 2) rfl)
theorem dX9_init_5 : decode cX9_init 5 = .ok (.new 9, 3) := dAX9_init (5, (.new 9, 3)) (List.mem_of_getElem? (i := 3) rfl)
theorem dX9_init_8 : decode cX9_init 8 = .ok (.dup, 1) := dAX9_init (8, (.dup, 1)) (List.mem_of_getElem? (i := 4) rfl)
theorem dX9_init_9 : decode cX9_init 9 = .ok (.invokespecial 11, 3) := dAX9_init (9, (.invokespecial 11, 3)) (List.mem_of_getElem? (i := 5) rfl)
theorem dX9_init_12 : decode cX9_init 12 = .ok (.putfield 12, 3) := dAX9_init (12, (.putfield 12, 3)) (List.mem_of_getElem? (i := 6) rfl)
theorem dX9_init_15 : decode cX9_init 15 = .ok (.aload_n 0, 1) := dAX9_init (15, (.aload_n 0, 1)) (List.mem_of_getElem? (i := 7) rfl)
theorem dX9_init_16 : decode cX9_init 16 = .ok (.new 16, 3) := dAX9_init (16, (.new 16, 3)) (List.mem_of_getElem? (i := 8) rfl)
theorem dX9_init_19 : decode cX9_init 19 = .ok (.dup, 1) := dAX9_init (19, (.dup, 1)) (List.mem_of_getElem? (i := 9) rfl)
theorem dX9_init_20 : decode cX9_init 20 = .ok (.invokespecial 18, 3) := dAX9_init (20, (.invokespecial 18, 3)) (List.mem_of_getElem? (i := 10) rfl)
theorem dX9_init_23 : decode cX9_init 23 = .ok (.putfield 19, 3) := dAX9_init (23, (.putfield 19, 3)) (List.mem_of_getElem? (i := 11) rfl)
theorem dX9_init_26 : decode cX9_init 26 = .ok (.aload_n 0, 1) := dAX9_init (26, (.aload_n 0, 1)) (List.mem_of_getElem? (i := 12) rfl)
theorem dX9_init_27 : decode cX9_init 27 = .ok (.new 16, 3) := dAX9_init (27, (.new 16, 3)) (List.mem_of_getElem? (i := 13) rfl)
theorem dX9_init_30 : decode cX9_init 30 = .ok (.dup, 1) := dAX9_init (30, (.dup, 1)) (List.mem_of_getElem? (i := 14) rfl)
theorem dX9_init_31 : decode cX9_init 31 = .ok (.invokespecial 18, 3) := dAX9_init (31, (.invokespecial 18, 3)) (List.mem_of_getElem? (i := 15) rfl)
theorem dX9_init_34 : decode cX9_init 34 = .ok (.putfield 23, 3) := dAX9_init (34, (.putfield 23, 3)) (List.mem_of_getElem? (i := 16) rfl)
theorem dX9_init_37 : decode cX9_init 37 = .ok (.aload_n 0, 1) := dAX9_init (37, (.aload_n 0, 1)) (List.mem_of_getElem? (i := 17) rfl)
theorem dX9_init_38 : decode cX9_init 38 = .ok (.iconst 0, 1) := dAX9_init (38, (.iconst 0, 1)) (List.mem_of_getElem? (i := 18) rfl)
theorem dX9_init_39 : decode cX9_init 39 = .ok (.putfield 26, 3) := dAX9_init (39, (.putfield 26, 3)) (List.mem_of_getElem? (i := 19) rfl)
theorem dX9_init_42 : decode cX9_init 42 = .ok (.aload_n 0, 1) := dAX9_init (42, (.aload_n 0, 1)) (List.mem_of_getElem? (i := 20) rfl)
theorem dX9_init_43 : decode cX9_init 43 = .ok (.iconst 0, 1) := dAX9_init (43, (.iconst 0, 1)) (List.mem_of_getElem? (i := 21) rfl)
theorem dX9_init_44 : decode cX9_init 44 = .ok (.putfield 30, 3) := dAX9_init (44, (.putfield 30, 3)) (List.mem_of_getElem? (i := 22) rfl)
theorem dX9_init_47 : decode cX9_init 47 = .ok (.aload_n 0, 1) := dAX9_init (47, (.aload_n 0, 1)) (List.mem_of_getElem? (i := 23) rfl)
theorem dX9_init_48 : decode cX9_init 48 = .ok (.new 34, 3) := dAX9_init (48, (.new 34, 3)) (List.mem_of_getElem? (i := 24) rfl)
theorem dX9_init_51 : decode cX9_init 51 = .ok (.dup, 1) := dAX9_init (51, (.dup, 1)) (List.mem_of_getElem? (i := 25) rfl)
theorem dX9_init_52 : decode cX9_init 52 = .ok (.invokespecial 36, 3) := dAX9_init (52, (.invokespecial 36, 3)) (List.mem_of_getElem? (i := 26) rfl)
theorem dX9_init_55 : decode cX9_init 55 = .ok (.putfield 37, 3) := dAX9_init (55, (.putfield 37, 3)) (List.mem_of_getElem? (i := 27) rfl)
theorem dX9_init_58 : decode cX9_init 58 = .ok (.aload_n 0, 1) := dAX9_init (58, (.aload_n 0, 1)) (List.mem_of_getElem? (i := 28) rfl)
theorem dX9_init_59 : decode cX9_init 59 = .ok (.new 34, 3) := dAX9_init (59, (.new 34, 3)) (List.mem_of_getElem? (i := 29) rfl)
theorem dX9_init_62 : decode cX9_init 62 = .ok (.dup, 1) := dAX9_init (62, (.dup, 1)) (List.mem_of_getElem? (i := 30) rfl)
theorem dX9_init_63 : decode cX9_init 63 = .ok (.invokespecial 36, 3) := dAX9_init (63, (.invokespecial 36, 3)) (List.mem_of_getElem? (i := 31) rfl)
theorem dX9_init_66 : decode cX9_init 66 = .ok (.putfield 41, 3) := dAX9_init (66, (.putfield 41, 3)) (List.mem_of_getElem? (i := 32) rfl)
theorem dX9_init_69 : decode cX9_init 69 = .ok (.aload_n 0, 1) := dAX9_init (69, (.aload_n 0, 1)) (List.mem_of_getElem? (i := 33) rfl)
theorem dX9_init_70 : decode cX9_init 70 = .ok (.new 44, 3) := dAX9_init (70, (.new 44, 3)) (List.mem_of_getElem? (i := 34) rfl)
theorem dX9_init_73 : decode cX9_init 73 = .ok (.dup, 1) := dAX9_init (73, (.dup, 1)) (List.mem_of_getElem? (i := 35) rfl)
theorem dX9_init_74 : decode cX9_init 74 = .ok (.iconst 0, 1) := dAX9_init (74, (.iconst 0, 1)) (List.mem_of_getElem? (i := 36) rfl)
theorem dX9_init_75 : decode cX9_init 75 = .ok (.invokespecial 46, 3) := dAX9_init (75, (.invokespecial 46, 3)) (List.mem_of_getElem? (i := 37) rfl)
theorem dX9_init_78 : decode cX9_init 78 = .ok (.putfield 49, 3) := dAX9_init (78, (.putfield 49, 3)) (List.mem_of_getElem? (i := 38) rfl)
theorem dX9_init_81 : decode cX9_init 81 = .ok (.aload_n 0, 1) := dAX9_init (81, (.aload_n 0, 1)) (List.mem_of_getElem? (i := 39) rfl)
theorem dX9_init_82 : decode cX9_init 82 = .ok (.new 44, 3) := dAX9_init (82, (.new 44, 3)) (List.mem_of_getElem? (i := 40) rfl)
theorem dX9_init_85 : decode cX9_init 85 = .ok (.dup, 1) := dAX9_init (85, (.dup, 1)) (List.mem_of_getElem? (i := 41) rfl)
theorem dX9_init_86 : decode cX9_init 86 = .ok (.iconst 1, 1) := dAX9_init (86, (.iconst 1, 1)) (List.mem_of_getElem? (i := 42) rfl)
theorem dX9_init_87 : decode cX9_init 87 = .ok (.invokespecial 46, 3) := dAX9_init (87, (.invokespecial 46, 3)) (List.mem_of_getElem? (i := 43) rfl)
theorem dX9_init_90 : decode cX9_init 90 = .ok (.putfield 53, 3) := dAX9_init (90, (.putfield 53, 3)) (List.mem_of_getElem? (i := 44) rfl)
theorem dX9_init_93 : decode cX9_init 93 = .ok (.aload_n 0, 1) := dAX9_init (93, (.aload_n 0, 1)) (List.mem_of_getElem? (i := 45) rfl)
theorem dX9_init_94 : decode cX9_init 94 = .ok (.new 56, 3) := dAX9_init (94, (.new 56, 3)) (List.mem_of_getElem? (i := 46) rfl)
theorem dX9_init_97 : decode cX9_init 97 = .ok (.dup, 1) := dAX9_init (97, (.dup, 1)) (List.mem_of_getElem? (i := 47) rfl)
theorem dX9_init_98 : decode cX9_init 98 = .ok (.invokespecial 58, 3) := dAX9_init (98, (.invokespecial 58, 3)) (List.mem_of_getElem? (i := 48) rfl)
theorem dX9_init_101 : decode cX9_init 101 = .ok (.putfield 59, 3) := dAX9_init (101, (.putfield 59, 3)) (List.mem_of_getElem? (i := 49) rfl)
theorem dX9_init_104 : decode cX9_init 104 = .ok (.aload_n 0, 1) := dAX9_init (104, (.aload_n 0, 1)) (List.mem_of_getElem? (i := 50) rfl)
theorem dX9_init_105 : decode cX9_init 105 = .ok (.iconst 3, 1) := dAX9_init (105, (.iconst 3, 1)) (List.mem_of_getElem? (i := 51) rfl)
theorem dX9_init_106 : decode cX9_init 106 = .ok (.anewarray 34, 3) := dAX9_init (106, (.anewarray 34, 3)) (List.mem_of_getElem? (i := 52) rfl)
theorem dX9_init_109 : decode cX9_init 109 = .ok (.putfield 63, 3) := dAX9_init (109, (.putfield 63, 3)) (List.mem_of_getElem? (i := 53) rfl)
theorem dX9_init_112 : decode cX9_init 112 = .ok (.aload_n 0, 1) := dAX9_init (112, (.aload_n 0, 1)) (List.mem_of_getElem? (i := 54) rfl)
theorem dX9_init_113 : decode cX9_init 113 = .ok (.iconst 0, 1) := dAX9_init (113, (.iconst 0, 1)) (List.mem_of_getElem? (i := 55) rfl)
theorem dX9_init_114 : decode cX9_init 114 = .ok (.putfield 67, 3) := dAX9_init (114, (.putfield 67, 3)) (List.mem_of_getElem? (i := 56) rfl)
theorem dX9_init_117 : decode cX9_init 117 = .ok (.aload_n 0, 1) := dAX9_init (117, (.aload_n 0, 1)) (List.mem_of_getElem? (i := 57) rfl)
theorem dX9_init_118 : decode cX9_init 118 = .ok (.new 70, 3) := dAX9_init (118, (.new 70, 3)) (List.mem_of_getElem? (i := 58) rfl)
theorem dX9_init_121 : decode cX9_init 121 = .ok (.dup, 1) := dAX9_init (121, (.dup, 1)) (List.mem_of_getElem? (i := 59) rfl)
theorem dX9_init_122 : decode cX9_init 122 = .ok (.invokespecial 72, 3) := dAX9_init (122, (.invokespecial 72, 3)) (List.mem_of_getElem? (i := 60) rfl)
theorem dX9_init_125 : decode cX9_init 125 = .ok (.putfield 73, 3) := dAX9_init (125, (.putfield 73, 3)) (List.mem_of_getElem? (i := 61) rfl)
theorem dX9_init_128 : decode cX9_init 128 = .ok (.aload_n 0, 1) := dAX9_init (128, (.aload_n 0, 1)) (List.mem_of_getElem? (i := 62) rfl)
theorem dX9_init_129 : decode cX9_init 129 = .ok (.new 77, 3) := dAX9_init (129, (.new 77, 3)) (List.mem_of_getElem? (i := 63) rfl)
theorem dX9_init_132 : decode cX9_init 132 = .ok (.dup, 1) := dAX9_init (132, (.dup, 1)) (List.mem_of_getElem? (i := 64) rfl)
theorem dX9_init_133 : decode cX9_init 133 = .ok (.invokespecial 79, 3) := dAX9_init (133, (.invokespecial 79, 3)) (List.mem_of_getElem? (i := 65) rfl)
theorem dX9_init_136 : decode cX9_init 136 = .ok (.putfield 80, 3) := dAX9_init (136, (.putfield 80, 3)) (List.mem_of_getElem? (i := 66) rfl)
theorem dX9_init_139 : decode cX9_init 139 = .ok (.aload_n 0, 1) := dAX9_init (139, (.aload_n 0, 1)) (List.mem_of_getElem? (i := 67) rfl)
theorem dX9_init_140 : decode cX9_init 140 = .ok (.new 84, 3) := dAX9_init (140, (.new 84, 3)) (List.mem_of_getElem? (i := 68) rfl)
theorem dX9_init_143 : decode cX9_init 143 = .ok (.dup, 1) := dAX9_init (143, (.dup, 1)) (List.mem_of_getElem? (i := 69) rfl)
theorem dX9_init_144 : decode cX9_init 144 = .ok (.invokespecial 86, 3) := dAX9_init (144, (.invokespecial 86, 3)) (List.mem_of_getElem? (i := 70) rfl)
theorem dX9_init_147 : decode cX9_init 147 = .ok (.putfield 87, 3) := dAX9_init (147, (.putfield 87, 3)) (List.mem_of_getElem? (i := 71) rfl)
theorem dX9_init_150 : decode cX9_init 150 = .ok (.iconst 0, 1) := dAX9_init (150, (.iconst 0, 1)) (List.mem_of_getElem? (i := 72) rfl)
theorem dX9_init_151 : decode cX9_init 151 = .ok (.istore_n 1, 1) := dAX9_init (151, (.istore_n 1, 1)) (List.mem_of_getElem? (i := 73) rfl)
theorem dX9_init_152 : decode cX9_init 152 = .ok (.iload_n 1, 1) := dAX9_init (152, (.iload_n 1, 1)) (List.mem_of_getElem? (i := 74) rfl)
theorem dX9_init_153 : decode cX9_init 153 = .ok (.iconst 3, 1) := dAX9_init (153, (.iconst 3, 1)) (List.mem_of_getElem? (i := 75) rfl)
theorem dX9_init_154 : decode cX9_init 154 = .ok (.if_icmp .ge 22, 3) := dAX9_init (154, (.if_icmp .ge 22, 3)) (List.mem_of_getElem? (i := 76) rfl)
theorem dX9_init_157 : decode cX9_init 157 = .ok (.aload_n 0, 1) := dAX9_init (157, (.aload_n 0, 1)) (List.mem_of_getElem? (i := 77) rfl)
theorem dX9_init_158 : decode cX9_init 158 = .ok (.getfield 63, 3) := dAX9_init (158, (.getfield 63, 3)) (List.mem_of_getElem? (i := 78) rfl)
theorem dX9_init_161 : decode cX9_init 161 = .ok (.iload_n 1, 1) := dAX9_init (161, (.iload_n 1, 1)) (List.mem_of_getElem? (i := 79) rfl)
theorem dX9_init_162 : decode cX9_init 162 = .ok (.new 34, 3) := dAX9_init (162, (.new 34, 3)) (List.mem_of_getElem? (i := 80) rfl)
theorem dX9_init_165 : decode cX9_init 165 = .ok (.dup, 1) := dAX9_init (165, (.dup, 1)) (List.mem_of_getElem? (i := 81) rfl)
theorem dX9_init_166 : decode cX9_init 166 = .ok (.invokespecial 36, 3) := dAX9_init (166, (.invokespecial 36, 3)) (List.mem_of_getElem? (i := 82) rfl)
theorem dX9_init_169 : decode cX9_init 169 = .ok (.aastore, 1) := dAX9_init (169, (.aastore, 1)) (List.mem_of_getElem? (i := 83) rfl)
theorem dX9_init_170 : decode cX9_init 170 = .ok (.iinc 1 1, 3) := dAX9_init (170, (.iinc 1 1, 3)) (List.mem_of_getElem? (i := 84) rfl)
theorem dX9_init_173 : decode cX9_init 173 = .ok (.goto (-21), 3) := dAX9_init (173, (.goto (-21), 3)) (List.mem_of_getElem? (i := 85) rfl)
theorem dX9_init_176 : decode cX9_init 176 = .ok (.return_, 1) := dAX9_init (176, (.return_, 1)) (List.mem_of_getElem? (i := 86) rfl)
set_option maxRecDepth 20000 in
theorem ggX9_init_X5_init : GoodIn wsX9_init wsX5_init := goodIn_r _ [44, 45, 2, 3, 46, 47, 48, 49, 50, 51, 52, 53, 54, 55, 56, 57, 58, 59, 60, 61, 62, 155, 156, 157, 158, 159, 160, 161, 162, 163, 164, 165, 166, 167, 168, 169] rfl (by decide +kernel)
set_option maxRecDepth 20000 in
theorem gX9_init_X5_init_n11 : GoodIn wsX9_init (wsX5_init) := ggX9_init_X5_init
set_option maxRecDepth 20000 in
theorem ggX9_init_X1_init : GoodIn wsX9_init wsX1_init := goodIn_r _ [64, 65, 2, 3, 66, 67, 68, 69, 46, 70, 71, 72, 73, 74, 75, 76, 77, 78, 79, 80, 81, 82, 83, 84, 85, 86, 87, 88, 89, 90, 91, 92, 93, 94, 95, 185, 186, 187, 188, 189, 190, 191, 192, 193, 194, 195, 196, 197, 198, 199, 200, 201, 236, 237, 238, 239, 240, 241, 242] rfl (by decide +kernel)
set_option maxRecDepth 20000 in
theorem gX9_init_X1_init_n18 : GoodIn wsX9_init (wsX1_init) := ggX9_init_X1_init
set_option maxRecDepth 20000 in
theorem ggX9_init_X2_init : GoodIn wsX9_init wsX2_init := goodIn_r _ [97, 98, 2, 3, 99, 100, 101, 102, 103, 104, 46, 105, 106, 107, 202, 203, 204, 205, 206, 207, 208, 209, 210] rfl (by decide +kernel)
set_option maxRecDepth 20000 in
theorem gX9_init_X2_init_n36 : GoodIn wsX9_init (wsX2_init) := ggX9_init_X2_init
set_option maxRecDepth 20000 in
theorem ggX9_init_X3_init : GoodIn wsX9_init wsX3_init := goodIn_r _ [110, 111, 2, 3, 112, 113, 211, 212] rfl (by decide +kernel)
set_option maxRecDepth 20000 in
theorem gX9_init_X3_init : GoodIn wsX9_init (wsX3_init) := ggX9_init_X3_init
set_option maxRecDepth 20000 in
theorem ggX9_init_X4_init : GoodIn wsX9_init wsX4_init := goodIn_r _ [116, 117, 2, 3, 118, 119, 120, 121, 16, 17, 96, 97, 98, 99, 100, 101, 102, 103, 104, 46, 105, 106, 107, 213, 214, 215, 202, 203, 204, 205, 206, 207, 208, 209, 210] rfl (by decide +kernel)
set_option maxRecDepth 20000 in
theorem gX9_init_X4_init : GoodIn wsX9_init (wsX4_init) := ggX9_init_X4_init
set_option maxRecDepth 20000 in
theorem ggX9_init_X6_init : GoodIn wsX9_init wsX6_init := goodIn_r _ [124, 125, 2, 3, 126, 127, 128, 46, 129, 130, 131, 132, 16, 17, 133, 96, 97, 98, 99, 100, 101, 102, 103, 104, 105, 106, 107, 216, 217, 218, 219, 220, 221, 222, 202, 203, 204, 205, 206, 207, 208, 209, 210] rfl (by decide +kernel)
set_option maxRecDepth 20000 in
theorem gX9_init_X6_init : GoodIn wsX9_init (wsX6_init) := ggX9_init_X6_init
set_option maxRecDepth 20000 in
theorem ggX9_init_X0_init : GoodIn wsX9_init wsX0_init := goodIn_r _ [135, 136, 2, 3, 137, 138, 46, 139, 140, 141, 142, 16, 17, 143, 96, 97, 98, 99, 100, 101, 102, 103, 104, 105, 106, 107, 223, 224, 225, 226, 227, 228, 202, 203, 204, 205, 206, 207, 208, 209, 210] rfl (by decide +kernel)
set_option maxRecDepth 20000 in
theorem gX9_init_X0_init_n79 : GoodIn wsX9_init (wsX0_init) := ggX9_init_X0_init
set_option maxRecDepth 20000 in
theorem ggX9_init_X8_init : GoodIn wsX9_init wsX8_init := goodIn_r _ [145, 146, 2, 3, 147, 148, 149, 46, 150, 151, 152, 16, 17, 153, 154, 96, 97, 98, 99, 100, 101, 102, 103, 104, 105, 106, 107, 229, 230, 231, 232, 233, 234, 235, 202, 203, 204, 205, 206, 207, 208, 209, 210] rfl (by decide +kernel)
set_option maxRecDepth 20000 in
theorem gX9_init_X8_init_n86 : GoodIn wsX9_init (wsX8_init) := ggX9_init_X8_init
abbrev BX9 (g : GG) (a : Nat) (u : (Nat → Nat) × ((Nat → Nat)) × ((Nat → Nat) × (Nat → Nat)) × ((Nat → Nat) × (Nat → Nat)) × ((Nat → Nat)) × ((Nat → Nat)) × (Unit) × (Unit) × ((Nat → Nat) × (Nat → Nat) × (Nat → Nat → Nat)) × ((Nat → Nat) × (Nat → Nat) × (Nat → Nat → Nat) × (Nat → Nat)) × ((Nat → Nat) × (Nat → Nat)) × ((Nat → Nat) × (Nat → Nat) × (Nat → Nat)) × (Nat → Nat) × (Nat → Nat → Nat)) : va_W := (((((((([oX9 a u.1 zR] ++ BX5 g (u.1 0) u.2.1) ++ BX1 g (u.1 1) u.2.2.1) ++ BX1 g (u.1 2) u.2.2.2.1) ++ BX2 g (u.1 5) u.2.2.2.2.1) ++ BX2 g (u.1 6) u.2.2.2.2.2.1) ++ BX3 g (u.1 7) (0 : Int32) u.2.2.2.2.2.2.1) ++ BX3 g (u.1 8) (1 : Int32) u.2.2.2.2.2.2.2.1) ++ BX4 g (u.1 9) u.2.2.2.2.2.2.2.2.1) ++ (aN g (u.1 10) 3 u.2.2.2.2.2.2.2.2.2.2.2.2.1 :: ((((BX6 g (u.1 12) u.2.2.2.2.2.2.2.2.2.1 ++ (BX0 g (u.1 13) u.2.2.2.2.2.2.2.2.2.2.1 ++ BX8 g (u.1 14) u.2.2.2.2.2.2.2.2.2.2.2.1)) ++ BX2 g (u.2.2.2.2.2.2.2.2.2.2.2.2.1 0) (u.2.2.2.2.2.2.2.2.2.2.2.2.2 0)) ++ BX2 g (u.2.2.2.2.2.2.2.2.2.2.2.2.1 1) (u.2.2.2.2.2.2.2.2.2.2.2.2.2 1)) ++ BX2 g (u.2.2.2.2.2.2.2.2.2.2.2.2.1 2) (u.2.2.2.2.2.2.2.2.2.2.2.2.2 2)))
theorem kX9_init_o1 : Cond.methodLink RX9 3 objectInit ∈ wsX9_init := List.mem_of_getElem? (i := 1) rfl
theorem kX9_init_o2 : Cond.instanceMethod objectInit ∈ wsX9_init := List.mem_of_getElem? (i := 2) rfl
theorem kX9_init_o3 : Cond.code objectInit ⟨#[0xb1]⟩ 1 none ∈ wsX9_init := List.mem_of_getElem? (i := 3) rfl
theorem kX9_init_cl_9 : Cond.classLink RX9 9 RX5 ∈ wsX9_init := List.mem_of_getElem? (i := 4) rfl
theorem kX9_init_in_X5 : Cond.instantiable RX5 15 ∈ wsX9_init := List.mem_of_getElem? (i := 5) rfl
theorem kX9_init_ii_X5 : Cond.initialized RX5 ∈ wsX9_init := List.mem_of_getElem? (i := 6) rfl
theorem iX9_init_X5 : ∀ w ∈ u_ws RX5 TX5 15, w ∈ wsX9_init := fun w h => (List.mem_cons_of_mem _ (List.mem_append_left _ (List.mem_append_left _ (List.mem_append_left _ (List.mem_append_left _ (List.mem_append_left _ (List.mem_append_left _ (List.mem_append_left _ (List.mem_append_left _ (List.mem_append_left _ (List.mem_append_right _ h)))))))))))
theorem kX9_init_im_X5 : Cond.instanceMethod yX5_init ∈ wsX9_init := List.mem_of_getElem? (i := 43) rfl
theorem kX9_init_12 : Cond.fieldLink RX9 12 "EveningVow" "reader" "LEveningVow$Reader;" ∈ wsX9_init := List.mem_of_getElem? (i := 7) rfl
theorem iX9_init_X9 : ∀ w ∈ u_ws RX9 TX9 15, w ∈ wsX9_init := fun w h => (List.mem_cons_of_mem _ (List.mem_append_left _ (List.mem_append_left _ (List.mem_append_left _ (List.mem_append_left _ (List.mem_append_left _ (List.mem_append_left _ (List.mem_append_left _ (List.mem_append_left _ (List.mem_append_right _ h))))))))))
theorem kX9_init_cl_16 : Cond.classLink RX9 16 RX1 ∈ wsX9_init := List.mem_of_getElem? (i := 8) rfl
theorem kX9_init_in_X1 : Cond.instantiable RX1 17 ∈ wsX9_init := List.mem_of_getElem? (i := 9) rfl
theorem kX9_init_ii_X1 : Cond.initialized RX1 ∈ wsX9_init := List.mem_of_getElem? (i := 10) rfl
theorem iX9_init_X1 : ∀ w ∈ u_ws RX1 TX1 17, w ∈ wsX9_init := fun w h => (List.mem_cons_of_mem _ (List.mem_append_left _ (List.mem_append_left _ (List.mem_append_left _ (List.mem_append_left _ (List.mem_append_left _ (List.mem_append_left _ (List.mem_append_left _ (List.mem_append_right _ h)))))))))
theorem kX9_init_im_X1 : Cond.instanceMethod yX1_init ∈ wsX9_init := List.mem_of_getElem? (i := 63) rfl
theorem kX9_init_19 : Cond.fieldLink RX9 19 "EveningVow" "told" "LEveningVow$House;" ∈ wsX9_init := List.mem_of_getElem? (i := 11) rfl
theorem kX9_init_23 : Cond.fieldLink RX9 23 "EveningVow" "spare" "LEveningVow$House;" ∈ wsX9_init := List.mem_of_getElem? (i := 12) rfl
theorem kX9_init_26 : Cond.fieldLink RX9 26 "EveningVow" "begun" "Z" ∈ wsX9_init := List.mem_of_getElem? (i := 13) rfl
theorem kX9_init_30 : Cond.fieldLink RX9 30 "EveningVow" "refusal" "I" ∈ wsX9_init := List.mem_of_getElem? (i := 14) rfl
theorem kX9_init_cl_34 : Cond.classLink RX9 34 RX2 ∈ wsX9_init := List.mem_of_getElem? (i := 15) rfl
theorem kX9_init_in_X2 : Cond.instantiable RX2 9 ∈ wsX9_init := List.mem_of_getElem? (i := 16) rfl
theorem kX9_init_ii_X2 : Cond.initialized RX2 ∈ wsX9_init := List.mem_of_getElem? (i := 17) rfl
theorem iX9_init_X2 : ∀ w ∈ u_ws RX2 TX2 9, w ∈ wsX9_init := fun w h => (List.mem_cons_of_mem _ (List.mem_append_left _ (List.mem_append_left _ (List.mem_append_left _ (List.mem_append_left _ (List.mem_append_left _ (List.mem_append_left _ (List.mem_append_right _ h))))))))
theorem kX9_init_im_X2 : Cond.instanceMethod yX2_init ∈ wsX9_init := List.mem_of_getElem? (i := 96) rfl
theorem kX9_init_37 : Cond.fieldLink RX9 37 "EveningVow" "now" "LEveningVow$Night;" ∈ wsX9_init := List.mem_of_getElem? (i := 18) rfl
theorem kX9_init_41 : Cond.fieldLink RX9 41 "EveningVow" "trial" "LEveningVow$Night;" ∈ wsX9_init := List.mem_of_getElem? (i := 19) rfl
theorem kX9_init_cl_44 : Cond.classLink RX9 44 RX3 ∈ wsX9_init := List.mem_of_getElem? (i := 20) rfl
theorem kX9_init_in_X3 : Cond.instantiable RX3 2 ∈ wsX9_init := List.mem_of_getElem? (i := 21) rfl
theorem kX9_init_ii_X3 : Cond.initialized RX3 ∈ wsX9_init := List.mem_of_getElem? (i := 22) rfl
theorem iX9_init_X3 : ∀ w ∈ u_ws RX3 TX3 2, w ∈ wsX9_init := fun w h => (List.mem_cons_of_mem _ (List.mem_append_left _ (List.mem_append_left _ (List.mem_append_left _ (List.mem_append_left _ (List.mem_append_left _ (List.mem_append_right _ h)))))))
theorem kX9_init_im_X3 : Cond.instanceMethod yX3_init ∈ wsX9_init := List.mem_of_getElem? (i := 109) rfl
theorem kX9_init_ml_46 : Cond.methodLink RX9 46 yX3_init ∈ wsX9_init := List.mem_of_getElem? (i := 108) rfl
theorem kX9_init_49 : Cond.fieldLink RX9 49 "EveningVow" "asTold" "LEveningVow$Pace;" ∈ wsX9_init := List.mem_of_getElem? (i := 23) rfl
theorem kX9_init_53 : Cond.fieldLink RX9 53 "EveningVow" "byDraws" "LEveningVow$Pace;" ∈ wsX9_init := List.mem_of_getElem? (i := 24) rfl
theorem kX9_init_cl_56 : Cond.classLink RX9 56 RX4 ∈ wsX9_init := List.mem_of_getElem? (i := 25) rfl
theorem kX9_init_in_X4 : Cond.instantiable RX4 3 ∈ wsX9_init := List.mem_of_getElem? (i := 26) rfl
theorem kX9_init_ii_X4 : Cond.initialized RX4 ∈ wsX9_init := List.mem_of_getElem? (i := 27) rfl
theorem iX9_init_X4 : ∀ w ∈ u_ws RX4 TX4 3, w ∈ wsX9_init := fun w h => (List.mem_cons_of_mem _ (List.mem_append_left _ (List.mem_append_left _ (List.mem_append_left _ (List.mem_append_left _ (List.mem_append_right _ h))))))
theorem kX9_init_im_X4 : Cond.instanceMethod yX4_init ∈ wsX9_init := List.mem_of_getElem? (i := 115) rfl
theorem kX9_init_ml_58 : Cond.methodLink RX9 58 yX4_init ∈ wsX9_init := List.mem_of_getElem? (i := 114) rfl
theorem kX9_init_59 : Cond.fieldLink RX9 59 "EveningVow" "past" "LEveningVow$Past;" ∈ wsX9_init := List.mem_of_getElem? (i := 28) rfl
theorem kX9_init_63 : Cond.fieldLink RX9 63 "EveningVow" "images" "[LEveningVow$Night;" ∈ wsX9_init := List.mem_of_getElem? (i := 29) rfl
theorem kX9_init_67 : Cond.fieldLink RX9 67 "EveningVow" "imageCount" "I" ∈ wsX9_init := List.mem_of_getElem? (i := 30) rfl
theorem kX9_init_cl_70 : Cond.classLink RX9 70 RX6 ∈ wsX9_init := List.mem_of_getElem? (i := 31) rfl
theorem kX9_init_in_X6 : Cond.instantiable RX6 7 ∈ wsX9_init := List.mem_of_getElem? (i := 32) rfl
theorem kX9_init_ii_X6 : Cond.initialized RX6 ∈ wsX9_init := List.mem_of_getElem? (i := 33) rfl
theorem iX9_init_X6 : ∀ w ∈ u_ws RX6 TX6 7, w ∈ wsX9_init := fun w h => (List.mem_cons_of_mem _ (List.mem_append_left _ (List.mem_append_left _ (List.mem_append_left _ (List.mem_append_right _ h)))))
theorem kX9_init_im_X6 : Cond.instanceMethod yX6_init ∈ wsX9_init := List.mem_of_getElem? (i := 123) rfl
theorem kX9_init_ml_72 : Cond.methodLink RX9 72 yX6_init ∈ wsX9_init := List.mem_of_getElem? (i := 122) rfl
theorem kX9_init_73 : Cond.fieldLink RX9 73 "EveningVow" "rows" "LEveningVow$TaleRows;" ∈ wsX9_init := List.mem_of_getElem? (i := 34) rfl
theorem kX9_init_cl_77 : Cond.classLink RX9 77 RX0 ∈ wsX9_init := List.mem_of_getElem? (i := 35) rfl
theorem kX9_init_in_X0 : Cond.instantiable RX0 6 ∈ wsX9_init := List.mem_of_getElem? (i := 36) rfl
theorem kX9_init_ii_X0 : Cond.initialized RX0 ∈ wsX9_init := List.mem_of_getElem? (i := 37) rfl
theorem iX9_init_X0 : ∀ w ∈ u_ws RX0 TX0 6, w ∈ wsX9_init := fun w h => (List.mem_cons_of_mem _ (List.mem_append_left _ (List.mem_append_left _ (List.mem_append_right _ h))))
theorem kX9_init_im_X0 : Cond.instanceMethod yX0_init ∈ wsX9_init := List.mem_of_getElem? (i := 134) rfl
theorem kX9_init_80 : Cond.fieldLink RX9 80 "EveningVow" "shares" "LEveningVow$CupShares;" ∈ wsX9_init := List.mem_of_getElem? (i := 38) rfl
theorem kX9_init_cl_84 : Cond.classLink RX9 84 RX8 ∈ wsX9_init := List.mem_of_getElem? (i := 39) rfl
theorem kX9_init_in_X8 : Cond.instantiable RX8 7 ∈ wsX9_init := List.mem_of_getElem? (i := 40) rfl
theorem kX9_init_ii_X8 : Cond.initialized RX8 ∈ wsX9_init := List.mem_of_getElem? (i := 41) rfl
theorem iX9_init_X8 : ∀ w ∈ u_ws RX8 TX8 7, w ∈ wsX9_init := fun w h => (List.mem_cons_of_mem _ (List.mem_append_left _ (List.mem_append_right _ h)))
theorem kX9_init_im_X8 : Cond.instanceMethod yX8_init ∈ wsX9_init := List.mem_of_getElem? (i := 144) rfl
theorem kX9_init_87 : Cond.fieldLink RX9 87 "EveningVow" "unseen" "LEveningVow$Unseen;" ∈ wsX9_init := List.mem_of_getElem? (i := 42) rfl
set_option maxHeartbeats 8000000 in
set_option maxRecDepth 100000 in
theorem mX9_init (l : Launch) (g : GG) (a_t : Nat) : MC l g yX9_init wsX9_init ({ frames := 3, cells := 173, slots := 2314, locals := 53 } : Room) 173 2314 [.ref a_t] [(a_t, .inr (9, [.null, .null, .null, .int 0, .int 0, .null, .null, .null, .null, .null, .null, .int 0, .null, .null, .null]))] (BX9 g a_t) := by
  refine MC.of (cc := cX9_init) (maxL := 2) (own := RX9) rfl rfl rfl (by decide) (Nat.le_of_ble_eq_true rfl) ?_
  intro p e s m args below meth c A C0 hin hP hD hS ls hl
  obtain ⟨hx, hb, hml, hown, hts, hr, hlk, hK, hA, hSW⟩ := id C0
  have hl : lv_has ls 2 [(0, .ref a_t)] := hl
  refine lv_aload_n hx hb dX9_init_0 rfl (lv_at hl 0 rfl) ?_
  refine W.objInit hx hb hown (hts _ kX9_init_o1) (hts _ kX9_init_o2) (hts _ kX9_init_o3) rfl (by rw [hml]; exact hl.1) rfl dX9_init_1 (Nat.le_of_ble_eq_true rfl) (Nat.le_of_ble_eq_true rfl) ?_
  refine W.eq (g2 := F0 m 4 ls []) rfl ?_
  refine lv_aload_n hx hb dX9_init_4 rfl (lv_at hl 0 rfl) ?_
  refine va_new (ci := 5) (fs := [.null, .int 0, .int 0, .int 0, .int 0, .int 0, .int 0, .int 0, .int 0, .long 0, .int 0, .int 0, .null, .null, .null]) (C := RX5) (T := TX5) (N := 15) hx hb hts iX9_init_X5 tyX5 tyX5_ok hown (hts _ kX9_init_cl_9) (hts _ kX9_init_in_X5) (hts _ kX9_init_ii_X5) hK.1 hP hD hS hA rfl dvX5 (Nat.le_of_ble_eq_true rfl) (Nat.le_of_ble_eq_true rfl) dX9_init_5 (fun q_1 H hP hD hS => ?_)
  refine W.widen (k := 1) (n := 15) (Nat.le_of_ble_eq_true rfl) (Nat.le_of_ble_eq_true rfl) ?_
  refine lv_dup hx hb dX9_init_8 rfl ?_
  refine call_cN (As := []) (rest := [.ref q_1, .ref a_t]) C0 (mX5_init l g q_1) ⟨va_cnB 0 hts gX9_init_X5_init_n11 rfl rfl rfl (hK.2.1.1 (RX9, 11, yX5_init, RX9) (List.mem_of_getElem? (i := 1) rfl)) (hts _ kX9_init_ii_X5) (by decide +kernel) ⟨Nat.le_of_ble_eq_true rfl, Nat.le_of_ble_eq_true rfl⟩, rfl, hts _ kX9_init_im_X5⟩ hP hD hS hl.1 rfl rfl (Nat.le_of_ble_eq_true rfl) ⟨Nat.le_of_ble_eq_true rfl, Nat.le_of_ble_eq_true rfl⟩ dX9_init_9 ?_
  intro v_2 H locs hP hD hS
  refine W.widen (k := 5) (n := 863) (Nat.le_of_ble_eq_true rfl) (Nat.le_of_ble_eq_true rfl) ?_
  refine va_putF (D := g.1) (ci := 9) (v := .ref q_1) (ty := .object "EveningVow$Reader") (C := RX9) (T := TX9) (N := 15) hx hb hts iX9_init_X9 tyX9 tyX9_ok nmX9 hown hK.1 hP hD hS 0 rfl rfl 0 (by decide) (hts _ kX9_init_12) (fun _ h9 => h9) rfl hin rfl (by decide +kernel) rfl rfl (Nat.le_of_ble_eq_true rfl) dX9_init_12 (fun H locs hP hD hS => ?_)
  have hP : va_P g.1 vwCl ([(a_t, .inr (9, [.ref q_1, .null, .null, .int 0, .int 0, .null, .null, .null, .null, .null, .null, .int 0, .null, .null, .null]))] ++ BX5 g q_1 v_2) H := hP
  have hD : va_D A ([(a_t, .inr (9, [.ref q_1, .null, .null, .int 0, .int 0, .null, .null, .null, .null, .null, .null, .int 0, .null, .null, .null]))] ++ BX5 g q_1 v_2) := hD
  refine lv_aload_n hx hb dX9_init_15 rfl (lv_at hl 0 rfl) ?_
  refine va_new (ci := 1) (fs := [.int 0, .int 0, .int 0, .int 0, .null, .null, .null, .null, .int 0, .int 0, .null, .null, .null, .int 0, .null, .null, .null]) (C := RX1) (T := TX1) (N := 17) hx hb hts iX9_init_X1 tyX1 tyX1_ok hown (hts _ kX9_init_cl_16) (hts _ kX9_init_in_X1) (hts _ kX9_init_ii_X1) hK.1 hP hD hS hA rfl dvX1 (Nat.le_of_ble_eq_true rfl) (Nat.le_of_ble_eq_true rfl) dX9_init_16 (fun q_3 H hP hD hS => ?_)
  refine W.widen (k := 6) (n := 880) (Nat.le_of_ble_eq_true rfl) (Nat.le_of_ble_eq_true rfl) ?_
  refine lv_dup hx hb dX9_init_19 rfl ?_
  refine call_cN (As := []) (rest := [.ref q_3, .ref a_t]) C0 (mX1_init l g q_3) ⟨va_cnB 0 hts gX9_init_X1_init_n18 rfl rfl rfl (hK.2.1.1 (RX9, 18, yX1_init, RX9) (List.mem_of_getElem? (i := 2) rfl)) (hts _ kX9_init_ii_X1) (by decide +kernel) ⟨Nat.le_of_ble_eq_true rfl, Nat.le_of_ble_eq_true rfl⟩, rfl, hts _ kX9_init_im_X1⟩ hP hD hS hl.1 rfl rfl (Nat.le_of_ble_eq_true rfl) ⟨Nat.le_of_ble_eq_true rfl, Nat.le_of_ble_eq_true rfl⟩ dX9_init_20 ?_
  intro v_4 H locs hP hD hS
  refine W.widen (k := 21) (n := 975) (Nat.le_of_ble_eq_true rfl) (Nat.le_of_ble_eq_true rfl) ?_
  refine va_put (D := g.1) (ci := 9) (v := .ref q_3) (ty := .object "EveningVow$House") (C := RX9) (T := TX9) (N := 15) hx hb hts iX9_init_X9 tyX9 tyX9_ok nmX9 hown hK.1 hP hD hS 0 rfl rfl 1 (by decide) (hts _ kX9_init_19) (fun _ h9 => h9) rfl (by decide +kernel) rfl rfl (Nat.le_of_ble_eq_true rfl) dX9_init_23 (fun H locs hP hD hS => ?_)
  have hP : va_P g.1 vwCl (([(a_t, .inr (9, [.ref q_1, .ref q_3, .null, .int 0, .int 0, .null, .null, .null, .null, .null, .null, .int 0, .null, .null, .null]))] ++ BX5 g q_1 v_2) ++ BX1 g q_3 v_4) H := hP
  have hD : va_D A (([(a_t, .inr (9, [.ref q_1, .ref q_3, .null, .int 0, .int 0, .null, .null, .null, .null, .null, .null, .int 0, .null, .null, .null]))] ++ BX5 g q_1 v_2) ++ BX1 g q_3 v_4) := hD
  refine lv_aload_n hx hb dX9_init_26 rfl (lv_at hl 0 rfl) ?_
  refine va_new (ci := 1) (fs := [.int 0, .int 0, .int 0, .int 0, .null, .null, .null, .null, .int 0, .int 0, .null, .null, .null, .int 0, .null, .null, .null]) (C := RX1) (T := TX1) (N := 17) hx hb hts iX9_init_X1 tyX1 tyX1_ok hown (hts _ kX9_init_cl_16) (hts _ kX9_init_in_X1) (hts _ kX9_init_ii_X1) hK.1 hP hD hS hA rfl dvX1 (Nat.le_of_ble_eq_true rfl) (Nat.le_of_ble_eq_true rfl) dX9_init_27 (fun q_5 H hP hD hS => ?_)
  refine W.widen (k := 22) (n := 992) (Nat.le_of_ble_eq_true rfl) (Nat.le_of_ble_eq_true rfl) ?_
  refine lv_dup hx hb dX9_init_30 rfl ?_
  refine call_cN (As := []) (rest := [.ref q_5, .ref a_t]) C0 (mX1_init l g q_5) ⟨va_cnB 0 hts gX9_init_X1_init_n18 rfl rfl rfl (hK.2.1.1 (RX9, 18, yX1_init, RX9) (List.mem_of_getElem? (i := 2) rfl)) (hts _ kX9_init_ii_X1) (by decide +kernel) ⟨Nat.le_of_ble_eq_true rfl, Nat.le_of_ble_eq_true rfl⟩, rfl, hts _ kX9_init_im_X1⟩ hP hD hS hl.1 rfl rfl (Nat.le_of_ble_eq_true rfl) ⟨Nat.le_of_ble_eq_true rfl, Nat.le_of_ble_eq_true rfl⟩ dX9_init_31 ?_
  intro v_6 H locs hP hD hS
  refine W.widen (k := 37) (n := 1087) (Nat.le_of_ble_eq_true rfl) (Nat.le_of_ble_eq_true rfl) ?_
  refine va_put (D := g.1) (ci := 9) (v := .ref q_5) (ty := .object "EveningVow$House") (C := RX9) (T := TX9) (N := 15) hx hb hts iX9_init_X9 tyX9 tyX9_ok nmX9 hown hK.1 hP hD hS 0 rfl rfl 2 (by decide) (hts _ kX9_init_23) (fun _ h9 => h9) rfl (by decide +kernel) rfl rfl (Nat.le_of_ble_eq_true rfl) dX9_init_34 (fun H locs hP hD hS => ?_)
  have hP : va_P g.1 vwCl ((([(a_t, .inr (9, [.ref q_1, .ref q_3, .ref q_5, .int 0, .int 0, .null, .null, .null, .null, .null, .null, .int 0, .null, .null, .null]))] ++ BX5 g q_1 v_2) ++ BX1 g q_3 v_4) ++ BX1 g q_5 v_6) H := hP
  have hD : va_D A ((([(a_t, .inr (9, [.ref q_1, .ref q_3, .ref q_5, .int 0, .int 0, .null, .null, .null, .null, .null, .null, .int 0, .null, .null, .null]))] ++ BX5 g q_1 v_2) ++ BX1 g q_3 v_4) ++ BX1 g q_5 v_6) := hD
  refine lv_aload_n hx hb dX9_init_37 rfl (lv_at hl 0 rfl) ?_
  refine lv_iconst (v := (0 : Int32)) hx hb dX9_init_38 (by decide) ?_
  refine va_put (D := g.1) (ci := 9) (v := .int (0 : Int32)) (ty := .boolean) (C := RX9) (T := TX9) (N := 15) hx hb hts iX9_init_X9 tyX9 tyX9_ok nmX9 hown hK.1 hP hD hS 0 rfl rfl 3 (by decide) (hts _ kX9_init_26) (fun _ h9 => h9) rfl (by decide +kernel) rfl rfl (Nat.le_of_ble_eq_true rfl) dX9_init_39 (fun H locs hP hD hS => ?_)
  have hP : va_P g.1 vwCl ((([(a_t, .inr (9, [.ref q_1, .ref q_3, .ref q_5, .int (0 : Int32), .int 0, .null, .null, .null, .null, .null, .null, .int 0, .null, .null, .null]))] ++ BX5 g q_1 v_2) ++ BX1 g q_3 v_4) ++ BX1 g q_5 v_6) H := hP
  have hD : va_D A ((([(a_t, .inr (9, [.ref q_1, .ref q_3, .ref q_5, .int (0 : Int32), .int 0, .null, .null, .null, .null, .null, .null, .int 0, .null, .null, .null]))] ++ BX5 g q_1 v_2) ++ BX1 g q_3 v_4) ++ BX1 g q_5 v_6) := hD
  refine lv_aload_n hx hb dX9_init_42 rfl (lv_at hl 0 rfl) ?_
  refine lv_iconst (v := (0 : Int32)) hx hb dX9_init_43 (by decide) ?_
  refine va_put (D := g.1) (ci := 9) (v := .int (0 : Int32)) (ty := .int) (C := RX9) (T := TX9) (N := 15) hx hb hts iX9_init_X9 tyX9 tyX9_ok nmX9 hown hK.1 hP hD hS 0 rfl rfl 4 (by decide) (hts _ kX9_init_30) (fun _ h9 => h9) rfl (by decide +kernel) rfl rfl (Nat.le_of_ble_eq_true rfl) dX9_init_44 (fun H locs hP hD hS => ?_)
  have hP : va_P g.1 vwCl ((([(a_t, .inr (9, [.ref q_1, .ref q_3, .ref q_5, .int (0 : Int32), .int (0 : Int32), .null, .null, .null, .null, .null, .null, .int 0, .null, .null, .null]))] ++ BX5 g q_1 v_2) ++ BX1 g q_3 v_4) ++ BX1 g q_5 v_6) H := hP
  have hD : va_D A ((([(a_t, .inr (9, [.ref q_1, .ref q_3, .ref q_5, .int (0 : Int32), .int (0 : Int32), .null, .null, .null, .null, .null, .null, .int 0, .null, .null, .null]))] ++ BX5 g q_1 v_2) ++ BX1 g q_3 v_4) ++ BX1 g q_5 v_6) := hD
  refine lv_aload_n hx hb dX9_init_47 rfl (lv_at hl 0 rfl) ?_
  refine va_new (ci := 2) (fs := [.int 0, .int 0, .int 0, .int 0, .int 0, .int 0, .null, .null, .null]) (C := RX2) (T := TX2) (N := 9) hx hb hts iX9_init_X2 tyX2 tyX2_ok hown (hts _ kX9_init_cl_34) (hts _ kX9_init_in_X2) (hts _ kX9_init_ii_X2) hK.1 hP hD hS hA rfl dvX2 (Nat.le_of_ble_eq_true rfl) (Nat.le_of_ble_eq_true rfl) dX9_init_48 (fun q_7 H hP hD hS => ?_)
  refine W.widen (k := 38) (n := 1096) (Nat.le_of_ble_eq_true rfl) (Nat.le_of_ble_eq_true rfl) ?_
  refine lv_dup hx hb dX9_init_51 rfl ?_
  refine call_cN (As := []) (rest := [.ref q_7, .ref a_t]) C0 (mX2_init l g q_7) ⟨va_cnB 0 hts gX9_init_X2_init_n36 rfl rfl rfl (hK.2.1.1 (RX9, 36, yX2_init, RX9) (List.mem_of_getElem? (i := 3) rfl)) (hts _ kX9_init_ii_X2) (by decide +kernel) ⟨Nat.le_of_ble_eq_true rfl, Nat.le_of_ble_eq_true rfl⟩, rfl, hts _ kX9_init_im_X2⟩ hP hD hS hl.1 rfl rfl (Nat.le_of_ble_eq_true rfl) ⟨Nat.le_of_ble_eq_true rfl, Nat.le_of_ble_eq_true rfl⟩ dX9_init_52 ?_
  intro v_8 H locs hP hD hS
  refine W.widen (k := 41) (n := 1117) (Nat.le_of_ble_eq_true rfl) (Nat.le_of_ble_eq_true rfl) ?_
  refine va_putF (D := g.1) (ci := 9) (v := .ref q_7) (ty := .object "EveningVow$Night") (C := RX9) (T := TX9) (N := 15) hx hb hts iX9_init_X9 tyX9 tyX9_ok nmX9 hown hK.1 hP hD hS 0 rfl rfl 5 (by decide) (hts _ kX9_init_37) (fun _ h9 => h9) rfl hin rfl (by decide +kernel) rfl rfl (Nat.le_of_ble_eq_true rfl) dX9_init_55 (fun H locs hP hD hS => ?_)
  have hP : va_P g.1 vwCl (((([(a_t, .inr (9, [.ref q_1, .ref q_3, .ref q_5, .int (0 : Int32), .int (0 : Int32), .ref q_7, .null, .null, .null, .null, .null, .int 0, .null, .null, .null]))] ++ BX5 g q_1 v_2) ++ BX1 g q_3 v_4) ++ BX1 g q_5 v_6) ++ BX2 g q_7 v_8) H := hP
  have hD : va_D A (((([(a_t, .inr (9, [.ref q_1, .ref q_3, .ref q_5, .int (0 : Int32), .int (0 : Int32), .ref q_7, .null, .null, .null, .null, .null, .int 0, .null, .null, .null]))] ++ BX5 g q_1 v_2) ++ BX1 g q_3 v_4) ++ BX1 g q_5 v_6) ++ BX2 g q_7 v_8) := hD
  refine lv_aload_n hx hb dX9_init_58 rfl (lv_at hl 0 rfl) ?_
  refine va_new (ci := 2) (fs := [.int 0, .int 0, .int 0, .int 0, .int 0, .int 0, .null, .null, .null]) (C := RX2) (T := TX2) (N := 9) hx hb hts iX9_init_X2 tyX2 tyX2_ok hown (hts _ kX9_init_cl_34) (hts _ kX9_init_in_X2) (hts _ kX9_init_ii_X2) hK.1 hP hD hS hA rfl dvX2 (Nat.le_of_ble_eq_true rfl) (Nat.le_of_ble_eq_true rfl) dX9_init_59 (fun q_9 H hP hD hS => ?_)
  refine W.widen (k := 42) (n := 1126) (Nat.le_of_ble_eq_true rfl) (Nat.le_of_ble_eq_true rfl) ?_
  refine lv_dup hx hb dX9_init_62 rfl ?_
  refine call_cN (As := []) (rest := [.ref q_9, .ref a_t]) C0 (mX2_init l g q_9) ⟨va_cnB 0 hts gX9_init_X2_init_n36 rfl rfl rfl (hK.2.1.1 (RX9, 36, yX2_init, RX9) (List.mem_of_getElem? (i := 3) rfl)) (hts _ kX9_init_ii_X2) (by decide +kernel) ⟨Nat.le_of_ble_eq_true rfl, Nat.le_of_ble_eq_true rfl⟩, rfl, hts _ kX9_init_im_X2⟩ hP hD hS hl.1 rfl rfl (Nat.le_of_ble_eq_true rfl) ⟨Nat.le_of_ble_eq_true rfl, Nat.le_of_ble_eq_true rfl⟩ dX9_init_63 ?_
  intro v_10 H locs hP hD hS
  refine W.widen (k := 45) (n := 1147) (Nat.le_of_ble_eq_true rfl) (Nat.le_of_ble_eq_true rfl) ?_
  refine va_putF (D := g.1) (ci := 9) (v := .ref q_9) (ty := .object "EveningVow$Night") (C := RX9) (T := TX9) (N := 15) hx hb hts iX9_init_X9 tyX9 tyX9_ok nmX9 hown hK.1 hP hD hS 0 rfl rfl 6 (by decide) (hts _ kX9_init_41) (fun _ h9 => h9) rfl hin rfl (by decide +kernel) rfl rfl (Nat.le_of_ble_eq_true rfl) dX9_init_66 (fun H locs hP hD hS => ?_)
  have hP : va_P g.1 vwCl ((((([(a_t, .inr (9, [.ref q_1, .ref q_3, .ref q_5, .int (0 : Int32), .int (0 : Int32), .ref q_7, .ref q_9, .null, .null, .null, .null, .int 0, .null, .null, .null]))] ++ BX5 g q_1 v_2) ++ BX1 g q_3 v_4) ++ BX1 g q_5 v_6) ++ BX2 g q_7 v_8) ++ BX2 g q_9 v_10) H := hP
  have hD : va_D A ((((([(a_t, .inr (9, [.ref q_1, .ref q_3, .ref q_5, .int (0 : Int32), .int (0 : Int32), .ref q_7, .ref q_9, .null, .null, .null, .null, .int 0, .null, .null, .null]))] ++ BX5 g q_1 v_2) ++ BX1 g q_3 v_4) ++ BX1 g q_5 v_6) ++ BX2 g q_7 v_8) ++ BX2 g q_9 v_10) := hD
  refine lv_aload_n hx hb dX9_init_69 rfl (lv_at hl 0 rfl) ?_
  refine va_new (ci := 3) (fs := [.int 0, .int 0]) (C := RX3) (T := TX3) (N := 2) hx hb hts iX9_init_X3 tyX3 tyX3_ok hown (hts _ kX9_init_cl_44) (hts _ kX9_init_in_X3) (hts _ kX9_init_ii_X3) hK.1 hP hD hS hA rfl dvX3 (Nat.le_of_ble_eq_true rfl) (Nat.le_of_ble_eq_true rfl) dX9_init_70 (fun q_11 H hP hD hS => ?_)
  refine W.widen (k := 46) (n := 1149) (Nat.le_of_ble_eq_true rfl) (Nat.le_of_ble_eq_true rfl) ?_
  refine lv_dup hx hb dX9_init_73 rfl ?_
  refine lv_iconst (v := (0 : Int32)) hx hb dX9_init_74 (by decide) ?_
  refine call_cI (As := [.int (0 : Int32)]) (rest := [.ref q_11, .ref a_t]) C0 (mX3_init l g q_11 (0 : Int32) (by decide)) (cwI 1 hts gX9_init_X3_init rfl rfl rfl (hts _ kX9_init_ii_X3) (hts _ kX9_init_ml_46) (hts _ kX9_init_im_X3) rfl (by decide +kernel) ⟨Nat.le_of_ble_eq_true rfl, Nat.le_of_ble_eq_true rfl⟩) hP hD hS hl.1 rfl rfl (Nat.le_of_ble_eq_true rfl) ⟨Nat.le_of_ble_eq_true rfl, Nat.le_of_ble_eq_true rfl⟩ dX9_init_75 ?_
  intro v_12 H locs hP hD hS
  refine W.widen (k := 46) (n := 1149) (Nat.le_of_ble_eq_true rfl) (Nat.le_of_ble_eq_true rfl) ?_
  refine va_putF (D := g.1) (ci := 9) (v := .ref q_11) (ty := .object "EveningVow$Pace") (C := RX9) (T := TX9) (N := 15) hx hb hts iX9_init_X9 tyX9 tyX9_ok nmX9 hown hK.1 hP hD hS 0 rfl rfl 7 (by decide) (hts _ kX9_init_49) (fun _ h9 => h9) rfl hin rfl (by decide +kernel) rfl rfl (Nat.le_of_ble_eq_true rfl) dX9_init_78 (fun H locs hP hD hS => ?_)
  have hP : va_P g.1 vwCl (((((([(a_t, .inr (9, [.ref q_1, .ref q_3, .ref q_5, .int (0 : Int32), .int (0 : Int32), .ref q_7, .ref q_9, .ref q_11, .null, .null, .null, .int 0, .null, .null, .null]))] ++ BX5 g q_1 v_2) ++ BX1 g q_3 v_4) ++ BX1 g q_5 v_6) ++ BX2 g q_7 v_8) ++ BX2 g q_9 v_10) ++ BX3 g q_11 (0 : Int32) v_12) H := hP
  have hD : va_D A (((((([(a_t, .inr (9, [.ref q_1, .ref q_3, .ref q_5, .int (0 : Int32), .int (0 : Int32), .ref q_7, .ref q_9, .ref q_11, .null, .null, .null, .int 0, .null, .null, .null]))] ++ BX5 g q_1 v_2) ++ BX1 g q_3 v_4) ++ BX1 g q_5 v_6) ++ BX2 g q_7 v_8) ++ BX2 g q_9 v_10) ++ BX3 g q_11 (0 : Int32) v_12) := hD
  refine lv_aload_n hx hb dX9_init_81 rfl (lv_at hl 0 rfl) ?_
  refine va_new (ci := 3) (fs := [.int 0, .int 0]) (C := RX3) (T := TX3) (N := 2) hx hb hts iX9_init_X3 tyX3 tyX3_ok hown (hts _ kX9_init_cl_44) (hts _ kX9_init_in_X3) (hts _ kX9_init_ii_X3) hK.1 hP hD hS hA rfl dvX3 (Nat.le_of_ble_eq_true rfl) (Nat.le_of_ble_eq_true rfl) dX9_init_82 (fun q_13 H hP hD hS => ?_)
  refine W.widen (k := 47) (n := 1151) (Nat.le_of_ble_eq_true rfl) (Nat.le_of_ble_eq_true rfl) ?_
  refine lv_dup hx hb dX9_init_85 rfl ?_
  refine lv_iconst (v := (1 : Int32)) hx hb dX9_init_86 (by decide) ?_
  refine call_cI (As := [.int (1 : Int32)]) (rest := [.ref q_13, .ref a_t]) C0 (mX3_init l g q_13 (1 : Int32) (by decide)) (cwI 1 hts gX9_init_X3_init rfl rfl rfl (hts _ kX9_init_ii_X3) (hts _ kX9_init_ml_46) (hts _ kX9_init_im_X3) rfl (by decide +kernel) ⟨Nat.le_of_ble_eq_true rfl, Nat.le_of_ble_eq_true rfl⟩) hP hD hS hl.1 rfl rfl (Nat.le_of_ble_eq_true rfl) ⟨Nat.le_of_ble_eq_true rfl, Nat.le_of_ble_eq_true rfl⟩ dX9_init_87 ?_
  intro v_14 H locs hP hD hS
  refine W.widen (k := 47) (n := 1151) (Nat.le_of_ble_eq_true rfl) (Nat.le_of_ble_eq_true rfl) ?_
  refine va_putF (D := g.1) (ci := 9) (v := .ref q_13) (ty := .object "EveningVow$Pace") (C := RX9) (T := TX9) (N := 15) hx hb hts iX9_init_X9 tyX9 tyX9_ok nmX9 hown hK.1 hP hD hS 0 rfl rfl 8 (by decide) (hts _ kX9_init_53) (fun _ h9 => h9) rfl hin rfl (by decide +kernel) rfl rfl (Nat.le_of_ble_eq_true rfl) dX9_init_90 (fun H locs hP hD hS => ?_)
  have hP : va_P g.1 vwCl ((((((([(a_t, .inr (9, [.ref q_1, .ref q_3, .ref q_5, .int (0 : Int32), .int (0 : Int32), .ref q_7, .ref q_9, .ref q_11, .ref q_13, .null, .null, .int 0, .null, .null, .null]))] ++ BX5 g q_1 v_2) ++ BX1 g q_3 v_4) ++ BX1 g q_5 v_6) ++ BX2 g q_7 v_8) ++ BX2 g q_9 v_10) ++ BX3 g q_11 (0 : Int32) v_12) ++ BX3 g q_13 (1 : Int32) v_14) H := hP
  have hD : va_D A ((((((([(a_t, .inr (9, [.ref q_1, .ref q_3, .ref q_5, .int (0 : Int32), .int (0 : Int32), .ref q_7, .ref q_9, .ref q_11, .ref q_13, .null, .null, .int 0, .null, .null, .null]))] ++ BX5 g q_1 v_2) ++ BX1 g q_3 v_4) ++ BX1 g q_5 v_6) ++ BX2 g q_7 v_8) ++ BX2 g q_9 v_10) ++ BX3 g q_11 (0 : Int32) v_12) ++ BX3 g q_13 (1 : Int32) v_14) := hD
  refine lv_aload_n hx hb dX9_init_93 rfl (lv_at hl 0 rfl) ?_
  refine va_new (ci := 4) (fs := [.null, .int 0, .int 0]) (C := RX4) (T := TX4) (N := 3) hx hb hts iX9_init_X4 tyX4 tyX4_ok hown (hts _ kX9_init_cl_56) (hts _ kX9_init_in_X4) (hts _ kX9_init_ii_X4) hK.1 hP hD hS hA rfl dvX4 (Nat.le_of_ble_eq_true rfl) (Nat.le_of_ble_eq_true rfl) dX9_init_94 (fun q_15 H hP hD hS => ?_)
  refine W.widen (k := 48) (n := 1154) (Nat.le_of_ble_eq_true rfl) (Nat.le_of_ble_eq_true rfl) ?_
  refine lv_dup hx hb dX9_init_97 rfl ?_
  refine call_cI (As := []) (rest := [.ref q_15, .ref a_t]) C0 (mX4_init l g q_15) (cwI 0 hts gX9_init_X4_init rfl rfl rfl (hts _ kX9_init_ii_X4) (hts _ kX9_init_ml_58) (hts _ kX9_init_im_X4) rfl (by decide +kernel) ⟨Nat.le_of_ble_eq_true rfl, Nat.le_of_ble_eq_true rfl⟩) hP hD hS hl.1 rfl rfl (Nat.le_of_ble_eq_true rfl) ⟨Nat.le_of_ble_eq_true rfl, Nat.le_of_ble_eq_true rfl⟩ dX9_init_98 ?_
  intro v_16 H locs hP hD hS
  refine W.widen (k := 113) (n := 1650) (Nat.le_of_ble_eq_true rfl) (Nat.le_of_ble_eq_true rfl) ?_
  refine va_putF (D := g.1) (ci := 9) (v := .ref q_15) (ty := .object "EveningVow$Past") (C := RX9) (T := TX9) (N := 15) hx hb hts iX9_init_X9 tyX9 tyX9_ok nmX9 hown hK.1 hP hD hS 0 rfl rfl 9 (by decide) (hts _ kX9_init_59) (fun _ h9 => h9) rfl hin rfl (by decide +kernel) rfl rfl (Nat.le_of_ble_eq_true rfl) dX9_init_101 (fun H locs hP hD hS => ?_)
  have hP : va_P g.1 vwCl (((((((([(a_t, .inr (9, [.ref q_1, .ref q_3, .ref q_5, .int (0 : Int32), .int (0 : Int32), .ref q_7, .ref q_9, .ref q_11, .ref q_13, .ref q_15, .null, .int 0, .null, .null, .null]))] ++ BX5 g q_1 v_2) ++ BX1 g q_3 v_4) ++ BX1 g q_5 v_6) ++ BX2 g q_7 v_8) ++ BX2 g q_9 v_10) ++ BX3 g q_11 (0 : Int32) v_12) ++ BX3 g q_13 (1 : Int32) v_14) ++ BX4 g q_15 v_16) H := hP
  have hD : va_D A (((((((([(a_t, .inr (9, [.ref q_1, .ref q_3, .ref q_5, .int (0 : Int32), .int (0 : Int32), .ref q_7, .ref q_9, .ref q_11, .ref q_13, .ref q_15, .null, .int 0, .null, .null, .null]))] ++ BX5 g q_1 v_2) ++ BX1 g q_3 v_4) ++ BX1 g q_5 v_6) ++ BX2 g q_7 v_8) ++ BX2 g q_9 v_10) ++ BX3 g q_11 (0 : Int32) v_12) ++ BX3 g q_13 (1 : Int32) v_14) ++ BX4 g q_15 v_16) := hD
  refine lv_aload_n hx hb dX9_init_104 rfl (lv_at hl 0 rfl) ?_
  refine lv_iconst (v := (3 : Int32)) hx hb dX9_init_105 (by decide) ?_
  refine newN C0 (hts _ kX9_init_cl_34) hP hD hS (n := (3 : Int32)) (N := 3) (by decide) (by decide) (by decide) (Nat.le_of_ble_eq_true rfl) (Nat.le_of_ble_eq_true rfl) dX9_init_106 (fun q_17 H hP hD hS => ?_)
  refine W.widen (k := 114) (n := 1653) (Nat.le_of_ble_eq_true rfl) (Nat.le_of_ble_eq_true rfl) ?_
  refine va_putF (D := g.1) (ci := 9) (v := .ref q_17) (ty := .array (.object "EveningVow$Night")) (C := RX9) (T := TX9) (N := 15) hx hb hts iX9_init_X9 tyX9 tyX9_ok nmX9 hown hK.1 hP hD hS 0 rfl rfl 10 (by decide) (hts _ kX9_init_63) (fun _ h9 => h9) rfl hin rfl (by decide +kernel) rfl rfl (Nat.le_of_ble_eq_true rfl) dX9_init_109 (fun H locs hP hD hS => ?_)
  have hP : va_P g.1 vwCl ((((((((([(a_t, .inr (9, [.ref q_1, .ref q_3, .ref q_5, .int (0 : Int32), .int (0 : Int32), .ref q_7, .ref q_9, .ref q_11, .ref q_13, .ref q_15, .ref q_17, .int 0, .null, .null, .null]))] ++ BX5 g q_1 v_2) ++ BX1 g q_3 v_4) ++ BX1 g q_5 v_6) ++ BX2 g q_7 v_8) ++ BX2 g q_9 v_10) ++ BX3 g q_11 (0 : Int32) v_12) ++ BX3 g q_13 (1 : Int32) v_14) ++ BX4 g q_15 v_16) ++ [zN g q_17 3 (fun _ => none)]) H := hP
  have hD : va_D A ((((((((([(a_t, .inr (9, [.ref q_1, .ref q_3, .ref q_5, .int (0 : Int32), .int (0 : Int32), .ref q_7, .ref q_9, .ref q_11, .ref q_13, .ref q_15, .ref q_17, .int 0, .null, .null, .null]))] ++ BX5 g q_1 v_2) ++ BX1 g q_3 v_4) ++ BX1 g q_5 v_6) ++ BX2 g q_7 v_8) ++ BX2 g q_9 v_10) ++ BX3 g q_11 (0 : Int32) v_12) ++ BX3 g q_13 (1 : Int32) v_14) ++ BX4 g q_15 v_16) ++ [zN g q_17 3 (fun _ => none)]) := hD
  refine lv_aload_n hx hb dX9_init_112 rfl (lv_at hl 0 rfl) ?_
  refine lv_iconst (v := (0 : Int32)) hx hb dX9_init_113 (by decide) ?_
  refine va_put (D := g.1) (ci := 9) (v := .int (0 : Int32)) (ty := .int) (C := RX9) (T := TX9) (N := 15) hx hb hts iX9_init_X9 tyX9 tyX9_ok nmX9 hown hK.1 hP hD hS 0 rfl rfl 11 (by decide) (hts _ kX9_init_67) (fun _ h9 => h9) rfl (by decide +kernel) rfl rfl (Nat.le_of_ble_eq_true rfl) dX9_init_114 (fun H locs hP hD hS => ?_)
  have hP : va_P g.1 vwCl ((((((((([(a_t, .inr (9, [.ref q_1, .ref q_3, .ref q_5, .int (0 : Int32), .int (0 : Int32), .ref q_7, .ref q_9, .ref q_11, .ref q_13, .ref q_15, .ref q_17, .int (0 : Int32), .null, .null, .null]))] ++ BX5 g q_1 v_2) ++ BX1 g q_3 v_4) ++ BX1 g q_5 v_6) ++ BX2 g q_7 v_8) ++ BX2 g q_9 v_10) ++ BX3 g q_11 (0 : Int32) v_12) ++ BX3 g q_13 (1 : Int32) v_14) ++ BX4 g q_15 v_16) ++ [zN g q_17 3 (fun _ => none)]) H := hP
  have hD : va_D A ((((((((([(a_t, .inr (9, [.ref q_1, .ref q_3, .ref q_5, .int (0 : Int32), .int (0 : Int32), .ref q_7, .ref q_9, .ref q_11, .ref q_13, .ref q_15, .ref q_17, .int (0 : Int32), .null, .null, .null]))] ++ BX5 g q_1 v_2) ++ BX1 g q_3 v_4) ++ BX1 g q_5 v_6) ++ BX2 g q_7 v_8) ++ BX2 g q_9 v_10) ++ BX3 g q_11 (0 : Int32) v_12) ++ BX3 g q_13 (1 : Int32) v_14) ++ BX4 g q_15 v_16) ++ [zN g q_17 3 (fun _ => none)]) := hD
  refine lv_aload_n hx hb dX9_init_117 rfl (lv_at hl 0 rfl) ?_
  refine va_new (ci := 6) (fs := [.int 0, .int 0, .int 0, .null, .null, .null, .null]) (C := RX6) (T := TX6) (N := 7) hx hb hts iX9_init_X6 tyX6 tyX6_ok hown (hts _ kX9_init_cl_70) (hts _ kX9_init_in_X6) (hts _ kX9_init_ii_X6) hK.1 hP hD hS hA rfl dvX6 (Nat.le_of_ble_eq_true rfl) (Nat.le_of_ble_eq_true rfl) dX9_init_118 (fun q_18 H hP hD hS => ?_)
  refine W.widen (k := 115) (n := 1660) (Nat.le_of_ble_eq_true rfl) (Nat.le_of_ble_eq_true rfl) ?_
  refine lv_dup hx hb dX9_init_121 rfl ?_
  refine call_cI (As := []) (rest := [.ref q_18, .ref a_t]) C0 (mX6_init l g q_18) (cwI 0 hts gX9_init_X6_init rfl rfl rfl (hts _ kX9_init_ii_X6) (hts _ kX9_init_ml_72) (hts _ kX9_init_im_X6) rfl (by decide +kernel) ⟨Nat.le_of_ble_eq_true rfl, Nat.le_of_ble_eq_true rfl⟩) hP hD hS hl.1 rfl rfl (Nat.le_of_ble_eq_true rfl) ⟨Nat.le_of_ble_eq_true rfl, Nat.le_of_ble_eq_true rfl⟩ dX9_init_122 ?_
  intro v_19 H locs hP hD hS
  refine W.widen (k := 142) (n := 1853) (Nat.le_of_ble_eq_true rfl) (Nat.le_of_ble_eq_true rfl) ?_
  refine va_putF (D := g.1) (ci := 9) (v := .ref q_18) (ty := .object "EveningVow$TaleRows") (C := RX9) (T := TX9) (N := 15) hx hb hts iX9_init_X9 tyX9 tyX9_ok nmX9 hown hK.1 hP hD hS 0 rfl rfl 12 (by decide) (hts _ kX9_init_73) (fun _ h9 => h9) rfl hin rfl (by decide +kernel) rfl rfl (Nat.le_of_ble_eq_true rfl) dX9_init_125 (fun H locs hP hD hS => ?_)
  have hP : va_P g.1 vwCl (((((((((([(a_t, .inr (9, [.ref q_1, .ref q_3, .ref q_5, .int (0 : Int32), .int (0 : Int32), .ref q_7, .ref q_9, .ref q_11, .ref q_13, .ref q_15, .ref q_17, .int (0 : Int32), .ref q_18, .null, .null]))] ++ BX5 g q_1 v_2) ++ BX1 g q_3 v_4) ++ BX1 g q_5 v_6) ++ BX2 g q_7 v_8) ++ BX2 g q_9 v_10) ++ BX3 g q_11 (0 : Int32) v_12) ++ BX3 g q_13 (1 : Int32) v_14) ++ BX4 g q_15 v_16) ++ [zN g q_17 3 (fun _ => none)]) ++ BX6 g q_18 v_19) H := hP
  have hD : va_D A (((((((((([(a_t, .inr (9, [.ref q_1, .ref q_3, .ref q_5, .int (0 : Int32), .int (0 : Int32), .ref q_7, .ref q_9, .ref q_11, .ref q_13, .ref q_15, .ref q_17, .int (0 : Int32), .ref q_18, .null, .null]))] ++ BX5 g q_1 v_2) ++ BX1 g q_3 v_4) ++ BX1 g q_5 v_6) ++ BX2 g q_7 v_8) ++ BX2 g q_9 v_10) ++ BX3 g q_11 (0 : Int32) v_12) ++ BX3 g q_13 (1 : Int32) v_14) ++ BX4 g q_15 v_16) ++ [zN g q_17 3 (fun _ => none)]) ++ BX6 g q_18 v_19) := hD
  refine lv_aload_n hx hb dX9_init_128 rfl (lv_at hl 0 rfl) ?_
  refine va_new (ci := 0) (fs := [.int 0, .int 0, .null, .null, .null, .null]) (C := RX0) (T := TX0) (N := 6) hx hb hts iX9_init_X0 tyX0 tyX0_ok hown (hts _ kX9_init_cl_77) (hts _ kX9_init_in_X0) (hts _ kX9_init_ii_X0) hK.1 hP hD hS hA rfl dvX0 (Nat.le_of_ble_eq_true rfl) (Nat.le_of_ble_eq_true rfl) dX9_init_129 (fun q_20 H hP hD hS => ?_)
  refine W.widen (k := 143) (n := 1859) (Nat.le_of_ble_eq_true rfl) (Nat.le_of_ble_eq_true rfl) ?_
  refine lv_dup hx hb dX9_init_132 rfl ?_
  refine call_cN (As := []) (rest := [.ref q_20, .ref a_t]) C0 (mX0_init l g q_20) ⟨va_cnB 0 hts gX9_init_X0_init_n79 rfl rfl rfl (hK.2.1.1 (RX9, 79, yX0_init, RX9) (List.mem_of_getElem? (i := 4) rfl)) (hts _ kX9_init_ii_X0) (by decide +kernel) ⟨Nat.le_of_ble_eq_true rfl, Nat.le_of_ble_eq_true rfl⟩, rfl, hts _ kX9_init_im_X0⟩ hP hD hS hl.1 rfl rfl (Nat.le_of_ble_eq_true rfl) ⟨Nat.le_of_ble_eq_true rfl, Nat.le_of_ble_eq_true rfl⟩ dX9_init_133 ?_
  intro v_21 H locs hP hD hS
  refine W.widen (k := 150) (n := 1908) (Nat.le_of_ble_eq_true rfl) (Nat.le_of_ble_eq_true rfl) ?_
  refine va_putF (D := g.1) (ci := 9) (v := .ref q_20) (ty := .object "EveningVow$CupShares") (C := RX9) (T := TX9) (N := 15) hx hb hts iX9_init_X9 tyX9 tyX9_ok nmX9 hown hK.1 hP hD hS 0 rfl rfl 13 (by decide) (hts _ kX9_init_80) (fun _ h9 => h9) rfl hin rfl (by decide +kernel) rfl rfl (Nat.le_of_ble_eq_true rfl) dX9_init_136 (fun H locs hP hD hS => ?_)
  have hP : va_P g.1 vwCl ((((((((((([(a_t, .inr (9, [.ref q_1, .ref q_3, .ref q_5, .int (0 : Int32), .int (0 : Int32), .ref q_7, .ref q_9, .ref q_11, .ref q_13, .ref q_15, .ref q_17, .int (0 : Int32), .ref q_18, .ref q_20, .null]))] ++ BX5 g q_1 v_2) ++ BX1 g q_3 v_4) ++ BX1 g q_5 v_6) ++ BX2 g q_7 v_8) ++ BX2 g q_9 v_10) ++ BX3 g q_11 (0 : Int32) v_12) ++ BX3 g q_13 (1 : Int32) v_14) ++ BX4 g q_15 v_16) ++ [zN g q_17 3 (fun _ => none)]) ++ BX6 g q_18 v_19) ++ BX0 g q_20 v_21) H := hP
  have hD : va_D A ((((((((((([(a_t, .inr (9, [.ref q_1, .ref q_3, .ref q_5, .int (0 : Int32), .int (0 : Int32), .ref q_7, .ref q_9, .ref q_11, .ref q_13, .ref q_15, .ref q_17, .int (0 : Int32), .ref q_18, .ref q_20, .null]))] ++ BX5 g q_1 v_2) ++ BX1 g q_3 v_4) ++ BX1 g q_5 v_6) ++ BX2 g q_7 v_8) ++ BX2 g q_9 v_10) ++ BX3 g q_11 (0 : Int32) v_12) ++ BX3 g q_13 (1 : Int32) v_14) ++ BX4 g q_15 v_16) ++ [zN g q_17 3 (fun _ => none)]) ++ BX6 g q_18 v_19) ++ BX0 g q_20 v_21) := hD
  refine lv_aload_n hx hb dX9_init_139 rfl (lv_at hl 0 rfl) ?_
  refine va_new (ci := 8) (fs := [.int 0, .int 0, .int 0, .null, .null, .null, .null]) (C := RX8) (T := TX8) (N := 7) hx hb hts iX9_init_X8 tyX8 tyX8_ok hown (hts _ kX9_init_cl_84) (hts _ kX9_init_in_X8) (hts _ kX9_init_ii_X8) hK.1 hP hD hS hA rfl dvX8 (Nat.le_of_ble_eq_true rfl) (Nat.le_of_ble_eq_true rfl) dX9_init_140 (fun q_22 H hP hD hS => ?_)
  refine W.widen (k := 151) (n := 1915) (Nat.le_of_ble_eq_true rfl) (Nat.le_of_ble_eq_true rfl) ?_
  refine lv_dup hx hb dX9_init_143 rfl ?_
  refine call_cN (As := []) (rest := [.ref q_22, .ref a_t]) C0 (mX8_init l g q_22) ⟨va_cnB 0 hts gX9_init_X8_init_n86 rfl rfl rfl (hK.2.1.1 (RX9, 86, yX8_init, RX9) (List.mem_of_getElem? (i := 5) rfl)) (hts _ kX9_init_ii_X8) (by decide +kernel) ⟨Nat.le_of_ble_eq_true rfl, Nat.le_of_ble_eq_true rfl⟩, rfl, hts _ kX9_init_im_X8⟩ hP hD hS hl.1 rfl rfl (Nat.le_of_ble_eq_true rfl) ⟨Nat.le_of_ble_eq_true rfl, Nat.le_of_ble_eq_true rfl⟩ dX9_init_144 ?_
  intro v_23 H locs hP hD hS
  refine W.widen (k := 161) (n := 2224) (Nat.le_of_ble_eq_true rfl) (Nat.le_of_ble_eq_true rfl) ?_
  refine va_putF (D := g.1) (ci := 9) (v := .ref q_22) (ty := .object "EveningVow$Unseen") (C := RX9) (T := TX9) (N := 15) hx hb hts iX9_init_X9 tyX9 tyX9_ok nmX9 hown hK.1 hP hD hS 0 rfl rfl 14 (by decide) (hts _ kX9_init_87) (fun _ h9 => h9) rfl hin rfl (by decide +kernel) rfl rfl (Nat.le_of_ble_eq_true rfl) dX9_init_147 (fun H locs hP hD hS => ?_)
  have hP : va_P g.1 vwCl (((((((((((([(a_t, .inr (9, [.ref q_1, .ref q_3, .ref q_5, .int (0 : Int32), .int (0 : Int32), .ref q_7, .ref q_9, .ref q_11, .ref q_13, .ref q_15, .ref q_17, .int (0 : Int32), .ref q_18, .ref q_20, .ref q_22]))] ++ BX5 g q_1 v_2) ++ BX1 g q_3 v_4) ++ BX1 g q_5 v_6) ++ BX2 g q_7 v_8) ++ BX2 g q_9 v_10) ++ BX3 g q_11 (0 : Int32) v_12) ++ BX3 g q_13 (1 : Int32) v_14) ++ BX4 g q_15 v_16) ++ [zN g q_17 3 (fun _ => none)]) ++ BX6 g q_18 v_19) ++ BX0 g q_20 v_21) ++ BX8 g q_22 v_23) H := hP
  have hD : va_D A (((((((((((([(a_t, .inr (9, [.ref q_1, .ref q_3, .ref q_5, .int (0 : Int32), .int (0 : Int32), .ref q_7, .ref q_9, .ref q_11, .ref q_13, .ref q_15, .ref q_17, .int (0 : Int32), .ref q_18, .ref q_20, .ref q_22]))] ++ BX5 g q_1 v_2) ++ BX1 g q_3 v_4) ++ BX1 g q_5 v_6) ++ BX2 g q_7 v_8) ++ BX2 g q_9 v_10) ++ BX3 g q_11 (0 : Int32) v_12) ++ BX3 g q_13 (1 : Int32) v_14) ++ BX4 g q_15 v_16) ++ [zN g q_17 3 (fun _ => none)]) ++ BX6 g q_18 v_19) ++ BX0 g q_20 v_21) ++ BX8 g q_22 v_23) := hD
  refine lv_iconst (v := (0 : Int32)) hx hb dX9_init_150 (by decide) ?_
  refine lv_istore_n (lv' := [(1, .int (0 : Int32)), (0, .ref a_t)]) hx hb dX9_init_151 rfl hl (by decide) rfl (fun ls hl => ?_)
  refine lv_iload_n hx hb dX9_init_152 rfl (lv_at hl 0 rfl) ?_
  refine lv_iconst (v := (3 : Int32)) hx hb dX9_init_153 (by decide) ?_
  refine lv_icmp_ge (tgt := 176) hx hb dX9_init_154 (by decide) (fun c_24 => absurd c_24 (by decide)) (fun c_24 => ?_)
  refine lv_aload_n hx hb dX9_init_157 rfl (lv_at hl 1 rfl) ?_
  have ez : (((((((((((([(a_t, .inr (9, [.ref q_1, .ref q_3, .ref q_5, .int (0 : Int32), .int (0 : Int32), .ref q_7, .ref q_9, .ref q_11, .ref q_13, .ref q_15, .ref q_17, .int (0 : Int32), .ref q_18, .ref q_20, .ref q_22]))] ++ BX5 g q_1 v_2) ++ BX1 g q_3 v_4) ++ BX1 g q_5 v_6) ++ BX2 g q_7 v_8) ++ BX2 g q_9 v_10) ++ BX3 g q_11 (0 : Int32) v_12) ++ BX3 g q_13 (1 : Int32) v_14) ++ BX4 g q_15 v_16) ++ [zN g q_17 3 (fun _ => none)]) ++ BX6 g q_18 v_19) ++ BX0 g q_20 v_21) ++ BX8 g q_22 v_23) = ((((((((([(a_t, .inr (9, [.ref q_1, .ref q_3, .ref q_5, .int (0 : Int32), .int (0 : Int32), .ref q_7, .ref q_9, .ref q_11, .ref q_13, .ref q_15, .ref q_17, .int (0 : Int32), .ref q_18, .ref q_20, .ref q_22]))] ++ BX5 g q_1 v_2) ++ BX1 g q_3 v_4) ++ BX1 g q_5 v_6) ++ BX2 g q_7 v_8) ++ BX2 g q_9 v_10) ++ BX3 g q_11 (0 : Int32) v_12) ++ BX3 g q_13 (1 : Int32) v_14) ++ BX4 g q_15 v_16) ++ (zN g q_17 3 (fun _ => none) :: (BX6 g q_18 v_19 ++ (BX0 g q_20 v_21 ++ BX8 g q_22 v_23)))) := by simp only [List.append_assoc, List.singleton_append, List.cons_append, List.nil_append]
  rw [ez] at hP hD
  refine va_get (D := g.1) (ci := 9) (v := .ref q_17) (C := RX9) (T := TX9) (N := 15) hx hb hts iX9_init_X9 hown hK.1 hP 0 rfl rfl 10 (by decide) (hts _ kX9_init_63) (fun _ h9 => h9) rfl dX9_init_158 ?_
  refine lv_iload_n hx hb dX9_init_161 rfl (lv_at hl 0 rfl) ?_
  refine va_new (ci := 2) (fs := [.int 0, .int 0, .int 0, .int 0, .int 0, .int 0, .null, .null, .null]) (C := RX2) (T := TX2) (N := 9) hx hb hts iX9_init_X2 tyX2 tyX2_ok hown (hts _ kX9_init_cl_34) (hts _ kX9_init_in_X2) (hts _ kX9_init_ii_X2) hK.1 hP hD hS hA rfl dvX2 (Nat.le_of_ble_eq_true rfl) (Nat.le_of_ble_eq_true rfl) dX9_init_162 (fun q_25 H hP hD hS => ?_)
  refine W.widen (k := 162) (n := 2233) (Nat.le_of_ble_eq_true rfl) (Nat.le_of_ble_eq_true rfl) ?_
  refine lv_dup hx hb dX9_init_165 rfl ?_
  refine call_cN (As := []) (rest := [.ref q_25, .int (0 : Int32), .ref q_17]) C0 (mX2_init l g q_25) ⟨va_cnB 0 hts gX9_init_X2_init_n36 rfl rfl rfl (hK.2.1.1 (RX9, 36, yX2_init, RX9) (List.mem_of_getElem? (i := 3) rfl)) (hts _ kX9_init_ii_X2) (by decide +kernel) ⟨Nat.le_of_ble_eq_true rfl, Nat.le_of_ble_eq_true rfl⟩, rfl, hts _ kX9_init_im_X2⟩ hP hD hS hl.1 rfl rfl (Nat.le_of_ble_eq_true rfl) ⟨Nat.le_of_ble_eq_true rfl, Nat.le_of_ble_eq_true rfl⟩ dX9_init_166 ?_
  intro v_26 H locs hP hD hS
  refine W.widen (k := 165) (n := 2254) (Nat.le_of_ble_eq_true rfl) (Nat.le_of_ble_eq_true rfl) ?_
  refine astZ (WA := (((((((([(a_t, .inr (9, [.ref q_1, .ref q_3, .ref q_5, .int (0 : Int32), .int (0 : Int32), .ref q_7, .ref q_9, .ref q_11, .ref q_13, .ref q_15, .ref q_17, .int (0 : Int32), .ref q_18, .ref q_20, .ref q_22]))] ++ BX5 g q_1 v_2) ++ BX1 g q_3 v_4) ++ BX1 g q_5 v_6) ++ BX2 g q_7 v_8) ++ BX2 g q_9 v_10) ++ BX3 g q_11 (0 : Int32) v_12) ++ BX3 g q_13 (1 : Int32) v_14) ++ BX4 g q_15 v_16)) (WB := ((BX6 g q_18 v_19 ++ (BX0 g q_20 v_21 ++ BX8 g q_22 v_23)) ++ BX2 g q_25 v_26)) (n := 3) (f := (fun _ => none)) (i := (0 : Int32)) (v := q_25) C0 hP hD hS (by simp only [List.append_assoc, List.cons_append]) (List.mem_append_right _ List.mem_cons_self) (by unfold vp_in; decide) dX9_init_169 (fun H locs hP hD hS => ?_)
  have hP : va_P g.1 vwCl ((((((((([(a_t, .inr (9, [.ref q_1, .ref q_3, .ref q_5, .int (0 : Int32), .int (0 : Int32), .ref q_7, .ref q_9, .ref q_11, .ref q_13, .ref q_15, .ref q_17, .int (0 : Int32), .ref q_18, .ref q_20, .ref q_22]))] ++ BX5 g q_1 v_2) ++ BX1 g q_3 v_4) ++ BX1 g q_5 v_6) ++ BX2 g q_7 v_8) ++ BX2 g q_9 v_10) ++ BX3 g q_11 (0 : Int32) v_12) ++ BX3 g q_13 (1 : Int32) v_14) ++ BX4 g q_15 v_16) ++ (zN g q_17 3 (va_up (fun _ => none) 0 (some q_25)) :: ((BX6 g q_18 v_19 ++ (BX0 g q_20 v_21 ++ BX8 g q_22 v_23)) ++ BX2 g q_25 v_26))) H := hP
  have hD : va_D A ((((((((([(a_t, .inr (9, [.ref q_1, .ref q_3, .ref q_5, .int (0 : Int32), .int (0 : Int32), .ref q_7, .ref q_9, .ref q_11, .ref q_13, .ref q_15, .ref q_17, .int (0 : Int32), .ref q_18, .ref q_20, .ref q_22]))] ++ BX5 g q_1 v_2) ++ BX1 g q_3 v_4) ++ BX1 g q_5 v_6) ++ BX2 g q_7 v_8) ++ BX2 g q_9 v_10) ++ BX3 g q_11 (0 : Int32) v_12) ++ BX3 g q_13 (1 : Int32) v_14) ++ BX4 g q_15 v_16) ++ (zN g q_17 3 (va_up (fun _ => none) 0 (some q_25)) :: ((BX6 g q_18 v_19 ++ (BX0 g q_20 v_21 ++ BX8 g q_22 v_23)) ++ BX2 g q_25 v_26))) := hD
  refine lv_iinc (v := (1 : Int32)) (lv' := [(1, .int (1 : Int32)), (0, .ref a_t)]) hx hb dX9_init_170 hl (k := 0) rfl (by decide) (by decide) rfl (fun ls hl => ?_)
  refine lv_goto (tgt := 152) hx hb dX9_init_173 (by decide) ?_
  refine lv_iload_n hx hb dX9_init_152 rfl (lv_at hl 0 rfl) ?_
  refine lv_iconst (v := (3 : Int32)) hx hb dX9_init_153 (by decide) ?_
  refine lv_icmp_ge (tgt := 176) hx hb dX9_init_154 (by decide) (fun c_27 => absurd c_27 (by decide)) (fun c_27 => ?_)
  refine lv_aload_n hx hb dX9_init_157 rfl (lv_at hl 1 rfl) ?_
  refine va_get (D := g.1) (ci := 9) (v := .ref q_17) (C := RX9) (T := TX9) (N := 15) hx hb hts iX9_init_X9 hown hK.1 hP 0 rfl rfl 10 (by decide) (hts _ kX9_init_63) (fun _ h9 => h9) rfl dX9_init_158 ?_
  refine lv_iload_n hx hb dX9_init_161 rfl (lv_at hl 0 rfl) ?_
  refine va_new (ci := 2) (fs := [.int 0, .int 0, .int 0, .int 0, .int 0, .int 0, .null, .null, .null]) (C := RX2) (T := TX2) (N := 9) hx hb hts iX9_init_X2 tyX2 tyX2_ok hown (hts _ kX9_init_cl_34) (hts _ kX9_init_in_X2) (hts _ kX9_init_ii_X2) hK.1 hP hD hS hA rfl dvX2 (Nat.le_of_ble_eq_true rfl) (Nat.le_of_ble_eq_true rfl) dX9_init_162 (fun q_28 H hP hD hS => ?_)
  refine W.widen (k := 166) (n := 2263) (Nat.le_of_ble_eq_true rfl) (Nat.le_of_ble_eq_true rfl) ?_
  refine lv_dup hx hb dX9_init_165 rfl ?_
  refine call_cN (As := []) (rest := [.ref q_28, .int (1 : Int32), .ref q_17]) C0 (mX2_init l g q_28) ⟨va_cnB 0 hts gX9_init_X2_init_n36 rfl rfl rfl (hK.2.1.1 (RX9, 36, yX2_init, RX9) (List.mem_of_getElem? (i := 3) rfl)) (hts _ kX9_init_ii_X2) (by decide +kernel) ⟨Nat.le_of_ble_eq_true rfl, Nat.le_of_ble_eq_true rfl⟩, rfl, hts _ kX9_init_im_X2⟩ hP hD hS hl.1 rfl rfl (Nat.le_of_ble_eq_true rfl) ⟨Nat.le_of_ble_eq_true rfl, Nat.le_of_ble_eq_true rfl⟩ dX9_init_166 ?_
  intro v_29 H locs hP hD hS
  refine W.widen (k := 169) (n := 2284) (Nat.le_of_ble_eq_true rfl) (Nat.le_of_ble_eq_true rfl) ?_
  refine astZ (WA := (((((((([(a_t, .inr (9, [.ref q_1, .ref q_3, .ref q_5, .int (0 : Int32), .int (0 : Int32), .ref q_7, .ref q_9, .ref q_11, .ref q_13, .ref q_15, .ref q_17, .int (0 : Int32), .ref q_18, .ref q_20, .ref q_22]))] ++ BX5 g q_1 v_2) ++ BX1 g q_3 v_4) ++ BX1 g q_5 v_6) ++ BX2 g q_7 v_8) ++ BX2 g q_9 v_10) ++ BX3 g q_11 (0 : Int32) v_12) ++ BX3 g q_13 (1 : Int32) v_14) ++ BX4 g q_15 v_16)) (WB := (((BX6 g q_18 v_19 ++ (BX0 g q_20 v_21 ++ BX8 g q_22 v_23)) ++ BX2 g q_25 v_26) ++ BX2 g q_28 v_29)) (n := 3) (f := (va_up (fun _ => none) 0 (some q_25))) (i := (1 : Int32)) (v := q_28) C0 hP hD hS (by simp only [List.append_assoc, List.cons_append]) (List.mem_append_right _ List.mem_cons_self) (by unfold vp_in; decide) dX9_init_169 (fun H locs hP hD hS => ?_)
  have hP : va_P g.1 vwCl ((((((((([(a_t, .inr (9, [.ref q_1, .ref q_3, .ref q_5, .int (0 : Int32), .int (0 : Int32), .ref q_7, .ref q_9, .ref q_11, .ref q_13, .ref q_15, .ref q_17, .int (0 : Int32), .ref q_18, .ref q_20, .ref q_22]))] ++ BX5 g q_1 v_2) ++ BX1 g q_3 v_4) ++ BX1 g q_5 v_6) ++ BX2 g q_7 v_8) ++ BX2 g q_9 v_10) ++ BX3 g q_11 (0 : Int32) v_12) ++ BX3 g q_13 (1 : Int32) v_14) ++ BX4 g q_15 v_16) ++ (zN g q_17 3 (va_up (va_up (fun _ => none) 0 (some q_25)) 1 (some q_28)) :: (((BX6 g q_18 v_19 ++ (BX0 g q_20 v_21 ++ BX8 g q_22 v_23)) ++ BX2 g q_25 v_26) ++ BX2 g q_28 v_29))) H := hP
  have hD : va_D A ((((((((([(a_t, .inr (9, [.ref q_1, .ref q_3, .ref q_5, .int (0 : Int32), .int (0 : Int32), .ref q_7, .ref q_9, .ref q_11, .ref q_13, .ref q_15, .ref q_17, .int (0 : Int32), .ref q_18, .ref q_20, .ref q_22]))] ++ BX5 g q_1 v_2) ++ BX1 g q_3 v_4) ++ BX1 g q_5 v_6) ++ BX2 g q_7 v_8) ++ BX2 g q_9 v_10) ++ BX3 g q_11 (0 : Int32) v_12) ++ BX3 g q_13 (1 : Int32) v_14) ++ BX4 g q_15 v_16) ++ (zN g q_17 3 (va_up (va_up (fun _ => none) 0 (some q_25)) 1 (some q_28)) :: (((BX6 g q_18 v_19 ++ (BX0 g q_20 v_21 ++ BX8 g q_22 v_23)) ++ BX2 g q_25 v_26) ++ BX2 g q_28 v_29))) := hD
  refine lv_iinc (v := (2 : Int32)) (lv' := [(1, .int (2 : Int32)), (0, .ref a_t)]) hx hb dX9_init_170 hl (k := 0) rfl (by decide) (by decide) rfl (fun ls hl => ?_)
  refine lv_goto (tgt := 152) hx hb dX9_init_173 (by decide) ?_
  refine lv_iload_n hx hb dX9_init_152 rfl (lv_at hl 0 rfl) ?_
  refine lv_iconst (v := (3 : Int32)) hx hb dX9_init_153 (by decide) ?_
  refine lv_icmp_ge (tgt := 176) hx hb dX9_init_154 (by decide) (fun c_30 => absurd c_30 (by decide)) (fun c_30 => ?_)
  refine lv_aload_n hx hb dX9_init_157 rfl (lv_at hl 1 rfl) ?_
  refine va_get (D := g.1) (ci := 9) (v := .ref q_17) (C := RX9) (T := TX9) (N := 15) hx hb hts iX9_init_X9 hown hK.1 hP 0 rfl rfl 10 (by decide) (hts _ kX9_init_63) (fun _ h9 => h9) rfl dX9_init_158 ?_
  refine lv_iload_n hx hb dX9_init_161 rfl (lv_at hl 0 rfl) ?_
  refine va_new (ci := 2) (fs := [.int 0, .int 0, .int 0, .int 0, .int 0, .int 0, .null, .null, .null]) (C := RX2) (T := TX2) (N := 9) hx hb hts iX9_init_X2 tyX2 tyX2_ok hown (hts _ kX9_init_cl_34) (hts _ kX9_init_in_X2) (hts _ kX9_init_ii_X2) hK.1 hP hD hS hA rfl dvX2 (Nat.le_of_ble_eq_true rfl) (Nat.le_of_ble_eq_true rfl) dX9_init_162 (fun q_31 H hP hD hS => ?_)
  refine W.widen (k := 170) (n := 2293) (Nat.le_of_ble_eq_true rfl) (Nat.le_of_ble_eq_true rfl) ?_
  refine lv_dup hx hb dX9_init_165 rfl ?_
  refine call_cN (As := []) (rest := [.ref q_31, .int (2 : Int32), .ref q_17]) C0 (mX2_init l g q_31) ⟨va_cnB 0 hts gX9_init_X2_init_n36 rfl rfl rfl (hK.2.1.1 (RX9, 36, yX2_init, RX9) (List.mem_of_getElem? (i := 3) rfl)) (hts _ kX9_init_ii_X2) (by decide +kernel) ⟨Nat.le_of_ble_eq_true rfl, Nat.le_of_ble_eq_true rfl⟩, rfl, hts _ kX9_init_im_X2⟩ hP hD hS hl.1 rfl rfl (Nat.le_of_ble_eq_true rfl) ⟨Nat.le_of_ble_eq_true rfl, Nat.le_of_ble_eq_true rfl⟩ dX9_init_166 ?_
  intro v_32 H locs hP hD hS
  refine W.widen (k := 173) (n := 2314) (Nat.le_of_ble_eq_true rfl) (Nat.le_of_ble_eq_true rfl) ?_
  refine astZ (WA := (((((((([(a_t, .inr (9, [.ref q_1, .ref q_3, .ref q_5, .int (0 : Int32), .int (0 : Int32), .ref q_7, .ref q_9, .ref q_11, .ref q_13, .ref q_15, .ref q_17, .int (0 : Int32), .ref q_18, .ref q_20, .ref q_22]))] ++ BX5 g q_1 v_2) ++ BX1 g q_3 v_4) ++ BX1 g q_5 v_6) ++ BX2 g q_7 v_8) ++ BX2 g q_9 v_10) ++ BX3 g q_11 (0 : Int32) v_12) ++ BX3 g q_13 (1 : Int32) v_14) ++ BX4 g q_15 v_16)) (WB := ((((BX6 g q_18 v_19 ++ (BX0 g q_20 v_21 ++ BX8 g q_22 v_23)) ++ BX2 g q_25 v_26) ++ BX2 g q_28 v_29) ++ BX2 g q_31 v_32)) (n := 3) (f := (va_up (va_up (fun _ => none) 0 (some q_25)) 1 (some q_28))) (i := (2 : Int32)) (v := q_31) C0 hP hD hS (by simp only [List.append_assoc, List.cons_append]) (List.mem_append_right _ List.mem_cons_self) (by unfold vp_in; decide) dX9_init_169 (fun H locs hP hD hS => ?_)
  have hP : va_P g.1 vwCl ((((((((([(a_t, .inr (9, [.ref q_1, .ref q_3, .ref q_5, .int (0 : Int32), .int (0 : Int32), .ref q_7, .ref q_9, .ref q_11, .ref q_13, .ref q_15, .ref q_17, .int (0 : Int32), .ref q_18, .ref q_20, .ref q_22]))] ++ BX5 g q_1 v_2) ++ BX1 g q_3 v_4) ++ BX1 g q_5 v_6) ++ BX2 g q_7 v_8) ++ BX2 g q_9 v_10) ++ BX3 g q_11 (0 : Int32) v_12) ++ BX3 g q_13 (1 : Int32) v_14) ++ BX4 g q_15 v_16) ++ (zN g q_17 3 (va_up (va_up (va_up (fun _ => none) 0 (some q_25)) 1 (some q_28)) 2 (some q_31)) :: ((((BX6 g q_18 v_19 ++ (BX0 g q_20 v_21 ++ BX8 g q_22 v_23)) ++ BX2 g q_25 v_26) ++ BX2 g q_28 v_29) ++ BX2 g q_31 v_32))) H := hP
  have hD : va_D A ((((((((([(a_t, .inr (9, [.ref q_1, .ref q_3, .ref q_5, .int (0 : Int32), .int (0 : Int32), .ref q_7, .ref q_9, .ref q_11, .ref q_13, .ref q_15, .ref q_17, .int (0 : Int32), .ref q_18, .ref q_20, .ref q_22]))] ++ BX5 g q_1 v_2) ++ BX1 g q_3 v_4) ++ BX1 g q_5 v_6) ++ BX2 g q_7 v_8) ++ BX2 g q_9 v_10) ++ BX3 g q_11 (0 : Int32) v_12) ++ BX3 g q_13 (1 : Int32) v_14) ++ BX4 g q_15 v_16) ++ (zN g q_17 3 (va_up (va_up (va_up (fun _ => none) 0 (some q_25)) 1 (some q_28)) 2 (some q_31)) :: ((((BX6 g q_18 v_19 ++ (BX0 g q_20 v_21 ++ BX8 g q_22 v_23)) ++ BX2 g q_25 v_26) ++ BX2 g q_28 v_29) ++ BX2 g q_31 v_32))) := hD
  refine lv_iinc (v := (3 : Int32)) (lv' := [(1, .int (3 : Int32)), (0, .ref a_t)]) hx hb dX9_init_170 hl (k := 0) rfl (by decide) (by decide) rfl (fun ls hl => ?_)
  refine lv_goto (tgt := 152) hx hb dX9_init_173 (by decide) ?_
  refine lv_iload_n hx hb dX9_init_152 rfl (lv_at hl 0 rfl) ?_
  refine lv_iconst (v := (3 : Int32)) hx hb dX9_init_153 (by decide) ?_
  refine lv_icmp_ge (tgt := 176) hx hb dX9_init_154 (by decide) (fun c_33 => ?_) (fun c_33 => absurd (by decide) c_33)
  obtain ⟨hP, hD⟩ := aN_setZ (q := (va_up (va_up (va_up (fun _ => 0) 0 q_25) 1 q_28) 2 q_31)) hP hD (fun j hj => by rcases (show j = 0 ∨ j = 1 ∨ j = 2 by omega) with rfl | rfl | rfl <;> rfl)
  exact ret_c0 (B := BX9 g a_t) ((va_up (va_up (va_up (va_up (va_up (va_up (va_up (va_up (va_up (va_up (va_up (va_up (fun _ => 0) 0 q_1) 1 q_3) 2 q_5) 5 q_7) 6 q_9) 7 q_11) 8 q_13) 9 q_15) 10 q_17) 12 q_18) 13 q_20) 14 q_22), v_2, v_4, v_6, v_8, v_10, v_12, v_14, v_16, v_19, v_21, v_23, (va_up (va_up (va_up (fun _ => 0) 0 q_25) 1 q_28) 2 q_31), (va_up (va_up (va_up (fun _ _ => 0) 0 v_26) 1 v_29) 2 v_32)) C0 hP hD hS dX9_init_176

