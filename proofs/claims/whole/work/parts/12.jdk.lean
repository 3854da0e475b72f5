theorem dAJ0_coder_7d493 : ∀ q ∈ ([(0, (.getstatic 38, 3)), (3, (.ifCond .eq 10, 3)), (6, (.aload_n 0, 1)), (7, (.getfield 15, 3)), (10, (.goto 4, 3)), (13, (.iconst 1, 1)), (14, (.ireturn, 1))] : List (Nat × (Instr × Nat))), decode cJ0_coder_7d493 q.1 = .ok q.2 := by decide +kernel
theorem dJ0_coder_7d493_0 : decode cJ0_coder_7d493 0 = .ok (.getstatic 38, 3) := dAJ0_coder_7d493 (0, (.getstatic 38, 3)) (List.mem_of_getElem? (i := 0) rfl)
theorem dJ0_coder_7d493_3 : decode cJ0_coder_7d493 3 = .ok (.ifCond .eq 10, 3) := dAJ0_coder_7d493 (3, (.ifCond .eq 10, 3)) (List.mem_of_getElem? (i := 1) rfl)
theorem dJ0_coder_7d493_6 : decode cJ0_coder_7d493 6 = .ok (.aload_n 0, 1) := dAJ0_coder_7d493 (6, (.aload_n 0, 1)) (List.mem_of_getElem? (i := 2) rfl)
theorem dJ0_coder_7d493_7 : decode cJ0_coder_7d493 7 = .ok (.getfield 15, 3) := dAJ0_coder_7d493 (7, (.getfield 15, 3)) (List.mem_of_getElem? (i := 3) rfl)
theorem dJ0_coder_7d493_10 : decode cJ0_coder_7d493 10 = .ok (.goto 4, 3) := dAJ0_coder_7d493 (10, (.goto 4, 3)) (List.mem_of_getElem? (i := 4) rfl)
theorem dJ0_coder_7d493_13 : decode cJ0_coder_7d493 13 = .ok (.iconst 1, 1) := dAJ0_coder_7d493 (13, (.iconst 1, 1)) (List.mem_of_getElem? (i := 5) rfl)
theorem dJ0_coder_7d493_14 : decode cJ0_coder_7d493 14 = .ok (.ireturn, 1) := dAJ0_coder_7d493 (14, (.ireturn, 1)) (List.mem_of_getElem? (i := 6) rfl)
theorem dAJ0_isLatin1_aae02 : ∀ q ∈ ([(0, (.getstatic 38, 3)), (3, (.ifCond .eq 14, 3)), (6, (.aload_n 0, 1)), (7, (.getfield 15, 3)), (10, (.ifCond .ne 7, 3)), (13, (.iconst 1, 1)), (14, (.goto 4, 3)), (17, (.iconst 0, 1)), (18, (.ireturn, 1))] : List (Nat × (Instr × Nat))), decode cJ0_isLatin1_aae02 q.1 = .ok q.2 := by decide +kernel
theorem dJ0_isLatin1_aae02_0 : decode cJ0_isLatin1_aae02 0 = .ok (.getstatic 38, 3) := dAJ0_isLatin1_aae02 (0, (.getstatic 38, 3)) (List.mem_of_getElem? (i := 0) rfl)
theorem dJ0_isLatin1_aae02_3 : decode cJ0_isLatin1_aae02 3 = .ok (.ifCond .eq 14, 3) := dAJ0_isLatin1_aae02 (3, (.ifCond .eq 14, 3)) (List.mem_of_getElem? (i := 1) rfl)
theorem dJ0_isLatin1_aae02_6 : decode cJ0_isLatin1_aae02 6 = .ok (.aload_n 0, 1) := dAJ0_isLatin1_aae02 (6, (.aload_n 0, 1)) (List.mem_of_getElem? (i := 2) rfl)
theorem dJ0_isLatin1_aae02_7 : decode cJ0_isLatin1_aae02 7 = .ok (.getfield 15, 3) := dAJ0_isLatin1_aae02 (7, (.getfield 15, 3)) (List.mem_of_getElem? (i := 3) rfl)
theorem dJ0_isLatin1_aae02_10 : decode cJ0_isLatin1_aae02 10 = .ok (.ifCond .ne 7, 3) := dAJ0_isLatin1_aae02 (10, (.ifCond .ne 7, 3)) (List.mem_of_getElem? (i := 4) rfl)
theorem dJ0_isLatin1_aae02_13 : decode cJ0_isLatin1_aae02 13 = .ok (.iconst 1, 1) := dAJ0_isLatin1_aae02 (13, (.iconst 1, 1)) (List.mem_of_getElem? (i := 5) rfl)
theorem dJ0_isLatin1_aae02_14 : decode cJ0_isLatin1_aae02 14 = .ok (.goto 4, 3) := dAJ0_isLatin1_aae02 (14, (.goto 4, 3)) (List.mem_of_getElem? (i := 6) rfl)
theorem dJ0_isLatin1_aae02_17 : decode cJ0_isLatin1_aae02 17 = .ok (.iconst 0, 1) := dAJ0_isLatin1_aae02 (17, (.iconst 0, 1)) (List.mem_of_getElem? (i := 7) rfl)
theorem dJ0_isLatin1_aae02_18 : decode cJ0_isLatin1_aae02 18 = .ok (.ireturn, 1) := dAJ0_isLatin1_aae02 (18, (.ireturn, 1)) (List.mem_of_getElem? (i := 8) rfl)
theorem dAJ0_length_8abf5 : ∀ q ∈ ([(0, (.aload_n 0, 1)), (1, (.getfield 9, 3)), (4, (.arraylength, 1)), (5, (.aload_n 0, 1)), (6, (.invokevirtual 335, 3)), (9, (.ishr, 1)), (10, (.ireturn, 1))] : List (Nat × (Instr × Nat))), decode cJ0_length_8abf5 q.1 = .ok q.2 := by decide +kernel
theorem dJ0_length_8abf5_0 : decode cJ0_length_8abf5 0 = .ok (.aload_n 0, 1) := dAJ0_length_8abf5 (0, (.aload_n 0, 1)) (List.mem_of_getElem? (i := 0) rfl)
theorem dJ0_length_8abf5_1 : decode cJ0_length_8abf5 1 = .ok (.getfield 9, 3) := dAJ0_length_8abf5 (1, (.getfield 9, 3)) (List.mem_of_getElem? (i := 1) rfl)
theorem dJ0_length_8abf5_4 : decode cJ0_length_8abf5 4 = .ok (.arraylength, 1) := dAJ0_length_8abf5 (4, (.arraylength, 1)) (List.mem_of_getElem? (i := 2) rfl)
theorem dJ0_length_8abf5_5 : decode cJ0_length_8abf5 5 = .ok (.aload_n 0, 1) := dAJ0_length_8abf5 (5, (.aload_n 0, 1)) (List.mem_of_getElem? (i := 3) rfl)
theorem dJ0_length_8abf5_6 : decode cJ0_length_8abf5 6 = .ok (.invokevirtual 335, 3) := dAJ0_length_8abf5 (6, (.invokevirtual 335, 3)) (List.mem_of_getElem? (i := 4) rfl)
theorem dJ0_length_8abf5_9 : decode cJ0_length_8abf5 9 = .ok (.ishr, 1) := dAJ0_length_8abf5 (9, (.ishr, 1)) (List.mem_of_getElem? (i := 5) rfl)
theorem dJ0_length_8abf5_10 : decode cJ0_length_8abf5 10 = .ok (.ireturn, 1) := dAJ0_length_8abf5 (10, (.ireturn, 1)) (List.mem_of_getElem? (i := 6) rfl)
set_option maxRecDepth 20000 in
theorem ggJ0_length_8abf5_J0_coder_7d493 : GoodIn wsJ0_length_8abf5 wsJ0_coder_7d493 := goodIn_r _ [6, 7, 8] (by decide +kernel) (by decide +kernel)
set_option maxRecDepth 20000 in
theorem gJ0_length_8abf5_J0_coder_7d493 : GoodIn wsJ0_length_8abf5 (wsV RJ0 335 RJ0 yJ0_coder_7d493 wsJ0_coder_7d493) := goodIn_app (goodIn_of _ (by decide +kernel)) ggJ0_length_8abf5_J0_coder_7d493
theorem dAJ3_checkIndex_8e157 : ∀ q ∈ ([(0, (.iload_n 0, 1)), (1, (.ifCond .lt 8, 3)), (4, (.iload_n 0, 1)), (5, (.iload_n 1, 1)), (6, (.if_icmp .lt 10, 3)), (9, (.aload_n 2, 1)), (10, (.iload_n 0, 1)), (11, (.iload_n 1, 1)), (12, (.invokestatic 95, 3)), (15, (.athrow, 1)), (16, (.iload_n 0, 1)), (17, (.ireturn, 1))] : List (Nat × (Instr × Nat))), decode cJ3_checkIndex_8e157 q.1 = .ok q.2 := by decide +kernel
theorem dJ3_checkIndex_8e157_0 : decode cJ3_checkIndex_8e157 0 = .ok (.iload_n 0, 1) := dAJ3_checkIndex_8e157 (0, (.iload_n 0, 1)) (List.mem_of_getElem? (i := 0) rfl)
theorem dJ3_checkIndex_8e157_1 : decode cJ3_checkIndex_8e157 1 = .ok (.ifCond .lt 8, 3) := dAJ3_checkIndex_8e157 (1, (.ifCond .lt 8, 3)) (List.mem_of_getElem? (i := 1) rfl)
theorem dJ3_checkIndex_8e157_4 : decode cJ3_checkIndex_8e157 4 = .ok (.iload_n 0, 1) := dAJ3_checkIndex_8e157 (4, (.iload_n 0, 1)) (List.mem_of_getElem? (i := 2) rfl)
theorem dJ3_checkIndex_8e157_5 : decode cJ3_checkIndex_8e157 5 = .ok (.iload_n 1, 1) := dAJ3_checkIndex_8e157 (5, (.iload_n 1, 1)) (List.mem_of_getElem? (i := 3) rfl)
theorem dJ3_checkIndex_8e157_6 : decode cJ3_checkIndex_8e157 6 = .ok (.if_icmp .lt 10, 3) := dAJ3_checkIndex_8e157 (6, (.if_icmp .lt 10, 3)) (List.mem_of_getElem? (i := 4) rfl)
theorem dJ3_checkIndex_8e157_9 : decode cJ3_checkIndex_8e157 9 = .ok (.aload_n 2, 1) := dAJ3_checkIndex_8e157 (9, (.aload_n 2, 1)) (List.mem_of_getElem? (i := 5) rfl)
theorem dJ3_checkIndex_8e157_10 : decode cJ3_checkIndex_8e157 10 = .ok (.iload_n 0, 1) := dAJ3_checkIndex_8e157 (10, (.iload_n 0, 1)) (List.mem_of_getElem? (i := 6) rfl)
theorem dJ3_checkIndex_8e157_11 : decode cJ3_checkIndex_8e157 11 = .ok (.iload_n 1, 1) := dAJ3_checkIndex_8e157 (11, (.iload_n 1, 1)) (List.mem_of_getElem? (i := 7) rfl)
theorem dJ3_checkIndex_8e157_12 : decode cJ3_checkIndex_8e157 12 = .ok (.invokestatic 95, 3) := dAJ3_checkIndex_8e157 (12, (.invokestatic 95, 3)) (List.mem_of_getElem? (i := 8) rfl)
theorem dJ3_checkIndex_8e157_15 : decode cJ3_checkIndex_8e157 15 = .ok (.athrow, 1) := dAJ3_checkIndex_8e157 (15, (.athrow, 1)) (List.mem_of_getElem? (i := 9) rfl)
theorem dJ3_checkIndex_8e157_16 : decode cJ3_checkIndex_8e157 16 = .ok (.iload_n 0, 1) := dAJ3_checkIndex_8e157 (16, (.iload_n 0, 1)) (List.mem_of_getElem? (i := 10) rfl)
theorem dJ3_checkIndex_8e157_17 : decode cJ3_checkIndex_8e157 17 = .ok (.ireturn, 1) := dAJ3_checkIndex_8e157 (17, (.ireturn, 1)) (List.mem_of_getElem? (i := 11) rfl)
theorem dAJ0_checkIndex_df160 : ∀ q ∈ ([(0, (.iload_n 0, 1)), (1, (.iload_n 1, 1)), (2, (.getstatic 1053, 3)), (5, (.invokestatic 1059, 3)), (8, (.pop, 1)), (9, (.return_, 1))] : List (Nat × (Instr × Nat))), decode cJ0_checkIndex_df160 q.1 = .ok q.2 := by decide +kernel
theorem dJ0_checkIndex_df160_0 : decode cJ0_checkIndex_df160 0 = .ok (.iload_n 0, 1) := dAJ0_checkIndex_df160 (0, (.iload_n 0, 1)) (List.mem_of_getElem? (i := 0) rfl)
theorem dJ0_checkIndex_df160_1 : decode cJ0_checkIndex_df160 1 = .ok (.iload_n 1, 1) := dAJ0_checkIndex_df160 (1, (.iload_n 1, 1)) (List.mem_of_getElem? (i := 1) rfl)
theorem dJ0_checkIndex_df160_2 : decode cJ0_checkIndex_df160 2 = .ok (.getstatic 1053, 3) := dAJ0_checkIndex_df160 (2, (.getstatic 1053, 3)) (List.mem_of_getElem? (i := 2) rfl)
theorem dJ0_checkIndex_df160_5 : decode cJ0_checkIndex_df160 5 = .ok (.invokestatic 1059, 3) := dAJ0_checkIndex_df160 (5, (.invokestatic 1059, 3)) (List.mem_of_getElem? (i := 3) rfl)
theorem dJ0_checkIndex_df160_8 : decode cJ0_checkIndex_df160 8 = .ok (.pop, 1) := dAJ0_checkIndex_df160 (8, (.pop, 1)) (List.mem_of_getElem? (i := 4) rfl)
theorem dJ0_checkIndex_df160_9 : decode cJ0_checkIndex_df160 9 = .ok (.return_, 1) := dAJ0_checkIndex_df160 (9, (.return_, 1)) (List.mem_of_getElem? (i := 5) rfl)
set_option maxRecDepth 20000 in
theorem ggJ0_checkIndex_df160_J3_checkIndex_8e157 : GoodIn wsJ0_checkIndex_df160 wsJ3_checkIndex_8e157 := goodIn_r _ [5] (by decide +kernel) (by decide +kernel)
set_option maxRecDepth 20000 in
theorem gJ0_checkIndex_df160_J3_checkIndex_8e157 : GoodIn wsJ0_checkIndex_df160 (va_wsS RJ0 1059 yJ3_checkIndex_8e157 wsJ3_checkIndex_8e157) := goodIn_app (goodIn_of _ (by decide +kernel)) ggJ0_checkIndex_df160_J3_checkIndex_8e157
theorem dAJ1_charAt_3b067 : ∀ q ∈ ([(0, (.iload_n 1, 1)), (1, (.aload_n 0, 1)), (2, (.arraylength, 1)), (3, (.invokestatic 9, 3)), (6, (.aload_n 0, 1)), (7, (.iload_n 1, 1)), (8, (.baload, 1)), (9, (.sipush 255, 3)), (12, (.iand, 1)), (13, (.i2c, 1)), (14, (.ireturn, 1))] : List (Nat × (Instr × Nat))), decode cJ1_charAt_3b067 q.1 = .ok q.2 := by decide +kernel
theorem dJ1_charAt_3b067_0 : decode cJ1_charAt_3b067 0 = .ok (.iload_n 1, 1) := dAJ1_charAt_3b067 (0, (.iload_n 1, 1)) (List.mem_of_getElem? (i := 0) rfl)
theorem dJ1_charAt_3b067_1 : decode cJ1_charAt_3b067 1 = .ok (.aload_n 0, 1) := dAJ1_charAt_3b067 (1, (.aload_n 0, 1)) (List.mem_of_getElem? (i := 1) rfl)
theorem dJ1_charAt_3b067_2 : decode cJ1_charAt_3b067 2 = .ok (.arraylength, 1) := dAJ1_charAt_3b067 (2, (.arraylength, 1)) (List.mem_of_getElem? (i := 2) rfl)
theorem dJ1_charAt_3b067_3 : decode cJ1_charAt_3b067 3 = .ok (.invokestatic 9, 3) := dAJ1_charAt_3b067 (3, (.invokestatic 9, 3)) (List.mem_of_getElem? (i := 3) rfl)
theorem dJ1_charAt_3b067_6 : decode cJ1_charAt_3b067 6 = .ok (.aload_n 0, 1) := dAJ1_charAt_3b067 (6, (.aload_n 0, 1)) (List.mem_of_getElem? (i := 4) rfl)
theorem dJ1_charAt_3b067_7 : decode cJ1_charAt_3b067 7 = .ok (.iload_n 1, 1) := dAJ1_charAt_3b067 (7, (.iload_n 1, 1)) (List.mem_of_getElem? (i := 5) rfl)
theorem dJ1_charAt_3b067_8 : decode cJ1_charAt_3b067 8 = .ok (.baload, 1) := dAJ1_charAt_3b067 (8, (.baload, 1)) (List.mem_of_getElem? (i := 6) rfl)
theorem dJ1_charAt_3b067_9 : decode cJ1_charAt_3b067 9 = .ok (.sipush 255, 3) := dAJ1_charAt_3b067 (9, (.sipush 255, 3)) (List.mem_of_getElem? (i := 7) rfl)
theorem dJ1_charAt_3b067_12 : decode cJ1_charAt_3b067 12 = .ok (.iand, 1) := dAJ1_charAt_3b067 (12, (.iand, 1)) (List.mem_of_getElem? (i := 8) rfl)
theorem dJ1_charAt_3b067_13 : decode cJ1_charAt_3b067 13 = .ok (.i2c, 1) := dAJ1_charAt_3b067 (13, (.i2c, 1)) (List.mem_of_getElem? (i := 9) rfl)
theorem dJ1_charAt_3b067_14 : decode cJ1_charAt_3b067 14 = .ok (.ireturn, 1) := dAJ1_charAt_3b067 (14, (.ireturn, 1)) (List.mem_of_getElem? (i := 10) rfl)
set_option maxRecDepth 20000 in
theorem ggJ1_charAt_3b067_J0_checkIndex_df160 : GoodIn wsJ1_charAt_3b067 wsJ0_checkIndex_df160 := goodIn_r _ [4, 5, 6, 7, 8, 9] (by decide +kernel) (by decide +kernel)
set_option maxRecDepth 20000 in
theorem gJ1_charAt_3b067_J0_checkIndex_df160 : GoodIn wsJ1_charAt_3b067 (va_wsS RJ1 9 yJ0_checkIndex_df160 wsJ0_checkIndex_df160) := goodIn_app (goodIn_of _ (by decide +kernel)) ggJ1_charAt_3b067_J0_checkIndex_df160
theorem dAJ0_charAt_5068e : ∀ q ∈ ([(0, (.aload_n 0, 1)), (1, (.invokevirtual 492, 3)), (4, (.ifCond .eq 12, 3)), (7, (.aload_n 0, 1)), (8, (.getfield 9, 3)), (11, (.iload_n 1, 1)), (12, (.invokestatic 495, 3)), (15, (.ireturn, 1)), (16, (.aload_n 0, 1)), (17, (.getfield 9, 3)), (20, (.iload_n 1, 1)), (21, (.invokestatic 498, 3)), (24, (.ireturn, 1))] : List (Nat × (Instr × Nat))), decode cJ0_charAt_5068e q.1 = .ok q.2 := by decide +kernel
theorem dJ0_charAt_5068e_0 : decode cJ0_charAt_5068e 0 = .ok (.aload_n 0, 1) := dAJ0_charAt_5068e (0, (.aload_n 0, 1)) (List.mem_of_getElem? (i := 0) rfl)
theorem dJ0_charAt_5068e_1 : decode cJ0_charAt_5068e 1 = .ok (.invokevirtual 492, 3) := dAJ0_charAt_5068e (1, (.invokevirtual 492, 3)) (List.mem_of_getElem? (i := 1) rfl)
theorem dJ0_charAt_5068e_4 : decode cJ0_charAt_5068e 4 = .ok (.ifCond .eq 12, 3) := dAJ0_charAt_5068e (4, (.ifCond .eq 12, 3)) (List.mem_of_getElem? (i := 2) rfl)
theorem dJ0_charAt_5068e_7 : decode cJ0_charAt_5068e 7 = .ok (.aload_n 0, 1) := dAJ0_charAt_5068e (7, (.aload_n 0, 1)) (List.mem_of_getElem? (i := 3) rfl)
theorem dJ0_charAt_5068e_8 : decode cJ0_charAt_5068e 8 = .ok (.getfield 9, 3) := dAJ0_charAt_5068e (8, (.getfield 9, 3)) (List.mem_of_getElem? (i := 4) rfl)
theorem dJ0_charAt_5068e_11 : decode cJ0_charAt_5068e 11 = .ok (.iload_n 1, 1) := dAJ0_charAt_5068e (11, (.iload_n 1, 1)) (List.mem_of_getElem? (i := 5) rfl)
theorem dJ0_charAt_5068e_12 : decode cJ0_charAt_5068e 12 = .ok (.invokestatic 495, 3) := dAJ0_charAt_5068e (12, (.invokestatic 495, 3)) (List.mem_of_getElem? (i := 6) rfl)
theorem dJ0_charAt_5068e_15 : decode cJ0_charAt_5068e 15 = .ok (.ireturn, 1) := dAJ0_charAt_5068e (15, (.ireturn, 1)) (List.mem_of_getElem? (i := 7) rfl)
theorem dJ0_charAt_5068e_16 : decode cJ0_charAt_5068e 16 = .ok (.aload_n 0, 1) := dAJ0_charAt_5068e (16, (.aload_n 0, 1)) (List.mem_of_getElem? (i := 8) rfl)
theorem dJ0_charAt_5068e_17 : decode cJ0_charAt_5068e 17 = .ok (.getfield 9, 3) := dAJ0_charAt_5068e (17, (.getfield 9, 3)) (List.mem_of_getElem? (i := 9) rfl)
theorem dJ0_charAt_5068e_20 : decode cJ0_charAt_5068e 20 = .ok (.iload_n 1, 1) := dAJ0_charAt_5068e (20, (.iload_n 1, 1)) (List.mem_of_getElem? (i := 10) rfl)
theorem dJ0_charAt_5068e_21 : decode cJ0_charAt_5068e 21 = .ok (.invokestatic 498, 3) := dAJ0_charAt_5068e (21, (.invokestatic 498, 3)) (List.mem_of_getElem? (i := 11) rfl)
theorem dJ0_charAt_5068e_24 : decode cJ0_charAt_5068e 24 = .ok (.ireturn, 1) := dAJ0_charAt_5068e (24, (.ireturn, 1)) (List.mem_of_getElem? (i := 12) rfl)
set_option maxRecDepth 20000 in
theorem ggJ0_charAt_5068e_J0_isLatin1_aae02 : GoodIn wsJ0_charAt_5068e wsJ0_isLatin1_aae02 := goodIn_r _ [6, 7, 8] (by decide +kernel) (by decide +kernel)
set_option maxRecDepth 20000 in
theorem gJ0_charAt_5068e_J0_isLatin1_aae02 : GoodIn wsJ0_charAt_5068e (wsV RJ0 492 RJ0 yJ0_isLatin1_aae02 wsJ0_isLatin1_aae02) := goodIn_app (goodIn_of _ (by decide +kernel)) ggJ0_charAt_5068e_J0_isLatin1_aae02
set_option maxRecDepth 20000 in
theorem ggJ0_charAt_5068e_J1_charAt_3b067 : GoodIn wsJ0_charAt_5068e wsJ1_charAt_3b067 := goodIn_r _ [12, 13, 14, 5, 15, 16, 17, 18, 19, 20] (by decide +kernel) (by decide +kernel)
set_option maxRecDepth 20000 in
theorem gJ0_charAt_5068e_J1_charAt_3b067 : GoodIn wsJ0_charAt_5068e (va_wsS RJ0 495 yJ1_charAt_3b067 wsJ1_charAt_3b067) := goodIn_app (goodIn_of _ (by decide +kernel)) ggJ0_charAt_5068e_J1_charAt_3b067
set_option maxRecDepth 20000 in
theorem ggJ0_charAt_5068e_J2_charAt_3b067 : GoodIn wsJ0_charAt_5068e wsJ2_charAt_3b067 := goodIn_r _ [24, 25, 26, 23, 27, 28, 29, 30, 31, 14, 5, 15, 16, 17, 18, 19, 20, 32, 33, 34, 35, 36, 37] (by decide +kernel) (by decide +kernel)
set_option maxRecDepth 20000 in
theorem gJ0_charAt_5068e_J2_charAt_3b067 : GoodIn wsJ0_charAt_5068e (va_wsS RJ0 498 yJ2_charAt_3b067 wsJ2_charAt_3b067) := goodIn_app (goodIn_of _ (by decide +kernel)) ggJ0_charAt_5068e_J2_charAt_3b067
set_option maxHeartbeats 4000000 in
set_option maxRecDepth 100000 in
theorem mJ0_coder_7d493 (l : Launch) (g : GG) (i : Nat) (hi : i < 22) : MI l g yJ0_coder_7d493 wsJ0_coder_7d493 ({ frames := 0, cells := 0, slots := 0, locals := 0 } : Room) [.ref (gK g i)] [] 0 [] := by
  refine MI.of (cc := cJ0_coder_7d493) (maxL := 1) (rt := .byte) (own := RJ0) rfl rfl (by decide) (Nat.le_of_ble_eq_true rfl) ?_
  intro p e s m args below meth c A C0 hP hD hS ls hl
  obtain ⟨hx, hb, hml, hown, hts, hr, hlk, hK, hA, hSW⟩ := id C0
  have hl : lv_has ls 1 [(0, .ref (gK g i))] := hl
  refine va_gets hx hb hSW.2.1 hS hown (hts (.fieldLink RJ0 38 "java/lang/String" "COMPACT_STRINGS" "Z") (by decide +kernel)) (fun _ h9 => h9) dJ0_coder_7d493_0 ?_
  refine lv_if_eq (tgt := 13) hx hb dJ0_coder_7d493_3 (by decide) (fun c_1 => ?_) (fun c_1 => ?_)
  · exact absurd c_1 (by decide)
  · refine lv_aload_n hx hb dJ0_coder_7d493_6 rfl (lv_at hl 0 rfl) ?_
    refine vk_getf hx hb (hSW.1.1 i hi).2.1 hS hown (hts (.fieldLink RJ0 15 "java/lang/String" "coder" "B") (by decide +kernel)) (fun _ h9 => h9) dJ0_coder_7d493_7 ?_
    refine lv_goto (tgt := 14) hx hb dJ0_coder_7d493_10 (by decide) ?_
    exact ret_n C0 hP hD hS [] rfl rfl rfl dJ0_coder_7d493_14 rfl rfl

set_option maxHeartbeats 4000000 in
set_option maxRecDepth 100000 in
theorem mJ0_isLatin1_aae02 (l : Launch) (g : GG) (i : Nat) (hi : i < 22) : MI l g yJ0_isLatin1_aae02 wsJ0_isLatin1_aae02 ({ frames := 0, cells := 0, slots := 0, locals := 0 } : Room) [.ref (gK g i)] [] 1 [] := by
  refine MI.of (cc := cJ0_isLatin1_aae02) (maxL := 1) (rt := .boolean) (own := RJ0) rfl rfl (by decide) (Nat.le_of_ble_eq_true rfl) ?_
  intro p e s m args below meth c A C0 hP hD hS ls hl
  obtain ⟨hx, hb, hml, hown, hts, hr, hlk, hK, hA, hSW⟩ := id C0
  have hl : lv_has ls 1 [(0, .ref (gK g i))] := hl
  refine va_gets hx hb hSW.2.1 hS hown (hts (.fieldLink RJ0 38 "java/lang/String" "COMPACT_STRINGS" "Z") (by decide +kernel)) (fun _ h9 => h9) dJ0_isLatin1_aae02_0 ?_
  refine lv_if_eq (tgt := 17) hx hb dJ0_isLatin1_aae02_3 (by decide) (fun c_1 => ?_) (fun c_1 => ?_)
  · exact absurd c_1 (by decide)
  · refine lv_aload_n hx hb dJ0_isLatin1_aae02_6 rfl (lv_at hl 0 rfl) ?_
    refine vk_getf hx hb (hSW.1.1 i hi).2.1 hS hown (hts (.fieldLink RJ0 15 "java/lang/String" "coder" "B") (by decide +kernel)) (fun _ h9 => h9) dJ0_isLatin1_aae02_7 ?_
    refine lv_if_ne (tgt := 17) hx hb dJ0_isLatin1_aae02_10 (by decide) (fun c_2 => ?_) (fun c_2 => ?_)
    · exact absurd rfl c_2
    · refine lv_iconst (v := (1 : Int32)) hx hb dJ0_isLatin1_aae02_13 (by decide) ?_
      refine lv_goto (tgt := 18) hx hb dJ0_isLatin1_aae02_14 (by decide) ?_
      exact ret_z C0 hP hD hS [] rfl rfl rfl dJ0_isLatin1_aae02_18 rfl rfl

set_option maxHeartbeats 4000000 in
set_option maxRecDepth 100000 in
theorem mJ0_length_8abf5 (l : Launch) (g : GG) (i : Nat) (hi : i < 22) : MI l g yJ0_length_8abf5 wsJ0_length_8abf5 ({ frames := 1, cells := 0, slots := 0, locals := 20 } : Room) [.ref (gK g i)] [] (nI (SLn.getD i 0)) [] := by
  refine MI.of (cc := cJ0_length_8abf5) (maxL := 1) (rt := .int) (own := RJ0) rfl rfl (by decide) (Nat.le_of_ble_eq_true rfl) ?_
  intro p e s m args below meth c A C0 hP hD hS ls hl
  obtain ⟨hx, hb, hml, hown, hts, hr, hlk, hK, hA, hSW⟩ := id C0
  have hl : lv_has ls 1 [(0, .ref (gK g i))] := hl
  refine lv_aload_n hx hb dJ0_length_8abf5_0 rfl (lv_at hl 0 rfl) ?_
  refine vk_getf hx hb (hSW.1.1 i hi).2.2.1 hS hown (hts (.fieldLink RJ0 9 "java/lang/String" "value" "[B") (by decide +kernel)) (fun _ h9 => h9) dJ0_length_8abf5_1 ?_
  refine va_tlen (v := nI (SLn.getD i 0)) hx hb (hSW.1.1 i hi).2.2.2 hS rfl dJ0_length_8abf5_4 ?_
  refine lv_aload_n hx hb dJ0_length_8abf5_5 rfl (lv_at hl 0 rfl) ?_
  refine call_str (As := []) (rest := [.int (nI (SLn.getD i 0))]) hi C0 (mJ0_coder_7d493 l g i hi) (cwV 0 hts gJ0_length_8abf5_J0_coder_7d493 rfl rfl rfl (by decide +kernel) ⟨Nat.le_of_ble_eq_true rfl, Nat.le_of_ble_eq_true rfl⟩) hP hD hS hl.1 rfl rfl (Nat.le_of_ble_eq_true rfl) ⟨Nat.zero_le _, Nat.zero_le _⟩ dJ0_length_8abf5_6 ?_
  intro H locs hP hD hS
  refine lv_ishr hx hb dJ0_length_8abf5_9 ?_
  exact ret_i C0 hP hD hS [] rfl rfl rfl dJ0_length_8abf5_10 (sb_shr0 _)

set_option maxHeartbeats 4000000 in
set_option maxRecDepth 100000 in
theorem mJ3_checkIndex_8e157_n (l : Launch) (g : GG) (x y : Int32) (h1 : ¬ x < 0) (h2 : x < y) : MI l g yJ3_checkIndex_8e157 wsJ3_checkIndex_8e157 ({ frames := 0, cells := 0, slots := 0, locals := 0 } : Room) [.int x, .int y, .null] [] x [] := by
  refine MI.of (cc := cJ3_checkIndex_8e157) (maxL := 3) (rt := .int) (own := RJ3) rfl rfl (by decide) (Nat.le_of_ble_eq_true rfl) ?_
  intro p e s m args below meth c A C0 hP hD hS ls hl
  obtain ⟨hx, hb, hml, hown, hts, hr, hlk, hK, hA, hSW⟩ := id C0
  have hl : lv_has ls 3 [(0, .int x), (1, .int y), (2, .null)] := hl
  refine lv_iload_n hx hb dJ3_checkIndex_8e157_0 rfl (lv_at hl 0 rfl) ?_
  refine lv_if_lt (tgt := 9) hx hb dJ3_checkIndex_8e157_1 (by decide) (fun c_1 => absurd c_1 h1) (fun c_1 => ?_)
  refine lv_iload_n hx hb dJ3_checkIndex_8e157_4 rfl (lv_at hl 0 rfl) ?_
  refine lv_iload_n hx hb dJ3_checkIndex_8e157_5 rfl (lv_at hl 1 rfl) ?_
  refine lv_icmp_lt (tgt := 16) hx hb dJ3_checkIndex_8e157_6 (by decide) (fun c_2 => ?_) (fun c_2 => absurd h2 c_2)
  refine lv_iload_n hx hb dJ3_checkIndex_8e157_16 rfl (lv_at hl 0 rfl) ?_
  exact ret_i C0 hP hD hS [] rfl rfl rfl dJ3_checkIndex_8e157_17 rfl

set_option maxHeartbeats 4000000 in
set_option maxRecDepth 100000 in
theorem mJ3_checkIndex_8e157_r (l : Launch) (g : GG) (t : Nat) (x y : Int32) (h1 : ¬ x < 0) (h2 : x < y) : MI l g yJ3_checkIndex_8e157 wsJ3_checkIndex_8e157 ({ frames := 0, cells := 0, slots := 0, locals := 0 } : Room) [.int x, .int y, .ref t] [] x [] := by
  refine MI.of (cc := cJ3_checkIndex_8e157) (maxL := 3) (rt := .int) (own := RJ3) rfl rfl (by decide) (Nat.le_of_ble_eq_true rfl) ?_
  intro p e s m args below meth c A C0 hP hD hS ls hl
  obtain ⟨hx, hb, hml, hown, hts, hr, hlk, hK, hA, hSW⟩ := id C0
  have hl : lv_has ls 3 [(0, .int x), (1, .int y), (2, .ref t)] := hl
  refine lv_iload_n hx hb dJ3_checkIndex_8e157_0 rfl (lv_at hl 0 rfl) ?_
  refine lv_if_lt (tgt := 9) hx hb dJ3_checkIndex_8e157_1 (by decide) (fun c_1 => absurd c_1 h1) (fun c_1 => ?_)
  refine lv_iload_n hx hb dJ3_checkIndex_8e157_4 rfl (lv_at hl 0 rfl) ?_
  refine lv_iload_n hx hb dJ3_checkIndex_8e157_5 rfl (lv_at hl 1 rfl) ?_
  refine lv_icmp_lt (tgt := 16) hx hb dJ3_checkIndex_8e157_6 (by decide) (fun c_2 => ?_) (fun c_2 => absurd h2 c_2)
  refine lv_iload_n hx hb dJ3_checkIndex_8e157_16 rfl (lv_at hl 0 rfl) ?_
  exact ret_i C0 hP hD hS [] rfl rfl rfl dJ3_checkIndex_8e157_17 rfl

set_option maxHeartbeats 4000000 in
set_option maxRecDepth 100000 in
theorem mJ0_checkIndex_df160 (l : Launch) (g : GG) (x y : Int32) (h1 : ¬ x < 0) (h2 : x < y) : MV l g yJ0_checkIndex_df160 wsJ0_checkIndex_df160 ({ frames := 1, cells := 0, slots := 0, locals := 22 } : Room) [.int x, .int y] [] [] := by
  refine MV.of (cc := cJ0_checkIndex_df160) (maxL := 2) (own := RJ0) rfl rfl (by decide) (Nat.le_of_ble_eq_true rfl) ?_
  intro p e s m args below meth c A C0 hP hD hS ls hl
  obtain ⟨hx, hb, hml, hown, hts, hr, hlk, hK, hA, hSW⟩ := id C0
  have hl : lv_has ls 2 [(0, .int x), (1, .int y)] := hl
  refine lv_iload_n hx hb dJ0_checkIndex_df160_0 rfl (lv_at hl 0 rfl) ?_
  refine lv_iload_n hx hb dJ0_checkIndex_df160_1 rfl (lv_at hl 1 rfl) ?_
  rcases hSW.2.2 with hz | ⟨t, hz⟩
  · refine va_gets hx hb hz hS hown (hts (.fieldLink RJ0 1053 "jdk/internal/util/Preconditions" "SIOOBE_FORMATTER" "Ljava/util/function/BiFunction;") (by decide +kernel)) (fun _ h9 => h9) dJ0_checkIndex_df160_2 ?_
    refine call_s0 (As := [.int x, .int y, .null]) (rest := []) C0 (mJ3_checkIndex_8e157_n l g x y h1 h2) (va_cwS 3 hts gJ0_checkIndex_df160_J3_checkIndex_8e157 rfl rfl rfl (by decide +kernel) ⟨Nat.le_of_ble_eq_true rfl, Nat.le_of_ble_eq_true rfl⟩) hP hD hS hl.1 rfl rfl (Nat.le_of_ble_eq_true rfl) ⟨Nat.zero_le _, Nat.zero_le _⟩ dJ0_checkIndex_df160_5 ?_
    intro H locs hP hD hS
    refine lv_pop hx hb dJ0_checkIndex_df160_8 rfl ?_
    exact ret_v C0 hP hD hS [] rfl rfl rfl dJ0_checkIndex_df160_9
  · refine va_gets hx hb hz hS hown (hts (.fieldLink RJ0 1053 "jdk/internal/util/Preconditions" "SIOOBE_FORMATTER" "Ljava/util/function/BiFunction;") (by decide +kernel)) (fun _ h9 => h9) dJ0_checkIndex_df160_2 ?_
    refine call_s0 (As := [.int x, .int y, .ref t]) (rest := []) C0 (mJ3_checkIndex_8e157_r l g t x y h1 h2) (va_cwS 3 hts gJ0_checkIndex_df160_J3_checkIndex_8e157 rfl rfl rfl (by decide +kernel) ⟨Nat.le_of_ble_eq_true rfl, Nat.le_of_ble_eq_true rfl⟩) hP hD hS hl.1 rfl rfl (Nat.le_of_ble_eq_true rfl) ⟨Nat.zero_le _, Nat.zero_le _⟩ dJ0_checkIndex_df160_5 ?_
    intro H locs hP hD hS
    refine lv_pop hx hb dJ0_checkIndex_df160_8 rfl ?_
    exact ret_v C0 hP hD hS [] rfl rfl rfl dJ0_checkIndex_df160_9

theorem sch_nar (i k : Nat) : (((SBy.getD i []).getD k 0 &&& 255).toUInt32 % 65536).toInt32 = sch i k := sc_c2 _
theorem sch_narc (i k : Nat) : narrow .char (.int (sch i k)) = .int (sch i k) := sc_nar _
theorem SLn_lt : ∀ i, i < 22 → SLn.getD i 0 < 100 := by decide +kernel
theorem sl_lt {i : Nat} {x : Int32} (hi : i < 22) (h : ¬ (x < 0 ∨ SLn.getD i 0 ≤ x.toNatClampNeg)) : x < nI (SLn.getD i 0) := by
  obtain ⟨j, hj, rfl⟩ := vp_in_of (x := x) (n := SLn.getD i 0) h (by have := SLn_lt i hi; omega)
  exact nI_lt hj (by have := SLn_lt i hi; omega)

set_option maxHeartbeats 4000000 in
set_option maxRecDepth 100000 in
theorem mJ1_charAt_3b067 (l : Launch) (g : GG) (i : Nat) (hi : i < 22) (x : Int32) (h : ¬ (x < 0 ∨ SLn.getD i 0 ≤ x.toNatClampNeg)) : MI l g yJ1_charAt_3b067 wsJ1_charAt_3b067 ({ frames := 2, cells := 0, slots := 0, locals := 43 } : Room) [.ref (gV g i), .int x] [] (sch i x.toNatClampNeg) [] := by
  refine MI.of (cc := cJ1_charAt_3b067) (maxL := 2) (rt := .char) (own := RJ1) rfl rfl (by decide) (Nat.le_of_ble_eq_true rfl) ?_
  intro p e s m args below meth c A C0 hP hD hS ls hl
  obtain ⟨hx, hb, hml, hown, hts, hr, hlk, hK, hA, hSW⟩ := id C0
  have hl : lv_has ls 2 [(0, .ref (gV g i)), (1, .int x)] := hl
  refine lv_iload_n hx hb dJ1_charAt_3b067_0 rfl (lv_at hl 1 rfl) ?_
  refine lv_aload_n hx hb dJ1_charAt_3b067_1 rfl (lv_at hl 0 rfl) ?_
  refine va_tlen (v := nI (SLn.getD i 0)) hx hb (hSW.1.1 i hi).2.2.2 hS rfl dJ1_charAt_3b067_2 ?_
  refine call_s0v (As := [.int x, .int (nI (SLn.getD i 0))]) (rest := []) C0 (mJ0_checkIndex_df160 l g x _ (fun q => h (Or.inl q)) (sl_lt hi h)) (va_cwS 2 hts gJ1_charAt_3b067_J0_checkIndex_df160 rfl rfl rfl (by decide +kernel) ⟨Nat.le_of_ble_eq_true rfl, Nat.le_of_ble_eq_true rfl⟩) hP hD hS hl.1 rfl rfl (Nat.le_of_ble_eq_true rfl) ⟨Nat.zero_le _, Nat.zero_le _⟩ dJ1_charAt_3b067_3 ?_
  intro H locs hP hD hS
  refine lv_aload_n hx hb dJ1_charAt_3b067_6 rfl (lv_at hl 0 rfl) ?_
  refine lv_iload_n hx hb dJ1_charAt_3b067_7 rfl (lv_at hl 1 rfl) ?_
  refine va_tb (v := .int ((SBy.getD i []).getD x.toNatClampNeg 0)) hx hb (hSW.1.1 i hi).2.2.2 hS h rfl dJ1_charAt_3b067_8 ?_
  refine lv_sipush (v := (255 : Int32)) hx hb dJ1_charAt_3b067_9 (by decide) ?_
  refine lv_iand hx hb dJ1_charAt_3b067_12 ?_
  refine lv_i2c (v := sch i x.toNatClampNeg) hx hb dJ1_charAt_3b067_13 (sch_nar _ _) ?_
  exact ret_n C0 hP hD hS [] rfl rfl rfl dJ1_charAt_3b067_14 (sch_narc _ _) rfl

set_option maxHeartbeats 4000000 in
set_option maxRecDepth 100000 in
theorem mJ0_charAt_5068e (l : Launch) (g : GG) (i : Nat) (hi : i < 22) (x : Int32) (h : ¬ (x < 0 ∨ SLn.getD i 0 ≤ x.toNatClampNeg)) : MI l g yJ0_charAt_5068e wsJ0_charAt_5068e ({ frames := 3, cells := 0, slots := 0, locals := 64 } : Room) [.ref (gK g i), .int x] [] (sch i x.toNatClampNeg) [] := by
  refine MI.of (cc := cJ0_charAt_5068e) (maxL := 2) (rt := .char) (own := RJ0) rfl rfl (by decide) (Nat.le_of_ble_eq_true rfl) ?_
  intro p e s m args below meth c A C0 hP hD hS ls hl
  obtain ⟨hx, hb, hml, hown, hts, hr, hlk, hK, hA, hSW⟩ := id C0
  have hl : lv_has ls 2 [(0, .ref (gK g i)), (1, .int x)] := hl
  refine lv_aload_n hx hb dJ0_charAt_5068e_0 rfl (lv_at hl 0 rfl) ?_
  refine call_str (As := []) (rest := []) hi C0 (mJ0_isLatin1_aae02 l g i hi) (cwV 0 hts gJ0_charAt_5068e_J0_isLatin1_aae02 rfl rfl rfl (by decide +kernel) ⟨Nat.le_of_ble_eq_true rfl, Nat.le_of_ble_eq_true rfl⟩) hP hD hS hl.1 rfl rfl (Nat.le_of_ble_eq_true rfl) ⟨Nat.zero_le _, Nat.zero_le _⟩ dJ0_charAt_5068e_1 ?_
  intro H locs hP hD hS
  refine lv_if_eq (tgt := 16) hx hb dJ0_charAt_5068e_4 (by decide) (fun c_1 => absurd c_1 (by decide)) (fun c_1 => ?_)
  refine lv_aload_n hx hb dJ0_charAt_5068e_7 rfl (lv_at hl 0 rfl) ?_
  refine vk_getf hx hb (hSW.1.1 i hi).2.2.1 hS hown (hts (.fieldLink RJ0 9 "java/lang/String" "value" "[B") (by decide +kernel)) (fun _ h9 => h9) dJ0_charAt_5068e_8 ?_
  refine lv_iload_n hx hb dJ0_charAt_5068e_11 rfl (lv_at hl 1 rfl) ?_
  refine call_s0 (As := [.ref (gV g i), .int x]) (rest := []) C0 (mJ1_charAt_3b067 l g i hi x h) (va_cwS 2 hts gJ0_charAt_5068e_J1_charAt_3b067 rfl rfl rfl (by decide +kernel) ⟨Nat.le_of_ble_eq_true rfl, Nat.le_of_ble_eq_true rfl⟩) hP hD hS hl.1 rfl rfl (Nat.le_of_ble_eq_true rfl) ⟨Nat.zero_le _, Nat.zero_le _⟩ dJ0_charAt_5068e_12 ?_
  intro H locs hP hD hS
  exact ret_n C0 hP hD hS [] rfl rfl rfl dJ0_charAt_5068e_15 (sch_narc _ _) rfl

