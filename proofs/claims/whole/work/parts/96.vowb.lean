theorem dAX9_undrawn : ∀ q ∈ ([(0, (.aload_n 0, 1)), (1, (.iload_n 1, 1)), (2, (.iload_n 2, 1)), (3, (.invokevirtual 142, 3)), (6, (.ifCond .ne 5, 3)), (9, (.iconst (-1), 1)), (10, (.ireturn, 1)), (11, (.aload_n 0, 1)), (12, (.getfield 19, 3)), (15, (.iload_n 1, 1)), (16, (.iload_n 2, 1)), (17, (.invokevirtual 146, 3)), (20, (.istore_n 3, 1)), (21, (.iload_n 3, 1)), (22, (.ifCond .ge 9, 3)), (25, (.aload_n 0, 1)), (26, (.iconst 5, 1)), (27, (.invokevirtual 98, 3)), (30, (.ireturn, 1)), (31, (.aload_n 0, 1)), (32, (.getfield 19, 3)), (35, (.getfield 150, 3)), (38, (.iload_n 3, 1)), (39, (.iaload, 1)), (40, (.istore 4, 2)), (42, (.aload_n 0, 1)), (43, (.getfield 19, 3)), (46, (.getfield 150, 3)), (49, (.iload_n 3, 1)), (50, (.iconst 0, 1)), (51, (.iastore, 1)), (52, (.aload_n 0, 1)), (53, (.invokevirtual 193, 3)), (56, (.istore 5, 2)), (58, (.aload_n 0, 1)), (59, (.getfield 19, 3)), (62, (.getfield 150, 3)), (65, (.iload_n 3, 1)), (66, (.iload 4, 2)), (68, (.iastore, 1)), (69, (.iload 5, 2)), (71, (.invokestatic 197, 3)), (74, (.ireturn, 1))] : List (Nat × (Instr × Nat))), decode cX9_undrawn q.1 = .ok q.2 := by decide +kernel
theorem dX9_undrawn_0 : decode cX9_undrawn 0 = .ok (.aload_n 0, 1) := dAX9_undrawn (0, (.aload_n 0, 1)) (List.mem_of_getElem? (i := 0) rfl)
theorem dX9_undrawn_1 : decode cX9_undrawn 1 = .ok (.iload_n 1, 1) := dAX9_undrawn (1, (.iload_n 1, 1)) (List.mem_of_getElem? (i := 1) rfl)
theorem dX9_undrawn_2 : decode cX9_undrawn 2 = .ok (.iload_n 2, 1) := dAX9_undrawn (2, (.iload_n 2, 1)) (List.mem_of_getElem? (i := 2) rfl)
theorem dX9_undrawn_3 : decode cX9_undrawn 3 = .ok (.invokevirtual 142, 3) := dAX9_undrawn (3, (.invokevirtual 142, 3)) (List.mem_of_getElem? (i := 3) rfl)
theorem dX9_undrawn_6 : decode cX9_undrawn 6 = .ok (.ifCond .ne 5, 3) := dAX9_undrawn (6, (.ifCond .ne 5, 3)) (List.mem_of_getElem? (i := 4) rfl)
theorem dX9_undrawn_9 : decode cX9_undrawn 9 = .ok (.iconst (-1), 1) := dAX9_undrawn (9, (.iconst (-1), 1)) (List.mem_of_getElem? (i := 5) rfl)
theorem dX9_undrawn_10 : decode cX9_undrawn 10 = .ok (.ireturn, 1) := dAX9_undrawn (10, (.ireturn, 1)) (List.mem_of_getElem? (i := 6) rfl)
theorem dX9_undrawn_11 : decode cX9_undrawn 11 = .ok (.aload_n 0, 1) := dAX9_undrawn (11, (.aload_n 0, 1)) (List.mem_of_getElem? (i := 7) rfl)
theorem dX9_undrawn_12 : decode cX9_undrawn 12 = .ok (.getfield 19, 3) := dAX9_undrawn (12, (.getfield 19, 3)) (List.mem_of_getElem? (i := 8) rfl)
theorem dX9_undrawn_15 : decode cX9_undrawn 15 = .ok (.iload_n 1, 1) := dAX9_undrawn (15, (.iload_n 1, 1)) (List.mem_of_getElem? (i := 9) rfl)
theorem dX9_undrawn_16 : decode cX9_undrawn 16 = .ok (.iload_n 2, 1) := dAX9_undrawn (16, (.iload_n 2, 1)) (List.mem_of_getElem? (i := 10) rfl)
theorem dX9_undrawn_17 : decode cX9_undrawn 17 = .ok (.invokevirtual 146, 3) := dAX9_undrawn (17, (.invokevirtual 146, 3)) (List.mem_of_getElem? (i := 11) rfl)
theorem dX9_undrawn_20 : decode cX9_undrawn 20 = .ok (.istore_n 3, 1) := dAX9_undrawn (20, (.istore_n 3, 1)) (List.mem_of_getElem? (i := 12) rfl)
theorem dX9_undrawn_21 : decode cX9_undrawn 21 = .ok (.iload_n 3, 1) := dAX9_undrawn (21, (.iload_n 3, 1)) (List.mem_of_getElem? (i := 13) rfl)
theorem dX9_undrawn_22 : decode cX9_undrawn 22 = .ok (.ifCond .ge 9, 3) := dAX9_undrawn (22, (.ifCond .ge 9, 3)) (List.mem_of_getElem? (i := 14) rfl)
theorem dX9_undrawn_25 : decode cX9_undrawn 25 = .ok (.aload_n 0, 1) := dAX9_undrawn (25, (.aload_n 0, 1)) (List.mem_of_getElem? (i := 15) rfl)
theorem dX9_undrawn_26 : decode cX9_undrawn 26 = .ok (.iconst 5, 1) := dAX9_undrawn (26, (.iconst 5, 1)) (List.mem_of_getElem? (i := 16) rfl)
theorem dX9_undrawn_27 : decode cX9_undrawn 27 = .ok (.invokevirtual 98, 3) := dAX9_undrawn (27, (.invokevirtual 98, 3)) (List.mem_of_getElem? (i := 17) rfl)
theorem dX9_undrawn_30 : decode cX9_undrawn 30 = .ok (.ireturn, 1) := dAX9_undrawn (30, (.ireturn, 1)) (List.mem_of_getElem? (i := 18) rfl)
theorem dX9_undrawn_31 : decode cX9_undrawn 31 = .ok (.aload_n 0, 1) := dAX9_undrawn (31, (.aload_n 0, 1)) (List.mem_of_getElem? (i := 19) rfl)
theorem dX9_undrawn_32 : decode cX9_undrawn 32 = .ok (.getfield 19, 3) := dAX9_undrawn (32, (.getfield 19, 3)) (List.mem_of_getElem? (i := 20) rfl)
theorem dX9_undrawn_35 : decode cX9_undrawn 35 = .ok (.getfield 150, 3) := dAX9_undrawn (35, (.getfield 150, 3)) (List.mem_of_getElem? (i := 21) rfl)
theorem dX9_undrawn_38 : decode cX9_undrawn 38 = .ok (.iload_n 3, 1) := dAX9_undrawn (38, (.iload_n 3, 1)) (List.mem_of_getElem? (i := 22) rfl)
theorem dX9_undrawn_39 : decode cX9_undrawn 39 = .ok (.iaload, 1) := dAX9_undrawn (39, (.iaload, 1)) (List.mem_of_getElem? (i := 23) rfl)
theorem dX9_undrawn_40 : decode cX9_undrawn 40 = .ok (.istore 4, 2) := dAX9_undrawn (40, (.istore 4, 2)) (List.mem_of_getElem? (i := 24) rfl)
theorem dX9_undrawn_42 : decode cX9_undrawn 42 = .ok (.aload_n 0, 1) := dAX9_undrawn (42, (.aload_n 0, 1)) (List.mem_of_getElem? (i := 25) rfl)
theorem dX9_undrawn_43 : decode cX9_undrawn 43 = .ok (.getfield 19, 3) := dAX9_undrawn (43, (.getfield 19, 3)) (List.mem_of_getElem? (i := 26) rfl)
theorem dX9_undrawn_46 : decode cX9_undrawn 46 = .ok (.getfield 150, 3) := dAX9_undrawn (46, (.getfield 150, 3)) (List.mem_of_getElem? (i := 27) rfl)
theorem dX9_undrawn_49 : decode cX9_undrawn 49 = .ok (.iload_n 3, 1) := dAX9_undrawn (49, (.iload_n 3, 1)) (List.mem_of_getElem? (i := 28) rfl)
theorem dX9_undrawn_50 : decode cX9_undrawn 50 = .ok (.iconst 0, 1) := dAX9_undrawn (50, (.iconst 0, 1)) (List.mem_of_getElem? (i := 29) rfl)
theorem dX9_undrawn_51 : decode cX9_undrawn 51 = .ok (.iastore, 1) := dAX9_undrawn (51, (.iastore, 1)) (List.mem_of_getElem? (i := 30) rfl)
theorem dX9_undrawn_52 : decode cX9_undrawn 52 = .ok (.aload_n 0, 1) := dAX9_undrawn (52, (.aload_n 0, 1)) (List.mem_of_getElem? (i := 31) rfl)
theorem dX9_undrawn_53 : decode cX9_undrawn 53 = .ok (.invokevirtual 193, 3) := dAX9_undrawn (53, (.invokevirtual 193, 3)) (List.mem_of_getElem? (i := 32) rfl)
theorem dX9_undrawn_56 : decode cX9_undrawn 56 = .ok (.istore 5, 2) := dAX9_undrawn (56, (.istore 5, 2)) (List.mem_of_getElem? (i := 33) rfl)
theorem dX9_undrawn_58 : decode cX9_undrawn 58 = .ok (.aload_n 0, 1) := dAX9_undrawn (58, (.aload_n 0, 1)) (List.mem_of_getElem? (i := 34) rfl)
theorem dX9_undrawn_59 : decode cX9_undrawn 59 = .ok (.getfield 19, 3) := dAX9_undrawn (59, (.getfield 19, 3)) (List.mem_of_getElem? (i := 35) rfl)
theorem dX9_undrawn_62 : decode cX9_undrawn 62 = .ok (.getfield 150, 3) := dAX9_undrawn (62, (.getfield 150, 3)) (List.mem_of_getElem? (i := 36) rfl)
theorem dX9_undrawn_65 : decode cX9_undrawn 65 = .ok (.iload_n 3, 1) := dAX9_undrawn (65, (.iload_n 3, 1)) (List.mem_of_getElem? (i := 37) rfl)
theorem dX9_undrawn_66 : decode cX9_undrawn 66 = .ok (.iload 4, 2) := dAX9_undrawn (66, (.iload 4, 2)) (List.mem_of_getElem? (i := 38) rfl)
theorem dX9_undrawn_68 : decode cX9_undrawn 68 = .ok (.iastore, 1) := dAX9_undrawn (68, (.iastore, 1)) (List.mem_of_getElem? (i := 39) rfl)
theorem dX9_undrawn_69 : decode cX9_undrawn 69 = .ok (.iload 5, 2) := dAX9_undrawn (69, (.iload 5, 2)) (List.mem_of_getElem? (i := 40) rfl)
theorem dX9_undrawn_71 : decode cX9_undrawn 71 = .ok (.invokestatic 197, 3) := dAX9_undrawn (71, (.invokestatic 197, 3)) (List.mem_of_getElem? (i := 41) rfl)
theorem dX9_undrawn_74 : decode cX9_undrawn 74 = .ok (.ireturn, 1) := dAX9_undrawn (74, (.ireturn, 1)) (List.mem_of_getElem? (i := 42) rfl)
set_option maxRecDepth 20000 in
theorem ggX9_undrawn_X9_twoAsked : GoodIn wsX9_undrawn wsX9_twoAsked := goodIn_r _ [7, 8, 9, 10, 11, 6, 12, 1, 13, 99, 100, 101, 102, 103, 104, 105, 106, 107, 108, 109, 110, 111, 112, 113, 114, 115, 116, 117, 118, 119, 120, 121, 122, 123, 124, 125, 126, 127, 128, 129, 130] rfl (by decide +kernel)
set_option maxRecDepth 20000 in
theorem gX9_undrawn_X9_twoAsked : GoodIn wsX9_undrawn (wsV RX9 142 RX9 yX9_twoAsked wsX9_twoAsked) := goodIn_app (goodIn_of _ (by decide +kernel)) ggX9_undrawn_X9_twoAsked
set_option maxRecDepth 20000 in
theorem ggX9_undrawn_X1_drawLine : GoodIn wsX9_undrawn wsX1_drawLine := goodIn_r _ [18, 19, 20, 21, 114, 115, 116, 117, 118, 119, 120, 121, 122, 123, 124, 125, 126, 127, 128, 129, 130] rfl (by decide +kernel)
set_option maxRecDepth 20000 in
theorem gX9_undrawn_X1_drawLine : GoodIn wsX9_undrawn (wsV RX9 146 RX1 yX1_drawLine wsX1_drawLine) := goodIn_app (goodIn_of _ (by decide +kernel)) ggX9_undrawn_X1_drawLine
set_option maxRecDepth 20000 in
theorem ggX9_undrawn_X9_refuse : GoodIn wsX9_undrawn wsX9_refuse := goodIn_r _ [25, 8, 99, 100, 101, 102, 103, 104, 105, 106, 107, 108, 109, 110, 111, 112, 113] rfl (by decide +kernel)
set_option maxRecDepth 20000 in
theorem gX9_undrawn_X9_refuse : GoodIn wsX9_undrawn (wsV RX9 98 RX9 yX9_refuse wsX9_refuse) := goodIn_app (goodIn_of _ (by decide +kernel)) ggX9_undrawn_X9_refuse
set_option maxRecDepth 20000 in
theorem ggX9_undrawn_X9_endsAsIs : GoodIn wsX9_undrawn wsX9_endsAsIs := goodIn_r _ [29, 30, 31, 1, 32, 33, 34, 35, 36, 37, 38, 39, 40, 41, 42, 43, 44, 45, 46, 47, 48, 49, 50, 51, 52, 53, 54, 55, 56, 57, 58, 59, 60, 61, 62, 63, 64, 65, 66, 67, 68, 69, 70, 71, 72, 73, 74, 75, 76, 77, 78, 79, 80, 81, 82, 83, 84, 85, 86, 87, 88, 89, 90, 91, 92, 93, 94, 95, 99, 100, 101, 102, 103, 104, 105, 106, 107, 108, 109, 110, 111, 112, 113, 131, 132, 133, 134, 135, 136, 137, 138, 139, 114, 115, 116, 117, 118, 119, 120, 121, 122, 123, 124, 125, 126, 127, 128, 129, 130, 140, 141] rfl (by decide +kernel)
set_option maxRecDepth 20000 in
theorem gX9_undrawn_X9_endsAsIs : GoodIn wsX9_undrawn (wsV RX9 193 RX9 yX9_endsAsIs wsX9_endsAsIs) := goodIn_app (goodIn_of _ (by decide +kernel)) ggX9_undrawn_X9_endsAsIs
set_option maxRecDepth 20000 in
theorem ggX9_undrawn_X9_orNot : GoodIn wsX9_undrawn wsX9_orNot := goodIn_r _ [98] rfl (by decide +kernel)
set_option maxRecDepth 20000 in
theorem gX9_undrawn_X9_orNot : GoodIn wsX9_undrawn (va_wsS RX9 197 yX9_orNot wsX9_orNot) := goodIn_app (goodIn_of _ (by decide +kernel)) ggX9_undrawn_X9_orNot
theorem kX9_undrawn_19 : Cond.fieldLink RX9 19 "EveningVow" "told" "LEveningVow$House;" ∈ wsX9_undrawn := List.mem_of_getElem? (i := 1) rfl
theorem iX9_undrawn_X9 : ∀ w ∈ u_ws RX9 TX9 15, w ∈ wsX9_undrawn := fun w h => (List.mem_cons_of_mem _ (List.mem_append_left _ (List.mem_append_left _ (List.mem_append_left _ (List.mem_append_right _ h)))))
theorem kX9_undrawn_150 : Cond.fieldLink RX9 150 "EveningVow$House" "drawnMuch" "[I" ∈ wsX9_undrawn := List.mem_of_getElem? (i := 2) rfl
theorem iX9_undrawn_X1 : ∀ w ∈ u_ws RX1 TX1 17, w ∈ wsX9_undrawn := fun w h => (List.mem_cons_of_mem _ (List.mem_append_left _ (List.mem_append_left _ (List.mem_append_right _ h))))
set_option maxHeartbeats 4000000 in
set_option maxRecDepth 100000 in
theorem mX9_undrawn (l : Launch) (g : GG) (a_t : Nat) (p_t : Nat → Nat) (p_t_1 : Nat → Nat) (p_t_5 : Nat → Nat) (p_t_6 : Nat → Nat) (p_t_7 : Nat → Nat) (n : Nat) (x1 : Int32) (x2 : Int32) (o_t : Nat → Int32) (o_t_1 : Nat → Int32) (f_t_1_4 : Nat → Int32) (f_t_1_6 : Nat → Int32) (f_t_1_7 : Nat → Int32) (f_t_1_10 : Nat → Int32) (f_t_1_11 : Nat → Int32) (f_t_1_12 : Nat → Int32) (o_t_5 : Nat → Int32) (f_t_5_6 : Nat → Int32) (f_t_5_7 : Nat → Int32) (o_t_6 : Nat → Int32) (f_t_6_6 : Nat → Int32) (f_t_6_7 : Nat → Int32) (f_t_6_8 : Nat → Int32) (o_t_7 : Nat → Int32) (r : Int32) (o_t' : Nat → Int32) (f_t_1_12' : Nat → Int32) (o_t_6' : Nat → Int32) (f_t_6_6' : Nat → Int32) (f_t_6_7' : Nat → Int32) (f_t_6_8' : Nat → Int32) (o_t_7' : Nat → Int32) (hF : fX9_undrawn n x1 x2 o_t o_t_1 f_t_1_4 f_t_1_6 f_t_1_7 f_t_1_10 f_t_1_11 f_t_1_12 o_t_5 f_t_5_6 f_t_5_7 o_t_6 f_t_6_6 f_t_6_7 f_t_6_8 o_t_7 = some (r, o_t', f_t_1_12', o_t_6', f_t_6_6', f_t_6_7', f_t_6_8', o_t_7')) : MI l g yX9_undrawn wsX9_undrawn ({ frames := 5, cells := 0, slots := 0, locals := 115 } : Room) [.ref a_t, .int x1, .int x2] [oX9 a_t p_t o_t, oX1 (p_t 1) p_t_1 o_t_1, aI g (p_t_1 4) 7 f_t_1_4, aI g (p_t_1 6) 7 f_t_1_6, aI g (p_t_1 7) 7 f_t_1_7, aI g (p_t_1 10) 8 f_t_1_10, aI g (p_t_1 11) 8 f_t_1_11, aI g (p_t_1 12) 8 f_t_1_12, oX2 (p_t 5) p_t_5 o_t_5, aI g (p_t_5 6) 7 f_t_5_6, aI g (p_t_5 7) 7 f_t_5_7, oX2 (p_t 6) p_t_6 o_t_6, aI g (p_t_6 6) 7 f_t_6_6, aI g (p_t_6 7) 7 f_t_6_7, aI g (p_t_6 8) 7 f_t_6_8, oX3 (p_t 7) p_t_7 o_t_7] r [oX9 a_t p_t o_t', oX1 (p_t 1) p_t_1 o_t_1, aI g (p_t_1 4) 7 f_t_1_4, aI g (p_t_1 6) 7 f_t_1_6, aI g (p_t_1 7) 7 f_t_1_7, aI g (p_t_1 10) 8 f_t_1_10, aI g (p_t_1 11) 8 f_t_1_11, aI g (p_t_1 12) 8 f_t_1_12', oX2 (p_t 5) p_t_5 o_t_5, aI g (p_t_5 6) 7 f_t_5_6, aI g (p_t_5 7) 7 f_t_5_7, oX2 (p_t 6) p_t_6 o_t_6', aI g (p_t_6 6) 7 f_t_6_6', aI g (p_t_6 7) 7 f_t_6_7', aI g (p_t_6 8) 7 f_t_6_8', oX3 (p_t 7) p_t_7 o_t_7'] := by
  refine MI.of (cc := cX9_undrawn) (maxL := 6) (rt := .int) (own := RX9) rfl rfl (by decide) (Nat.le_of_ble_eq_true rfl) ?_
  intro p e s m args below meth c A C0 hP hD hS ls hl
  obtain ⟨hx, hb, hml, hown, hts, hr, hlk, hK, hA, hSW⟩ := id C0
  have hl : lv_has ls 6 [(0, .ref a_t), (1, .int x1), (2, .int x2)] := hl
  rw [fX9_undrawn] at hF
  refine lv_aload_n hx hb dX9_undrawn_0 rfl (lv_at hl 0 rfl) ?_
  refine lv_iload_n hx hb dX9_undrawn_1 rfl (lv_at hl 1 rfl) ?_
  refine lv_iload_n hx hb dX9_undrawn_2 rfl (lv_at hl 2 rfl) ?_
  obtain ⟨u_1, u_2, hu_3, hF⟩ := ob2_some hF
  refine call_i (wr := [aI g (p_t_1 4) 7 f_t_1_4, aI g (p_t_1 6) 7 f_t_1_6, aI g (p_t_1 7) 7 f_t_1_7, aI g (p_t_1 10) 8 f_t_1_10, aI g (p_t_1 11) 8 f_t_1_11, aI g (p_t_1 12) 8 f_t_1_12, oX2 (p_t 5) p_t_5 o_t_5, aI g (p_t_5 6) 7 f_t_5_6, aI g (p_t_5 7) 7 f_t_5_7, oX2 (p_t 6) p_t_6 o_t_6, aI g (p_t_6 6) 7 f_t_6_6, aI g (p_t_6 7) 7 f_t_6_7, aI g (p_t_6 8) 7 f_t_6_8, oX3 (p_t 7) p_t_7 o_t_7]) (As := [.int x1, .int x2]) (rest := []) (ci := 9) (q0 := 0) C0 (mX9_twoAsked l g a_t p_t p_t_1 n x1 x2 o_t o_t_1 u_1 u_2 hu_3) (cwV 2 hts gX9_undrawn_X9_twoAsked rfl rfl rfl (by decide +kernel) ⟨Nat.le_of_ble_eq_true rfl, Nat.le_of_ble_eq_true rfl⟩) hP hD hS [0, 1] [2, 3, 4, 5, 6, 7, 8, 9, 10, 11, 12, 13, 14, 15] rfl rfl rfl rfl rfl (by decide) rfl rfl hl.1 rfl rfl (Nat.le_of_ble_eq_true rfl) ⟨Nat.zero_le _, Nat.zero_le _⟩ dX9_undrawn_3 ?_
  intro H locs hP hD hS
  refine lv_if_ne (tgt := 11) hx hb dX9_undrawn_6 (by decide) (fun c_4 => ?_) (fun c_4 => ?_)
  · have hF := it_n c_4 hF
    refine lv_aload_n hx hb dX9_undrawn_11 rfl (lv_at hl 0 rfl) ?_
    refine va_get (D := g.1) (ci := 9) (v := .ref (p_t 1)) (C := RX9) (T := TX9) (N := 15) hx hb hts iX9_undrawn_X9 hown hK.1 hP 14 rfl rfl 1 (by decide) (hts _ kX9_undrawn_19) (fun _ h9 => h9) rfl dX9_undrawn_12 ?_
    refine lv_iload_n hx hb dX9_undrawn_15 rfl (lv_at hl 1 rfl) ?_
    refine lv_iload_n hx hb dX9_undrawn_16 rfl (lv_at hl 2 rfl) ?_
    obtain ⟨u_5, hu_6, hF⟩ := ob1_some hF
    refine call_i (wr := [aI g (p_t_1 4) 7 f_t_1_4, aI g (p_t_1 6) 7 f_t_1_6, aI g (p_t_1 7) 7 f_t_1_7, aI g (p_t_1 12) 8 f_t_1_12, oX2 (p_t 5) p_t_5 o_t_5, aI g (p_t_5 6) 7 f_t_5_6, aI g (p_t_5 7) 7 f_t_5_7, oX2 (p_t 6) p_t_6 o_t_6, aI g (p_t_6 6) 7 f_t_6_6, aI g (p_t_6 7) 7 f_t_6_7, aI g (p_t_6 8) 7 f_t_6_8, oX3 (p_t 7) p_t_7 o_t_7, oX9 a_t p_t u_2]) (As := [.int x1, .int x2]) (rest := []) (ci := 1) (q0 := 0) C0 (mX1_drawLine l g (p_t 1) p_t_1 n x1 x2 o_t_1 f_t_1_10 f_t_1_11 u_5 hu_6) (cwV 2 hts gX9_undrawn_X1_drawLine rfl rfl rfl (by decide +kernel) ⟨Nat.le_of_ble_eq_true rfl, Nat.le_of_ble_eq_true rfl⟩) hP hD hS [15, 3, 4] [0, 1, 2, 5, 6, 7, 8, 9, 10, 11, 12, 13, 14] rfl rfl rfl rfl rfl (by decide) rfl rfl hl.1 rfl rfl (Nat.le_of_ble_eq_true rfl) ⟨Nat.zero_le _, Nat.zero_le _⟩ dX9_undrawn_17 ?_
    intro H locs hP hD hS
    refine lv_istore_n (lv' := [(3, .int u_5), (0, .ref a_t), (1, .int x1), (2, .int x2)]) hx hb dX9_undrawn_20 rfl hl (by decide) rfl (fun ls hl => ?_)
    refine lv_iload_n hx hb dX9_undrawn_21 rfl (lv_at hl 0 rfl) ?_
    refine lv_if_ge (tgt := 31) hx hb dX9_undrawn_22 (by decide) (fun c_7 => ?_) (fun c_7 => ?_)
    · have hF := it_p c_7 hF
      refine lv_aload_n hx hb dX9_undrawn_31 rfl (lv_at hl 1 rfl) ?_
      refine va_get (D := g.1) (ci := 9) (v := .ref (p_t 1)) (C := RX9) (T := TX9) (N := 15) hx hb hts iX9_undrawn_X9 hown hK.1 hP 12 rfl rfl 1 (by decide) (hts _ kX9_undrawn_19) (fun _ h9 => h9) rfl dX9_undrawn_32 ?_
      refine va_get (D := g.1) (ci := 1) (v := .ref (p_t_1 12)) (C := RX1) (T := TX1) (N := 17) hx hb hts iX9_undrawn_X1 hown hK.1 hP 13 rfl rfl 12 (by decide) (hts _ kX9_undrawn_150) (fun _ h9 => h9) rfl dX9_undrawn_35 ?_
      refine lv_iload_n hx hb dX9_undrawn_38 rfl (lv_at hl 0 rfl) ?_
      obtain ⟨h_8, hF⟩ := it_ck hF
      refine va_iald hx hb hK.1 hP 3 0 rfl rfl h_8 dX9_undrawn_39 ?_
      refine lv_istore (lv' := [(4, .int (f_t_1_12 (u_5).toNatClampNeg)), (3, .int u_5), (0, .ref a_t), (1, .int x1), (2, .int x2)]) hx hb dX9_undrawn_40 hl (by decide) rfl (fun ls hl => ?_)
      refine lv_aload_n hx hb dX9_undrawn_42 rfl (lv_at hl 2 rfl) ?_
      refine va_get (D := g.1) (ci := 9) (v := .ref (p_t 1)) (C := RX9) (T := TX9) (N := 15) hx hb hts iX9_undrawn_X9 hown hK.1 hP 12 rfl rfl 1 (by decide) (hts _ kX9_undrawn_19) (fun _ h9 => h9) rfl dX9_undrawn_43 ?_
      refine va_get (D := g.1) (ci := 1) (v := .ref (p_t_1 12)) (C := RX1) (T := TX1) (N := 17) hx hb hts iX9_undrawn_X1 hown hK.1 hP 13 rfl rfl 12 (by decide) (hts _ kX9_undrawn_150) (fun _ h9 => h9) rfl dX9_undrawn_46 ?_
      refine lv_iload_n hx hb dX9_undrawn_49 rfl (lv_at hl 1 rfl) ?_
      refine lv_iconst (v := (0 : Int32)) hx hb dX9_undrawn_50 (by decide) ?_
      obtain ⟨h_9, hF⟩ := it_ck hF
      refine va_iast hx hb hK.1 hP hD hS 3 0 rfl rfl h_9 dX9_undrawn_51 (fun H locs hP hD hS => ?_)
      have hP : va_P g.1 vwCl [aI g (p_t_1 4) 7 f_t_1_4, aI g (p_t_1 6) 7 f_t_1_6, aI g (p_t_1 7) 7 f_t_1_7, aI g (p_t_1 12) 8 (upd f_t_1_12 (u_5).toNatClampNeg (0 : Int32)), oX2 (p_t 5) p_t_5 o_t_5, aI g (p_t_5 6) 7 f_t_5_6, aI g (p_t_5 7) 7 f_t_5_7, oX2 (p_t 6) p_t_6 o_t_6, aI g (p_t_6 6) 7 f_t_6_6, aI g (p_t_6 7) 7 f_t_6_7, aI g (p_t_6 8) 7 f_t_6_8, oX3 (p_t 7) p_t_7 o_t_7, oX9 a_t p_t u_2, oX1 (p_t 1) p_t_1 o_t_1, aI g (p_t_1 10) 8 f_t_1_10, aI g (p_t_1 11) 8 f_t_1_11] H := hP
      have hD : va_D A [aI g (p_t_1 4) 7 f_t_1_4, aI g (p_t_1 6) 7 f_t_1_6, aI g (p_t_1 7) 7 f_t_1_7, aI g (p_t_1 12) 8 (upd f_t_1_12 (u_5).toNatClampNeg (0 : Int32)), oX2 (p_t 5) p_t_5 o_t_5, aI g (p_t_5 6) 7 f_t_5_6, aI g (p_t_5 7) 7 f_t_5_7, oX2 (p_t 6) p_t_6 o_t_6, aI g (p_t_6 6) 7 f_t_6_6, aI g (p_t_6 7) 7 f_t_6_7, aI g (p_t_6 8) 7 f_t_6_8, oX3 (p_t 7) p_t_7 o_t_7, oX9 a_t p_t u_2, oX1 (p_t 1) p_t_1 o_t_1, aI g (p_t_1 10) 8 f_t_1_10, aI g (p_t_1 11) 8 f_t_1_11] := hD
      refine lv_aload_n hx hb dX9_undrawn_52 rfl (lv_at hl 2 rfl) ?_
      obtain ⟨u_10, u_11, u_12, u_13, u_14, u_15, hu_16, hF⟩ := ob6_some hF
      refine call_i (wr := []) (As := []) (rest := []) (ci := 9) (q0 := 0) C0 (mX9_endsAsIs l g a_t p_t p_t_1 p_t_5 p_t_6 p_t_7 n u_2 o_t_1 f_t_1_4 f_t_1_6 f_t_1_7 f_t_1_10 f_t_1_11 (upd f_t_1_12 (u_5).toNatClampNeg (0 : Int32)) o_t_5 f_t_5_6 f_t_5_7 o_t_6 f_t_6_6 f_t_6_7 f_t_6_8 o_t_7 u_10 u_11 u_12 u_13 u_14 u_15 hu_16) (cwV 0 hts gX9_undrawn_X9_endsAsIs rfl rfl rfl (by decide +kernel) ⟨Nat.le_of_ble_eq_true rfl, Nat.le_of_ble_eq_true rfl⟩) hP hD hS [12, 13, 0, 1, 2, 14, 15, 3, 4, 5, 6, 7, 8, 9, 10, 11] [] rfl rfl rfl rfl rfl (by decide) rfl rfl hl.1 rfl rfl (Nat.le_of_ble_eq_true rfl) ⟨Nat.zero_le _, Nat.zero_le _⟩ dX9_undrawn_53 ?_
      intro H locs hP hD hS
      refine lv_istore (lv' := [(5, .int u_10), (4, .int (f_t_1_12 (u_5).toNatClampNeg)), (3, .int u_5), (0, .ref a_t), (1, .int x1), (2, .int x2)]) hx hb dX9_undrawn_56 hl (by decide) rfl (fun ls hl => ?_)
      refine lv_aload_n hx hb dX9_undrawn_58 rfl (lv_at hl 3 rfl) ?_
      refine va_get (D := g.1) (ci := 9) (v := .ref (p_t 1)) (C := RX9) (T := TX9) (N := 15) hx hb hts iX9_undrawn_X9 hown hK.1 hP 0 rfl rfl 1 (by decide) (hts _ kX9_undrawn_19) (fun _ h9 => h9) rfl dX9_undrawn_59 ?_
      refine va_get (D := g.1) (ci := 1) (v := .ref (p_t_1 12)) (C := RX1) (T := TX1) (N := 17) hx hb hts iX9_undrawn_X1 hown hK.1 hP 1 rfl rfl 12 (by decide) (hts _ kX9_undrawn_150) (fun _ h9 => h9) rfl dX9_undrawn_62 ?_
      refine lv_iload_n hx hb dX9_undrawn_65 rfl (lv_at hl 2 rfl) ?_
      refine lv_iload hx hb dX9_undrawn_66 (lv_at hl 1 rfl) ?_
      obtain ⟨h_17, hF⟩ := it_ck hF
      refine va_iast hx hb hK.1 hP hD hS 7 0 rfl rfl h_17 dX9_undrawn_68 (fun H locs hP hD hS => ?_)
      have hP : va_P g.1 vwCl [oX9 a_t p_t u_2, oX1 (p_t 1) p_t_1 o_t_1, aI g (p_t_1 4) 7 f_t_1_4, aI g (p_t_1 6) 7 f_t_1_6, aI g (p_t_1 7) 7 f_t_1_7, aI g (p_t_1 10) 8 f_t_1_10, aI g (p_t_1 11) 8 f_t_1_11, aI g (p_t_1 12) 8 (upd (upd f_t_1_12 (u_5).toNatClampNeg (0 : Int32)) (u_5).toNatClampNeg (f_t_1_12 (u_5).toNatClampNeg)), oX2 (p_t 5) p_t_5 o_t_5, aI g (p_t_5 6) 7 f_t_5_6, aI g (p_t_5 7) 7 f_t_5_7, oX2 (p_t 6) p_t_6 u_11, aI g (p_t_6 6) 7 u_12, aI g (p_t_6 7) 7 u_13, aI g (p_t_6 8) 7 u_14, oX3 (p_t 7) p_t_7 u_15] H := hP
      have hD : va_D A [oX9 a_t p_t u_2, oX1 (p_t 1) p_t_1 o_t_1, aI g (p_t_1 4) 7 f_t_1_4, aI g (p_t_1 6) 7 f_t_1_6, aI g (p_t_1 7) 7 f_t_1_7, aI g (p_t_1 10) 8 f_t_1_10, aI g (p_t_1 11) 8 f_t_1_11, aI g (p_t_1 12) 8 (upd (upd f_t_1_12 (u_5).toNatClampNeg (0 : Int32)) (u_5).toNatClampNeg (f_t_1_12 (u_5).toNatClampNeg)), oX2 (p_t 5) p_t_5 o_t_5, aI g (p_t_5 6) 7 f_t_5_6, aI g (p_t_5 7) 7 f_t_5_7, oX2 (p_t 6) p_t_6 u_11, aI g (p_t_6 6) 7 u_12, aI g (p_t_6 7) 7 u_13, aI g (p_t_6 8) 7 u_14, oX3 (p_t 7) p_t_7 u_15] := hD
      refine lv_iload hx hb dX9_undrawn_69 (lv_at hl 0 rfl) ?_
      obtain ⟨u_18, hu_19, hF⟩ := ob1_some hF
      refine call_si (wr := [oX9 a_t p_t u_2, oX1 (p_t 1) p_t_1 o_t_1, aI g (p_t_1 4) 7 f_t_1_4, aI g (p_t_1 6) 7 f_t_1_6, aI g (p_t_1 7) 7 f_t_1_7, aI g (p_t_1 10) 8 f_t_1_10, aI g (p_t_1 11) 8 f_t_1_11, aI g (p_t_1 12) 8 (upd (upd f_t_1_12 (u_5).toNatClampNeg (0 : Int32)) (u_5).toNatClampNeg (f_t_1_12 (u_5).toNatClampNeg)), oX2 (p_t 5) p_t_5 o_t_5, aI g (p_t_5 6) 7 f_t_5_6, aI g (p_t_5 7) 7 f_t_5_7, oX2 (p_t 6) p_t_6 u_11, aI g (p_t_6 6) 7 u_12, aI g (p_t_6 7) 7 u_13, aI g (p_t_6 8) 7 u_14, oX3 (p_t 7) p_t_7 u_15]) (As := [.int u_10]) (rest := []) C0 (mX9_orNot l g n u_10 u_18 hu_19) (va_cwS 1 hts gX9_undrawn_X9_orNot rfl rfl rfl (by decide +kernel) ⟨Nat.le_of_ble_eq_true rfl, Nat.le_of_ble_eq_true rfl⟩) hP hD hS [] [0, 1, 2, 3, 4, 5, 6, 7, 8, 9, 10, 11, 12, 13, 14, 15] rfl rfl rfl rfl rfl (by decide) hl.1 rfl rfl (Nat.le_of_ble_eq_true rfl) ⟨Nat.zero_le _, Nat.zero_le _⟩ dX9_undrawn_71 ?_
      intro H locs hP hD hS
      cases hF
      exact ret_i C0 hP hD hS [0, 1, 2, 3, 4, 5, 6, 7, 8, 9, 10, 11, 12, 13, 14, 15] rfl rfl rfl dX9_undrawn_74 rfl
    · have hF := it_n c_7 hF
      refine lv_aload_n hx hb dX9_undrawn_25 rfl (lv_at hl 1 rfl) ?_
      refine lv_iconst (v := (5 : Int32)) hx hb dX9_undrawn_26 (by decide) ?_
      obtain ⟨u_20, u_21, hu_22, hF⟩ := ob2_some hF
      refine call_i (wr := [aI g (p_t_1 4) 7 f_t_1_4, aI g (p_t_1 6) 7 f_t_1_6, aI g (p_t_1 7) 7 f_t_1_7, aI g (p_t_1 12) 8 f_t_1_12, oX2 (p_t 5) p_t_5 o_t_5, aI g (p_t_5 6) 7 f_t_5_6, aI g (p_t_5 7) 7 f_t_5_7, oX2 (p_t 6) p_t_6 o_t_6, aI g (p_t_6 6) 7 f_t_6_6, aI g (p_t_6 7) 7 f_t_6_7, aI g (p_t_6 8) 7 f_t_6_8, oX3 (p_t 7) p_t_7 o_t_7, oX1 (p_t 1) p_t_1 o_t_1, aI g (p_t_1 10) 8 f_t_1_10, aI g (p_t_1 11) 8 f_t_1_11]) (As := [.int (5 : Int32)]) (rest := []) (ci := 9) (q0 := 0) C0 (mX9_refuse l g a_t p_t n (5 : Int32) u_2 u_20 u_21 hu_22) (cwV 1 hts gX9_undrawn_X9_refuse rfl rfl rfl (by decide +kernel) ⟨Nat.le_of_ble_eq_true rfl, Nat.le_of_ble_eq_true rfl⟩) hP hD hS [12] [0, 1, 2, 3, 4, 5, 6, 7, 8, 9, 10, 11, 13, 14, 15] rfl rfl rfl rfl rfl (by decide) rfl rfl hl.1 rfl rfl (Nat.le_of_ble_eq_true rfl) ⟨Nat.zero_le _, Nat.zero_le _⟩ dX9_undrawn_27 ?_
      intro H locs hP hD hS
      cases hF
      exact ret_i C0 hP hD hS [15, 12, 0, 1, 2, 13, 14, 3, 4, 5, 6, 7, 8, 9, 10, 11] rfl rfl rfl dX9_undrawn_30 rfl
  · have hF := it_p c_4 hF
    refine lv_iconst (v := (-1 : Int32)) hx hb dX9_undrawn_9 (by decide) ?_
    cases hF
    exact ret_i C0 hP hD hS [14, 15, 0, 1, 2, 3, 4, 5, 6, 7, 8, 9, 10, 11, 12, 13] rfl rfl rfl dX9_undrawn_10 rfl

theorem dAX9_apart : ∀ q ∈ ([(0, (.aload_n 0, 1)), (1, (.iload_n 1, 1)), (2, (.invokevirtual 118, 3)), (5, (.ifCond .ne 5, 3)), (8, (.iconst (-1), 1)), (9, (.ireturn, 1)), (10, (.aload_n 0, 1)), (11, (.getfield 19, 3)), (14, (.getfield 139, 3)), (17, (.iload_n 1, 1)), (18, (.iaload, 1)), (19, (.istore_n 2, 1)), (20, (.iload_n 2, 1)), (21, (.ifCond .lt 14, 3)), (24, (.iload_n 2, 1)), (25, (.aload_n 0, 1)), (26, (.getfield 19, 3)), (29, (.getfield 109, 3)), (32, (.if_icmp .lt 9, 3)), (35, (.aload_n 0, 1)), (36, (.iconst 5, 1)), (37, (.invokevirtual 98, 3)), (40, (.ireturn, 1)), (41, (.aload_n 0, 1)), (42, (.getfield 19, 3)), (45, (.getfield 139, 3)), (48, (.iload_n 1, 1)), (49, (.bipush (-2), 2)), (51, (.iastore, 1)), (52, (.aload_n 0, 1)), (53, (.getfield 19, 3)), (56, (.getfield 139, 3)), (59, (.iload_n 2, 1)), (60, (.bipush (-2), 2)), (62, (.iastore, 1)), (63, (.aload_n 0, 1)), (64, (.invokevirtual 193, 3)), (67, (.istore_n 3, 1)), (68, (.aload_n 0, 1)), (69, (.getfield 19, 3)), (72, (.getfield 139, 3)), (75, (.iload_n 1, 1)), (76, (.iload_n 2, 1)), (77, (.iastore, 1)), (78, (.aload_n 0, 1)), (79, (.getfield 19, 3)), (82, (.getfield 139, 3)), (85, (.iload_n 2, 1)), (86, (.iload_n 1, 1)), (87, (.iastore, 1)), (88, (.iload_n 3, 1)), (89, (.invokestatic 197, 3)), (92, (.ireturn, 1))] : List (Nat × (Instr × Nat))), decode cX9_apart q.1 = .ok q.2 := by decide +kernel
theorem dX9_apart_0 : decode cX9_apart 0 = .ok (.aload_n 0, 1) := dAX9_apart (0, (.aload_n 0, 1)) (List.mem_of_getElem? (i := 0) rfl)
theorem dX9_apart_1 : decode cX9_apart 1 = .ok (.iload_n 1, 1) := dAX9_apart (1, (.iload_n 1, 1)) (List.mem_of_getElem? (i := 1) rfl)
theorem dX9_apart_2 : decode cX9_apart 2 = .ok (.invokevirtual 118, 3) := dAX9_apart (2, (.invokevirtual 118, 3)) (List.mem_of_getElem? (i := 2) rfl)
theorem dX9_apart_5 : decode cX9_apart 5 = .ok (.ifCond .ne 5, 3) := dAX9_apart (5, (.ifCond .ne 5, 3)) (List.mem_of_getElem? (i := 3) rfl)
theorem dX9_apart_8 : decode cX9_apart 8 = .ok (.iconst (-1), 1) := dAX9_apart (8, (.iconst (-1), 1)) (List.mem_of_getElem? (i := 4) rfl)
theorem dX9_apart_9 : decode cX9_apart 9 = .ok (.ireturn, 1) := dAX9_apart (9, (.ireturn, 1)) (List.mem_of_getElem? (i := 5) rfl)
theorem dX9_apart_10 : decode cX9_apart 10 = .ok (.aload_n 0, 1) := dAX9_apart (10, (.aload_n 0, 1)) (List.mem_of_getElem? (i := 6) rfl)
theorem dX9_apart_11 : decode cX9_apart 11 = .ok (.getfield 19, 3) := dAX9_apart (11, (.getfield 19, 3)) (List.mem_of_getElem? (i := 7) rfl)
theorem dX9_apart_14 : decode cX9_apart 14 = .ok (.getfield 139, 3) := dAX9_apart (14, (.getfield 139, 3)) (List.mem_of_getElem? (i := 8) rfl)
theorem dX9_apart_17 : decode cX9_apart 17 = .ok (.iload_n 1, 1) := dAX9_apart (17, (.iload_n 1, 1)) (List.mem_of_getElem? (i := 9) rfl)
theorem dX9_apart_18 : decode cX9_apart 18 = .ok (.iaload, 1) := dAX9_apart (18, (.iaload, 1)) (List.mem_of_getElem? (i := 10) rfl)
theorem dX9_apart_19 : decode cX9_apart 19 = .ok (.istore_n 2, 1) := dAX9_apart (19, (.istore_n 2, 1)) (List.mem_of_getElem? (i := 11) rfl)
theorem dX9_apart_20 : decode cX9_apart 20 = .ok (.iload_n 2, 1) := dAX9_apart (20, (.iload_n 2, 1)) (List.mem_of_getElem? (i := 12) rfl)
theorem dX9_apart_21 : decode cX9_apart 21 = .ok (.ifCond .lt 14, 3) := dAX9_apart (21, (.ifCond .lt 14, 3)) (List.mem_of_getElem? (i := 13) rfl)
theorem dX9_apart_24 : decode cX9_apart 24 = .ok (.iload_n 2, 1) := dAX9_apart (24, (.iload_n 2, 1)) (List.mem_of_getElem? (i := 14) rfl)
theorem dX9_apart_25 : decode cX9_apart 25 = .ok (.aload_n 0, 1) := dAX9_apart (25, (.aload_n 0, 1)) (List.mem_of_getElem? (i := 15) rfl)
theorem dX9_apart_26 : decode cX9_apart 26 = .ok (.getfield 19, 3) := dAX9_apart (26, (.getfield 19, 3)) (List.mem_of_getElem? (i := 16) rfl)
theorem dX9_apart_29 : decode cX9_apart 29 = .ok (.getfield 109, 3) := dAX9_apart (29, (.getfield 109, 3)) (List.mem_of_getElem? (i := 17) rfl)
theorem dX9_apart_32 : decode cX9_apart 32 = .ok (.if_icmp .lt 9, 3) := dAX9_apart (32, (.if_icmp .lt 9, 3)) (List.mem_of_getElem? (i := 18) rfl)
theorem dX9_apart_35 : decode cX9_apart 35 = .ok (.aload_n 0, 1) := dAX9_apart (35, (.aload_n 0, 1)) (List.mem_of_getElem? (i := 19) rfl)
theorem dX9_apart_36 : decode cX9_apart 36 = .ok (.iconst 5, 1) := dAX9_apart (36, (.iconst 5, 1)) (List.mem_of_getElem? (i := 20) rfl)
theorem dX9_apart_37 : decode cX9_apart 37 = .ok (.invokevirtual 98, 3) := dAX9_apart (37, (.invokevirtual 98, 3)) (List.mem_of_getElem? (i := 21) rfl)
theorem dX9_apart_40 : decode cX9_apart 40 = .ok (.ireturn, 1) := dAX9_apart (40, (.ireturn, 1)) (List.mem_of_getElem? (i := 22) rfl)
theorem dX9_apart_41 : decode cX9_apart 41 = .ok (.aload_n 0, 1) := dAX9_apart (41, (.aload_n 0, 1)) (List.mem_of_getElem? (i := 23) rfl)
theorem dX9_apart_42 : decode cX9_apart 42 = .ok (.getfield 19, 3) := dAX9_apart (42, (.getfield 19, 3)) (List.mem_of_getElem? (i := 24) rfl)
theorem dX9_apart_45 : decode cX9_apart 45 = .ok (.getfield 139, 3) := dAX9_apart (45, (.getfield 139, 3)) (List.mem_of_getElem? (i := 25) rfl)
theorem dX9_apart_48 : decode cX9_apart 48 = .ok (.iload_n 1, 1) := dAX9_apart (48, (.iload_n 1, 1)) (List.mem_of_getElem? (i := 26) rfl)
theorem dX9_apart_49 : decode cX9_apart 49 = .ok (.bipush (-2), 2) := dAX9_apart (49, (.bipush (-2), 2)) (List.mem_of_getElem? (i := 27) rfl)
theorem dX9_apart_51 : decode cX9_apart 51 = .ok (.iastore, 1) := dAX9_apart (51, (.iastore, 1)) (List.mem_of_getElem? (i := 28) rfl)
theorem dX9_apart_52 : decode cX9_apart 52 = .ok (.aload_n 0, 1) := dAX9_apart (52, (.aload_n 0, 1)) (List.mem_of_getElem? (i := 29) rfl)
theorem dX9_apart_53 : decode cX9_apart 53 = .ok (.getfield 19, 3) := dAX9_apart (53, (.getfield 19, 3)) (List.mem_of_getElem? (i := 30) rfl)
theorem dX9_apart_56 : decode cX9_apart 56 = .ok (.getfield 139, 3) := dAX9_apart (56, (.getfield 139, 3)) (List.mem_of_getElem? (i := 31) rfl)
theorem dX9_apart_59 : decode cX9_apart 59 = .ok (.iload_n 2, 1) := dAX9_apart (59, (.iload_n 2, 1)) (List.mem_of_getElem? (i := 32) rfl)
theorem dX9_apart_60 : decode cX9_apart 60 = .ok (.bipush (-2), 2) := dAX9_apart (60, (.bipush (-2), 2)) (List.mem_of_getElem? (i := 33) rfl)
theorem dX9_apart_62 : decode cX9_apart 62 = .ok (.iastore, 1) := dAX9_apart (62, (.iastore, 1)) (List.mem_of_getElem? (i := 34) rfl)
theorem dX9_apart_63 : decode cX9_apart 63 = .ok (.aload_n 0, 1) := dAX9_apart (63, (.aload_n 0, 1)) (List.mem_of_getElem? (i := 35) rfl)
theorem dX9_apart_64 : decode cX9_apart 64 = .ok (.invokevirtual 193, 3) := dAX9_apart (64, (.invokevirtual 193, 3)) (List.mem_of_getElem? (i := 36) rfl)
theorem dX9_apart_67 : decode cX9_apart 67 = .ok (.istore_n 3, 1) := dAX9_apart (67, (.istore_n 3, 1)) (List.mem_of_getElem? (i := 37) rfl)
theorem dX9_apart_68 : decode cX9_apart 68 = .ok (.aload_n 0, 1) := dAX9_apart (68, (.aload_n 0, 1)) (List.mem_of_getElem? (i := 38) rfl)
theorem dX9_apart_69 : decode cX9_apart 69 = .ok (.getfield 19, 3) := dAX9_apart (69, (.getfield 19, 3)) (List.mem_of_getElem? (i := 39) rfl)
theorem dX9_apart_72 : decode cX9_apart 72 = .ok (.getfield 139, 3) := dAX9_apart (72, (.getfield 139, 3)) (List.mem_of_getElem? (i := 40) rfl)
theorem dX9_apart_75 : decode cX9_apart 75 = .ok (.iload_n 1, 1) := dAX9_apart (75, (.iload_n 1, 1)) (List.mem_of_getElem? (i := 41) rfl)
theorem dX9_apart_76 : decode cX9_apart 76 = .ok (.iload_n 2, 1) := dAX9_apart (76, (.iload_n 2, 1)) (List.mem_of_getElem? (i := 42) rfl)
theorem dX9_apart_77 : decode cX9_apart 77 = .ok (.iastore, 1) := dAX9_apart (77, (.iastore, 1)) (List.mem_of_getElem? (i := 43) rfl)
theorem dX9_apart_78 : decode cX9_apart 78 = .ok (.aload_n 0, 1) := dAX9_apart (78, (.aload_n 0, 1)) (List.mem_of_getElem? (i := 44) rfl)
theorem dX9_apart_79 : decode cX9_apart 79 = .ok (.getfield 19, 3) := dAX9_apart (79, (.getfield 19, 3)) (List.mem_of_getElem? (i := 45) rfl)
theorem dX9_apart_82 : decode cX9_apart 82 = .ok (.getfield 139, 3) := dAX9_apart (82, (.getfield 139, 3)) (List.mem_of_getElem? (i := 46) rfl)
theorem dX9_apart_85 : decode cX9_apart 85 = .ok (.iload_n 2, 1) := dAX9_apart (85, (.iload_n 2, 1)) (List.mem_of_getElem? (i := 47) rfl)
theorem dX9_apart_86 : decode cX9_apart 86 = .ok (.iload_n 1, 1) := dAX9_apart (86, (.iload_n 1, 1)) (List.mem_of_getElem? (i := 48) rfl)
theorem dX9_apart_87 : decode cX9_apart 87 = .ok (.iastore, 1) := dAX9_apart (87, (.iastore, 1)) (List.mem_of_getElem? (i := 49) rfl)
theorem dX9_apart_88 : decode cX9_apart 88 = .ok (.iload_n 3, 1) := dAX9_apart (88, (.iload_n 3, 1)) (List.mem_of_getElem? (i := 50) rfl)
theorem dX9_apart_89 : decode cX9_apart 89 = .ok (.invokestatic 197, 3) := dAX9_apart (89, (.invokestatic 197, 3)) (List.mem_of_getElem? (i := 51) rfl)
theorem dX9_apart_92 : decode cX9_apart 92 = .ok (.ireturn, 1) := dAX9_apart (92, (.ireturn, 1)) (List.mem_of_getElem? (i := 52) rfl)
set_option maxRecDepth 20000 in
theorem ggX9_apart_X9_guestAsked : GoodIn wsX9_apart wsX9_guestAsked := goodIn_r _ [8, 1, 3, 9, 87, 88, 89, 90, 91, 92, 93, 94, 95, 96, 97, 98, 99, 100, 101, 102, 103, 104, 105, 106, 107, 108, 109, 110, 111, 112, 113, 114, 115, 116, 117, 118] rfl (by decide +kernel)
set_option maxRecDepth 20000 in
theorem gX9_apart_X9_guestAsked : GoodIn wsX9_apart (wsV RX9 118 RX9 yX9_guestAsked wsX9_guestAsked) := goodIn_app (goodIn_of _ (by decide +kernel)) ggX9_apart_X9_guestAsked
set_option maxRecDepth 20000 in
theorem ggX9_apart_X9_refuse : GoodIn wsX9_apart wsX9_refuse := goodIn_r _ [13, 9, 87, 88, 89, 90, 91, 92, 93, 94, 95, 96, 97, 98, 99, 100, 101] rfl (by decide +kernel)
set_option maxRecDepth 20000 in
theorem gX9_apart_X9_refuse : GoodIn wsX9_apart (wsV RX9 98 RX9 yX9_refuse wsX9_refuse) := goodIn_app (goodIn_of _ (by decide +kernel)) ggX9_apart_X9_refuse
set_option maxRecDepth 20000 in
theorem ggX9_apart_X9_endsAsIs : GoodIn wsX9_apart wsX9_endsAsIs := goodIn_r _ [17, 18, 19, 1, 20, 21, 22, 23, 24, 25, 26, 27, 28, 29, 30, 31, 32, 33, 34, 35, 36, 37, 38, 39, 40, 41, 42, 43, 44, 45, 46, 47, 48, 49, 50, 51, 52, 53, 54, 55, 56, 57, 58, 59, 60, 61, 62, 63, 64, 65, 66, 67, 68, 69, 70, 71, 72, 73, 74, 75, 76, 77, 78, 79, 80, 81, 82, 83, 87, 88, 89, 90, 91, 92, 93, 94, 95, 96, 97, 98, 99, 100, 101, 119, 120, 121, 122, 123, 124, 125, 126, 127, 102, 103, 104, 105, 106, 107, 108, 109, 110, 111, 112, 113, 114, 115, 116, 117, 118, 128, 129] rfl (by decide +kernel)
set_option maxRecDepth 20000 in
theorem gX9_apart_X9_endsAsIs : GoodIn wsX9_apart (wsV RX9 193 RX9 yX9_endsAsIs wsX9_endsAsIs) := goodIn_app (goodIn_of _ (by decide +kernel)) ggX9_apart_X9_endsAsIs
set_option maxRecDepth 20000 in
theorem ggX9_apart_X9_orNot : GoodIn wsX9_apart wsX9_orNot := goodIn_r _ [86] rfl (by decide +kernel)
set_option maxRecDepth 20000 in
theorem gX9_apart_X9_orNot : GoodIn wsX9_apart (va_wsS RX9 197 yX9_orNot wsX9_orNot) := goodIn_app (goodIn_of _ (by decide +kernel)) ggX9_apart_X9_orNot
theorem kX9_apart_19 : Cond.fieldLink RX9 19 "EveningVow" "told" "LEveningVow$House;" ∈ wsX9_apart := List.mem_of_getElem? (i := 1) rfl
theorem iX9_apart_X9 : ∀ w ∈ u_ws RX9 TX9 15, w ∈ wsX9_apart := fun w h => (List.mem_cons_of_mem _ (List.mem_append_left _ (List.mem_append_left _ (List.mem_append_left _ (List.mem_append_right _ h)))))
theorem kX9_apart_139 : Cond.fieldLink RX9 139 "EveningVow$House" "mate" "[I" ∈ wsX9_apart := List.mem_of_getElem? (i := 2) rfl
theorem iX9_apart_X1 : ∀ w ∈ u_ws RX1 TX1 17, w ∈ wsX9_apart := fun w h => (List.mem_cons_of_mem _ (List.mem_append_left _ (List.mem_append_left _ (List.mem_append_right _ h))))
theorem kX9_apart_109 : Cond.fieldLink RX9 109 "EveningVow$House" "guests" "I" ∈ wsX9_apart := List.mem_of_getElem? (i := 3) rfl
set_option maxHeartbeats 4000000 in
set_option maxRecDepth 100000 in
theorem mX9_apart (l : Launch) (g : GG) (a_t : Nat) (p_t : Nat → Nat) (p_t_1 : Nat → Nat) (p_t_5 : Nat → Nat) (p_t_6 : Nat → Nat) (p_t_7 : Nat → Nat) (n : Nat) (x1 : Int32) (o_t : Nat → Int32) (o_t_1 : Nat → Int32) (f_t_1_4 : Nat → Int32) (f_t_1_6 : Nat → Int32) (f_t_1_7 : Nat → Int32) (f_t_1_10 : Nat → Int32) (f_t_1_11 : Nat → Int32) (f_t_1_12 : Nat → Int32) (o_t_5 : Nat → Int32) (f_t_5_6 : Nat → Int32) (f_t_5_7 : Nat → Int32) (o_t_6 : Nat → Int32) (f_t_6_6 : Nat → Int32) (f_t_6_7 : Nat → Int32) (f_t_6_8 : Nat → Int32) (o_t_7 : Nat → Int32) (r : Int32) (o_t' : Nat → Int32) (f_t_1_7' : Nat → Int32) (o_t_6' : Nat → Int32) (f_t_6_6' : Nat → Int32) (f_t_6_7' : Nat → Int32) (f_t_6_8' : Nat → Int32) (o_t_7' : Nat → Int32) (hF : fX9_apart n x1 o_t o_t_1 f_t_1_4 f_t_1_6 f_t_1_7 f_t_1_10 f_t_1_11 f_t_1_12 o_t_5 f_t_5_6 f_t_5_7 o_t_6 f_t_6_6 f_t_6_7 f_t_6_8 o_t_7 = some (r, o_t', f_t_1_7', o_t_6', f_t_6_6', f_t_6_7', f_t_6_8', o_t_7')) : MI l g yX9_apart wsX9_apart ({ frames := 5, cells := 0, slots := 0, locals := 115 } : Room) [.ref a_t, .int x1] [oX9 a_t p_t o_t, oX1 (p_t 1) p_t_1 o_t_1, aI g (p_t_1 4) 7 f_t_1_4, aI g (p_t_1 6) 7 f_t_1_6, aI g (p_t_1 7) 7 f_t_1_7, aI g (p_t_1 10) 8 f_t_1_10, aI g (p_t_1 11) 8 f_t_1_11, aI g (p_t_1 12) 8 f_t_1_12, oX2 (p_t 5) p_t_5 o_t_5, aI g (p_t_5 6) 7 f_t_5_6, aI g (p_t_5 7) 7 f_t_5_7, oX2 (p_t 6) p_t_6 o_t_6, aI g (p_t_6 6) 7 f_t_6_6, aI g (p_t_6 7) 7 f_t_6_7, aI g (p_t_6 8) 7 f_t_6_8, oX3 (p_t 7) p_t_7 o_t_7] r [oX9 a_t p_t o_t', oX1 (p_t 1) p_t_1 o_t_1, aI g (p_t_1 4) 7 f_t_1_4, aI g (p_t_1 6) 7 f_t_1_6, aI g (p_t_1 7) 7 f_t_1_7', aI g (p_t_1 10) 8 f_t_1_10, aI g (p_t_1 11) 8 f_t_1_11, aI g (p_t_1 12) 8 f_t_1_12, oX2 (p_t 5) p_t_5 o_t_5, aI g (p_t_5 6) 7 f_t_5_6, aI g (p_t_5 7) 7 f_t_5_7, oX2 (p_t 6) p_t_6 o_t_6', aI g (p_t_6 6) 7 f_t_6_6', aI g (p_t_6 7) 7 f_t_6_7', aI g (p_t_6 8) 7 f_t_6_8', oX3 (p_t 7) p_t_7 o_t_7'] := by
  refine MI.of (cc := cX9_apart) (maxL := 4) (rt := .int) (own := RX9) rfl rfl (by decide) (Nat.le_of_ble_eq_true rfl) ?_
  intro p e s m args below meth c A C0 hP hD hS ls hl
  obtain ⟨hx, hb, hml, hown, hts, hr, hlk, hK, hA, hSW⟩ := id C0
  have hl : lv_has ls 4 [(0, .ref a_t), (1, .int x1)] := hl
  rw [fX9_apart] at hF
  refine lv_aload_n hx hb dX9_apart_0 rfl (lv_at hl 0 rfl) ?_
  refine lv_iload_n hx hb dX9_apart_1 rfl (lv_at hl 1 rfl) ?_
  obtain ⟨u_1, u_2, hu_3, hF⟩ := ob2_some hF
  refine call_i (wr := [aI g (p_t_1 4) 7 f_t_1_4, aI g (p_t_1 6) 7 f_t_1_6, aI g (p_t_1 7) 7 f_t_1_7, aI g (p_t_1 10) 8 f_t_1_10, aI g (p_t_1 11) 8 f_t_1_11, aI g (p_t_1 12) 8 f_t_1_12, oX2 (p_t 5) p_t_5 o_t_5, aI g (p_t_5 6) 7 f_t_5_6, aI g (p_t_5 7) 7 f_t_5_7, oX2 (p_t 6) p_t_6 o_t_6, aI g (p_t_6 6) 7 f_t_6_6, aI g (p_t_6 7) 7 f_t_6_7, aI g (p_t_6 8) 7 f_t_6_8, oX3 (p_t 7) p_t_7 o_t_7]) (As := [.int x1]) (rest := []) (ci := 9) (q0 := 0) C0 (mX9_guestAsked l g a_t p_t p_t_1 n x1 o_t o_t_1 u_1 u_2 hu_3) (cwV 1 hts gX9_apart_X9_guestAsked rfl rfl rfl (by decide +kernel) ⟨Nat.le_of_ble_eq_true rfl, Nat.le_of_ble_eq_true rfl⟩) hP hD hS [0, 1] [2, 3, 4, 5, 6, 7, 8, 9, 10, 11, 12, 13, 14, 15] rfl rfl rfl rfl rfl (by decide) rfl rfl hl.1 rfl rfl (Nat.le_of_ble_eq_true rfl) ⟨Nat.zero_le _, Nat.zero_le _⟩ dX9_apart_2 ?_
  intro H locs hP hD hS
  refine lv_if_ne (tgt := 10) hx hb dX9_apart_5 (by decide) (fun c_4 => ?_) (fun c_4 => ?_)
  · have hF := it_n c_4 hF
    refine lv_aload_n hx hb dX9_apart_10 rfl (lv_at hl 0 rfl) ?_
    refine va_get (D := g.1) (ci := 9) (v := .ref (p_t 1)) (C := RX9) (T := TX9) (N := 15) hx hb hts iX9_apart_X9 hown hK.1 hP 14 rfl rfl 1 (by decide) (hts _ kX9_apart_19) (fun _ h9 => h9) rfl dX9_apart_11 ?_
    refine va_get (D := g.1) (ci := 1) (v := .ref (p_t_1 7)) (C := RX1) (T := TX1) (N := 17) hx hb hts iX9_apart_X1 hown hK.1 hP 15 rfl rfl 7 (by decide) (hts _ kX9_apart_139) (fun _ h9 => h9) rfl dX9_apart_14 ?_
    refine lv_iload_n hx hb dX9_apart_17 rfl (lv_at hl 1 rfl) ?_
    obtain ⟨h_5, hF⟩ := it_ck hF
    refine va_iald hx hb hK.1 hP 2 0 rfl rfl h_5 dX9_apart_18 ?_
    refine lv_istore_n (lv' := [(2, .int (f_t_1_7 (x1).toNatClampNeg)), (0, .ref a_t), (1, .int x1)]) hx hb dX9_apart_19 rfl hl (by decide) rfl (fun ls hl => ?_)
    refine lv_iload_n hx hb dX9_apart_20 rfl (lv_at hl 0 rfl) ?_
    refine lv_if_lt (tgt := 35) hx hb dX9_apart_21 (by decide) (fun c_6 => ?_) (fun c_6 => ?_)
    · have hF := it_p c_6 hF
      refine lv_aload_n hx hb dX9_apart_35 rfl (lv_at hl 1 rfl) ?_
      refine lv_iconst (v := (5 : Int32)) hx hb dX9_apart_36 (by decide) ?_
      obtain ⟨u_7, u_8, hu_9, hF⟩ := ob2_some hF
      refine call_i (wr := [aI g (p_t_1 4) 7 f_t_1_4, aI g (p_t_1 6) 7 f_t_1_6, aI g (p_t_1 7) 7 f_t_1_7, aI g (p_t_1 10) 8 f_t_1_10, aI g (p_t_1 11) 8 f_t_1_11, aI g (p_t_1 12) 8 f_t_1_12, oX2 (p_t 5) p_t_5 o_t_5, aI g (p_t_5 6) 7 f_t_5_6, aI g (p_t_5 7) 7 f_t_5_7, oX2 (p_t 6) p_t_6 o_t_6, aI g (p_t_6 6) 7 f_t_6_6, aI g (p_t_6 7) 7 f_t_6_7, aI g (p_t_6 8) 7 f_t_6_8, oX3 (p_t 7) p_t_7 o_t_7, oX1 (p_t 1) p_t_1 o_t_1]) (As := [.int (5 : Int32)]) (rest := []) (ci := 9) (q0 := 0) C0 (mX9_refuse l g a_t p_t n (5 : Int32) u_2 u_7 u_8 hu_9) (cwV 1 hts gX9_apart_X9_refuse rfl rfl rfl (by decide +kernel) ⟨Nat.le_of_ble_eq_true rfl, Nat.le_of_ble_eq_true rfl⟩) hP hD hS [14] [0, 1, 2, 3, 4, 5, 6, 7, 8, 9, 10, 11, 12, 13, 15] rfl rfl rfl rfl rfl (by decide) rfl rfl hl.1 rfl rfl (Nat.le_of_ble_eq_true rfl) ⟨Nat.zero_le _, Nat.zero_le _⟩ dX9_apart_37 ?_
      intro H locs hP hD hS
      cases hF
      exact ret_i C0 hP hD hS [15, 14, 0, 1, 2, 3, 4, 5, 6, 7, 8, 9, 10, 11, 12, 13] rfl rfl rfl dX9_apart_40 rfl
    · have hF := it_n c_6 hF
      refine lv_iload_n hx hb dX9_apart_24 rfl (lv_at hl 0 rfl) ?_
      refine lv_aload_n hx hb dX9_apart_25 rfl (lv_at hl 1 rfl) ?_
      refine va_get (D := g.1) (ci := 9) (v := .ref (p_t 1)) (C := RX9) (T := TX9) (N := 15) hx hb hts iX9_apart_X9 hown hK.1 hP 14 rfl rfl 1 (by decide) (hts _ kX9_apart_19) (fun _ h9 => h9) rfl dX9_apart_26 ?_
      refine va_get (D := g.1) (ci := 1) (v := .int (o_t_1 3)) (C := RX1) (T := TX1) (N := 17) hx hb hts iX9_apart_X1 hown hK.1 hP 15 rfl rfl 3 (by decide) (hts _ kX9_apart_109) (fun _ h9 => h9) rfl dX9_apart_29 ?_
      refine lv_icmp_lt (tgt := 41) hx hb dX9_apart_32 (by decide) (fun c_10 => ?_) (fun c_10 => ?_)
      · have hF := it_p c_10 hF
        refine lv_aload_n hx hb dX9_apart_41 rfl (lv_at hl 1 rfl) ?_
        refine va_get (D := g.1) (ci := 9) (v := .ref (p_t 1)) (C := RX9) (T := TX9) (N := 15) hx hb hts iX9_apart_X9 hown hK.1 hP 14 rfl rfl 1 (by decide) (hts _ kX9_apart_19) (fun _ h9 => h9) rfl dX9_apart_42 ?_
        refine va_get (D := g.1) (ci := 1) (v := .ref (p_t_1 7)) (C := RX1) (T := TX1) (N := 17) hx hb hts iX9_apart_X1 hown hK.1 hP 15 rfl rfl 7 (by decide) (hts _ kX9_apart_139) (fun _ h9 => h9) rfl dX9_apart_45 ?_
        refine lv_iload_n hx hb dX9_apart_48 rfl (lv_at hl 2 rfl) ?_
        refine lv_bipush (v := (-2 : Int32)) hx hb dX9_apart_49 (by decide) ?_
        obtain ⟨h_11, hF⟩ := it_ck hF
        refine va_iast hx hb hK.1 hP hD hS 2 0 rfl rfl h_11 dX9_apart_51 (fun H locs hP hD hS => ?_)
        have hP : va_P g.1 vwCl [aI g (p_t_1 4) 7 f_t_1_4, aI g (p_t_1 6) 7 f_t_1_6, aI g (p_t_1 7) 7 (upd f_t_1_7 (x1).toNatClampNeg (-2 : Int32)), aI g (p_t_1 10) 8 f_t_1_10, aI g (p_t_1 11) 8 f_t_1_11, aI g (p_t_1 12) 8 f_t_1_12, oX2 (p_t 5) p_t_5 o_t_5, aI g (p_t_5 6) 7 f_t_5_6, aI g (p_t_5 7) 7 f_t_5_7, oX2 (p_t 6) p_t_6 o_t_6, aI g (p_t_6 6) 7 f_t_6_6, aI g (p_t_6 7) 7 f_t_6_7, aI g (p_t_6 8) 7 f_t_6_8, oX3 (p_t 7) p_t_7 o_t_7, oX9 a_t p_t u_2, oX1 (p_t 1) p_t_1 o_t_1] H := hP
        have hD : va_D A [aI g (p_t_1 4) 7 f_t_1_4, aI g (p_t_1 6) 7 f_t_1_6, aI g (p_t_1 7) 7 (upd f_t_1_7 (x1).toNatClampNeg (-2 : Int32)), aI g (p_t_1 10) 8 f_t_1_10, aI g (p_t_1 11) 8 f_t_1_11, aI g (p_t_1 12) 8 f_t_1_12, oX2 (p_t 5) p_t_5 o_t_5, aI g (p_t_5 6) 7 f_t_5_6, aI g (p_t_5 7) 7 f_t_5_7, oX2 (p_t 6) p_t_6 o_t_6, aI g (p_t_6 6) 7 f_t_6_6, aI g (p_t_6 7) 7 f_t_6_7, aI g (p_t_6 8) 7 f_t_6_8, oX3 (p_t 7) p_t_7 o_t_7, oX9 a_t p_t u_2, oX1 (p_t 1) p_t_1 o_t_1] := hD
        refine lv_aload_n hx hb dX9_apart_52 rfl (lv_at hl 1 rfl) ?_
        refine va_get (D := g.1) (ci := 9) (v := .ref (p_t 1)) (C := RX9) (T := TX9) (N := 15) hx hb hts iX9_apart_X9 hown hK.1 hP 14 rfl rfl 1 (by decide) (hts _ kX9_apart_19) (fun _ h9 => h9) rfl dX9_apart_53 ?_
        refine va_get (D := g.1) (ci := 1) (v := .ref (p_t_1 7)) (C := RX1) (T := TX1) (N := 17) hx hb hts iX9_apart_X1 hown hK.1 hP 15 rfl rfl 7 (by decide) (hts _ kX9_apart_139) (fun _ h9 => h9) rfl dX9_apart_56 ?_
        refine lv_iload_n hx hb dX9_apart_59 rfl (lv_at hl 0 rfl) ?_
        refine lv_bipush (v := (-2 : Int32)) hx hb dX9_apart_60 (by decide) ?_
        obtain ⟨h_12, hF⟩ := it_ck hF
        refine va_iast hx hb hK.1 hP hD hS 2 0 rfl rfl h_12 dX9_apart_62 (fun H locs hP hD hS => ?_)
        have hP : va_P g.1 vwCl [aI g (p_t_1 4) 7 f_t_1_4, aI g (p_t_1 6) 7 f_t_1_6, aI g (p_t_1 7) 7 (upd (upd f_t_1_7 (x1).toNatClampNeg (-2 : Int32)) ((f_t_1_7 (x1).toNatClampNeg)).toNatClampNeg (-2 : Int32)), aI g (p_t_1 10) 8 f_t_1_10, aI g (p_t_1 11) 8 f_t_1_11, aI g (p_t_1 12) 8 f_t_1_12, oX2 (p_t 5) p_t_5 o_t_5, aI g (p_t_5 6) 7 f_t_5_6, aI g (p_t_5 7) 7 f_t_5_7, oX2 (p_t 6) p_t_6 o_t_6, aI g (p_t_6 6) 7 f_t_6_6, aI g (p_t_6 7) 7 f_t_6_7, aI g (p_t_6 8) 7 f_t_6_8, oX3 (p_t 7) p_t_7 o_t_7, oX9 a_t p_t u_2, oX1 (p_t 1) p_t_1 o_t_1] H := hP
        have hD : va_D A [aI g (p_t_1 4) 7 f_t_1_4, aI g (p_t_1 6) 7 f_t_1_6, aI g (p_t_1 7) 7 (upd (upd f_t_1_7 (x1).toNatClampNeg (-2 : Int32)) ((f_t_1_7 (x1).toNatClampNeg)).toNatClampNeg (-2 : Int32)), aI g (p_t_1 10) 8 f_t_1_10, aI g (p_t_1 11) 8 f_t_1_11, aI g (p_t_1 12) 8 f_t_1_12, oX2 (p_t 5) p_t_5 o_t_5, aI g (p_t_5 6) 7 f_t_5_6, aI g (p_t_5 7) 7 f_t_5_7, oX2 (p_t 6) p_t_6 o_t_6, aI g (p_t_6 6) 7 f_t_6_6, aI g (p_t_6 7) 7 f_t_6_7, aI g (p_t_6 8) 7 f_t_6_8, oX3 (p_t 7) p_t_7 o_t_7, oX9 a_t p_t u_2, oX1 (p_t 1) p_t_1 o_t_1] := hD
        refine lv_aload_n hx hb dX9_apart_63 rfl (lv_at hl 1 rfl) ?_
        obtain ⟨u_13, u_14, u_15, u_16, u_17, u_18, hu_19, hF⟩ := ob6_some hF
        refine call_i (wr := []) (As := []) (rest := []) (ci := 9) (q0 := 0) C0 (mX9_endsAsIs l g a_t p_t p_t_1 p_t_5 p_t_6 p_t_7 n u_2 o_t_1 f_t_1_4 f_t_1_6 (upd (upd f_t_1_7 (x1).toNatClampNeg (-2 : Int32)) ((f_t_1_7 (x1).toNatClampNeg)).toNatClampNeg (-2 : Int32)) f_t_1_10 f_t_1_11 f_t_1_12 o_t_5 f_t_5_6 f_t_5_7 o_t_6 f_t_6_6 f_t_6_7 f_t_6_8 o_t_7 u_13 u_14 u_15 u_16 u_17 u_18 hu_19) (cwV 0 hts gX9_apart_X9_endsAsIs rfl rfl rfl (by decide +kernel) ⟨Nat.le_of_ble_eq_true rfl, Nat.le_of_ble_eq_true rfl⟩) hP hD hS [14, 15, 0, 1, 2, 3, 4, 5, 6, 7, 8, 9, 10, 11, 12, 13] [] rfl rfl rfl rfl rfl (by decide) rfl rfl hl.1 rfl rfl (Nat.le_of_ble_eq_true rfl) ⟨Nat.zero_le _, Nat.zero_le _⟩ dX9_apart_64 ?_
        intro H locs hP hD hS
        refine lv_istore_n (lv' := [(3, .int u_13), (2, .int (f_t_1_7 (x1).toNatClampNeg)), (0, .ref a_t), (1, .int x1)]) hx hb dX9_apart_67 rfl hl (by decide) rfl (fun ls hl => ?_)
        refine lv_aload_n hx hb dX9_apart_68 rfl (lv_at hl 2 rfl) ?_
        refine va_get (D := g.1) (ci := 9) (v := .ref (p_t 1)) (C := RX9) (T := TX9) (N := 15) hx hb hts iX9_apart_X9 hown hK.1 hP 0 rfl rfl 1 (by decide) (hts _ kX9_apart_19) (fun _ h9 => h9) rfl dX9_apart_69 ?_
        refine va_get (D := g.1) (ci := 1) (v := .ref (p_t_1 7)) (C := RX1) (T := TX1) (N := 17) hx hb hts iX9_apart_X1 hown hK.1 hP 1 rfl rfl 7 (by decide) (hts _ kX9_apart_139) (fun _ h9 => h9) rfl dX9_apart_72 ?_
        refine lv_iload_n hx hb dX9_apart_75 rfl (lv_at hl 3 rfl) ?_
        refine lv_iload_n hx hb dX9_apart_76 rfl (lv_at hl 1 rfl) ?_
        obtain ⟨h_20, hF⟩ := it_ck hF
        refine va_iast hx hb hK.1 hP hD hS 4 0 rfl rfl h_20 dX9_apart_77 (fun H locs hP hD hS => ?_)
        have hP : va_P g.1 vwCl [oX9 a_t p_t u_2, oX1 (p_t 1) p_t_1 o_t_1, aI g (p_t_1 4) 7 f_t_1_4, aI g (p_t_1 6) 7 f_t_1_6, aI g (p_t_1 7) 7 (upd (upd (upd f_t_1_7 (x1).toNatClampNeg (-2 : Int32)) ((f_t_1_7 (x1).toNatClampNeg)).toNatClampNeg (-2 : Int32)) (x1).toNatClampNeg (f_t_1_7 (x1).toNatClampNeg)), aI g (p_t_1 10) 8 f_t_1_10, aI g (p_t_1 11) 8 f_t_1_11, aI g (p_t_1 12) 8 f_t_1_12, oX2 (p_t 5) p_t_5 o_t_5, aI g (p_t_5 6) 7 f_t_5_6, aI g (p_t_5 7) 7 f_t_5_7, oX2 (p_t 6) p_t_6 u_14, aI g (p_t_6 6) 7 u_15, aI g (p_t_6 7) 7 u_16, aI g (p_t_6 8) 7 u_17, oX3 (p_t 7) p_t_7 u_18] H := hP
        have hD : va_D A [oX9 a_t p_t u_2, oX1 (p_t 1) p_t_1 o_t_1, aI g (p_t_1 4) 7 f_t_1_4, aI g (p_t_1 6) 7 f_t_1_6, aI g (p_t_1 7) 7 (upd (upd (upd f_t_1_7 (x1).toNatClampNeg (-2 : Int32)) ((f_t_1_7 (x1).toNatClampNeg)).toNatClampNeg (-2 : Int32)) (x1).toNatClampNeg (f_t_1_7 (x1).toNatClampNeg)), aI g (p_t_1 10) 8 f_t_1_10, aI g (p_t_1 11) 8 f_t_1_11, aI g (p_t_1 12) 8 f_t_1_12, oX2 (p_t 5) p_t_5 o_t_5, aI g (p_t_5 6) 7 f_t_5_6, aI g (p_t_5 7) 7 f_t_5_7, oX2 (p_t 6) p_t_6 u_14, aI g (p_t_6 6) 7 u_15, aI g (p_t_6 7) 7 u_16, aI g (p_t_6 8) 7 u_17, oX3 (p_t 7) p_t_7 u_18] := hD
        refine lv_aload_n hx hb dX9_apart_78 rfl (lv_at hl 2 rfl) ?_
        refine va_get (D := g.1) (ci := 9) (v := .ref (p_t 1)) (C := RX9) (T := TX9) (N := 15) hx hb hts iX9_apart_X9 hown hK.1 hP 0 rfl rfl 1 (by decide) (hts _ kX9_apart_19) (fun _ h9 => h9) rfl dX9_apart_79 ?_
        refine va_get (D := g.1) (ci := 1) (v := .ref (p_t_1 7)) (C := RX1) (T := TX1) (N := 17) hx hb hts iX9_apart_X1 hown hK.1 hP 1 rfl rfl 7 (by decide) (hts _ kX9_apart_139) (fun _ h9 => h9) rfl dX9_apart_82 ?_
        refine lv_iload_n hx hb dX9_apart_85 rfl (lv_at hl 1 rfl) ?_
        refine lv_iload_n hx hb dX9_apart_86 rfl (lv_at hl 3 rfl) ?_
        obtain ⟨h_21, hF⟩ := it_ck hF
        refine va_iast hx hb hK.1 hP hD hS 4 0 rfl rfl h_21 dX9_apart_87 (fun H locs hP hD hS => ?_)
        have hP : va_P g.1 vwCl [oX9 a_t p_t u_2, oX1 (p_t 1) p_t_1 o_t_1, aI g (p_t_1 4) 7 f_t_1_4, aI g (p_t_1 6) 7 f_t_1_6, aI g (p_t_1 7) 7 (upd (upd (upd (upd f_t_1_7 (x1).toNatClampNeg (-2 : Int32)) ((f_t_1_7 (x1).toNatClampNeg)).toNatClampNeg (-2 : Int32)) (x1).toNatClampNeg (f_t_1_7 (x1).toNatClampNeg)) ((f_t_1_7 (x1).toNatClampNeg)).toNatClampNeg x1), aI g (p_t_1 10) 8 f_t_1_10, aI g (p_t_1 11) 8 f_t_1_11, aI g (p_t_1 12) 8 f_t_1_12, oX2 (p_t 5) p_t_5 o_t_5, aI g (p_t_5 6) 7 f_t_5_6, aI g (p_t_5 7) 7 f_t_5_7, oX2 (p_t 6) p_t_6 u_14, aI g (p_t_6 6) 7 u_15, aI g (p_t_6 7) 7 u_16, aI g (p_t_6 8) 7 u_17, oX3 (p_t 7) p_t_7 u_18] H := hP
        have hD : va_D A [oX9 a_t p_t u_2, oX1 (p_t 1) p_t_1 o_t_1, aI g (p_t_1 4) 7 f_t_1_4, aI g (p_t_1 6) 7 f_t_1_6, aI g (p_t_1 7) 7 (upd (upd (upd (upd f_t_1_7 (x1).toNatClampNeg (-2 : Int32)) ((f_t_1_7 (x1).toNatClampNeg)).toNatClampNeg (-2 : Int32)) (x1).toNatClampNeg (f_t_1_7 (x1).toNatClampNeg)) ((f_t_1_7 (x1).toNatClampNeg)).toNatClampNeg x1), aI g (p_t_1 10) 8 f_t_1_10, aI g (p_t_1 11) 8 f_t_1_11, aI g (p_t_1 12) 8 f_t_1_12, oX2 (p_t 5) p_t_5 o_t_5, aI g (p_t_5 6) 7 f_t_5_6, aI g (p_t_5 7) 7 f_t_5_7, oX2 (p_t 6) p_t_6 u_14, aI g (p_t_6 6) 7 u_15, aI g (p_t_6 7) 7 u_16, aI g (p_t_6 8) 7 u_17, oX3 (p_t 7) p_t_7 u_18] := hD
        refine lv_iload_n hx hb dX9_apart_88 rfl (lv_at hl 0 rfl) ?_
        obtain ⟨u_22, hu_23, hF⟩ := ob1_some hF
        refine call_si (wr := [oX9 a_t p_t u_2, oX1 (p_t 1) p_t_1 o_t_1, aI g (p_t_1 4) 7 f_t_1_4, aI g (p_t_1 6) 7 f_t_1_6, aI g (p_t_1 7) 7 (upd (upd (upd (upd f_t_1_7 (x1).toNatClampNeg (-2 : Int32)) ((f_t_1_7 (x1).toNatClampNeg)).toNatClampNeg (-2 : Int32)) (x1).toNatClampNeg (f_t_1_7 (x1).toNatClampNeg)) ((f_t_1_7 (x1).toNatClampNeg)).toNatClampNeg x1), aI g (p_t_1 10) 8 f_t_1_10, aI g (p_t_1 11) 8 f_t_1_11, aI g (p_t_1 12) 8 f_t_1_12, oX2 (p_t 5) p_t_5 o_t_5, aI g (p_t_5 6) 7 f_t_5_6, aI g (p_t_5 7) 7 f_t_5_7, oX2 (p_t 6) p_t_6 u_14, aI g (p_t_6 6) 7 u_15, aI g (p_t_6 7) 7 u_16, aI g (p_t_6 8) 7 u_17, oX3 (p_t 7) p_t_7 u_18]) (As := [.int u_13]) (rest := []) C0 (mX9_orNot l g n u_13 u_22 hu_23) (va_cwS 1 hts gX9_apart_X9_orNot rfl rfl rfl (by decide +kernel) ⟨Nat.le_of_ble_eq_true rfl, Nat.le_of_ble_eq_true rfl⟩) hP hD hS [] [0, 1, 2, 3, 4, 5, 6, 7, 8, 9, 10, 11, 12, 13, 14, 15] rfl rfl rfl rfl rfl (by decide) hl.1 rfl rfl (Nat.le_of_ble_eq_true rfl) ⟨Nat.zero_le _, Nat.zero_le _⟩ dX9_apart_89 ?_
        intro H locs hP hD hS
        cases hF
        exact ret_i C0 hP hD hS [0, 1, 2, 3, 4, 5, 6, 7, 8, 9, 10, 11, 12, 13, 14, 15] rfl rfl rfl dX9_apart_92 rfl
      · have hF := it_n c_10 hF
        refine lv_aload_n hx hb dX9_apart_35 rfl (lv_at hl 1 rfl) ?_
        refine lv_iconst (v := (5 : Int32)) hx hb dX9_apart_36 (by decide) ?_
        obtain ⟨u_24, u_25, hu_26, hF⟩ := ob2_some hF
        refine call_i (wr := [aI g (p_t_1 4) 7 f_t_1_4, aI g (p_t_1 6) 7 f_t_1_6, aI g (p_t_1 7) 7 f_t_1_7, aI g (p_t_1 10) 8 f_t_1_10, aI g (p_t_1 11) 8 f_t_1_11, aI g (p_t_1 12) 8 f_t_1_12, oX2 (p_t 5) p_t_5 o_t_5, aI g (p_t_5 6) 7 f_t_5_6, aI g (p_t_5 7) 7 f_t_5_7, oX2 (p_t 6) p_t_6 o_t_6, aI g (p_t_6 6) 7 f_t_6_6, aI g (p_t_6 7) 7 f_t_6_7, aI g (p_t_6 8) 7 f_t_6_8, oX3 (p_t 7) p_t_7 o_t_7, oX1 (p_t 1) p_t_1 o_t_1]) (As := [.int (5 : Int32)]) (rest := []) (ci := 9) (q0 := 0) C0 (mX9_refuse l g a_t p_t n (5 : Int32) u_2 u_24 u_25 hu_26) (cwV 1 hts gX9_apart_X9_refuse rfl rfl rfl (by decide +kernel) ⟨Nat.le_of_ble_eq_true rfl, Nat.le_of_ble_eq_true rfl⟩) hP hD hS [14] [0, 1, 2, 3, 4, 5, 6, 7, 8, 9, 10, 11, 12, 13, 15] rfl rfl rfl rfl rfl (by decide) rfl rfl hl.1 rfl rfl (Nat.le_of_ble_eq_true rfl) ⟨Nat.zero_le _, Nat.zero_le _⟩ dX9_apart_37 ?_
        intro H locs hP hD hS
        cases hF
        exact ret_i C0 hP hD hS [15, 14, 0, 1, 2, 3, 4, 5, 6, 7, 8, 9, 10, 11, 12, 13] rfl rfl rfl dX9_apart_40 rfl
  · have hF := it_p c_4 hF
    refine lv_iconst (v := (-1 : Int32)) hx hb dX9_apart_8 (by decide) ?_
    cases hF
    exact ret_i C0 hP hD hS [14, 15, 0, 1, 2, 3, 4, 5, 6, 7, 8, 9, 10, 11, 12, 13] rfl rfl rfl dX9_apart_9 rfl

theorem dAX9_rounds : ∀ q ∈ ([(0, (.aload_n 0, 1)), (1, (.invokevirtual 153, 3)), (4, (.ifCond .ne 5, 3)), (7, (.iconst (-1), 1)), (8, (.ireturn, 1)), (9, (.aload_n 0, 1)), (10, (.getfield 41, 3)), (13, (.aload_n 0, 1)), (14, (.getfield 37, 3)), (17, (.invokevirtual 160, 3)), (20, (.aload_n 0, 1)), (21, (.getfield 41, 3)), (24, (.aload_n 0, 1)), (25, (.getfield 19, 3)), (28, (.aload_n 0, 1)), (29, (.getfield 49, 3)), (32, (.invokevirtual 164, 3)), (35, (.pop, 1)), (36, (.aload_n 0, 1)), (37, (.getfield 41, 3)), (40, (.getfield 209, 3)), (43, (.ireturn, 1))] : List (Nat × (Instr × Nat))), decode cX9_rounds q.1 = .ok q.2 := by decide +kernel
theorem dX9_rounds_0 : decode cX9_rounds 0 = .ok (.aload_n 0, 1) := dAX9_rounds (0, (.aload_n 0, 1)) (List.mem_of_getElem? (i := 0) rfl)
theorem dX9_rounds_1 : decode cX9_rounds 1 = .ok (.invokevirtual 153, 3) := dAX9_rounds (1, (.invokevirtual 153, 3)) (List.mem_of_getElem? (i := 1) rfl)
theorem dX9_rounds_4 : decode cX9_rounds 4 = .ok (.ifCond .ne 5, 3) := dAX9_rounds (4, (.ifCond .ne 5, 3)) (List.mem_of_getElem? (i := 2) rfl)
theorem dX9_rounds_7 : decode cX9_rounds 7 = .ok (.iconst (-1), 1) := dAX9_rounds (7, (.iconst (-1), 1)) (List.mem_of_getElem? (i := 3) rfl)
theorem dX9_rounds_8 : decode cX9_rounds 8 = .ok (.ireturn, 1) := dAX9_rounds (8, (.ireturn, 1)) (List.mem_of_getElem? (i := 4) rfl)
theorem dX9_rounds_9 : decode cX9_rounds 9 = .ok (.aload_n 0, 1) := dAX9_rounds (9, (.aload_n 0, 1)) (List.mem_of_getElem? (i := 5) rfl)
theorem dX9_rounds_10 : decode cX9_rounds 10 = .ok (.getfield 41, 3) := dAX9_rounds (10, (.getfield 41, 3)) (List.mem_of_getElem? (i := 6) rfl)
theorem dX9_rounds_13 : decode cX9_rounds 13 = .ok (.aload_n 0, 1) := dAX9_rounds (13, (.aload_n 0, 1)) (List.mem_of_getElem? (i := 7) rfl)
theorem dX9_rounds_14 : decode cX9_rounds 14 = .ok (.getfield 37, 3) := dAX9_rounds (14, (.getfield 37, 3)) (List.mem_of_getElem? (i := 8) rfl)
theorem dX9_rounds_17 : decode cX9_rounds 17 = .ok (.invokevirtual 160, 3) := dAX9_rounds (17, (.invokevirtual 160, 3)) (List.mem_of_getElem? (i := 9) rfl)
theorem dX9_rounds_20 : decode cX9_rounds 20 = .ok (.aload_n 0, 1) := dAX9_rounds (20, (.aload_n 0, 1)) (List.mem_of_getElem? (i := 10) rfl)
theorem dX9_rounds_21 : decode cX9_rounds 21 = .ok (.getfield 41, 3) := dAX9_rounds (21, (.getfield 41, 3)) (List.mem_of_getElem? (i := 11) rfl)
theorem dX9_rounds_24 : decode cX9_rounds 24 = .ok (.aload_n 0, 1) := dAX9_rounds (24, (.aload_n 0, 1)) (List.mem_of_getElem? (i := 12) rfl)
theorem dX9_rounds_25 : decode cX9_rounds 25 = .ok (.getfield 19, 3) := dAX9_rounds (25, (.getfield 19, 3)) (List.mem_of_getElem? (i := 13) rfl)
theorem dX9_rounds_28 : decode cX9_rounds 28 = .ok (.aload_n 0, 1) := dAX9_rounds (28, (.aload_n 0, 1)) (List.mem_of_getElem? (i := 14) rfl)
theorem dX9_rounds_29 : decode cX9_rounds 29 = .ok (.getfield 49, 3) := dAX9_rounds (29, (.getfield 49, 3)) (List.mem_of_getElem? (i := 15) rfl)
theorem dX9_rounds_32 : decode cX9_rounds 32 = .ok (.invokevirtual 164, 3) := dAX9_rounds (32, (.invokevirtual 164, 3)) (List.mem_of_getElem? (i := 16) rfl)
theorem dX9_rounds_35 : decode cX9_rounds 35 = .ok (.pop, 1) := dAX9_rounds (35, (.pop, 1)) (List.mem_of_getElem? (i := 17) rfl)
theorem dX9_rounds_36 : decode cX9_rounds 36 = .ok (.aload_n 0, 1) := dAX9_rounds (36, (.aload_n 0, 1)) (List.mem_of_getElem? (i := 18) rfl)
theorem dX9_rounds_37 : decode cX9_rounds 37 = .ok (.getfield 41, 3) := dAX9_rounds (37, (.getfield 41, 3)) (List.mem_of_getElem? (i := 19) rfl)
theorem dX9_rounds_40 : decode cX9_rounds 40 = .ok (.getfield 209, 3) := dAX9_rounds (40, (.getfield 209, 3)) (List.mem_of_getElem? (i := 20) rfl)
theorem dX9_rounds_43 : decode cX9_rounds 43 = .ok (.ireturn, 1) := dAX9_rounds (43, (.ireturn, 1)) (List.mem_of_getElem? (i := 21) rfl)
set_option maxRecDepth 20000 in
theorem ggX9_rounds_X9_asked : GoodIn wsX9_rounds wsX9_asked := goodIn_r _ [10, 11, 12, 71, 72, 73, 74, 75, 76, 77, 78, 79, 80, 81, 82, 83, 84, 85] rfl (by decide +kernel)
set_option maxRecDepth 20000 in
theorem gX9_rounds_X9_asked : GoodIn wsX9_rounds (wsV RX9 153 RX9 yX9_asked wsX9_asked) := goodIn_app (goodIn_of _ (by decide +kernel)) ggX9_rounds_X9_asked
set_option maxRecDepth 20000 in
theorem ggX9_rounds_X2_become : GoodIn wsX9_rounds wsX2_become := goodIn_r _ [17, 18, 19, 20, 21, 22, 23, 24, 25, 26, 27, 86, 87, 88, 89, 90, 91, 92, 93, 94] rfl (by decide +kernel)
set_option maxRecDepth 20000 in
theorem gX9_rounds_X2_become : GoodIn wsX9_rounds (wsV RX9 160 RX2 yX2_become wsX2_become) := goodIn_app (goodIn_of _ (by decide +kernel)) ggX9_rounds_X2_become
set_option maxRecDepth 20000 in
theorem ggX9_rounds_X2_pass : GoodIn wsX9_rounds wsX2_pass := goodIn_r _ [31, 18, 32, 33, 34, 16, 35, 36, 37, 19, 22, 38, 39, 40, 41, 42, 43, 44, 45, 46, 47, 48, 49, 50, 51, 52, 53, 54, 55, 56, 57, 58, 59, 60, 61, 62, 63, 64, 65, 66, 67, 68, 27, 69, 70, 86, 87, 88, 89, 90, 91, 92, 93, 94, 95, 96, 97, 98, 99, 100, 101, 102, 103, 104, 105, 106, 107, 108, 109, 110, 111, 112, 113] rfl (by decide +kernel)
set_option maxRecDepth 20000 in
theorem gX9_rounds_X2_pass : GoodIn wsX9_rounds (wsV RX9 164 RX2 yX2_pass wsX2_pass) := goodIn_app (goodIn_of _ (by decide +kernel)) ggX9_rounds_X2_pass
theorem kX9_rounds_41 : Cond.fieldLink RX9 41 "EveningVow" "trial" "LEveningVow$Night;" ∈ wsX9_rounds := List.mem_of_getElem? (i := 1) rfl
theorem iX9_rounds_X9 : ∀ w ∈ u_ws RX9 TX9 15, w ∈ wsX9_rounds := fun w h => (List.mem_cons_of_mem _ (List.mem_append_left _ (List.mem_append_left _ (List.mem_append_left _ (List.mem_append_right _ h)))))
theorem kX9_rounds_37 : Cond.fieldLink RX9 37 "EveningVow" "now" "LEveningVow$Night;" ∈ wsX9_rounds := List.mem_of_getElem? (i := 2) rfl
theorem kX9_rounds_19 : Cond.fieldLink RX9 19 "EveningVow" "told" "LEveningVow$House;" ∈ wsX9_rounds := List.mem_of_getElem? (i := 3) rfl
theorem kX9_rounds_49 : Cond.fieldLink RX9 49 "EveningVow" "asTold" "LEveningVow$Pace;" ∈ wsX9_rounds := List.mem_of_getElem? (i := 4) rfl
theorem kX9_rounds_209 : Cond.fieldLink RX9 209 "EveningVow$Night" "roundsRun" "I" ∈ wsX9_rounds := List.mem_of_getElem? (i := 5) rfl
theorem iX9_rounds_X2 : ∀ w ∈ u_ws RX2 TX2 9, w ∈ wsX9_rounds := fun w h => (List.mem_cons_of_mem _ (List.mem_append_left _ (List.mem_append_left _ (List.mem_append_right _ h))))
set_option maxHeartbeats 4000000 in
set_option maxRecDepth 100000 in
theorem mX9_rounds (l : Launch) (g : GG) (a_t : Nat) (p_t : Nat → Nat) (p_t_1 : Nat → Nat) (p_t_5 : Nat → Nat) (p_t_6 : Nat → Nat) (p_t_7 : Nat → Nat) (n : Nat) (o_t : Nat → Int32) (o_t_1 : Nat → Int32) (f_t_1_4 : Nat → Int32) (f_t_1_6 : Nat → Int32) (f_t_1_7 : Nat → Int32) (f_t_1_10 : Nat → Int32) (f_t_1_11 : Nat → Int32) (f_t_1_12 : Nat → Int32) (o_t_5 : Nat → Int32) (f_t_5_6 : Nat → Int32) (f_t_5_7 : Nat → Int32) (o_t_6 : Nat → Int32) (f_t_6_6 : Nat → Int32) (f_t_6_7 : Nat → Int32) (f_t_6_8 : Nat → Int32) (o_t_7 : Nat → Int32) (r : Int32) (o_t' : Nat → Int32) (o_t_6' : Nat → Int32) (f_t_6_6' : Nat → Int32) (f_t_6_7' : Nat → Int32) (f_t_6_8' : Nat → Int32) (o_t_7' : Nat → Int32) (hF : fX9_rounds n o_t o_t_1 f_t_1_4 f_t_1_6 f_t_1_7 f_t_1_10 f_t_1_11 f_t_1_12 o_t_5 f_t_5_6 f_t_5_7 o_t_6 f_t_6_6 f_t_6_7 f_t_6_8 o_t_7 = some (r, o_t', o_t_6', f_t_6_6', f_t_6_7', f_t_6_8', o_t_7')) : MI l g yX9_rounds wsX9_rounds ({ frames := 3, cells := 0, slots := 0, locals := 81 } : Room) [.ref a_t] [oX9 a_t p_t o_t, oX1 (p_t 1) p_t_1 o_t_1, aI g (p_t_1 4) 7 f_t_1_4, aI g (p_t_1 6) 7 f_t_1_6, aI g (p_t_1 7) 7 f_t_1_7, aI g (p_t_1 10) 8 f_t_1_10, aI g (p_t_1 11) 8 f_t_1_11, aI g (p_t_1 12) 8 f_t_1_12, oX2 (p_t 5) p_t_5 o_t_5, aI g (p_t_5 6) 7 f_t_5_6, aI g (p_t_5 7) 7 f_t_5_7, oX2 (p_t 6) p_t_6 o_t_6, aI g (p_t_6 6) 7 f_t_6_6, aI g (p_t_6 7) 7 f_t_6_7, aI g (p_t_6 8) 7 f_t_6_8, oX3 (p_t 7) p_t_7 o_t_7] r [oX9 a_t p_t o_t', oX1 (p_t 1) p_t_1 o_t_1, aI g (p_t_1 4) 7 f_t_1_4, aI g (p_t_1 6) 7 f_t_1_6, aI g (p_t_1 7) 7 f_t_1_7, aI g (p_t_1 10) 8 f_t_1_10, aI g (p_t_1 11) 8 f_t_1_11, aI g (p_t_1 12) 8 f_t_1_12, oX2 (p_t 5) p_t_5 o_t_5, aI g (p_t_5 6) 7 f_t_5_6, aI g (p_t_5 7) 7 f_t_5_7, oX2 (p_t 6) p_t_6 o_t_6', aI g (p_t_6 6) 7 f_t_6_6', aI g (p_t_6 7) 7 f_t_6_7', aI g (p_t_6 8) 7 f_t_6_8', oX3 (p_t 7) p_t_7 o_t_7'] := by
  refine MI.of (cc := cX9_rounds) (maxL := 1) (rt := .int) (own := RX9) rfl rfl (by decide) (Nat.le_of_ble_eq_true rfl) ?_
  intro p e s m args below meth c A C0 hP hD hS ls hl
  obtain ⟨hx, hb, hml, hown, hts, hr, hlk, hK, hA, hSW⟩ := id C0
  have hl : lv_has ls 1 [(0, .ref a_t)] := hl
  rw [fX9_rounds] at hF
  refine lv_aload_n hx hb dX9_rounds_0 rfl (lv_at hl 0 rfl) ?_
  obtain ⟨u_1, u_2, hu_3, hF⟩ := ob2_some hF
  refine call_i (wr := [oX1 (p_t 1) p_t_1 o_t_1, aI g (p_t_1 4) 7 f_t_1_4, aI g (p_t_1 6) 7 f_t_1_6, aI g (p_t_1 7) 7 f_t_1_7, aI g (p_t_1 10) 8 f_t_1_10, aI g (p_t_1 11) 8 f_t_1_11, aI g (p_t_1 12) 8 f_t_1_12, oX2 (p_t 5) p_t_5 o_t_5, aI g (p_t_5 6) 7 f_t_5_6, aI g (p_t_5 7) 7 f_t_5_7, oX2 (p_t 6) p_t_6 o_t_6, aI g (p_t_6 6) 7 f_t_6_6, aI g (p_t_6 7) 7 f_t_6_7, aI g (p_t_6 8) 7 f_t_6_8, oX3 (p_t 7) p_t_7 o_t_7]) (As := []) (rest := []) (ci := 9) (q0 := 0) C0 (mX9_asked l g a_t p_t n o_t u_1 u_2 hu_3) (cwV 0 hts gX9_rounds_X9_asked rfl rfl rfl (by decide +kernel) ⟨Nat.le_of_ble_eq_true rfl, Nat.le_of_ble_eq_true rfl⟩) hP hD hS [0] [1, 2, 3, 4, 5, 6, 7, 8, 9, 10, 11, 12, 13, 14, 15] rfl rfl rfl rfl rfl (by decide) rfl rfl hl.1 rfl rfl (Nat.le_of_ble_eq_true rfl) ⟨Nat.zero_le _, Nat.zero_le _⟩ dX9_rounds_1 ?_
  intro H locs hP hD hS
  refine lv_if_ne (tgt := 9) hx hb dX9_rounds_4 (by decide) (fun c_4 => ?_) (fun c_4 => ?_)
  · have hF := it_n c_4 hF
    refine lv_aload_n hx hb dX9_rounds_9 rfl (lv_at hl 0 rfl) ?_
    refine va_get (D := g.1) (ci := 9) (v := .ref (p_t 6)) (C := RX9) (T := TX9) (N := 15) hx hb hts iX9_rounds_X9 hown hK.1 hP 15 rfl rfl 6 (by decide) (hts _ kX9_rounds_41) (fun _ h9 => h9) rfl dX9_rounds_10 ?_
    refine lv_aload_n hx hb dX9_rounds_13 rfl (lv_at hl 0 rfl) ?_
    refine va_get (D := g.1) (ci := 9) (v := .ref (p_t 5)) (C := RX9) (T := TX9) (N := 15) hx hb hts iX9_rounds_X9 hown hK.1 hP 15 rfl rfl 5 (by decide) (hts _ kX9_rounds_37) (fun _ h9 => h9) rfl dX9_rounds_14 ?_
    obtain ⟨u_5, u_6, u_7, hu_8, hF⟩ := ob3_some hF
    refine call_v (wr := [oX1 (p_t 1) p_t_1 o_t_1, aI g (p_t_1 4) 7 f_t_1_4, aI g (p_t_1 6) 7 f_t_1_6, aI g (p_t_1 7) 7 f_t_1_7, aI g (p_t_1 10) 8 f_t_1_10, aI g (p_t_1 11) 8 f_t_1_11, aI g (p_t_1 12) 8 f_t_1_12, aI g (p_t_6 8) 7 f_t_6_8, oX3 (p_t 7) p_t_7 o_t_7, oX9 a_t p_t u_2]) (As := [.ref (p_t 5)]) (rest := []) (ci := 2) (q0 := 0) C0 (mX2_become l g (p_t 6) (p_t 5) p_t_6 p_t_5 n o_t_6 f_t_6_6 f_t_6_7 o_t_5 f_t_5_6 f_t_5_7 u_5 u_6 u_7 hu_8) (cwV 1 hts gX9_rounds_X2_become rfl rfl rfl (by decide +kernel) ⟨Nat.le_of_ble_eq_true rfl, Nat.le_of_ble_eq_true rfl⟩) hP hD hS [10, 11, 12, 7, 8, 9] [0, 1, 2, 3, 4, 5, 6, 13, 14, 15] rfl rfl rfl rfl rfl (by decide) rfl rfl hl.1 rfl rfl (Nat.le_of_ble_eq_true rfl) ⟨Nat.zero_le _, Nat.zero_le _⟩ dX9_rounds_17 ?_
    intro H locs hP hD hS
    refine lv_aload_n hx hb dX9_rounds_20 rfl (lv_at hl 0 rfl) ?_
    refine va_get (D := g.1) (ci := 9) (v := .ref (p_t 6)) (C := RX9) (T := TX9) (N := 15) hx hb hts iX9_rounds_X9 hown hK.1 hP 9 rfl rfl 6 (by decide) (hts _ kX9_rounds_41) (fun _ h9 => h9) rfl dX9_rounds_21 ?_
    refine lv_aload_n hx hb dX9_rounds_24 rfl (lv_at hl 0 rfl) ?_
    refine va_get (D := g.1) (ci := 9) (v := .ref (p_t 1)) (C := RX9) (T := TX9) (N := 15) hx hb hts iX9_rounds_X9 hown hK.1 hP 9 rfl rfl 1 (by decide) (hts _ kX9_rounds_19) (fun _ h9 => h9) rfl dX9_rounds_25 ?_
    refine lv_aload_n hx hb dX9_rounds_28 rfl (lv_at hl 0 rfl) ?_
    refine va_get (D := g.1) (ci := 9) (v := .ref (p_t 7)) (C := RX9) (T := TX9) (N := 15) hx hb hts iX9_rounds_X9 hown hK.1 hP 9 rfl rfl 7 (by decide) (hts _ kX9_rounds_49) (fun _ h9 => h9) rfl dX9_rounds_29 ?_
    obtain ⟨u_9, u_10, u_11, u_12, u_13, u_14, hu_15, hF⟩ := ob6_some hF
    refine call_i (wr := [oX9 a_t p_t u_2, oX2 (p_t 5) p_t_5 o_t_5, aI g (p_t_5 6) 7 f_t_5_6, aI g (p_t_5 7) 7 f_t_5_7]) (As := [.ref (p_t 1), .ref (p_t 7)]) (rest := []) (ci := 2) (q0 := 0) C0 (mX2_pass l g (p_t 6) (p_t 1) (p_t 7) p_t_6 p_t_1 p_t_7 n u_5 u_6 u_7 f_t_6_8 o_t_1 f_t_1_4 f_t_1_6 f_t_1_7 f_t_1_10 f_t_1_11 f_t_1_12 o_t_7 u_9 u_10 u_11 u_12 u_13 u_14 hu_15) (cwV 2 hts gX9_rounds_X2_pass rfl rfl rfl (by decide +kernel) ⟨Nat.le_of_ble_eq_true rfl, Nat.le_of_ble_eq_true rfl⟩) hP hD hS [10, 11, 12, 7, 0, 1, 2, 3, 4, 5, 6, 8] [9, 13, 14, 15] rfl rfl rfl rfl rfl (by decide) rfl rfl hl.1 rfl rfl (Nat.le_of_ble_eq_true rfl) ⟨Nat.zero_le _, Nat.zero_le _⟩ dX9_rounds_32 ?_
    intro H locs hP hD hS
    refine lv_pop hx hb dX9_rounds_35 rfl ?_
    refine lv_aload_n hx hb dX9_rounds_36 rfl (lv_at hl 0 rfl) ?_
    refine va_get (D := g.1) (ci := 9) (v := .ref (p_t 6)) (C := RX9) (T := TX9) (N := 15) hx hb hts iX9_rounds_X9 hown hK.1 hP 0 rfl rfl 6 (by decide) (hts _ kX9_rounds_41) (fun _ h9 => h9) rfl dX9_rounds_37 ?_
    refine va_get (D := g.1) (ci := 2) (v := .int (u_10 4)) (C := RX2) (T := TX2) (N := 9) hx hb hts iX9_rounds_X2 hown hK.1 hP 4 rfl rfl 4 (by decide) (hts _ kX9_rounds_209) (fun _ h9 => h9) rfl dX9_rounds_40 ?_
    cases hF
    exact ret_i C0 hP hD hS [0, 8, 9, 10, 11, 12, 13, 14, 1, 2, 3, 4, 5, 6, 7, 15] rfl rfl rfl dX9_rounds_43 rfl
  · have hF := it_p c_4 hF
    refine lv_iconst (v := (-1 : Int32)) hx hb dX9_rounds_7 (by decide) ?_
    cases hF
    exact ret_i C0 hP hD hS [15, 0, 1, 2, 3, 4, 5, 6, 7, 8, 9, 10, 11, 12, 13, 14] rfl rfl rfl dX9_rounds_8 rfl

theorem dAX9_byGrief : ∀ q ∈ ([(0, (.aload_n 0, 1)), (1, (.invokevirtual 153, 3)), (4, (.ifCond .eq 14, 3)), (7, (.aload_n 0, 1)), (8, (.iload_n 1, 1)), (9, (.iconst 0, 1)), (10, (.bipush 40, 2)), (12, (.invokevirtual 168, 3)), (15, (.ifCond .ne 5, 3)), (18, (.iconst (-1), 1)), (19, (.ireturn, 1)), (20, (.aload_n 0, 1)), (21, (.getfield 19, 3)), (24, (.getfield 212, 3)), (27, (.istore_n 2, 1)), (28, (.aload_n 0, 1)), (29, (.getfield 19, 3)), (32, (.iload_n 1, 1)), (33, (.putfield 212, 3)), (36, (.aload_n 0, 1)), (37, (.invokevirtual 193, 3)), (40, (.istore_n 3, 1)), (41, (.aload_n 0, 1)), (42, (.getfield 19, 3)), (45, (.iload_n 2, 1)), (46, (.putfield 212, 3)), (49, (.iload_n 3, 1)), (50, (.invokestatic 197, 3)), (53, (.ireturn, 1))] : List (Nat × (Instr × Nat))), decode cX9_byGrief q.1 = .ok q.2 := by decide +kernel
theorem dX9_byGrief_0 : decode cX9_byGrief 0 = .ok (.aload_n 0, 1) := dAX9_byGrief (0, (.aload_n 0, 1)) (List.mem_of_getElem? (i := 0) rfl)
theorem dX9_byGrief_1 : decode cX9_byGrief 1 = .ok (.invokevirtual 153, 3) := dAX9_byGrief (1, (.invokevirtual 153, 3)) (List.mem_of_getElem? (i := 1) rfl)
theorem dX9_byGrief_4 : decode cX9_byGrief 4 = .ok (.ifCond .eq 14, 3) := dAX9_byGrief (4, (.ifCond .eq 14, 3)) (List.mem_of_getElem? (i := 2) rfl)
theorem dX9_byGrief_7 : decode cX9_byGrief 7 = .ok (.aload_n 0, 1) := dAX9_byGrief (7, (.aload_n 0, 1)) (List.mem_of_getElem? (i := 3) rfl)
theorem dX9_byGrief_8 : decode cX9_byGrief 8 = .ok (.iload_n 1, 1) := dAX9_byGrief (8, (.iload_n 1, 1)) (List.mem_of_getElem? (i := 4) rfl)
theorem dX9_byGrief_9 : decode cX9_byGrief 9 = .ok (.iconst 0, 1) := dAX9_byGrief (9, (.iconst 0, 1)) (List.mem_of_getElem? (i := 5) rfl)
theorem dX9_byGrief_10 : decode cX9_byGrief 10 = .ok (.bipush 40, 2) := dAX9_byGrief (10, (.bipush 40, 2)) (List.mem_of_getElem? (i := 6) rfl)
theorem dX9_byGrief_12 : decode cX9_byGrief 12 = .ok (.invokevirtual 168, 3) := dAX9_byGrief (12, (.invokevirtual 168, 3)) (List.mem_of_getElem? (i := 7) rfl)
theorem dX9_byGrief_15 : decode cX9_byGrief 15 = .ok (.ifCond .ne 5, 3) := dAX9_byGrief (15, (.ifCond .ne 5, 3)) (List.mem_of_getElem? (i := 8) rfl)
theorem dX9_byGrief_18 : decode cX9_byGrief 18 = .ok (.iconst (-1), 1) := dAX9_byGrief (18, (.iconst (-1), 1)) (List.mem_of_getElem? (i := 9) rfl)
theorem dX9_byGrief_19 : decode cX9_byGrief 19 = .ok (.ireturn, 1) := dAX9_byGrief (19, (.ireturn, 1)) (List.mem_of_getElem? (i := 10) rfl)
theorem dX9_byGrief_20 : decode cX9_byGrief 20 = .ok (.aload_n 0, 1) := dAX9_byGrief (20, (.aload_n 0, 1)) (List.mem_of_getElem? (i := 11) rfl)
theorem dX9_byGrief_21 : decode cX9_byGrief 21 = .ok (.getfield 19, 3) := dAX9_byGrief (21, (.getfield 19, 3)) (List.mem_of_getElem? (i := 12) rfl)
theorem dX9_byGrief_24 : decode cX9_byGrief 24 = .ok (.getfield 212, 3) := dAX9_byGrief (24, (.getfield 212, 3)) (List.mem_of_getElem? (i := 13) rfl)
theorem dX9_byGrief_27 : decode cX9_byGrief 27 = .ok (.istore_n 2, 1) := dAX9_byGrief (27, (.istore_n 2, 1)) (List.mem_of_getElem? (i := 14) rfl)
theorem dX9_byGrief_28 : decode cX9_byGrief 28 = .ok (.aload_n 0, 1) := dAX9_byGrief (28, (.aload_n 0, 1)) (List.mem_of_getElem? (i := 15) rfl)
theorem dX9_byGrief_29 : decode cX9_byGrief 29 = .ok (.getfield 19, 3) := dAX9_byGrief (29, (.getfield 19, 3)) (List.mem_of_getElem? (i := 16) rfl)
theorem dX9_byGrief_32 : decode cX9_byGrief 32 = .ok (.iload_n 1, 1) := dAX9_byGrief (32, (.iload_n 1, 1)) (List.mem_of_getElem? (i := 17) rfl)
theorem dX9_byGrief_33 : decode cX9_byGrief 33 = .ok (.putfield 212, 3) := dAX9_byGrief (33, (.putfield 212, 3)) (List.mem_of_getElem? (i := 18) rfl)
theorem dX9_byGrief_36 : decode cX9_byGrief 36 = .ok (.aload_n 0, 1) := dAX9_byGrief (36, (.aload_n 0, 1)) (List.mem_of_getElem? (i := 19) rfl)
theorem dX9_byGrief_37 : decode cX9_byGrief 37 = .ok (.invokevirtual 193, 3) := dAX9_byGrief (37, (.invokevirtual 193, 3)) (List.mem_of_getElem? (i := 20) rfl)
theorem dX9_byGrief_40 : decode cX9_byGrief 40 = .ok (.istore_n 3, 1) := dAX9_byGrief (40, (.istore_n 3, 1)) (List.mem_of_getElem? (i := 21) rfl)
theorem dX9_byGrief_41 : decode cX9_byGrief 41 = .ok (.aload_n 0, 1) := dAX9_byGrief (41, (.aload_n 0, 1)) (List.mem_of_getElem? (i := 22) rfl)
theorem dX9_byGrief_42 : decode cX9_byGrief 42 = .ok (.getfield 19, 3) := dAX9_byGrief (42, (.getfield 19, 3)) (List.mem_of_getElem? (i := 23) rfl)
theorem dX9_byGrief_45 : decode cX9_byGrief 45 = .ok (.iload_n 2, 1) := dAX9_byGrief (45, (.iload_n 2, 1)) (List.mem_of_getElem? (i := 24) rfl)
theorem dX9_byGrief_46 : decode cX9_byGrief 46 = .ok (.putfield 212, 3) := dAX9_byGrief (46, (.putfield 212, 3)) (List.mem_of_getElem? (i := 25) rfl)
theorem dX9_byGrief_49 : decode cX9_byGrief 49 = .ok (.iload_n 3, 1) := dAX9_byGrief (49, (.iload_n 3, 1)) (List.mem_of_getElem? (i := 26) rfl)
theorem dX9_byGrief_50 : decode cX9_byGrief 50 = .ok (.invokestatic 197, 3) := dAX9_byGrief (50, (.invokestatic 197, 3)) (List.mem_of_getElem? (i := 27) rfl)
theorem dX9_byGrief_53 : decode cX9_byGrief 53 = .ok (.ireturn, 1) := dAX9_byGrief (53, (.ireturn, 1)) (List.mem_of_getElem? (i := 28) rfl)
set_option maxRecDepth 20000 in
theorem ggX9_byGrief_X9_asked : GoodIn wsX9_byGrief wsX9_asked := goodIn_r _ [7, 8, 9, 87, 88, 89, 90, 91, 92, 93, 94, 95, 96, 97, 98, 99, 100, 101] rfl (by decide +kernel)
set_option maxRecDepth 20000 in
theorem gX9_byGrief_X9_asked : GoodIn wsX9_byGrief (wsV RX9 153 RX9 yX9_asked wsX9_asked) := goodIn_app (goodIn_of _ (by decide +kernel)) ggX9_byGrief_X9_asked
set_option maxRecDepth 20000 in
theorem ggX9_byGrief_X9_within : GoodIn wsX9_byGrief wsX9_within := goodIn_r _ [13, 9, 87, 88, 89, 90, 91, 92, 93, 94, 95, 96, 97, 98, 99, 100, 101] rfl (by decide +kernel)
set_option maxRecDepth 20000 in
theorem gX9_byGrief_X9_within : GoodIn wsX9_byGrief (wsV RX9 168 RX9 yX9_within wsX9_within) := goodIn_app (goodIn_of _ (by decide +kernel)) ggX9_byGrief_X9_within
set_option maxRecDepth 20000 in
theorem ggX9_byGrief_X9_endsAsIs : GoodIn wsX9_byGrief wsX9_endsAsIs := goodIn_r _ [17, 18, 19, 1, 20, 21, 22, 23, 24, 25, 26, 27, 28, 29, 30, 31, 32, 33, 34, 35, 36, 37, 38, 39, 40, 41, 42, 43, 44, 45, 46, 47, 48, 49, 50, 51, 52, 53, 54, 55, 56, 57, 58, 59, 60, 61, 62, 63, 64, 65, 66, 67, 68, 69, 70, 71, 72, 73, 74, 75, 76, 77, 78, 79, 80, 81, 82, 83, 87, 88, 89, 90, 91, 92, 93, 94, 95, 96, 97, 98, 99, 100, 101, 119, 120, 121, 122, 123, 124, 125, 126, 127, 102, 103, 104, 105, 106, 107, 108, 109, 110, 111, 112, 113, 114, 115, 116, 117, 118, 128, 129] rfl (by decide +kernel)
set_option maxRecDepth 20000 in
theorem gX9_byGrief_X9_endsAsIs : GoodIn wsX9_byGrief (wsV RX9 193 RX9 yX9_endsAsIs wsX9_endsAsIs) := goodIn_app (goodIn_of _ (by decide +kernel)) ggX9_byGrief_X9_endsAsIs
set_option maxRecDepth 20000 in
theorem ggX9_byGrief_X9_orNot : GoodIn wsX9_byGrief wsX9_orNot := goodIn_r _ [86] rfl (by decide +kernel)
set_option maxRecDepth 20000 in
theorem gX9_byGrief_X9_orNot : GoodIn wsX9_byGrief (va_wsS RX9 197 yX9_orNot wsX9_orNot) := goodIn_app (goodIn_of _ (by decide +kernel)) ggX9_byGrief_X9_orNot
theorem kX9_byGrief_19 : Cond.fieldLink RX9 19 "EveningVow" "told" "LEveningVow$House;" ∈ wsX9_byGrief := List.mem_of_getElem? (i := 1) rfl
theorem iX9_byGrief_X9 : ∀ w ∈ u_ws RX9 TX9 15, w ∈ wsX9_byGrief := fun w h => (List.mem_cons_of_mem _ (List.mem_append_left _ (List.mem_append_left _ (List.mem_append_left _ (List.mem_append_right _ h)))))
theorem kX9_byGrief_212 : Cond.fieldLink RX9 212 "EveningVow$House" "grief" "I" ∈ wsX9_byGrief := List.mem_of_getElem? (i := 2) rfl
theorem iX9_byGrief_X1 : ∀ w ∈ u_ws RX1 TX1 17, w ∈ wsX9_byGrief := fun w h => (List.mem_cons_of_mem _ (List.mem_append_left _ (List.mem_append_left _ (List.mem_append_right _ h))))
set_option maxHeartbeats 4000000 in
set_option maxRecDepth 100000 in
theorem mX9_byGrief (l : Launch) (g : GG) (a_t : Nat) (p_t : Nat → Nat) (p_t_1 : Nat → Nat) (p_t_5 : Nat → Nat) (p_t_6 : Nat → Nat) (p_t_7 : Nat → Nat) (n : Nat) (x1 : Int32) (o_t : Nat → Int32) (o_t_1 : Nat → Int32) (f_t_1_4 : Nat → Int32) (f_t_1_6 : Nat → Int32) (f_t_1_7 : Nat → Int32) (f_t_1_10 : Nat → Int32) (f_t_1_11 : Nat → Int32) (f_t_1_12 : Nat → Int32) (o_t_5 : Nat → Int32) (f_t_5_6 : Nat → Int32) (f_t_5_7 : Nat → Int32) (o_t_6 : Nat → Int32) (f_t_6_6 : Nat → Int32) (f_t_6_7 : Nat → Int32) (f_t_6_8 : Nat → Int32) (o_t_7 : Nat → Int32) (r : Int32) (o_t' : Nat → Int32) (o_t_1' : Nat → Int32) (o_t_6' : Nat → Int32) (f_t_6_6' : Nat → Int32) (f_t_6_7' : Nat → Int32) (f_t_6_8' : Nat → Int32) (o_t_7' : Nat → Int32) (hF : fX9_byGrief n x1 o_t o_t_1 f_t_1_4 f_t_1_6 f_t_1_7 f_t_1_10 f_t_1_11 f_t_1_12 o_t_5 f_t_5_6 f_t_5_7 o_t_6 f_t_6_6 f_t_6_7 f_t_6_8 o_t_7 = some (r, o_t', o_t_1', o_t_6', f_t_6_6', f_t_6_7', f_t_6_8', o_t_7')) : MI l g yX9_byGrief wsX9_byGrief ({ frames := 5, cells := 0, slots := 0, locals := 115 } : Room) [.ref a_t, .int x1] [oX9 a_t p_t o_t, oX1 (p_t 1) p_t_1 o_t_1, aI g (p_t_1 4) 7 f_t_1_4, aI g (p_t_1 6) 7 f_t_1_6, aI g (p_t_1 7) 7 f_t_1_7, aI g (p_t_1 10) 8 f_t_1_10, aI g (p_t_1 11) 8 f_t_1_11, aI g (p_t_1 12) 8 f_t_1_12, oX2 (p_t 5) p_t_5 o_t_5, aI g (p_t_5 6) 7 f_t_5_6, aI g (p_t_5 7) 7 f_t_5_7, oX2 (p_t 6) p_t_6 o_t_6, aI g (p_t_6 6) 7 f_t_6_6, aI g (p_t_6 7) 7 f_t_6_7, aI g (p_t_6 8) 7 f_t_6_8, oX3 (p_t 7) p_t_7 o_t_7] r [oX9 a_t p_t o_t', oX1 (p_t 1) p_t_1 o_t_1', aI g (p_t_1 4) 7 f_t_1_4, aI g (p_t_1 6) 7 f_t_1_6, aI g (p_t_1 7) 7 f_t_1_7, aI g (p_t_1 10) 8 f_t_1_10, aI g (p_t_1 11) 8 f_t_1_11, aI g (p_t_1 12) 8 f_t_1_12, oX2 (p_t 5) p_t_5 o_t_5, aI g (p_t_5 6) 7 f_t_5_6, aI g (p_t_5 7) 7 f_t_5_7, oX2 (p_t 6) p_t_6 o_t_6', aI g (p_t_6 6) 7 f_t_6_6', aI g (p_t_6 7) 7 f_t_6_7', aI g (p_t_6 8) 7 f_t_6_8', oX3 (p_t 7) p_t_7 o_t_7'] := by
  refine MI.of (cc := cX9_byGrief) (maxL := 4) (rt := .int) (own := RX9) rfl rfl (by decide) (Nat.le_of_ble_eq_true rfl) ?_
  intro p e s m args below meth c A C0 hP hD hS ls hl
  obtain ⟨hx, hb, hml, hown, hts, hr, hlk, hK, hA, hSW⟩ := id C0
  have hl : lv_has ls 4 [(0, .ref a_t), (1, .int x1)] := hl
  rw [fX9_byGrief] at hF
  refine lv_aload_n hx hb dX9_byGrief_0 rfl (lv_at hl 0 rfl) ?_
  obtain ⟨u_1, u_2, hu_3, hF⟩ := ob2_some hF
  refine call_i (wr := [oX1 (p_t 1) p_t_1 o_t_1, aI g (p_t_1 4) 7 f_t_1_4, aI g (p_t_1 6) 7 f_t_1_6, aI g (p_t_1 7) 7 f_t_1_7, aI g (p_t_1 10) 8 f_t_1_10, aI g (p_t_1 11) 8 f_t_1_11, aI g (p_t_1 12) 8 f_t_1_12, oX2 (p_t 5) p_t_5 o_t_5, aI g (p_t_5 6) 7 f_t_5_6, aI g (p_t_5 7) 7 f_t_5_7, oX2 (p_t 6) p_t_6 o_t_6, aI g (p_t_6 6) 7 f_t_6_6, aI g (p_t_6 7) 7 f_t_6_7, aI g (p_t_6 8) 7 f_t_6_8, oX3 (p_t 7) p_t_7 o_t_7]) (As := []) (rest := []) (ci := 9) (q0 := 0) C0 (mX9_asked l g a_t p_t n o_t u_1 u_2 hu_3) (cwV 0 hts gX9_byGrief_X9_asked rfl rfl rfl (by decide +kernel) ⟨Nat.le_of_ble_eq_true rfl, Nat.le_of_ble_eq_true rfl⟩) hP hD hS [0] [1, 2, 3, 4, 5, 6, 7, 8, 9, 10, 11, 12, 13, 14, 15] rfl rfl rfl rfl rfl (by decide) rfl rfl hl.1 rfl rfl (Nat.le_of_ble_eq_true rfl) ⟨Nat.zero_le _, Nat.zero_le _⟩ dX9_byGrief_1 ?_
  intro H locs hP hD hS
  refine lv_if_eq (tgt := 18) hx hb dX9_byGrief_4 (by decide) (fun c_4 => ?_) (fun c_4 => ?_)
  · have hF := it_p c_4 hF
    refine lv_iconst (v := (-1 : Int32)) hx hb dX9_byGrief_18 (by decide) ?_
    cases hF
    exact ret_i C0 hP hD hS [15, 0, 1, 2, 3, 4, 5, 6, 7, 8, 9, 10, 11, 12, 13, 14] rfl rfl rfl dX9_byGrief_19 rfl
  · have hF := it_n c_4 hF
    refine lv_aload_n hx hb dX9_byGrief_7 rfl (lv_at hl 0 rfl) ?_
    refine lv_iload_n hx hb dX9_byGrief_8 rfl (lv_at hl 1 rfl) ?_
    refine lv_iconst (v := (0 : Int32)) hx hb dX9_byGrief_9 (by decide) ?_
    refine lv_bipush (v := (40 : Int32)) hx hb dX9_byGrief_10 (by decide) ?_
    obtain ⟨u_5, u_6, hu_7, hF⟩ := ob2_some hF
    refine call_i (wr := [oX1 (p_t 1) p_t_1 o_t_1, aI g (p_t_1 4) 7 f_t_1_4, aI g (p_t_1 6) 7 f_t_1_6, aI g (p_t_1 7) 7 f_t_1_7, aI g (p_t_1 10) 8 f_t_1_10, aI g (p_t_1 11) 8 f_t_1_11, aI g (p_t_1 12) 8 f_t_1_12, oX2 (p_t 5) p_t_5 o_t_5, aI g (p_t_5 6) 7 f_t_5_6, aI g (p_t_5 7) 7 f_t_5_7, oX2 (p_t 6) p_t_6 o_t_6, aI g (p_t_6 6) 7 f_t_6_6, aI g (p_t_6 7) 7 f_t_6_7, aI g (p_t_6 8) 7 f_t_6_8, oX3 (p_t 7) p_t_7 o_t_7]) (As := [.int x1, .int (0 : Int32), .int (40 : Int32)]) (rest := []) (ci := 9) (q0 := 0) C0 (mX9_within l g a_t p_t n x1 (0 : Int32) (40 : Int32) u_2 u_5 u_6 hu_7) (cwV 3 hts gX9_byGrief_X9_within rfl rfl rfl (by decide +kernel) ⟨Nat.le_of_ble_eq_true rfl, Nat.le_of_ble_eq_true rfl⟩) hP hD hS [15] [0, 1, 2, 3, 4, 5, 6, 7, 8, 9, 10, 11, 12, 13, 14] rfl rfl rfl rfl rfl (by decide) rfl rfl hl.1 rfl rfl (Nat.le_of_ble_eq_true rfl) ⟨Nat.zero_le _, Nat.zero_le _⟩ dX9_byGrief_12 ?_
    intro H locs hP hD hS
    refine lv_if_ne (tgt := 20) hx hb dX9_byGrief_15 (by decide) (fun c_8 => ?_) (fun c_8 => ?_)
    · have hF := it_n c_8 hF
      refine lv_aload_n hx hb dX9_byGrief_20 rfl (lv_at hl 0 rfl) ?_
      refine va_get (D := g.1) (ci := 9) (v := .ref (p_t 1)) (C := RX9) (T := TX9) (N := 15) hx hb hts iX9_byGrief_X9 hown hK.1 hP 15 rfl rfl 1 (by decide) (hts _ kX9_byGrief_19) (fun _ h9 => h9) rfl dX9_byGrief_21 ?_
      refine va_get (D := g.1) (ci := 1) (v := .int (o_t_1 2)) (C := RX1) (T := TX1) (N := 17) hx hb hts iX9_byGrief_X1 hown hK.1 hP 0 rfl rfl 2 (by decide) (hts _ kX9_byGrief_212) (fun _ h9 => h9) rfl dX9_byGrief_24 ?_
      refine lv_istore_n (lv' := [(2, .int (o_t_1 2)), (0, .ref a_t), (1, .int x1)]) hx hb dX9_byGrief_27 rfl hl (by decide) rfl (fun ls hl => ?_)
      refine lv_aload_n hx hb dX9_byGrief_28 rfl (lv_at hl 1 rfl) ?_
      refine va_get (D := g.1) (ci := 9) (v := .ref (p_t 1)) (C := RX9) (T := TX9) (N := 15) hx hb hts iX9_byGrief_X9 hown hK.1 hP 15 rfl rfl 1 (by decide) (hts _ kX9_byGrief_19) (fun _ h9 => h9) rfl dX9_byGrief_29 ?_
      refine lv_iload_n hx hb dX9_byGrief_32 rfl (lv_at hl 2 rfl) ?_
      refine va_put (D := g.1) (ci := 1) (v := .int x1) (ty := .int) (C := RX1) (T := TX1) (N := 17) hx hb hts iX9_byGrief_X1 tyX1 tyX1_ok nmX1 hown hK.1 hP hD hS 0 rfl rfl 2 (by decide) (hts _ kX9_byGrief_212) (fun _ h9 => h9) rfl (by decide +kernel) rfl rfl (Nat.le_of_ble_eq_true rfl) dX9_byGrief_33 (fun H locs hP hD hS => ?_)
      have hP : va_P g.1 vwCl [oX1 (p_t 1) p_t_1 (upd o_t_1 2 x1), aI g (p_t_1 4) 7 f_t_1_4, aI g (p_t_1 6) 7 f_t_1_6, aI g (p_t_1 7) 7 f_t_1_7, aI g (p_t_1 10) 8 f_t_1_10, aI g (p_t_1 11) 8 f_t_1_11, aI g (p_t_1 12) 8 f_t_1_12, oX2 (p_t 5) p_t_5 o_t_5, aI g (p_t_5 6) 7 f_t_5_6, aI g (p_t_5 7) 7 f_t_5_7, oX2 (p_t 6) p_t_6 o_t_6, aI g (p_t_6 6) 7 f_t_6_6, aI g (p_t_6 7) 7 f_t_6_7, aI g (p_t_6 8) 7 f_t_6_8, oX3 (p_t 7) p_t_7 o_t_7, oX9 a_t p_t u_6] H := hP
      have hD : va_D A [oX1 (p_t 1) p_t_1 (upd o_t_1 2 x1), aI g (p_t_1 4) 7 f_t_1_4, aI g (p_t_1 6) 7 f_t_1_6, aI g (p_t_1 7) 7 f_t_1_7, aI g (p_t_1 10) 8 f_t_1_10, aI g (p_t_1 11) 8 f_t_1_11, aI g (p_t_1 12) 8 f_t_1_12, oX2 (p_t 5) p_t_5 o_t_5, aI g (p_t_5 6) 7 f_t_5_6, aI g (p_t_5 7) 7 f_t_5_7, oX2 (p_t 6) p_t_6 o_t_6, aI g (p_t_6 6) 7 f_t_6_6, aI g (p_t_6 7) 7 f_t_6_7, aI g (p_t_6 8) 7 f_t_6_8, oX3 (p_t 7) p_t_7 o_t_7, oX9 a_t p_t u_6] := hD
      refine lv_aload_n hx hb dX9_byGrief_36 rfl (lv_at hl 1 rfl) ?_
      obtain ⟨u_9, u_10, u_11, u_12, u_13, u_14, hu_15, hF⟩ := ob6_some hF
      refine call_i (wr := []) (As := []) (rest := []) (ci := 9) (q0 := 0) C0 (mX9_endsAsIs l g a_t p_t p_t_1 p_t_5 p_t_6 p_t_7 n u_6 (upd o_t_1 2 x1) f_t_1_4 f_t_1_6 f_t_1_7 f_t_1_10 f_t_1_11 f_t_1_12 o_t_5 f_t_5_6 f_t_5_7 o_t_6 f_t_6_6 f_t_6_7 f_t_6_8 o_t_7 u_9 u_10 u_11 u_12 u_13 u_14 hu_15) (cwV 0 hts gX9_byGrief_X9_endsAsIs rfl rfl rfl (by decide +kernel) ⟨Nat.le_of_ble_eq_true rfl, Nat.le_of_ble_eq_true rfl⟩) hP hD hS [15, 0, 1, 2, 3, 4, 5, 6, 7, 8, 9, 10, 11, 12, 13, 14] [] rfl rfl rfl rfl rfl (by decide) rfl rfl hl.1 rfl rfl (Nat.le_of_ble_eq_true rfl) ⟨Nat.zero_le _, Nat.zero_le _⟩ dX9_byGrief_37 ?_
      intro H locs hP hD hS
      refine lv_istore_n (lv' := [(3, .int u_9), (2, .int (o_t_1 2)), (0, .ref a_t), (1, .int x1)]) hx hb dX9_byGrief_40 rfl hl (by decide) rfl (fun ls hl => ?_)
      refine lv_aload_n hx hb dX9_byGrief_41 rfl (lv_at hl 2 rfl) ?_
      refine va_get (D := g.1) (ci := 9) (v := .ref (p_t 1)) (C := RX9) (T := TX9) (N := 15) hx hb hts iX9_byGrief_X9 hown hK.1 hP 0 rfl rfl 1 (by decide) (hts _ kX9_byGrief_19) (fun _ h9 => h9) rfl dX9_byGrief_42 ?_
      refine lv_iload_n hx hb dX9_byGrief_45 rfl (lv_at hl 1 rfl) ?_
      refine va_put (D := g.1) (ci := 1) (v := .int (o_t_1 2)) (ty := .int) (C := RX1) (T := TX1) (N := 17) hx hb hts iX9_byGrief_X1 tyX1 tyX1_ok nmX1 hown hK.1 hP hD hS 1 rfl rfl 2 (by decide) (hts _ kX9_byGrief_212) (fun _ h9 => h9) rfl (by decide +kernel) rfl rfl (Nat.le_of_ble_eq_true rfl) dX9_byGrief_46 (fun H locs hP hD hS => ?_)
      have hP : va_P g.1 vwCl [oX9 a_t p_t u_6, oX1 (p_t 1) p_t_1 (upd o_t_1 2 (o_t_1 2)), aI g (p_t_1 4) 7 f_t_1_4, aI g (p_t_1 6) 7 f_t_1_6, aI g (p_t_1 7) 7 f_t_1_7, aI g (p_t_1 10) 8 f_t_1_10, aI g (p_t_1 11) 8 f_t_1_11, aI g (p_t_1 12) 8 f_t_1_12, oX2 (p_t 5) p_t_5 o_t_5, aI g (p_t_5 6) 7 f_t_5_6, aI g (p_t_5 7) 7 f_t_5_7, oX2 (p_t 6) p_t_6 u_10, aI g (p_t_6 6) 7 u_11, aI g (p_t_6 7) 7 u_12, aI g (p_t_6 8) 7 u_13, oX3 (p_t 7) p_t_7 u_14] H := hP
      have hD : va_D A [oX9 a_t p_t u_6, oX1 (p_t 1) p_t_1 (upd o_t_1 2 (o_t_1 2)), aI g (p_t_1 4) 7 f_t_1_4, aI g (p_t_1 6) 7 f_t_1_6, aI g (p_t_1 7) 7 f_t_1_7, aI g (p_t_1 10) 8 f_t_1_10, aI g (p_t_1 11) 8 f_t_1_11, aI g (p_t_1 12) 8 f_t_1_12, oX2 (p_t 5) p_t_5 o_t_5, aI g (p_t_5 6) 7 f_t_5_6, aI g (p_t_5 7) 7 f_t_5_7, oX2 (p_t 6) p_t_6 u_10, aI g (p_t_6 6) 7 u_11, aI g (p_t_6 7) 7 u_12, aI g (p_t_6 8) 7 u_13, oX3 (p_t 7) p_t_7 u_14] := hD
      refine lv_iload_n hx hb dX9_byGrief_49 rfl (lv_at hl 0 rfl) ?_
      obtain ⟨u_16, hu_17, hF⟩ := ob1_some hF
      refine call_si (wr := [oX9 a_t p_t u_6, oX1 (p_t 1) p_t_1 (upd o_t_1 2 (o_t_1 2)), aI g (p_t_1 4) 7 f_t_1_4, aI g (p_t_1 6) 7 f_t_1_6, aI g (p_t_1 7) 7 f_t_1_7, aI g (p_t_1 10) 8 f_t_1_10, aI g (p_t_1 11) 8 f_t_1_11, aI g (p_t_1 12) 8 f_t_1_12, oX2 (p_t 5) p_t_5 o_t_5, aI g (p_t_5 6) 7 f_t_5_6, aI g (p_t_5 7) 7 f_t_5_7, oX2 (p_t 6) p_t_6 u_10, aI g (p_t_6 6) 7 u_11, aI g (p_t_6 7) 7 u_12, aI g (p_t_6 8) 7 u_13, oX3 (p_t 7) p_t_7 u_14]) (As := [.int u_9]) (rest := []) C0 (mX9_orNot l g n u_9 u_16 hu_17) (va_cwS 1 hts gX9_byGrief_X9_orNot rfl rfl rfl (by decide +kernel) ⟨Nat.le_of_ble_eq_true rfl, Nat.le_of_ble_eq_true rfl⟩) hP hD hS [] [0, 1, 2, 3, 4, 5, 6, 7, 8, 9, 10, 11, 12, 13, 14, 15] rfl rfl rfl rfl rfl (by decide) hl.1 rfl rfl (Nat.le_of_ble_eq_true rfl) ⟨Nat.zero_le _, Nat.zero_le _⟩ dX9_byGrief_50 ?_
      intro H locs hP hD hS
      cases hF
      exact ret_i C0 hP hD hS [0, 1, 2, 3, 4, 5, 6, 7, 8, 9, 10, 11, 12, 13, 14, 15] rfl rfl rfl dX9_byGrief_53 rfl
    · have hF := it_p c_8 hF
      refine lv_iconst (v := (-1 : Int32)) hx hb dX9_byGrief_18 (by decide) ?_
      cases hF
      exact ret_i C0 hP hD hS [15, 0, 1, 2, 3, 4, 5, 6, 7, 8, 9, 10, 11, 12, 13, 14] rfl rfl rfl dX9_byGrief_19 rfl

theorem dAX9_tireFor : ∀ q ∈ ([(0, (.aload_n 0, 1)), (1, (.invokevirtual 153, 3)), (4, (.ifCond .eq 14, 3)), (7, (.aload_n 0, 1)), (8, (.iload_n 1, 1)), (9, (.iconst 0, 1)), (10, (.bipush 60, 2)), (12, (.invokevirtual 168, 3)), (15, (.ifCond .ne 5, 3)), (18, (.iconst (-1), 1)), (19, (.ireturn, 1)), (20, (.iconst 0, 1)), (21, (.istore_n 2, 1)), (22, (.iload_n 2, 1)), (23, (.sipush 200, 3)), (26, (.if_icmp .gt 54, 3)), (29, (.aload_n 0, 1)), (30, (.getfield 41, 3)), (33, (.aload_n 0, 1)), (34, (.getfield 37, 3)), (37, (.invokevirtual 160, 3)), (40, (.aload_n 0, 1)), (41, (.getfield 41, 3)), (44, (.aload_n 0, 1)), (45, (.getfield 19, 3)), (48, (.iload_n 2, 1)), (49, (.invokevirtual 215, 3)), (52, (.aload_n 0, 1)), (53, (.getfield 41, 3)), (56, (.aload_n 0, 1)), (57, (.getfield 19, 3)), (60, (.aload_n 0, 1)), (61, (.getfield 49, 3)), (64, (.iload_n 1, 1)), (65, (.invokevirtual 219, 3)), (68, (.iload_n 1, 1)), (69, (.if_icmp .gt 5, 3)), (72, (.iload_n 2, 1)), (73, (.ireturn, 1)), (74, (.iinc 2 1, 3)), (77, (.goto (-55), 3)), (80, (.bipush (-2), 2)), (82, (.ireturn, 1))] : List (Nat × (Instr × Nat))), decode cX9_tireFor q.1 = .ok q.2 := by decide +kernel
theorem dX9_tireFor_0 : decode cX9_tireFor 0 = .ok (.aload_n 0, 1) := dAX9_tireFor (0, (.aload_n 0, 1)) (List.mem_of_getElem? (i := 0) rfl)
theorem dX9_tireFor_1 : decode cX9_tireFor 1 = .ok (.invokevirtual 153, 3) := dAX9_tireFor (1, (.invokevirtual 153, 3)) (List.mem_of_getElem? (i := 1) rfl)
theorem dX9_tireFor_4 : decode cX9_tireFor 4 = .ok (.ifCond .eq 14, 3) := dAX9_tireFor (4, (.ifCond .eq 14, 3)) (List.mem_of_getElem? (i := 2) rfl)
theorem dX9_tireFor_7 : decode cX9_tireFor 7 = .ok (.aload_n 0, 1) := dAX9_tireFor (7, (.aload_n 0, 1)) (List.mem_of_getElem? (i := 3) rfl)
theorem dX9_tireFor_8 : decode cX9_tireFor 8 = .ok (.iload_n 1, 1) := dAX9_tireFor (8, (.iload_n 1, 1)) (List.mem_of_getElem? (i := 4) rfl)
theorem dX9_tireFor_9 : decode cX9_tireFor 9 = .ok (.iconst 0, 1) := dAX9_tireFor (9, (.iconst 0, 1)) (List.mem_of_getElem? (i := 5) rfl)
theorem dX9_tireFor_10 : decode cX9_tireFor 10 = .ok (.bipush 60, 2) := dAX9_tireFor (10, (.bipush 60, 2)) (List.mem_of_getElem? (i := 6) rfl)
theorem dX9_tireFor_12 : decode cX9_tireFor 12 = .ok (.invokevirtual 168, 3) := dAX9_tireFor (12, (.invokevirtual 168, 3)) (List.mem_of_getElem? (i := 7) rfl)
theorem dX9_tireFor_15 : decode cX9_tireFor 15 = .ok (.ifCond .ne 5, 3) := dAX9_tireFor (15, (.ifCond .ne 5, 3)) (List.mem_of_getElem? (i := 8) rfl)
theorem dX9_tireFor_18 : decode cX9_tireFor 18 = .ok (.iconst (-1), 1) := dAX9_tireFor (18, (.iconst (-1), 1)) (List.mem_of_getElem? (i := 9) rfl)
theorem dX9_tireFor_19 : decode cX9_tireFor 19 = .ok (.ireturn, 1) := dAX9_tireFor (19, (.ireturn, 1)) (List.mem_of_getElem? (i := 10) rfl)
theorem dX9_tireFor_20 : decode cX9_tireFor 20 = .ok (.iconst 0, 1) := dAX9_tireFor (20, (.iconst 0, 1)) (List.mem_of_getElem? (i := 11) rfl)
theorem dX9_tireFor_21 : decode cX9_tireFor 21 = .ok (.istore_n 2, 1) := dAX9_tireFor (21, (.istore_n 2, 1)) (List.mem_of_getElem? (i := 12) rfl)
theorem dX9_tireFor_22 : decode cX9_tireFor 22 = .ok (.iload_n 2, 1) := dAX9_tireFor (22, (.iload_n 2, 1)) (List.mem_of_getElem? (i := 13) rfl)
theorem dX9_tireFor_23 : decode cX9_tireFor 23 = .ok (.sipush 200, 3) := dAX9_tireFor (23, (.sipush 200, 3)) (List.mem_of_getElem? (i := 14) rfl)
theorem dX9_tireFor_26 : decode cX9_tireFor 26 = .ok (.if_icmp .gt 54, 3) := dAX9_tireFor (26, (.if_icmp .gt 54, 3)) (List.mem_of_getElem? (i := 15) rfl)
theorem dX9_tireFor_29 : decode cX9_tireFor 29 = .ok (.aload_n 0, 1) := dAX9_tireFor (29, (.aload_n 0, 1)) (List.mem_of_getElem? (i := 16) rfl)
theorem dX9_tireFor_30 : decode cX9_tireFor 30 = .ok (.getfield 41, 3) := dAX9_tireFor (30, (.getfield 41, 3)) (List.mem_of_getElem? (i := 17) rfl)
theorem dX9_tireFor_33 : decode cX9_tireFor 33 = .ok (.aload_n 0, 1) := dAX9_tireFor (33, (.aload_n 0, 1)) (List.mem_of_getElem? (i := 18) rfl)
theorem dX9_tireFor_34 : decode cX9_tireFor 34 = .ok (.getfield 37, 3) := dAX9_tireFor (34, (.getfield 37, 3)) (List.mem_of_getElem? (i := 19) rfl)
theorem dX9_tireFor_37 : decode cX9_tireFor 37 = .ok (.invokevirtual 160, 3) := dAX9_tireFor (37, (.invokevirtual 160, 3)) (List.mem_of_getElem? (i := 20) rfl)
theorem dX9_tireFor_40 : decode cX9_tireFor 40 = .ok (.aload_n 0, 1) := dAX9_tireFor (40, (.aload_n 0, 1)) (List.mem_of_getElem? (i := 21) rfl)
theorem dX9_tireFor_41 : decode cX9_tireFor 41 = .ok (.getfield 41, 3) := dAX9_tireFor (41, (.getfield 41, 3)) (List.mem_of_getElem? (i := 22) rfl)
theorem dX9_tireFor_44 : decode cX9_tireFor 44 = .ok (.aload_n 0, 1) := dAX9_tireFor (44, (.aload_n 0, 1)) (List.mem_of_getElem? (i := 23) rfl)
theorem dX9_tireFor_45 : decode cX9_tireFor 45 = .ok (.getfield 19, 3) := dAX9_tireFor (45, (.getfield 19, 3)) (List.mem_of_getElem? (i := 24) rfl)
theorem dX9_tireFor_48 : decode cX9_tireFor 48 = .ok (.iload_n 2, 1) := dAX9_tireFor (48, (.iload_n 2, 1)) (List.mem_of_getElem? (i := 25) rfl)
theorem dX9_tireFor_49 : decode cX9_tireFor 49 = .ok (.invokevirtual 215, 3) := dAX9_tireFor (49, (.invokevirtual 215, 3)) (List.mem_of_getElem? (i := 26) rfl)
theorem dX9_tireFor_52 : decode cX9_tireFor 52 = .ok (.aload_n 0, 1) := dAX9_tireFor (52, (.aload_n 0, 1)) (List.mem_of_getElem? (i := 27) rfl)
theorem dX9_tireFor_53 : decode cX9_tireFor 53 = .ok (.getfield 41, 3) := dAX9_tireFor (53, (.getfield 41, 3)) (List.mem_of_getElem? (i := 28) rfl)
theorem dX9_tireFor_56 : decode cX9_tireFor 56 = .ok (.aload_n 0, 1) := dAX9_tireFor (56, (.aload_n 0, 1)) (List.mem_of_getElem? (i := 29) rfl)
theorem dX9_tireFor_57 : decode cX9_tireFor 57 = .ok (.getfield 19, 3) := dAX9_tireFor (57, (.getfield 19, 3)) (List.mem_of_getElem? (i := 30) rfl)
theorem dX9_tireFor_60 : decode cX9_tireFor 60 = .ok (.aload_n 0, 1) := dAX9_tireFor (60, (.aload_n 0, 1)) (List.mem_of_getElem? (i := 31) rfl)
theorem dX9_tireFor_61 : decode cX9_tireFor 61 = .ok (.getfield 49, 3) := dAX9_tireFor (61, (.getfield 49, 3)) (List.mem_of_getElem? (i := 32) rfl)
theorem dX9_tireFor_64 : decode cX9_tireFor 64 = .ok (.iload_n 1, 1) := dAX9_tireFor (64, (.iload_n 1, 1)) (List.mem_of_getElem? (i := 33) rfl)
theorem dX9_tireFor_65 : decode cX9_tireFor 65 = .ok (.invokevirtual 219, 3) := dAX9_tireFor (65, (.invokevirtual 219, 3)) (List.mem_of_getElem? (i := 34) rfl)
theorem dX9_tireFor_68 : decode cX9_tireFor 68 = .ok (.iload_n 1, 1) := dAX9_tireFor (68, (.iload_n 1, 1)) (List.mem_of_getElem? (i := 35) rfl)
theorem dX9_tireFor_69 : decode cX9_tireFor 69 = .ok (.if_icmp .gt 5, 3) := dAX9_tireFor (69, (.if_icmp .gt 5, 3)) (List.mem_of_getElem? (i := 36) rfl)
theorem dX9_tireFor_72 : decode cX9_tireFor 72 = .ok (.iload_n 2, 1) := dAX9_tireFor (72, (.iload_n 2, 1)) (List.mem_of_getElem? (i := 37) rfl)
theorem dX9_tireFor_73 : decode cX9_tireFor 73 = .ok (.ireturn, 1) := dAX9_tireFor (73, (.ireturn, 1)) (List.mem_of_getElem? (i := 38) rfl)
theorem dX9_tireFor_74 : decode cX9_tireFor 74 = .ok (.iinc 2 1, 3) := dAX9_tireFor (74, (.iinc 2 1, 3)) (List.mem_of_getElem? (i := 39) rfl)
theorem dX9_tireFor_77 : decode cX9_tireFor 77 = .ok (.goto (-55), 3) := dAX9_tireFor (77, (.goto (-55), 3)) (List.mem_of_getElem? (i := 40) rfl)
theorem dX9_tireFor_80 : decode cX9_tireFor 80 = .ok (.bipush (-2), 2) := dAX9_tireFor (80, (.bipush (-2), 2)) (List.mem_of_getElem? (i := 41) rfl)
theorem dX9_tireFor_82 : decode cX9_tireFor 82 = .ok (.ireturn, 1) := dAX9_tireFor (82, (.ireturn, 1)) (List.mem_of_getElem? (i := 42) rfl)
set_option maxRecDepth 20000 in
theorem ggX9_tireFor_X9_asked : GoodIn wsX9_tireFor wsX9_asked := goodIn_r _ [9, 10, 11, 89, 90, 91, 92, 93, 94, 95, 96, 97, 98, 99, 100, 101, 102, 103] rfl (by decide +kernel)
set_option maxRecDepth 20000 in
theorem gX9_tireFor_X9_asked : GoodIn wsX9_tireFor (wsV RX9 153 RX9 yX9_asked wsX9_asked) := goodIn_app (goodIn_of _ (by decide +kernel)) ggX9_tireFor_X9_asked
set_option maxRecDepth 20000 in
theorem ggX9_tireFor_X9_within : GoodIn wsX9_tireFor wsX9_within := goodIn_r _ [15, 11, 89, 90, 91, 92, 93, 94, 95, 96, 97, 98, 99, 100, 101, 102, 103] rfl (by decide +kernel)
set_option maxRecDepth 20000 in
theorem gX9_tireFor_X9_within : GoodIn wsX9_tireFor (wsV RX9 168 RX9 yX9_within wsX9_within) := goodIn_app (goodIn_of _ (by decide +kernel)) ggX9_tireFor_X9_within
set_option maxRecDepth 20000 in
theorem ggX9_tireFor_X2_become : GoodIn wsX9_tireFor wsX2_become := goodIn_r _ [20, 21, 22, 23, 24, 25, 26, 27, 28, 29, 30, 104, 105, 106, 107, 108, 109, 110, 111, 112] rfl (by decide +kernel)
set_option maxRecDepth 20000 in
theorem gX9_tireFor_X2_become : GoodIn wsX9_tireFor (wsV RX9 160 RX2 yX2_become wsX2_become) := goodIn_app (goodIn_of _ (by decide +kernel)) ggX9_tireFor_X2_become
set_option maxRecDepth 20000 in
theorem ggX9_tireFor_X2_tire : GoodIn wsX9_tireFor wsX2_tire := goodIn_r _ [34, 35, 25, 36, 37, 38, 19, 39, 22, 40, 8, 41, 113, 114, 115, 116, 117, 118, 119, 120, 121, 122, 123, 124, 125, 126, 127, 128, 129, 104, 105, 106, 107, 108, 109, 110, 111, 112] rfl (by decide +kernel)
set_option maxRecDepth 20000 in
theorem gX9_tireFor_X2_tire : GoodIn wsX9_tireFor (wsV RX9 215 RX2 yX2_tire wsX2_tire) := goodIn_app (goodIn_of _ (by decide +kernel)) ggX9_tireFor_X2_tire
set_option maxRecDepth 20000 in
theorem ggX9_tireFor_X2_runOut : GoodIn wsX9_tireFor wsX2_runOut := goodIn_r _ [45, 46, 22, 47, 48, 49, 19, 50, 21, 51, 52, 53, 54, 35, 55, 25, 56, 57, 58, 59, 60, 61, 62, 63, 64, 65, 66, 67, 68, 69, 70, 71, 72, 73, 74, 75, 76, 77, 78, 79, 80, 81, 82, 83, 84, 85, 86, 30, 87, 88, 104, 105, 106, 107, 108, 109, 110, 111, 112, 113, 114, 115, 116, 117, 118, 119, 120, 121, 122, 123, 124, 125, 126, 127, 128, 129, 130, 131] rfl (by decide +kernel)
set_option maxRecDepth 20000 in
theorem gX9_tireFor_X2_runOut : GoodIn wsX9_tireFor (wsV RX9 219 RX2 yX2_runOut wsX2_runOut) := goodIn_app (goodIn_of _ (by decide +kernel)) ggX9_tireFor_X2_runOut
theorem kX9_tireFor_41 : Cond.fieldLink RX9 41 "EveningVow" "trial" "LEveningVow$Night;" ∈ wsX9_tireFor := List.mem_of_getElem? (i := 1) rfl
theorem iX9_tireFor_X9 : ∀ w ∈ u_ws RX9 TX9 15, w ∈ wsX9_tireFor := fun w h => (List.mem_cons_of_mem _ (List.mem_append_left _ (List.mem_append_left _ (List.mem_append_left _ (List.mem_append_right _ h)))))
theorem kX9_tireFor_37 : Cond.fieldLink RX9 37 "EveningVow" "now" "LEveningVow$Night;" ∈ wsX9_tireFor := List.mem_of_getElem? (i := 2) rfl
theorem kX9_tireFor_19 : Cond.fieldLink RX9 19 "EveningVow" "told" "LEveningVow$House;" ∈ wsX9_tireFor := List.mem_of_getElem? (i := 3) rfl
theorem kX9_tireFor_49 : Cond.fieldLink RX9 49 "EveningVow" "asTold" "LEveningVow$Pace;" ∈ wsX9_tireFor := List.mem_of_getElem? (i := 4) rfl
set_option maxHeartbeats 4000000 in
set_option maxRecDepth 100000 in
theorem wX9_tireFor_L22 {p : Program} {l : Launch} {e : Env} {s : State} {m : MethodId} {args : Array Value} {below : List Frame} {meth : Method} {c : Code} {g : GG} {A : Nat → Prop} (C0 : Cx p s m args meth c cX9_tireFor 3 (some .int) RX9 wsX9_tireFor g A) (a_t : Nat) (p_t : Nat → Nat) (p_t_1 : Nat → Nat) (p_t_5 : Nat → Nat) (p_t_6 : Nat → Nat) (p_t_7 : Nat → Nat) (n : Nat) (x1 : Int32) (o_t : Nat → Int32) (o_t_1 : Nat → Int32) (f_t_1_4 : Nat → Int32) (f_t_1_6 : Nat → Int32) (f_t_1_7 : Nat → Int32) (f_t_1_10 : Nat → Int32) (f_t_1_11 : Nat → Int32) (f_t_1_12 : Nat → Int32) (o_t_5 : Nat → Int32) (f_t_5_6 : Nat → Int32) (f_t_5_7 : Nat → Int32)  (r : Int32) (o_t' : Nat → Int32) (o_t_6' : Nat → Int32) (f_t_6_6' : Nat → Int32) (f_t_6_7' : Nat → Int32) (f_t_6_8' : Nat → Int32) (o_t_7' : Nat → Int32) (K : (Nat → Int32) → (Nat → Int32) → (Nat → Int32) → (Nat → Int32) → (Nat → Int32) → Option (Int32 × (Nat → Int32) × (Nat → Int32) × (Nat → Int32) × (Nat → Int32) × (Nat → Int32) × (Nat → Int32))) (hKx : ∀ (o_t_6 : Nat → Int32) (f_t_6_6 : Nat → Int32) (f_t_6_7 : Nat → Int32) (f_t_6_8 : Nat → Int32) (o_t_7 : Nat → Int32) (H : Heap) (locs : List Loc) (ls : Array Slot), K o_t_6 f_t_6_6 f_t_6_7 f_t_6_8 o_t_7 = some (r, o_t', o_t_6', f_t_6_6', f_t_6_7', f_t_6_8', o_t_7') → va_P g.1 vwCl [oX9 a_t p_t o_t, oX1 (p_t 1) p_t_1 o_t_1, aI g (p_t_1 4) 7 f_t_1_4, aI g (p_t_1 6) 7 f_t_1_6, aI g (p_t_1 7) 7 f_t_1_7, aI g (p_t_1 10) 8 f_t_1_10, aI g (p_t_1 11) 8 f_t_1_11, aI g (p_t_1 12) 8 f_t_1_12, oX2 (p_t 5) p_t_5 o_t_5, aI g (p_t_5 6) 7 f_t_5_6, aI g (p_t_5 7) 7 f_t_5_7, oX2 (p_t 6) p_t_6 o_t_6, aI g (p_t_6 6) 7 f_t_6_6, aI g (p_t_6 7) 7 f_t_6_7, aI g (p_t_6 8) 7 f_t_6_8, oX3 (p_t 7) p_t_7 o_t_7] H → va_D A [oX9 a_t p_t o_t, oX1 (p_t 1) p_t_1 o_t_1, aI g (p_t_1 4) 7 f_t_1_4, aI g (p_t_1 6) 7 f_t_1_6, aI g (p_t_1 7) 7 f_t_1_7, aI g (p_t_1 10) 8 f_t_1_10, aI g (p_t_1 11) 8 f_t_1_11, aI g (p_t_1 12) 8 f_t_1_12, oX2 (p_t 5) p_t_5 o_t_5, aI g (p_t_5 6) 7 f_t_5_6, aI g (p_t_5 7) 7 f_t_5_7, oX2 (p_t 6) p_t_6 o_t_6, aI g (p_t_6 6) 7 f_t_6_6, aI g (p_t_6 7) 7 f_t_6_7, aI g (p_t_6 8) 7 f_t_6_8, oX3 (p_t 7) p_t_7 o_t_7] → va_S A s.heap H locs → lv_has ls 3 [] → W p l e ({ frames := 4, cells := 0, slots := 0, locals := 95 } : Room) s m args below meth c H locs 0 0 (MQ below (EndI g r [oX9 a_t p_t o_t', oX1 (p_t 1) p_t_1 o_t_1, aI g (p_t_1 4) 7 f_t_1_4, aI g (p_t_1 6) 7 f_t_1_6, aI g (p_t_1 7) 7 f_t_1_7, aI g (p_t_1 10) 8 f_t_1_10, aI g (p_t_1 11) 8 f_t_1_11, aI g (p_t_1 12) 8 f_t_1_12, oX2 (p_t 5) p_t_5 o_t_5, aI g (p_t_5 6) 7 f_t_5_6, aI g (p_t_5 7) 7 f_t_5_7, oX2 (p_t 6) p_t_6 o_t_6', aI g (p_t_6 6) 7 f_t_6_6', aI g (p_t_6 7) 7 f_t_6_7', aI g (p_t_6 8) 7 f_t_6_8', oX3 (p_t 7) p_t_7 o_t_7'] A) args s 0 0 A) (F0 m 80 ls [])) : ∀ (k : Nat) (x2 : Int32) (o_t_6 : Nat → Int32) (f_t_6_6 : Nat → Int32) (f_t_6_7 : Nat → Int32) (f_t_6_8 : Nat → Int32) (o_t_7 : Nat → Int32), fX9_tireFor_L22 n x1 o_t o_t_1 f_t_1_4 f_t_1_6 f_t_1_7 f_t_1_10 f_t_1_11 f_t_1_12 o_t_5 f_t_5_6 f_t_5_7 K k x2 o_t_6 f_t_6_6 f_t_6_7 f_t_6_8 o_t_7 = some (r, o_t', o_t_6', f_t_6_6', f_t_6_7', f_t_6_8', o_t_7') → ∀ (H : Heap) (locs : List Loc) (ls : Array Slot), va_P g.1 vwCl [oX9 a_t p_t o_t, oX1 (p_t 1) p_t_1 o_t_1, aI g (p_t_1 4) 7 f_t_1_4, aI g (p_t_1 6) 7 f_t_1_6, aI g (p_t_1 7) 7 f_t_1_7, aI g (p_t_1 10) 8 f_t_1_10, aI g (p_t_1 11) 8 f_t_1_11, aI g (p_t_1 12) 8 f_t_1_12, oX2 (p_t 5) p_t_5 o_t_5, aI g (p_t_5 6) 7 f_t_5_6, aI g (p_t_5 7) 7 f_t_5_7, oX2 (p_t 6) p_t_6 o_t_6, aI g (p_t_6 6) 7 f_t_6_6, aI g (p_t_6 7) 7 f_t_6_7, aI g (p_t_6 8) 7 f_t_6_8, oX3 (p_t 7) p_t_7 o_t_7] H → va_D A [oX9 a_t p_t o_t, oX1 (p_t 1) p_t_1 o_t_1, aI g (p_t_1 4) 7 f_t_1_4, aI g (p_t_1 6) 7 f_t_1_6, aI g (p_t_1 7) 7 f_t_1_7, aI g (p_t_1 10) 8 f_t_1_10, aI g (p_t_1 11) 8 f_t_1_11, aI g (p_t_1 12) 8 f_t_1_12, oX2 (p_t 5) p_t_5 o_t_5, aI g (p_t_5 6) 7 f_t_5_6, aI g (p_t_5 7) 7 f_t_5_7, oX2 (p_t 6) p_t_6 o_t_6, aI g (p_t_6 6) 7 f_t_6_6, aI g (p_t_6 7) 7 f_t_6_7, aI g (p_t_6 8) 7 f_t_6_8, oX3 (p_t 7) p_t_7 o_t_7] → va_S A s.heap H locs → lv_has ls 3 [(0, .ref a_t), (1, .int x1), (2, .int x2)] → W p l e ({ frames := 4, cells := 0, slots := 0, locals := 95 } : Room) s m args below meth c H locs 0 0 (MQ below (EndI g r [oX9 a_t p_t o_t', oX1 (p_t 1) p_t_1 o_t_1, aI g (p_t_1 4) 7 f_t_1_4, aI g (p_t_1 6) 7 f_t_1_6, aI g (p_t_1 7) 7 f_t_1_7, aI g (p_t_1 10) 8 f_t_1_10, aI g (p_t_1 11) 8 f_t_1_11, aI g (p_t_1 12) 8 f_t_1_12, oX2 (p_t 5) p_t_5 o_t_5, aI g (p_t_5 6) 7 f_t_5_6, aI g (p_t_5 7) 7 f_t_5_7, oX2 (p_t 6) p_t_6 o_t_6', aI g (p_t_6 6) 7 f_t_6_6', aI g (p_t_6 7) 7 f_t_6_7', aI g (p_t_6 8) 7 f_t_6_8', oX3 (p_t 7) p_t_7 o_t_7'] A) args s 0 0 A) (F0 m 22 ls []) := by
  obtain ⟨hx, hb, hml, hown, hts, hr, hlk, hK, hA, hSW⟩ := id C0
  intro k
  induction k with
  | zero =>
    intro x2 o_t_6 f_t_6_6 f_t_6_7 f_t_6_8 o_t_7 hF
    exact absurd hF (by simp [fX9_tireFor_L22])
  | succ k ih =>
    intro x2 o_t_6 f_t_6_6 f_t_6_7 f_t_6_8 o_t_7 hF H locs ls hP hD hS hl
    rw [fX9_tireFor_L22] at hF
    refine lv_iload_n hx hb dX9_tireFor_22 rfl (lv_at hl 2 rfl) ?_
    refine lv_sipush (v := (200 : Int32)) hx hb dX9_tireFor_23 (by decide) ?_
    refine lv_icmp_gt (tgt := 80) hx hb dX9_tireFor_26 (by decide) (fun c_9 => ?_) (fun c_9 => ?_)
    · have hF := it_p c_9 hF
      exact hKx o_t_6 f_t_6_6 f_t_6_7 f_t_6_8 o_t_7 _ _ _ hF (hP.sub [0, 1, 2, 3, 4, 5, 6, 7, 8, 9, 10, 11, 12, 13, 14, 15] rfl) (hD.sub [0, 1, 2, 3, 4, 5, 6, 7, 8, 9, 10, 11, 12, 13, 14, 15] rfl rfl) hS (lv_sub hl [] rfl)
    · have hF := it_n c_9 hF
      refine lv_aload_n hx hb dX9_tireFor_29 rfl (lv_at hl 0 rfl) ?_
      refine va_get (D := g.1) (ci := 9) (v := .ref (p_t 6)) (C := RX9) (T := TX9) (N := 15) hx hb hts iX9_tireFor_X9 hown hK.1 hP 0 rfl rfl 6 (by decide) (hts _ kX9_tireFor_41) (fun _ h9 => h9) rfl dX9_tireFor_30 ?_
      refine lv_aload_n hx hb dX9_tireFor_33 rfl (lv_at hl 0 rfl) ?_
      refine va_get (D := g.1) (ci := 9) (v := .ref (p_t 5)) (C := RX9) (T := TX9) (N := 15) hx hb hts iX9_tireFor_X9 hown hK.1 hP 0 rfl rfl 5 (by decide) (hts _ kX9_tireFor_37) (fun _ h9 => h9) rfl dX9_tireFor_34 ?_
      obtain ⟨u_10, u_11, u_12, hu_13, hF⟩ := ob3_some hF
      refine call_v (wr := [oX9 a_t p_t o_t, oX1 (p_t 1) p_t_1 o_t_1, aI g (p_t_1 4) 7 f_t_1_4, aI g (p_t_1 6) 7 f_t_1_6, aI g (p_t_1 7) 7 f_t_1_7, aI g (p_t_1 10) 8 f_t_1_10, aI g (p_t_1 11) 8 f_t_1_11, aI g (p_t_1 12) 8 f_t_1_12, aI g (p_t_6 8) 7 f_t_6_8, oX3 (p_t 7) p_t_7 o_t_7]) (As := [.ref (p_t 5)]) (rest := []) (ci := 2) (q0 := 0) C0 (mX2_become l g (p_t 6) (p_t 5) p_t_6 p_t_5 n o_t_6 f_t_6_6 f_t_6_7 o_t_5 f_t_5_6 f_t_5_7 u_10 u_11 u_12 hu_13) (cwV 1 hts gX9_tireFor_X2_become rfl rfl rfl (by decide +kernel) ⟨Nat.le_of_ble_eq_true rfl, Nat.le_of_ble_eq_true rfl⟩) hP hD hS [11, 12, 13, 8, 9, 10] [0, 1, 2, 3, 4, 5, 6, 7, 14, 15] rfl rfl rfl rfl rfl (by decide) rfl rfl hl.1 rfl rfl (Nat.le_of_ble_eq_true rfl) ⟨Nat.zero_le _, Nat.zero_le _⟩ dX9_tireFor_37 ?_
      intro H locs hP hD hS
      refine lv_aload_n hx hb dX9_tireFor_40 rfl (lv_at hl 0 rfl) ?_
      refine va_get (D := g.1) (ci := 9) (v := .ref (p_t 6)) (C := RX9) (T := TX9) (N := 15) hx hb hts iX9_tireFor_X9 hown hK.1 hP 0 rfl rfl 6 (by decide) (hts _ kX9_tireFor_41) (fun _ h9 => h9) rfl dX9_tireFor_41 ?_
      refine lv_aload_n hx hb dX9_tireFor_44 rfl (lv_at hl 0 rfl) ?_
      refine va_get (D := g.1) (ci := 9) (v := .ref (p_t 1)) (C := RX9) (T := TX9) (N := 15) hx hb hts iX9_tireFor_X9 hown hK.1 hP 0 rfl rfl 1 (by decide) (hts _ kX9_tireFor_19) (fun _ h9 => h9) rfl dX9_tireFor_45 ?_
      refine lv_iload_n hx hb dX9_tireFor_48 rfl (lv_at hl 2 rfl) ?_
      obtain ⟨u_14, hu_15, hF⟩ := ob1_some hF
      refine call_v (wr := [oX9 a_t p_t o_t, aI g (p_t_1 4) 7 f_t_1_4, aI g (p_t_1 6) 7 f_t_1_6, aI g (p_t_1 7) 7 f_t_1_7, aI g (p_t_1 10) 8 f_t_1_10, aI g (p_t_1 11) 8 f_t_1_11, aI g (p_t_1 12) 8 f_t_1_12, aI g (p_t_6 8) 7 f_t_6_8, oX3 (p_t 7) p_t_7 o_t_7, aI g (p_t_6 7) 7 u_12, oX2 (p_t 5) p_t_5 o_t_5, aI g (p_t_5 6) 7 f_t_5_6, aI g (p_t_5 7) 7 f_t_5_7]) (As := [.ref (p_t 1), .int x2]) (rest := []) (ci := 2) (q0 := 0) C0 (mX2_tire l g (p_t 6) (p_t 1) p_t_6 p_t_1 n x2 u_10 u_11 o_t_1 u_14 hu_15) (cwV 2 hts gX9_tireFor_X2_tire rfl rfl rfl (by decide +kernel) ⟨Nat.le_of_ble_eq_true rfl, Nat.le_of_ble_eq_true rfl⟩) hP hD hS [10, 11, 1] [0, 2, 3, 4, 5, 6, 7, 8, 9, 12, 13, 14, 15] rfl rfl rfl rfl rfl (by decide) rfl rfl hl.1 rfl rfl (Nat.le_of_ble_eq_true rfl) ⟨Nat.zero_le _, Nat.zero_le _⟩ dX9_tireFor_49 ?_
      intro H locs hP hD hS
      refine lv_aload_n hx hb dX9_tireFor_52 rfl (lv_at hl 0 rfl) ?_
      refine va_get (D := g.1) (ci := 9) (v := .ref (p_t 6)) (C := RX9) (T := TX9) (N := 15) hx hb hts iX9_tireFor_X9 hown hK.1 hP 0 rfl rfl 6 (by decide) (hts _ kX9_tireFor_41) (fun _ h9 => h9) rfl dX9_tireFor_53 ?_
      refine lv_aload_n hx hb dX9_tireFor_56 rfl (lv_at hl 0 rfl) ?_
      refine va_get (D := g.1) (ci := 9) (v := .ref (p_t 1)) (C := RX9) (T := TX9) (N := 15) hx hb hts iX9_tireFor_X9 hown hK.1 hP 0 rfl rfl 1 (by decide) (hts _ kX9_tireFor_19) (fun _ h9 => h9) rfl dX9_tireFor_57 ?_
      refine lv_aload_n hx hb dX9_tireFor_60 rfl (lv_at hl 0 rfl) ?_
      refine va_get (D := g.1) (ci := 9) (v := .ref (p_t 7)) (C := RX9) (T := TX9) (N := 15) hx hb hts iX9_tireFor_X9 hown hK.1 hP 0 rfl rfl 7 (by decide) (hts _ kX9_tireFor_49) (fun _ h9 => h9) rfl dX9_tireFor_61 ?_
      refine lv_iload_n hx hb dX9_tireFor_64 rfl (lv_at hl 1 rfl) ?_
      obtain ⟨u_16, u_17, u_18, u_19, u_20, u_21, hu_22, hF⟩ := ob6_some hF
      refine call_i (wr := [oX9 a_t p_t o_t, oX2 (p_t 5) p_t_5 o_t_5, aI g (p_t_5 6) 7 f_t_5_6, aI g (p_t_5 7) 7 f_t_5_7]) (As := [.ref (p_t 1), .ref (p_t 7), .int x1]) (rest := []) (ci := 2) (q0 := 0) C0 (mX2_runOut l g (p_t 6) (p_t 1) (p_t 7) p_t_6 p_t_1 p_t_7 n x1 u_10 u_14 u_12 f_t_6_8 o_t_1 f_t_1_4 f_t_1_6 f_t_1_7 f_t_1_10 f_t_1_11 f_t_1_12 o_t_7 u_16 u_17 u_18 u_19 u_20 u_21 hu_22) (cwV 3 hts gX9_tireFor_X2_runOut rfl rfl rfl (by decide +kernel) ⟨Nat.le_of_ble_eq_true rfl, Nat.le_of_ble_eq_true rfl⟩) hP hD hS [13, 14, 9, 7, 15, 1, 2, 3, 4, 5, 6, 8] [0, 10, 11, 12] rfl rfl rfl rfl rfl (by decide) rfl rfl hl.1 rfl rfl (Nat.le_of_ble_eq_true rfl) ⟨Nat.zero_le _, Nat.zero_le _⟩ dX9_tireFor_65 ?_
      intro H locs hP hD hS
      refine lv_iload_n hx hb dX9_tireFor_68 rfl (lv_at hl 1 rfl) ?_
      refine lv_icmp_gt (tgt := 74) hx hb dX9_tireFor_69 (by decide) (fun c_23 => ?_) (fun c_23 => ?_)
      · have hF := it_p c_23 hF
        refine lv_iinc (v := (x2 + (1 : Int32))) (lv' := [(2, .int (x2 + (1 : Int32))), (0, .ref a_t), (1, .int x1)]) hx hb dX9_tireFor_74 hl (k := 2) rfl rfl (by decide) rfl (fun ls hl => ?_)
        refine lv_goto (tgt := 22) hx hb dX9_tireFor_77 (by decide) ?_
        exact ih (x2 + (1 : Int32)) u_17 u_18 u_19 u_20 u_21 hF _ _ _ (hP.sub [0, 8, 9, 10, 11, 12, 13, 14, 1, 2, 3, 4, 5, 6, 7, 15] rfl) (hD.sub [0, 8, 9, 10, 11, 12, 13, 14, 1, 2, 3, 4, 5, 6, 7, 15] rfl rfl) hS (lv_sub hl [1, 2, 0] rfl)
      · have hF := it_n c_23 hF
        refine lv_iload_n hx hb dX9_tireFor_72 rfl (lv_at hl 2 rfl) ?_
        cases hF
        exact ret_i C0 hP hD hS [0, 8, 9, 10, 11, 12, 13, 14, 1, 2, 3, 4, 5, 6, 7, 15] rfl rfl rfl dX9_tireFor_73 rfl
set_option maxHeartbeats 4000000 in
set_option maxRecDepth 100000 in
theorem mX9_tireFor (l : Launch) (g : GG) (a_t : Nat) (p_t : Nat → Nat) (p_t_1 : Nat → Nat) (p_t_5 : Nat → Nat) (p_t_6 : Nat → Nat) (p_t_7 : Nat → Nat) (n : Nat) (x1 : Int32) (o_t : Nat → Int32) (o_t_1 : Nat → Int32) (f_t_1_4 : Nat → Int32) (f_t_1_6 : Nat → Int32) (f_t_1_7 : Nat → Int32) (f_t_1_10 : Nat → Int32) (f_t_1_11 : Nat → Int32) (f_t_1_12 : Nat → Int32) (o_t_5 : Nat → Int32) (f_t_5_6 : Nat → Int32) (f_t_5_7 : Nat → Int32) (o_t_6 : Nat → Int32) (f_t_6_6 : Nat → Int32) (f_t_6_7 : Nat → Int32) (f_t_6_8 : Nat → Int32) (o_t_7 : Nat → Int32) (r : Int32) (o_t' : Nat → Int32) (o_t_6' : Nat → Int32) (f_t_6_6' : Nat → Int32) (f_t_6_7' : Nat → Int32) (f_t_6_8' : Nat → Int32) (o_t_7' : Nat → Int32) (hF : fX9_tireFor n x1 o_t o_t_1 f_t_1_4 f_t_1_6 f_t_1_7 f_t_1_10 f_t_1_11 f_t_1_12 o_t_5 f_t_5_6 f_t_5_7 o_t_6 f_t_6_6 f_t_6_7 f_t_6_8 o_t_7 = some (r, o_t', o_t_6', f_t_6_6', f_t_6_7', f_t_6_8', o_t_7')) : MI l g yX9_tireFor wsX9_tireFor ({ frames := 4, cells := 0, slots := 0, locals := 95 } : Room) [.ref a_t, .int x1] [oX9 a_t p_t o_t, oX1 (p_t 1) p_t_1 o_t_1, aI g (p_t_1 4) 7 f_t_1_4, aI g (p_t_1 6) 7 f_t_1_6, aI g (p_t_1 7) 7 f_t_1_7, aI g (p_t_1 10) 8 f_t_1_10, aI g (p_t_1 11) 8 f_t_1_11, aI g (p_t_1 12) 8 f_t_1_12, oX2 (p_t 5) p_t_5 o_t_5, aI g (p_t_5 6) 7 f_t_5_6, aI g (p_t_5 7) 7 f_t_5_7, oX2 (p_t 6) p_t_6 o_t_6, aI g (p_t_6 6) 7 f_t_6_6, aI g (p_t_6 7) 7 f_t_6_7, aI g (p_t_6 8) 7 f_t_6_8, oX3 (p_t 7) p_t_7 o_t_7] r [oX9 a_t p_t o_t', oX1 (p_t 1) p_t_1 o_t_1, aI g (p_t_1 4) 7 f_t_1_4, aI g (p_t_1 6) 7 f_t_1_6, aI g (p_t_1 7) 7 f_t_1_7, aI g (p_t_1 10) 8 f_t_1_10, aI g (p_t_1 11) 8 f_t_1_11, aI g (p_t_1 12) 8 f_t_1_12, oX2 (p_t 5) p_t_5 o_t_5, aI g (p_t_5 6) 7 f_t_5_6, aI g (p_t_5 7) 7 f_t_5_7, oX2 (p_t 6) p_t_6 o_t_6', aI g (p_t_6 6) 7 f_t_6_6', aI g (p_t_6 7) 7 f_t_6_7', aI g (p_t_6 8) 7 f_t_6_8', oX3 (p_t 7) p_t_7 o_t_7'] := by
  refine MI.of (cc := cX9_tireFor) (maxL := 3) (rt := .int) (own := RX9) rfl rfl (by decide) (Nat.le_of_ble_eq_true rfl) ?_
  intro p e s m args below meth c A C0 hP hD hS ls hl
  obtain ⟨hx, hb, hml, hown, hts, hr, hlk, hK, hA, hSW⟩ := id C0
  have hl : lv_has ls 3 [(0, .ref a_t), (1, .int x1)] := hl
  rw [fX9_tireFor] at hF
  refine lv_aload_n hx hb dX9_tireFor_0 rfl (lv_at hl 0 rfl) ?_
  obtain ⟨u_1, u_2, hu_3, hF⟩ := ob2_some hF
  refine call_i (wr := [oX1 (p_t 1) p_t_1 o_t_1, aI g (p_t_1 4) 7 f_t_1_4, aI g (p_t_1 6) 7 f_t_1_6, aI g (p_t_1 7) 7 f_t_1_7, aI g (p_t_1 10) 8 f_t_1_10, aI g (p_t_1 11) 8 f_t_1_11, aI g (p_t_1 12) 8 f_t_1_12, oX2 (p_t 5) p_t_5 o_t_5, aI g (p_t_5 6) 7 f_t_5_6, aI g (p_t_5 7) 7 f_t_5_7, oX2 (p_t 6) p_t_6 o_t_6, aI g (p_t_6 6) 7 f_t_6_6, aI g (p_t_6 7) 7 f_t_6_7, aI g (p_t_6 8) 7 f_t_6_8, oX3 (p_t 7) p_t_7 o_t_7]) (As := []) (rest := []) (ci := 9) (q0 := 0) C0 (mX9_asked l g a_t p_t n o_t u_1 u_2 hu_3) (cwV 0 hts gX9_tireFor_X9_asked rfl rfl rfl (by decide +kernel) ⟨Nat.le_of_ble_eq_true rfl, Nat.le_of_ble_eq_true rfl⟩) hP hD hS [0] [1, 2, 3, 4, 5, 6, 7, 8, 9, 10, 11, 12, 13, 14, 15] rfl rfl rfl rfl rfl (by decide) rfl rfl hl.1 rfl rfl (Nat.le_of_ble_eq_true rfl) ⟨Nat.zero_le _, Nat.zero_le _⟩ dX9_tireFor_1 ?_
  intro H locs hP hD hS
  refine lv_if_eq (tgt := 18) hx hb dX9_tireFor_4 (by decide) (fun c_4 => ?_) (fun c_4 => ?_)
  · have hF := it_p c_4 hF
    refine lv_iconst (v := (-1 : Int32)) hx hb dX9_tireFor_18 (by decide) ?_
    cases hF
    exact ret_i C0 hP hD hS [15, 0, 1, 2, 3, 4, 5, 6, 7, 8, 9, 10, 11, 12, 13, 14] rfl rfl rfl dX9_tireFor_19 rfl
  · have hF := it_n c_4 hF
    refine lv_aload_n hx hb dX9_tireFor_7 rfl (lv_at hl 0 rfl) ?_
    refine lv_iload_n hx hb dX9_tireFor_8 rfl (lv_at hl 1 rfl) ?_
    refine lv_iconst (v := (0 : Int32)) hx hb dX9_tireFor_9 (by decide) ?_
    refine lv_bipush (v := (60 : Int32)) hx hb dX9_tireFor_10 (by decide) ?_
    obtain ⟨u_5, u_6, hu_7, hF⟩ := ob2_some hF
    refine call_i (wr := [oX1 (p_t 1) p_t_1 o_t_1, aI g (p_t_1 4) 7 f_t_1_4, aI g (p_t_1 6) 7 f_t_1_6, aI g (p_t_1 7) 7 f_t_1_7, aI g (p_t_1 10) 8 f_t_1_10, aI g (p_t_1 11) 8 f_t_1_11, aI g (p_t_1 12) 8 f_t_1_12, oX2 (p_t 5) p_t_5 o_t_5, aI g (p_t_5 6) 7 f_t_5_6, aI g (p_t_5 7) 7 f_t_5_7, oX2 (p_t 6) p_t_6 o_t_6, aI g (p_t_6 6) 7 f_t_6_6, aI g (p_t_6 7) 7 f_t_6_7, aI g (p_t_6 8) 7 f_t_6_8, oX3 (p_t 7) p_t_7 o_t_7]) (As := [.int x1, .int (0 : Int32), .int (60 : Int32)]) (rest := []) (ci := 9) (q0 := 0) C0 (mX9_within l g a_t p_t n x1 (0 : Int32) (60 : Int32) u_2 u_5 u_6 hu_7) (cwV 3 hts gX9_tireFor_X9_within rfl rfl rfl (by decide +kernel) ⟨Nat.le_of_ble_eq_true rfl, Nat.le_of_ble_eq_true rfl⟩) hP hD hS [15] [0, 1, 2, 3, 4, 5, 6, 7, 8, 9, 10, 11, 12, 13, 14] rfl rfl rfl rfl rfl (by decide) rfl rfl hl.1 rfl rfl (Nat.le_of_ble_eq_true rfl) ⟨Nat.zero_le _, Nat.zero_le _⟩ dX9_tireFor_12 ?_
    intro H locs hP hD hS
    refine lv_if_ne (tgt := 20) hx hb dX9_tireFor_15 (by decide) (fun c_8 => ?_) (fun c_8 => ?_)
    · have hF := it_n c_8 hF
      refine lv_iconst (v := (0 : Int32)) hx hb dX9_tireFor_20 (by decide) ?_
      refine lv_istore_n (lv' := [(2, .int (0 : Int32)), (0, .ref a_t), (1, .int x1)]) hx hb dX9_tireFor_21 rfl hl (by decide) rfl (fun ls hl => ?_)
      refine wX9_tireFor_L22 C0 a_t p_t p_t_1 p_t_5 p_t_6 p_t_7 n x1 u_6 o_t_1 f_t_1_4 f_t_1_6 f_t_1_7 f_t_1_10 f_t_1_11 f_t_1_12 o_t_5 f_t_5_6 f_t_5_7 r o_t' o_t_6' f_t_6_6' f_t_6_7' f_t_6_8' o_t_7' _ ?_ n (0 : Int32) o_t_6 f_t_6_6 f_t_6_7 f_t_6_8 o_t_7 hF _ _ _ (hP.sub [15, 0, 1, 2, 3, 4, 5, 6, 7, 8, 9, 10, 11, 12, 13, 14] rfl) (hD.sub [15, 0, 1, 2, 3, 4, 5, 6, 7, 8, 9, 10, 11, 12, 13, 14] rfl rfl) hS (lv_sub hl [1, 2, 0] rfl)
      · intro o_t_6_x22 f_t_6_6_x22 f_t_6_7_x22 f_t_6_8_x22 o_t_7_x22 H locs ls hF hP hD hS hl
        refine lv_bipush (v := (-2 : Int32)) hx hb dX9_tireFor_80 (by decide) ?_
        cases hF
        exact ret_i C0 hP hD hS [0, 1, 2, 3, 4, 5, 6, 7, 8, 9, 10, 11, 12, 13, 14, 15] rfl rfl rfl dX9_tireFor_82 rfl
    · have hF := it_p c_8 hF
      refine lv_iconst (v := (-1 : Int32)) hx hb dX9_tireFor_18 (by decide) ?_
      cases hF
      exact ret_i C0 hP hD hS [15, 0, 1, 2, 3, 4, 5, 6, 7, 8, 9, 10, 11, 12, 13, 14] rfl rfl rfl dX9_tireFor_19 rfl

theorem dAX9_endsLess : ∀ q ∈ ([(0, (.aload_n 0, 1)), (1, (.getfield 41, 3)), (4, (.aload_n 0, 1)), (5, (.getfield 37, 3)), (8, (.invokevirtual 160, 3)), (11, (.aload_n 0, 1)), (12, (.getfield 41, 3)), (15, (.aload_n 0, 1)), (16, (.getfield 19, 3)), (19, (.iload_n 1, 1)), (20, (.invokevirtual 314, 3)), (23, (.pop, 1)), (24, (.aload_n 0, 1)), (25, (.getfield 41, 3)), (28, (.aload_n 0, 1)), (29, (.getfield 19, 3)), (32, (.aload_n 0, 1)), (33, (.getfield 49, 3)), (36, (.iload_n 2, 1)), (37, (.invokevirtual 219, 3)), (40, (.ireturn, 1))] : List (Nat × (Instr × Nat))), decode cX9_endsLess q.1 = .ok q.2 := by decide +kernel
theorem dX9_endsLess_0 : decode cX9_endsLess 0 = .ok (.aload_n 0, 1) := dAX9_endsLess (0, (.aload_n 0, 1)) (List.mem_of_getElem? (i := 0) rfl)
theorem dX9_endsLess_1 : decode cX9_endsLess 1 = .ok (.getfield 41, 3) := dAX9_endsLess (1, (.getfield 41, 3)) (List.mem_of_getElem? (i := 1) rfl)
theorem dX9_endsLess_4 : decode cX9_endsLess 4 = .ok (.aload_n 0, 1) := dAX9_endsLess (4, (.aload_n 0, 1)) (List.mem_of_getElem? (i := 2) rfl)
theorem dX9_endsLess_5 : decode cX9_endsLess 5 = .ok (.getfield 37, 3) := dAX9_endsLess (5, (.getfield 37, 3)) (List.mem_of_getElem? (i := 3) rfl)
theorem dX9_endsLess_8 : decode cX9_endsLess 8 = .ok (.invokevirtual 160, 3) := dAX9_endsLess (8, (.invokevirtual 160, 3)) (List.mem_of_getElem? (i := 4) rfl)
theorem dX9_endsLess_11 : decode cX9_endsLess 11 = .ok (.aload_n 0, 1) := dAX9_endsLess (11, (.aload_n 0, 1)) (List.mem_of_getElem? (i := 5) rfl)
theorem dX9_endsLess_12 : decode cX9_endsLess 12 = .ok (.getfield 41, 3) := dAX9_endsLess (12, (.getfield 41, 3)) (List.mem_of_getElem? (i := 6) rfl)
theorem dX9_endsLess_15 : decode cX9_endsLess 15 = .ok (.aload_n 0, 1) := dAX9_endsLess (15, (.aload_n 0, 1)) (List.mem_of_getElem? (i := 7) rfl)
theorem dX9_endsLess_16 : decode cX9_endsLess 16 = .ok (.getfield 19, 3) := dAX9_endsLess (16, (.getfield 19, 3)) (List.mem_of_getElem? (i := 8) rfl)
theorem dX9_endsLess_19 : decode cX9_endsLess 19 = .ok (.iload_n 1, 1) := dAX9_endsLess (19, (.iload_n 1, 1)) (List.mem_of_getElem? (i := 9) rfl)
theorem dX9_endsLess_20 : decode cX9_endsLess 20 = .ok (.invokevirtual 314, 3) := dAX9_endsLess (20, (.invokevirtual 314, 3)) (List.mem_of_getElem? (i := 10) rfl)
theorem dX9_endsLess_23 : decode cX9_endsLess 23 = .ok (.pop, 1) := dAX9_endsLess (23, (.pop, 1)) (List.mem_of_getElem? (i := 11) rfl)
theorem dX9_endsLess_24 : decode cX9_endsLess 24 = .ok (.aload_n 0, 1) := dAX9_endsLess (24, (.aload_n 0, 1)) (List.mem_of_getElem? (i := 12) rfl)
theorem dX9_endsLess_25 : decode cX9_endsLess 25 = .ok (.getfield 41, 3) := dAX9_endsLess (25, (.getfield 41, 3)) (List.mem_of_getElem? (i := 13) rfl)
theorem dX9_endsLess_28 : decode cX9_endsLess 28 = .ok (.aload_n 0, 1) := dAX9_endsLess (28, (.aload_n 0, 1)) (List.mem_of_getElem? (i := 14) rfl)
theorem dX9_endsLess_29 : decode cX9_endsLess 29 = .ok (.getfield 19, 3) := dAX9_endsLess (29, (.getfield 19, 3)) (List.mem_of_getElem? (i := 15) rfl)
theorem dX9_endsLess_32 : decode cX9_endsLess 32 = .ok (.aload_n 0, 1) := dAX9_endsLess (32, (.aload_n 0, 1)) (List.mem_of_getElem? (i := 16) rfl)
theorem dX9_endsLess_33 : decode cX9_endsLess 33 = .ok (.getfield 49, 3) := dAX9_endsLess (33, (.getfield 49, 3)) (List.mem_of_getElem? (i := 17) rfl)
theorem dX9_endsLess_36 : decode cX9_endsLess 36 = .ok (.iload_n 2, 1) := dAX9_endsLess (36, (.iload_n 2, 1)) (List.mem_of_getElem? (i := 18) rfl)
theorem dX9_endsLess_37 : decode cX9_endsLess 37 = .ok (.invokevirtual 219, 3) := dAX9_endsLess (37, (.invokevirtual 219, 3)) (List.mem_of_getElem? (i := 19) rfl)
theorem dX9_endsLess_40 : decode cX9_endsLess 40 = .ok (.ireturn, 1) := dAX9_endsLess (40, (.ireturn, 1)) (List.mem_of_getElem? (i := 20) rfl)
set_option maxRecDepth 20000 in
theorem ggX9_endsLess_X2_become : GoodIn wsX9_endsLess wsX2_become := goodIn_r _ [9, 10, 11, 12, 13, 14, 15, 16, 17, 18, 19, 87, 88, 89, 90, 91, 92, 93, 94, 95] rfl (by decide +kernel)
set_option maxRecDepth 20000 in
theorem gX9_endsLess_X2_become : GoodIn wsX9_endsLess (wsV RX9 160 RX2 yX2_become wsX2_become) := goodIn_app (goodIn_of _ (by decide +kernel)) ggX9_endsLess_X2_become
set_option maxRecDepth 20000 in
theorem ggX9_endsLess_X2_dismiss : GoodIn wsX9_endsLess wsX2_dismiss := goodIn_r _ [23, 24, 25, 26, 8, 27, 11, 28, 19, 10, 29, 14, 30, 31, 32, 33, 34, 35, 36, 37, 38, 39, 40, 41, 42, 43, 44, 45, 46, 47, 48, 49, 87, 88, 89, 90, 91, 92, 93, 94, 95, 96, 97, 98, 99, 100, 101, 102, 103, 104, 105, 106, 107, 108, 109, 110, 111, 112] rfl (by decide +kernel)
set_option maxRecDepth 20000 in
theorem gX9_endsLess_X2_dismiss : GoodIn wsX9_endsLess (wsV RX9 314 RX2 yX2_dismiss wsX2_dismiss) := goodIn_app (goodIn_of _ (by decide +kernel)) ggX9_endsLess_X2_dismiss
set_option maxRecDepth 20000 in
theorem ggX9_endsLess_X2_runOut : GoodIn wsX9_endsLess wsX2_runOut := goodIn_r _ [53, 54, 11, 55, 56, 57, 8, 58, 10, 59, 60, 61, 62, 28, 49, 14, 63, 64, 65, 66, 67, 68, 69, 70, 71, 31, 32, 33, 34, 35, 36, 37, 38, 39, 40, 41, 42, 43, 44, 45, 46, 47, 48, 24, 25, 26, 27, 19, 29, 30, 87, 88, 89, 90, 91, 92, 93, 94, 95, 96, 97, 98, 99, 100, 101, 102, 103, 104, 105, 106, 107, 108, 109, 110, 111, 112, 113, 114] rfl (by decide +kernel)
set_option maxRecDepth 20000 in
theorem gX9_endsLess_X2_runOut : GoodIn wsX9_endsLess (wsV RX9 219 RX2 yX2_runOut wsX2_runOut) := goodIn_app (goodIn_of _ (by decide +kernel)) ggX9_endsLess_X2_runOut
theorem kX9_endsLess_41 : Cond.fieldLink RX9 41 "EveningVow" "trial" "LEveningVow$Night;" ∈ wsX9_endsLess := List.mem_of_getElem? (i := 1) rfl
theorem iX9_endsLess_X9 : ∀ w ∈ u_ws RX9 TX9 15, w ∈ wsX9_endsLess := fun w h => (List.mem_cons_of_mem _ (List.mem_append_left _ (List.mem_append_left _ (List.mem_append_left _ (List.mem_append_right _ h)))))
theorem kX9_endsLess_37 : Cond.fieldLink RX9 37 "EveningVow" "now" "LEveningVow$Night;" ∈ wsX9_endsLess := List.mem_of_getElem? (i := 2) rfl
theorem kX9_endsLess_19 : Cond.fieldLink RX9 19 "EveningVow" "told" "LEveningVow$House;" ∈ wsX9_endsLess := List.mem_of_getElem? (i := 3) rfl
theorem kX9_endsLess_49 : Cond.fieldLink RX9 49 "EveningVow" "asTold" "LEveningVow$Pace;" ∈ wsX9_endsLess := List.mem_of_getElem? (i := 4) rfl
set_option maxHeartbeats 4000000 in
set_option maxRecDepth 100000 in
theorem mX9_endsLess (l : Launch) (g : GG) (a_t : Nat) (p_t : Nat → Nat) (p_t_1 : Nat → Nat) (p_t_5 : Nat → Nat) (p_t_6 : Nat → Nat) (p_t_7 : Nat → Nat) (n : Nat) (x1 : Int32) (x2 : Int32) (o_t : Nat → Int32) (o_t_1 : Nat → Int32) (f_t_1_4 : Nat → Int32) (f_t_1_6 : Nat → Int32) (f_t_1_7 : Nat → Int32) (f_t_1_10 : Nat → Int32) (f_t_1_11 : Nat → Int32) (f_t_1_12 : Nat → Int32) (o_t_5 : Nat → Int32) (f_t_5_6 : Nat → Int32) (f_t_5_7 : Nat → Int32) (o_t_6 : Nat → Int32) (f_t_6_6 : Nat → Int32) (f_t_6_7 : Nat → Int32) (f_t_6_8 : Nat → Int32) (o_t_7 : Nat → Int32) (r : Int32) (o_t_6' : Nat → Int32) (f_t_6_6' : Nat → Int32) (f_t_6_7' : Nat → Int32) (f_t_6_8' : Nat → Int32) (o_t_7' : Nat → Int32) (hF : fX9_endsLess n x1 x2 o_t o_t_1 f_t_1_4 f_t_1_6 f_t_1_7 f_t_1_10 f_t_1_11 f_t_1_12 o_t_5 f_t_5_6 f_t_5_7 o_t_6 f_t_6_6 f_t_6_7 f_t_6_8 o_t_7 = some (r, o_t_6', f_t_6_6', f_t_6_7', f_t_6_8', o_t_7')) : MI l g yX9_endsLess wsX9_endsLess ({ frames := 4, cells := 0, slots := 0, locals := 95 } : Room) [.ref a_t, .int x1, .int x2] [oX9 a_t p_t o_t, oX1 (p_t 1) p_t_1 o_t_1, aI g (p_t_1 4) 7 f_t_1_4, aI g (p_t_1 6) 7 f_t_1_6, aI g (p_t_1 7) 7 f_t_1_7, aI g (p_t_1 10) 8 f_t_1_10, aI g (p_t_1 11) 8 f_t_1_11, aI g (p_t_1 12) 8 f_t_1_12, oX2 (p_t 5) p_t_5 o_t_5, aI g (p_t_5 6) 7 f_t_5_6, aI g (p_t_5 7) 7 f_t_5_7, oX2 (p_t 6) p_t_6 o_t_6, aI g (p_t_6 6) 7 f_t_6_6, aI g (p_t_6 7) 7 f_t_6_7, aI g (p_t_6 8) 7 f_t_6_8, oX3 (p_t 7) p_t_7 o_t_7] r [oX9 a_t p_t o_t, oX1 (p_t 1) p_t_1 o_t_1, aI g (p_t_1 4) 7 f_t_1_4, aI g (p_t_1 6) 7 f_t_1_6, aI g (p_t_1 7) 7 f_t_1_7, aI g (p_t_1 10) 8 f_t_1_10, aI g (p_t_1 11) 8 f_t_1_11, aI g (p_t_1 12) 8 f_t_1_12, oX2 (p_t 5) p_t_5 o_t_5, aI g (p_t_5 6) 7 f_t_5_6, aI g (p_t_5 7) 7 f_t_5_7, oX2 (p_t 6) p_t_6 o_t_6', aI g (p_t_6 6) 7 f_t_6_6', aI g (p_t_6 7) 7 f_t_6_7', aI g (p_t_6 8) 7 f_t_6_8', oX3 (p_t 7) p_t_7 o_t_7'] := by
  refine MI.of (cc := cX9_endsLess) (maxL := 3) (rt := .int) (own := RX9) rfl rfl (by decide) (Nat.le_of_ble_eq_true rfl) ?_
  intro p e s m args below meth c A C0 hP hD hS ls hl
  obtain ⟨hx, hb, hml, hown, hts, hr, hlk, hK, hA, hSW⟩ := id C0
  have hl : lv_has ls 3 [(0, .ref a_t), (1, .int x1), (2, .int x2)] := hl
  rw [fX9_endsLess] at hF
  refine lv_aload_n hx hb dX9_endsLess_0 rfl (lv_at hl 0 rfl) ?_
  refine va_get (D := g.1) (ci := 9) (v := .ref (p_t 6)) (C := RX9) (T := TX9) (N := 15) hx hb hts iX9_endsLess_X9 hown hK.1 hP 0 rfl rfl 6 (by decide) (hts _ kX9_endsLess_41) (fun _ h9 => h9) rfl dX9_endsLess_1 ?_
  refine lv_aload_n hx hb dX9_endsLess_4 rfl (lv_at hl 0 rfl) ?_
  refine va_get (D := g.1) (ci := 9) (v := .ref (p_t 5)) (C := RX9) (T := TX9) (N := 15) hx hb hts iX9_endsLess_X9 hown hK.1 hP 0 rfl rfl 5 (by decide) (hts _ kX9_endsLess_37) (fun _ h9 => h9) rfl dX9_endsLess_5 ?_
  obtain ⟨u_1, u_2, u_3, hu_4, hF⟩ := ob3_some hF
  refine call_v (wr := [oX9 a_t p_t o_t, oX1 (p_t 1) p_t_1 o_t_1, aI g (p_t_1 4) 7 f_t_1_4, aI g (p_t_1 6) 7 f_t_1_6, aI g (p_t_1 7) 7 f_t_1_7, aI g (p_t_1 10) 8 f_t_1_10, aI g (p_t_1 11) 8 f_t_1_11, aI g (p_t_1 12) 8 f_t_1_12, aI g (p_t_6 8) 7 f_t_6_8, oX3 (p_t 7) p_t_7 o_t_7]) (As := [.ref (p_t 5)]) (rest := []) (ci := 2) (q0 := 0) C0 (mX2_become l g (p_t 6) (p_t 5) p_t_6 p_t_5 n o_t_6 f_t_6_6 f_t_6_7 o_t_5 f_t_5_6 f_t_5_7 u_1 u_2 u_3 hu_4) (cwV 1 hts gX9_endsLess_X2_become rfl rfl rfl (by decide +kernel) ⟨Nat.le_of_ble_eq_true rfl, Nat.le_of_ble_eq_true rfl⟩) hP hD hS [11, 12, 13, 8, 9, 10] [0, 1, 2, 3, 4, 5, 6, 7, 14, 15] rfl rfl rfl rfl rfl (by decide) rfl rfl hl.1 rfl rfl (Nat.le_of_ble_eq_true rfl) ⟨Nat.zero_le _, Nat.zero_le _⟩ dX9_endsLess_8 ?_
  intro H locs hP hD hS
  refine lv_aload_n hx hb dX9_endsLess_11 rfl (lv_at hl 0 rfl) ?_
  refine va_get (D := g.1) (ci := 9) (v := .ref (p_t 6)) (C := RX9) (T := TX9) (N := 15) hx hb hts iX9_endsLess_X9 hown hK.1 hP 0 rfl rfl 6 (by decide) (hts _ kX9_endsLess_41) (fun _ h9 => h9) rfl dX9_endsLess_12 ?_
  refine lv_aload_n hx hb dX9_endsLess_15 rfl (lv_at hl 0 rfl) ?_
  refine va_get (D := g.1) (ci := 9) (v := .ref (p_t 1)) (C := RX9) (T := TX9) (N := 15) hx hb hts iX9_endsLess_X9 hown hK.1 hP 0 rfl rfl 1 (by decide) (hts _ kX9_endsLess_19) (fun _ h9 => h9) rfl dX9_endsLess_16 ?_
  refine lv_iload_n hx hb dX9_endsLess_19 rfl (lv_at hl 1 rfl) ?_
  obtain ⟨u_5, u_6, u_7, u_8, u_9, hu_10, hF⟩ := ob5_some hF
  refine call_i (wr := [oX9 a_t p_t o_t, aI g (p_t_1 6) 7 f_t_1_6, oX3 (p_t 7) p_t_7 o_t_7, oX2 (p_t 5) p_t_5 o_t_5, aI g (p_t_5 6) 7 f_t_5_6, aI g (p_t_5 7) 7 f_t_5_7]) (As := [.ref (p_t 1), .int x1]) (rest := []) (ci := 2) (q0 := 0) C0 (mX2_dismiss l g (p_t 6) (p_t 1) p_t_6 p_t_1 n x1 u_1 u_2 u_3 f_t_6_8 o_t_1 f_t_1_4 f_t_1_7 f_t_1_10 f_t_1_11 f_t_1_12 u_5 u_6 u_7 u_8 u_9 hu_10) (cwV 2 hts gX9_endsLess_X2_dismiss rfl rfl rfl (by decide +kernel) ⟨Nat.le_of_ble_eq_true rfl, Nat.le_of_ble_eq_true rfl⟩) hP hD hS [10, 11, 12, 8, 1, 2, 4, 5, 6, 7] [0, 3, 9, 13, 14, 15] rfl rfl rfl rfl rfl (by decide) rfl rfl hl.1 rfl rfl (Nat.le_of_ble_eq_true rfl) ⟨Nat.zero_le _, Nat.zero_le _⟩ dX9_endsLess_20 ?_
  intro H locs hP hD hS
  refine lv_pop hx hb dX9_endsLess_23 rfl ?_
  refine lv_aload_n hx hb dX9_endsLess_24 rfl (lv_at hl 0 rfl) ?_
  refine va_get (D := g.1) (ci := 9) (v := .ref (p_t 6)) (C := RX9) (T := TX9) (N := 15) hx hb hts iX9_endsLess_X9 hown hK.1 hP 0 rfl rfl 6 (by decide) (hts _ kX9_endsLess_41) (fun _ h9 => h9) rfl dX9_endsLess_25 ?_
  refine lv_aload_n hx hb dX9_endsLess_28 rfl (lv_at hl 0 rfl) ?_
  refine va_get (D := g.1) (ci := 9) (v := .ref (p_t 1)) (C := RX9) (T := TX9) (N := 15) hx hb hts iX9_endsLess_X9 hown hK.1 hP 0 rfl rfl 1 (by decide) (hts _ kX9_endsLess_19) (fun _ h9 => h9) rfl dX9_endsLess_29 ?_
  refine lv_aload_n hx hb dX9_endsLess_32 rfl (lv_at hl 0 rfl) ?_
  refine va_get (D := g.1) (ci := 9) (v := .ref (p_t 7)) (C := RX9) (T := TX9) (N := 15) hx hb hts iX9_endsLess_X9 hown hK.1 hP 0 rfl rfl 7 (by decide) (hts _ kX9_endsLess_49) (fun _ h9 => h9) rfl dX9_endsLess_33 ?_
  refine lv_iload_n hx hb dX9_endsLess_36 rfl (lv_at hl 2 rfl) ?_
  obtain ⟨u_11, u_12, u_13, u_14, u_15, u_16, hu_17, hF⟩ := ob6_some hF
  refine call_i (wr := [oX9 a_t p_t o_t, oX2 (p_t 5) p_t_5 o_t_5, aI g (p_t_5 6) 7 f_t_5_6, aI g (p_t_5 7) 7 f_t_5_7]) (As := [.ref (p_t 1), .ref (p_t 7), .int x2]) (rest := []) (ci := 2) (q0 := 0) C0 (mX2_runOut l g (p_t 6) (p_t 1) (p_t 7) p_t_6 p_t_1 p_t_7 n x2 u_6 u_7 u_8 u_9 o_t_1 f_t_1_4 f_t_1_6 f_t_1_7 f_t_1_10 f_t_1_11 f_t_1_12 o_t_7 u_11 u_12 u_13 u_14 u_15 u_16 hu_17) (cwV 3 hts gX9_endsLess_X2_runOut rfl rfl rfl (by decide +kernel) ⟨Nat.le_of_ble_eq_true rfl, Nat.le_of_ble_eq_true rfl⟩) hP hD hS [6, 7, 8, 9, 10, 11, 1, 12, 13, 14, 15, 2] [0, 3, 4, 5] rfl rfl rfl rfl rfl (by decide) rfl rfl hl.1 rfl rfl (Nat.le_of_ble_eq_true rfl) ⟨Nat.zero_le _, Nat.zero_le _⟩ dX9_endsLess_37 ?_
  intro H locs hP hD hS
  cases hF
  exact ret_i C0 hP hD hS [0, 8, 9, 10, 11, 12, 13, 14, 1, 2, 3, 4, 5, 6, 7, 15] rfl rfl rfl dX9_endsLess_40 rfl

theorem dAX9_endsWithout : ∀ q ∈ ([(0, (.aload_n 0, 1)), (1, (.iload_n 1, 1)), (2, (.invokevirtual 203, 3)), (5, (.ifCond .eq 18, 3)), (8, (.aload_n 0, 1)), (9, (.iconst 1, 1)), (10, (.iload_n 1, 1)), (11, (.ishl, 1)), (12, (.bipush 60, 2)), (14, (.invokevirtual 222, 3)), (17, (.invokestatic 197, 3)), (20, (.goto 4, 3)), (23, (.iconst (-1), 1)), (24, (.ireturn, 1))] : List (Nat × (Instr × Nat))), decode cX9_endsWithout q.1 = .ok q.2 := by decide +kernel
theorem dX9_endsWithout_0 : decode cX9_endsWithout 0 = .ok (.aload_n 0, 1) := dAX9_endsWithout (0, (.aload_n 0, 1)) (List.mem_of_getElem? (i := 0) rfl)
theorem dX9_endsWithout_1 : decode cX9_endsWithout 1 = .ok (.iload_n 1, 1) := dAX9_endsWithout (1, (.iload_n 1, 1)) (List.mem_of_getElem? (i := 1) rfl)
theorem dX9_endsWithout_2 : decode cX9_endsWithout 2 = .ok (.invokevirtual 203, 3) := dAX9_endsWithout (2, (.invokevirtual 203, 3)) (List.mem_of_getElem? (i := 2) rfl)
theorem dX9_endsWithout_5 : decode cX9_endsWithout 5 = .ok (.ifCond .eq 18, 3) := dAX9_endsWithout (5, (.ifCond .eq 18, 3)) (List.mem_of_getElem? (i := 3) rfl)
theorem dX9_endsWithout_8 : decode cX9_endsWithout 8 = .ok (.aload_n 0, 1) := dAX9_endsWithout (8, (.aload_n 0, 1)) (List.mem_of_getElem? (i := 4) rfl)
theorem dX9_endsWithout_9 : decode cX9_endsWithout 9 = .ok (.iconst 1, 1) := dAX9_endsWithout (9, (.iconst 1, 1)) (List.mem_of_getElem? (i := 5) rfl)
theorem dX9_endsWithout_10 : decode cX9_endsWithout 10 = .ok (.iload_n 1, 1) := dAX9_endsWithout (10, (.iload_n 1, 1)) (List.mem_of_getElem? (i := 6) rfl)
theorem dX9_endsWithout_11 : decode cX9_endsWithout 11 = .ok (.ishl, 1) := dAX9_endsWithout (11, (.ishl, 1)) (List.mem_of_getElem? (i := 7) rfl)
theorem dX9_endsWithout_12 : decode cX9_endsWithout 12 = .ok (.bipush 60, 2) := dAX9_endsWithout (12, (.bipush 60, 2)) (List.mem_of_getElem? (i := 8) rfl)
theorem dX9_endsWithout_14 : decode cX9_endsWithout 14 = .ok (.invokevirtual 222, 3) := dAX9_endsWithout (14, (.invokevirtual 222, 3)) (List.mem_of_getElem? (i := 9) rfl)
theorem dX9_endsWithout_17 : decode cX9_endsWithout 17 = .ok (.invokestatic 197, 3) := dAX9_endsWithout (17, (.invokestatic 197, 3)) (List.mem_of_getElem? (i := 10) rfl)
theorem dX9_endsWithout_20 : decode cX9_endsWithout 20 = .ok (.goto 4, 3) := dAX9_endsWithout (20, (.goto 4, 3)) (List.mem_of_getElem? (i := 11) rfl)
theorem dX9_endsWithout_23 : decode cX9_endsWithout 23 = .ok (.iconst (-1), 1) := dAX9_endsWithout (23, (.iconst (-1), 1)) (List.mem_of_getElem? (i := 12) rfl)
theorem dX9_endsWithout_24 : decode cX9_endsWithout 24 = .ok (.ireturn, 1) := dAX9_endsWithout (24, (.ireturn, 1)) (List.mem_of_getElem? (i := 13) rfl)
set_option maxRecDepth 20000 in
theorem ggX9_endsWithout_X9_presentAsked : GoodIn wsX9_endsWithout wsX9_presentAsked := goodIn_r _ [5, 6, 7, 8, 9, 10, 4, 11, 12, 13, 14, 15, 16, 17, 18, 19, 20, 21, 96, 97, 98, 99, 100, 101, 102, 103, 104, 105, 106, 107, 108, 109, 110, 111, 112, 113, 114, 115, 116, 117, 118, 119, 120, 121, 122, 123, 124, 125, 126, 127, 128, 129, 130, 131, 132, 133, 134, 135, 136] rfl (by decide +kernel)
set_option maxRecDepth 20000 in
theorem gX9_endsWithout_X9_presentAsked : GoodIn wsX9_endsWithout (wsV RX9 203 RX9 yX9_presentAsked wsX9_presentAsked) := goodIn_app (goodIn_of _ (by decide +kernel)) ggX9_endsWithout_X9_presentAsked
set_option maxRecDepth 20000 in
theorem ggX9_endsWithout_X9_endsLess : GoodIn wsX9_endsWithout wsX9_endsLess := goodIn_r _ [25, 26, 6, 12, 27, 28, 29, 30, 17, 31, 32, 19, 33, 34, 35, 36, 37, 38, 39, 40, 41, 42, 43, 44, 45, 46, 47, 48, 49, 50, 51, 52, 53, 54, 55, 56, 57, 58, 59, 60, 61, 62, 63, 64, 65, 66, 67, 68, 69, 70, 71, 72, 73, 74, 75, 76, 77, 78, 79, 80, 81, 82, 83, 84, 85, 86, 87, 88, 89, 90, 91, 92, 96, 97, 98, 99, 100, 101, 102, 103, 104, 105, 106, 107, 108, 109, 110, 128, 129, 130, 131, 132, 133, 134, 135, 136, 111, 112, 113, 114, 115, 116, 117, 118, 119, 120, 121, 122, 123, 124, 125, 126, 127, 137, 138] rfl (by decide +kernel)
set_option maxRecDepth 20000 in
theorem gX9_endsWithout_X9_endsLess : GoodIn wsX9_endsWithout (wsV RX9 222 RX9 yX9_endsLess wsX9_endsLess) := goodIn_app (goodIn_of _ (by decide +kernel)) ggX9_endsWithout_X9_endsLess
set_option maxRecDepth 20000 in
theorem ggX9_endsWithout_X9_orNot : GoodIn wsX9_endsWithout wsX9_orNot := goodIn_r _ [95] rfl (by decide +kernel)
set_option maxRecDepth 20000 in
theorem gX9_endsWithout_X9_orNot : GoodIn wsX9_endsWithout (va_wsS RX9 197 yX9_orNot wsX9_orNot) := goodIn_app (goodIn_of _ (by decide +kernel)) ggX9_endsWithout_X9_orNot
set_option maxHeartbeats 4000000 in
set_option maxRecDepth 100000 in
theorem mX9_endsWithout (l : Launch) (g : GG) (a_t : Nat) (p_t : Nat → Nat) (p_t_1 : Nat → Nat) (p_t_5 : Nat → Nat) (p_t_6 : Nat → Nat) (p_t_7 : Nat → Nat) (n : Nat) (x1 : Int32) (o_t : Nat → Int32) (o_t_1 : Nat → Int32) (f_t_1_4 : Nat → Int32) (f_t_1_6 : Nat → Int32) (f_t_1_7 : Nat → Int32) (f_t_1_10 : Nat → Int32) (f_t_1_11 : Nat → Int32) (f_t_1_12 : Nat → Int32) (o_t_5 : Nat → Int32) (f_t_5_6 : Nat → Int32) (f_t_5_7 : Nat → Int32) (o_t_6 : Nat → Int32) (f_t_6_6 : Nat → Int32) (f_t_6_7 : Nat → Int32) (f_t_6_8 : Nat → Int32) (o_t_7 : Nat → Int32) (r : Int32) (o_t' : Nat → Int32) (o_t_6' : Nat → Int32) (f_t_6_6' : Nat → Int32) (f_t_6_7' : Nat → Int32) (f_t_6_8' : Nat → Int32) (o_t_7' : Nat → Int32) (hF : fX9_endsWithout n x1 o_t o_t_1 f_t_1_4 f_t_1_6 f_t_1_7 f_t_1_10 f_t_1_11 f_t_1_12 o_t_5 f_t_5_6 f_t_5_7 o_t_6 f_t_6_6 f_t_6_7 f_t_6_8 o_t_7 = some (r, o_t', o_t_6', f_t_6_6', f_t_6_7', f_t_6_8', o_t_7')) : MI l g yX9_endsWithout wsX9_endsWithout ({ frames := 5, cells := 0, slots := 0, locals := 117 } : Room) [.ref a_t, .int x1] [oX9 a_t p_t o_t, oX1 (p_t 1) p_t_1 o_t_1, aI g (p_t_1 4) 7 f_t_1_4, aI g (p_t_1 6) 7 f_t_1_6, aI g (p_t_1 7) 7 f_t_1_7, aI g (p_t_1 10) 8 f_t_1_10, aI g (p_t_1 11) 8 f_t_1_11, aI g (p_t_1 12) 8 f_t_1_12, oX2 (p_t 5) p_t_5 o_t_5, aI g (p_t_5 6) 7 f_t_5_6, aI g (p_t_5 7) 7 f_t_5_7, oX2 (p_t 6) p_t_6 o_t_6, aI g (p_t_6 6) 7 f_t_6_6, aI g (p_t_6 7) 7 f_t_6_7, aI g (p_t_6 8) 7 f_t_6_8, oX3 (p_t 7) p_t_7 o_t_7] r [oX9 a_t p_t o_t', oX1 (p_t 1) p_t_1 o_t_1, aI g (p_t_1 4) 7 f_t_1_4, aI g (p_t_1 6) 7 f_t_1_6, aI g (p_t_1 7) 7 f_t_1_7, aI g (p_t_1 10) 8 f_t_1_10, aI g (p_t_1 11) 8 f_t_1_11, aI g (p_t_1 12) 8 f_t_1_12, oX2 (p_t 5) p_t_5 o_t_5, aI g (p_t_5 6) 7 f_t_5_6, aI g (p_t_5 7) 7 f_t_5_7, oX2 (p_t 6) p_t_6 o_t_6', aI g (p_t_6 6) 7 f_t_6_6', aI g (p_t_6 7) 7 f_t_6_7', aI g (p_t_6 8) 7 f_t_6_8', oX3 (p_t 7) p_t_7 o_t_7'] := by
  refine MI.of (cc := cX9_endsWithout) (maxL := 2) (rt := .int) (own := RX9) rfl rfl (by decide) (Nat.le_of_ble_eq_true rfl) ?_
  intro p e s m args below meth c A C0 hP hD hS ls hl
  obtain ⟨hx, hb, hml, hown, hts, hr, hlk, hK, hA, hSW⟩ := id C0
  have hl : lv_has ls 2 [(0, .ref a_t), (1, .int x1)] := hl
  rw [fX9_endsWithout] at hF
  refine lv_aload_n hx hb dX9_endsWithout_0 rfl (lv_at hl 0 rfl) ?_
  refine lv_iload_n hx hb dX9_endsWithout_1 rfl (lv_at hl 1 rfl) ?_
  obtain ⟨u_1, u_2, hu_3, hF⟩ := ob2_some hF
  refine call_i (wr := [aI g (p_t_1 4) 7 f_t_1_4, aI g (p_t_1 6) 7 f_t_1_6, aI g (p_t_1 7) 7 f_t_1_7, aI g (p_t_1 10) 8 f_t_1_10, aI g (p_t_1 11) 8 f_t_1_11, aI g (p_t_1 12) 8 f_t_1_12, aI g (p_t_5 6) 7 f_t_5_6, aI g (p_t_5 7) 7 f_t_5_7, oX2 (p_t 6) p_t_6 o_t_6, aI g (p_t_6 6) 7 f_t_6_6, aI g (p_t_6 7) 7 f_t_6_7, aI g (p_t_6 8) 7 f_t_6_8, oX3 (p_t 7) p_t_7 o_t_7]) (As := [.int x1]) (rest := []) (ci := 9) (q0 := 0) C0 (mX9_presentAsked l g a_t p_t p_t_1 p_t_5 n x1 o_t o_t_1 o_t_5 u_1 u_2 hu_3) (cwV 1 hts gX9_endsWithout_X9_presentAsked rfl rfl rfl (by decide +kernel) ⟨Nat.le_of_ble_eq_true rfl, Nat.le_of_ble_eq_true rfl⟩) hP hD hS [0, 1, 8] [2, 3, 4, 5, 6, 7, 9, 10, 11, 12, 13, 14, 15] rfl rfl rfl rfl rfl (by decide) rfl rfl hl.1 rfl rfl (Nat.le_of_ble_eq_true rfl) ⟨Nat.zero_le _, Nat.zero_le _⟩ dX9_endsWithout_2 ?_
  intro H locs hP hD hS
  refine lv_if_eq (tgt := 23) hx hb dX9_endsWithout_5 (by decide) (fun c_4 => ?_) (fun c_4 => ?_)
  · have hF := it_p c_4 hF
    refine lv_iconst (v := (-1 : Int32)) hx hb dX9_endsWithout_23 (by decide) ?_
    cases hF
    exact ret_i C0 hP hD hS [13, 14, 0, 1, 2, 3, 4, 5, 15, 6, 7, 8, 9, 10, 11, 12] rfl rfl rfl dX9_endsWithout_24 rfl
  · have hF := it_n c_4 hF
    refine lv_aload_n hx hb dX9_endsWithout_8 rfl (lv_at hl 0 rfl) ?_
    refine lv_iconst (v := (1 : Int32)) hx hb dX9_endsWithout_9 (by decide) ?_
    refine lv_iload_n hx hb dX9_endsWithout_10 rfl (lv_at hl 1 rfl) ?_
    refine lv_ishl hx hb dX9_endsWithout_11 ?_
    refine lv_bipush (v := (60 : Int32)) hx hb dX9_endsWithout_12 (by decide) ?_
    obtain ⟨u_5, u_6, u_7, u_8, u_9, u_10, hu_11, hF⟩ := ob6_some hF
    refine call_i (wr := []) (As := [.int ((1 : Int32) <<< (x1 &&& 31)), .int (60 : Int32)]) (rest := []) (ci := 9) (q0 := 0) C0 (mX9_endsLess l g a_t p_t p_t_1 p_t_5 p_t_6 p_t_7 n ((1 : Int32) <<< (x1 &&& 31)) (60 : Int32) u_2 o_t_1 f_t_1_4 f_t_1_6 f_t_1_7 f_t_1_10 f_t_1_11 f_t_1_12 o_t_5 f_t_5_6 f_t_5_7 o_t_6 f_t_6_6 f_t_6_7 f_t_6_8 o_t_7 u_5 u_6 u_7 u_8 u_9 u_10 hu_11) (cwV 2 hts gX9_endsWithout_X9_endsLess rfl rfl rfl (by decide +kernel) ⟨Nat.le_of_ble_eq_true rfl, Nat.le_of_ble_eq_true rfl⟩) hP hD hS [13, 14, 0, 1, 2, 3, 4, 5, 15, 6, 7, 8, 9, 10, 11, 12] [] rfl rfl rfl rfl rfl (by decide) rfl rfl hl.1 rfl rfl (Nat.le_of_ble_eq_true rfl) ⟨Nat.zero_le _, Nat.zero_le _⟩ dX9_endsWithout_14 ?_
    intro H locs hP hD hS
    obtain ⟨u_12, hu_13, hF⟩ := ob1_some hF
    refine call_si (wr := [oX9 a_t p_t u_2, oX1 (p_t 1) p_t_1 o_t_1, aI g (p_t_1 4) 7 f_t_1_4, aI g (p_t_1 6) 7 f_t_1_6, aI g (p_t_1 7) 7 f_t_1_7, aI g (p_t_1 10) 8 f_t_1_10, aI g (p_t_1 11) 8 f_t_1_11, aI g (p_t_1 12) 8 f_t_1_12, oX2 (p_t 5) p_t_5 o_t_5, aI g (p_t_5 6) 7 f_t_5_6, aI g (p_t_5 7) 7 f_t_5_7, oX2 (p_t 6) p_t_6 u_6, aI g (p_t_6 6) 7 u_7, aI g (p_t_6 7) 7 u_8, aI g (p_t_6 8) 7 u_9, oX3 (p_t 7) p_t_7 u_10]) (As := [.int u_5]) (rest := []) C0 (mX9_orNot l g n u_5 u_12 hu_13) (va_cwS 1 hts gX9_endsWithout_X9_orNot rfl rfl rfl (by decide +kernel) ⟨Nat.le_of_ble_eq_true rfl, Nat.le_of_ble_eq_true rfl⟩) hP hD hS [] [0, 1, 2, 3, 4, 5, 6, 7, 8, 9, 10, 11, 12, 13, 14, 15] rfl rfl rfl rfl rfl (by decide) hl.1 rfl rfl (Nat.le_of_ble_eq_true rfl) ⟨Nat.zero_le _, Nat.zero_le _⟩ dX9_endsWithout_17 ?_
    intro H locs hP hD hS
    refine lv_goto (tgt := 24) hx hb dX9_endsWithout_20 (by decide) ?_
    cases hF
    exact ret_i C0 hP hD hS [0, 1, 2, 3, 4, 5, 6, 7, 8, 9, 10, 11, 12, 13, 14, 15] rfl rfl rfl dX9_endsWithout_24 rfl

theorem dAX9_holder : ∀ q ∈ ([(0, (.aload_n 0, 1)), (1, (.invokevirtual 153, 3)), (4, (.ifCond .ne 5, 3)), (7, (.iconst (-1), 1)), (8, (.ireturn, 1)), (9, (.aload_n 0, 1)), (10, (.invokevirtual 193, 3)), (13, (.istore_n 1, 1)), (14, (.bipush (-2), 2)), (16, (.istore_n 2, 1)), (17, (.iconst 0, 1)), (18, (.istore_n 3, 1)), (19, (.iload_n 3, 1)), (20, (.aload_n 0, 1)), (21, (.getfield 19, 3)), (24, (.getfield 109, 3)), (27, (.if_icmp .ge 47, 3)), (30, (.aload_n 0, 1)), (31, (.getfield 37, 3)), (34, (.iload_n 3, 1)), (35, (.invokevirtual 133, 3)), (38, (.ifCond .eq 15, 3)), (41, (.aload_n 0, 1)), (42, (.iconst 1, 1)), (43, (.iload_n 3, 1)), (44, (.ishl, 1)), (45, (.bipush 60, 2)), (47, (.invokevirtual 222, 3)), (50, (.goto 5, 3)), (53, (.bipush 61, 2)), (55, (.istore 4, 2)), (57, (.iload 4, 2)), (59, (.iload_n 1, 1)), (60, (.if_icmp .ge 8, 3)), (63, (.iload 4, 2)), (65, (.istore_n 1, 1)), (66, (.iload_n 3, 1)), (67, (.istore_n 2, 1)), (68, (.iinc 3 1, 3)), (71, (.goto (-52), 3)), (74, (.iload_n 2, 1)), (75, (.ireturn, 1))] : List (Nat × (Instr × Nat))), decode cX9_holder q.1 = .ok q.2 := by decide +kernel
theorem dX9_holder_0 : decode cX9_holder 0 = .ok (.aload_n 0, 1) := dAX9_holder (0, (.aload_n 0, 1)) (List.mem_of_getElem? (i := 0) rfl)
theorem dX9_holder_1 : decode cX9_holder 1 = .ok (.invokevirtual 153, 3) := dAX9_holder (1, (.invokevirtual 153, 3)) (List.mem_of_getElem? (i := 1) rfl)
theorem dX9_holder_4 : decode cX9_holder 4 = .ok (.ifCond .ne 5, 3) := dAX9_holder (4, (.ifCond .ne 5, 3)) (List.mem_of_getElem? (i := 2) rfl)
theorem dX9_holder_7 : decode cX9_holder 7 = .ok (.iconst (-1), 1) := dAX9_holder (7, (.iconst (-1), 1)) (List.mem_of_getElem? (i := 3) rfl)
theorem dX9_holder_8 : decode cX9_holder 8 = .ok (.ireturn, 1) := dAX9_holder (8, (.ireturn, 1)) (List.mem_of_getElem? (i := 4) rfl)
theorem dX9_holder_9 : decode cX9_holder 9 = .ok (.aload_n 0, 1) := dAX9_holder (9, (.aload_n 0, 1)) (List.mem_of_getElem? (i := 5) rfl)
theorem dX9_holder_10 : decode cX9_holder 10 = .ok (.invokevirtual 193, 3) := dAX9_holder (10, (.invokevirtual 193, 3)) (List.mem_of_getElem? (i := 6) rfl)
theorem dX9_holder_13 : decode cX9_holder 13 = .ok (.istore_n 1, 1) := dAX9_holder (13, (.istore_n 1, 1)) (List.mem_of_getElem? (i := 7) rfl)
theorem dX9_holder_14 : decode cX9_holder 14 = .ok (.bipush (-2), 2) := dAX9_holder (14, (.bipush (-2), 2)) (List.mem_of_getElem? (i := 8) rfl)
theorem dX9_holder_16 : decode cX9_holder 16 = .ok (.istore_n 2, 1) := dAX9_holder (16, (.istore_n 2, 1)) (List.mem_of_getElem? (i := 9) rfl)
theorem dX9_holder_17 : decode cX9_holder 17 = .ok (.iconst 0, 1) := dAX9_holder (17, (.iconst 0, 1)) (List.mem_of_getElem? (i := 10) rfl)
theorem dX9_holder_18 : decode cX9_holder 18 = .ok (.istore_n 3, 1) := dAX9_holder (18, (.istore_n 3, 1)) (List.mem_of_getElem? (i := 11) rfl)
theorem dX9_holder_19 : decode cX9_holder 19 = .ok (.iload_n 3, 1) := dAX9_holder (19, (.iload_n 3, 1)) (List.mem_of_getElem? (i := 12) rfl)
theorem dX9_holder_20 : decode cX9_holder 20 = .ok (.aload_n 0, 1) := dAX9_holder (20, (.aload_n 0, 1)) (List.mem_of_getElem? (i := 13) rfl)
theorem dX9_holder_21 : decode cX9_holder 21 = .ok (.getfield 19, 3) := dAX9_holder (21, (.getfield 19, 3)) (List.mem_of_getElem? (i := 14) rfl)
theorem dX9_holder_24 : decode cX9_holder 24 = .ok (.getfield 109, 3) := dAX9_holder (24, (.getfield 109, 3)) (List.mem_of_getElem? (i := 15) rfl)
theorem dX9_holder_27 : decode cX9_holder 27 = .ok (.if_icmp .ge 47, 3) := dAX9_holder (27, (.if_icmp .ge 47, 3)) (List.mem_of_getElem? (i := 16) rfl)
theorem dX9_holder_30 : decode cX9_holder 30 = .ok (.aload_n 0, 1) := dAX9_holder (30, (.aload_n 0, 1)) (List.mem_of_getElem? (i := 17) rfl)
theorem dX9_holder_31 : decode cX9_holder 31 = .ok (.getfield 37, 3) := dAX9_holder (31, (.getfield 37, 3)) (List.mem_of_getElem? (i := 18) rfl)
theorem dX9_holder_34 : decode cX9_holder 34 = .ok (.iload_n 3, 1) := dAX9_holder (34, (.iload_n 3, 1)) (List.mem_of_getElem? (i := 19) rfl)
theorem dX9_holder_35 : decode cX9_holder 35 = .ok (.invokevirtual 133, 3) := dAX9_holder (35, (.invokevirtual 133, 3)) (List.mem_of_getElem? (i := 20) rfl)
theorem dX9_holder_38 : decode cX9_holder 38 = .ok (.ifCond .eq 15, 3) := dAX9_holder (38, (.ifCond .eq 15, 3)) (List.mem_of_getElem? (i := 21) rfl)
theorem dX9_holder_41 : decode cX9_holder 41 = .ok (.aload_n 0, 1) := dAX9_holder (41, (.aload_n 0, 1)) (List.mem_of_getElem? (i := 22) rfl)
theorem dX9_holder_42 : decode cX9_holder 42 = .ok (.iconst 1, 1) := dAX9_holder (42, (.iconst 1, 1)) (List.mem_of_getElem? (i := 23) rfl)
theorem dX9_holder_43 : decode cX9_holder 43 = .ok (.iload_n 3, 1) := dAX9_holder (43, (.iload_n 3, 1)) (List.mem_of_getElem? (i := 24) rfl)
theorem dX9_holder_44 : decode cX9_holder 44 = .ok (.ishl, 1) := dAX9_holder (44, (.ishl, 1)) (List.mem_of_getElem? (i := 25) rfl)
theorem dX9_holder_45 : decode cX9_holder 45 = .ok (.bipush 60, 2) := dAX9_holder (45, (.bipush 60, 2)) (List.mem_of_getElem? (i := 26) rfl)
theorem dX9_holder_47 : decode cX9_holder 47 = .ok (.invokevirtual 222, 3) := dAX9_holder (47, (.invokevirtual 222, 3)) (List.mem_of_getElem? (i := 27) rfl)
theorem dX9_holder_50 : decode cX9_holder 50 = .ok (.goto 5, 3) := dAX9_holder (50, (.goto 5, 3)) (List.mem_of_getElem? (i := 28) rfl)
theorem dX9_holder_53 : decode cX9_holder 53 = .ok (.bipush 61, 2) := dAX9_holder (53, (.bipush 61, 2)) (List.mem_of_getElem? (i := 29) rfl)
theorem dX9_holder_55 : decode cX9_holder 55 = .ok (.istore 4, 2) := dAX9_holder (55, (.istore 4, 2)) (List.mem_of_getElem? (i := 30) rfl)
theorem dX9_holder_57 : decode cX9_holder 57 = .ok (.iload 4, 2) := dAX9_holder (57, (.iload 4, 2)) (List.mem_of_getElem? (i := 31) rfl)
theorem dX9_holder_59 : decode cX9_holder 59 = .ok (.iload_n 1, 1) := dAX9_holder (59, (.iload_n 1, 1)) (List.mem_of_getElem? (i := 32) rfl)
theorem dX9_holder_60 : decode cX9_holder 60 = .ok (.if_icmp .ge 8, 3) := dAX9_holder (60, (.if_icmp .ge 8, 3)) (List.mem_of_getElem? (i := 33) rfl)
theorem dX9_holder_63 : decode cX9_holder 63 = .ok (.iload 4, 2) := dAX9_holder (63, (.iload 4, 2)) (List.mem_of_getElem? (i := 34) rfl)
theorem dX9_holder_65 : decode cX9_holder 65 = .ok (.istore_n 1, 1) := dAX9_holder (65, (.istore_n 1, 1)) (List.mem_of_getElem? (i := 35) rfl)
theorem dX9_holder_66 : decode cX9_holder 66 = .ok (.iload_n 3, 1) := dAX9_holder (66, (.iload_n 3, 1)) (List.mem_of_getElem? (i := 36) rfl)
theorem dX9_holder_67 : decode cX9_holder 67 = .ok (.istore_n 2, 1) := dAX9_holder (67, (.istore_n 2, 1)) (List.mem_of_getElem? (i := 37) rfl)
theorem dX9_holder_68 : decode cX9_holder 68 = .ok (.iinc 3 1, 3) := dAX9_holder (68, (.iinc 3 1, 3)) (List.mem_of_getElem? (i := 38) rfl)
theorem dX9_holder_71 : decode cX9_holder 71 = .ok (.goto (-52), 3) := dAX9_holder (71, (.goto (-52), 3)) (List.mem_of_getElem? (i := 39) rfl)
theorem dX9_holder_74 : decode cX9_holder 74 = .ok (.iload_n 2, 1) := dAX9_holder (74, (.iload_n 2, 1)) (List.mem_of_getElem? (i := 40) rfl)
theorem dX9_holder_75 : decode cX9_holder 75 = .ok (.ireturn, 1) := dAX9_holder (75, (.ireturn, 1)) (List.mem_of_getElem? (i := 41) rfl)
set_option maxRecDepth 20000 in
theorem ggX9_holder_X9_asked : GoodIn wsX9_holder wsX9_asked := goodIn_r _ [8, 9, 10, 94, 95, 96, 97, 98, 99, 100, 101, 102, 103, 104, 105, 106, 107, 108] rfl (by decide +kernel)
set_option maxRecDepth 20000 in
theorem gX9_holder_X9_asked : GoodIn wsX9_holder (wsV RX9 153 RX9 yX9_asked wsX9_asked) := goodIn_app (goodIn_of _ (by decide +kernel)) ggX9_holder_X9_asked
set_option maxRecDepth 20000 in
theorem ggX9_holder_X9_endsAsIs : GoodIn wsX9_holder wsX9_endsAsIs := goodIn_r _ [14, 15, 3, 1, 16, 17, 18, 19, 20, 21, 22, 23, 24, 25, 26, 27, 28, 29, 30, 31, 32, 33, 34, 35, 36, 37, 38, 39, 40, 41, 42, 43, 44, 45, 46, 47, 48, 49, 50, 51, 52, 53, 54, 55, 56, 57, 58, 59, 60, 61, 62, 63, 64, 65, 66, 67, 68, 69, 70, 71, 72, 73, 74, 75, 76, 77, 78, 79, 94, 95, 96, 97, 98, 99, 100, 101, 102, 103, 104, 105, 106, 107, 108, 126, 127, 128, 129, 130, 131, 132, 133, 134, 109, 110, 111, 112, 113, 114, 115, 116, 117, 118, 119, 120, 121, 122, 123, 124, 125, 135, 136] rfl (by decide +kernel)
set_option maxRecDepth 20000 in
theorem gX9_holder_X9_endsAsIs : GoodIn wsX9_holder (wsV RX9 193 RX9 yX9_endsAsIs wsX9_endsAsIs) := goodIn_app (goodIn_of _ (by decide +kernel)) ggX9_holder_X9_endsAsIs
set_option maxRecDepth 20000 in
theorem ggX9_holder_X2_has : GoodIn wsX9_holder wsX2_has := goodIn_r _ [83, 23, 84, 7, 85, 126, 127, 128, 129, 130, 131, 132, 133, 134] rfl (by decide +kernel)
set_option maxRecDepth 20000 in
theorem gX9_holder_X2_has : GoodIn wsX9_holder (wsV RX9 133 RX2 yX2_has wsX2_has) := goodIn_app (goodIn_of _ (by decide +kernel)) ggX9_holder_X2_has
set_option maxRecDepth 20000 in
theorem ggX9_holder_X9_endsLess : GoodIn wsX9_holder wsX9_endsLess := goodIn_r _ [89, 15, 3, 1, 16, 17, 18, 19, 20, 21, 22, 23, 24, 25, 26, 27, 28, 29, 30, 31, 90, 91, 92, 93, 74, 75, 76, 77, 45, 78, 79, 56, 57, 58, 59, 60, 61, 62, 63, 64, 65, 66, 67, 68, 69, 70, 71, 72, 73, 46, 32, 33, 34, 35, 36, 37, 38, 39, 40, 41, 42, 43, 44, 47, 48, 49, 50, 51, 52, 53, 54, 55, 94, 95, 96, 97, 98, 99, 100, 101, 102, 103, 104, 105, 106, 107, 108, 126, 127, 128, 129, 130, 131, 132, 133, 134, 109, 110, 111, 112, 113, 114, 115, 116, 117, 118, 119, 120, 121, 122, 123, 124, 125, 135, 136] rfl (by decide +kernel)
set_option maxRecDepth 20000 in
theorem gX9_holder_X9_endsLess : GoodIn wsX9_holder (wsV RX9 222 RX9 yX9_endsLess wsX9_endsLess) := goodIn_app (goodIn_of _ (by decide +kernel)) ggX9_holder_X9_endsLess
theorem kX9_holder_19 : Cond.fieldLink RX9 19 "EveningVow" "told" "LEveningVow$House;" ∈ wsX9_holder := List.mem_of_getElem? (i := 1) rfl
theorem iX9_holder_X9 : ∀ w ∈ u_ws RX9 TX9 15, w ∈ wsX9_holder := fun w h => (List.mem_cons_of_mem _ (List.mem_append_left _ (List.mem_append_left _ (List.mem_append_left _ (List.mem_append_right _ h)))))
theorem kX9_holder_109 : Cond.fieldLink RX9 109 "EveningVow$House" "guests" "I" ∈ wsX9_holder := List.mem_of_getElem? (i := 2) rfl
theorem iX9_holder_X1 : ∀ w ∈ u_ws RX1 TX1 17, w ∈ wsX9_holder := fun w h => (List.mem_cons_of_mem _ (List.mem_append_left _ (List.mem_append_left _ (List.mem_append_right _ h))))
theorem kX9_holder_37 : Cond.fieldLink RX9 37 "EveningVow" "now" "LEveningVow$Night;" ∈ wsX9_holder := List.mem_of_getElem? (i := 3) rfl
set_option maxHeartbeats 4000000 in
set_option maxRecDepth 100000 in
theorem wX9_holder_L19 {p : Program} {l : Launch} {e : Env} {s : State} {m : MethodId} {args : Array Value} {below : List Frame} {meth : Method} {c : Code} {g : GG} {A : Nat → Prop} (C0 : Cx p s m args meth c cX9_holder 5 (some .int) RX9 wsX9_holder g A) (a_t : Nat) (p_t : Nat → Nat) (p_t_1 : Nat → Nat) (p_t_5 : Nat → Nat) (p_t_6 : Nat → Nat) (p_t_7 : Nat → Nat) (n : Nat) (o_t : Nat → Int32) (o_t_1 : Nat → Int32) (f_t_1_4 : Nat → Int32) (f_t_1_6 : Nat → Int32) (f_t_1_7 : Nat → Int32) (f_t_1_10 : Nat → Int32) (f_t_1_11 : Nat → Int32) (f_t_1_12 : Nat → Int32) (o_t_5 : Nat → Int32) (f_t_5_6 : Nat → Int32) (f_t_5_7 : Nat → Int32)  (r : Int32) (o_t' : Nat → Int32) (o_t_6' : Nat → Int32) (f_t_6_6' : Nat → Int32) (f_t_6_7' : Nat → Int32) (f_t_6_8' : Nat → Int32) (o_t_7' : Nat → Int32) (K : Int32 → (Nat → Int32) → (Nat → Int32) → (Nat → Int32) → (Nat → Int32) → (Nat → Int32) → Option (Int32 × (Nat → Int32) × (Nat → Int32) × (Nat → Int32) × (Nat → Int32) × (Nat → Int32) × (Nat → Int32))) (hKx : ∀ (x2 : Int32) (o_t_6 : Nat → Int32) (f_t_6_6 : Nat → Int32) (f_t_6_7 : Nat → Int32) (f_t_6_8 : Nat → Int32) (o_t_7 : Nat → Int32) (H : Heap) (locs : List Loc) (ls : Array Slot), K x2 o_t_6 f_t_6_6 f_t_6_7 f_t_6_8 o_t_7 = some (r, o_t', o_t_6', f_t_6_6', f_t_6_7', f_t_6_8', o_t_7') → va_P g.1 vwCl [oX9 a_t p_t o_t, oX1 (p_t 1) p_t_1 o_t_1, aI g (p_t_1 4) 7 f_t_1_4, aI g (p_t_1 6) 7 f_t_1_6, aI g (p_t_1 7) 7 f_t_1_7, aI g (p_t_1 10) 8 f_t_1_10, aI g (p_t_1 11) 8 f_t_1_11, aI g (p_t_1 12) 8 f_t_1_12, oX2 (p_t 5) p_t_5 o_t_5, aI g (p_t_5 6) 7 f_t_5_6, aI g (p_t_5 7) 7 f_t_5_7, oX2 (p_t 6) p_t_6 o_t_6, aI g (p_t_6 6) 7 f_t_6_6, aI g (p_t_6 7) 7 f_t_6_7, aI g (p_t_6 8) 7 f_t_6_8, oX3 (p_t 7) p_t_7 o_t_7] H → va_D A [oX9 a_t p_t o_t, oX1 (p_t 1) p_t_1 o_t_1, aI g (p_t_1 4) 7 f_t_1_4, aI g (p_t_1 6) 7 f_t_1_6, aI g (p_t_1 7) 7 f_t_1_7, aI g (p_t_1 10) 8 f_t_1_10, aI g (p_t_1 11) 8 f_t_1_11, aI g (p_t_1 12) 8 f_t_1_12, oX2 (p_t 5) p_t_5 o_t_5, aI g (p_t_5 6) 7 f_t_5_6, aI g (p_t_5 7) 7 f_t_5_7, oX2 (p_t 6) p_t_6 o_t_6, aI g (p_t_6 6) 7 f_t_6_6, aI g (p_t_6 7) 7 f_t_6_7, aI g (p_t_6 8) 7 f_t_6_8, oX3 (p_t 7) p_t_7 o_t_7] → va_S A s.heap H locs → lv_has ls 5 [(2, .int x2)] → W p l e ({ frames := 5, cells := 0, slots := 0, locals := 117 } : Room) s m args below meth c H locs 0 0 (MQ below (EndI g r [oX9 a_t p_t o_t', oX1 (p_t 1) p_t_1 o_t_1, aI g (p_t_1 4) 7 f_t_1_4, aI g (p_t_1 6) 7 f_t_1_6, aI g (p_t_1 7) 7 f_t_1_7, aI g (p_t_1 10) 8 f_t_1_10, aI g (p_t_1 11) 8 f_t_1_11, aI g (p_t_1 12) 8 f_t_1_12, oX2 (p_t 5) p_t_5 o_t_5, aI g (p_t_5 6) 7 f_t_5_6, aI g (p_t_5 7) 7 f_t_5_7, oX2 (p_t 6) p_t_6 o_t_6', aI g (p_t_6 6) 7 f_t_6_6', aI g (p_t_6 7) 7 f_t_6_7', aI g (p_t_6 8) 7 f_t_6_8', oX3 (p_t 7) p_t_7 o_t_7'] A) args s 0 0 A) (F0 m 74 ls [])) : ∀ (k : Nat) (x1 : Int32) (x2 : Int32) (x3 : Int32) (o_t_6 : Nat → Int32) (f_t_6_6 : Nat → Int32) (f_t_6_7 : Nat → Int32) (f_t_6_8 : Nat → Int32) (o_t_7 : Nat → Int32), fX9_holder_L19 n o_t o_t_1 f_t_1_4 f_t_1_6 f_t_1_7 f_t_1_10 f_t_1_11 f_t_1_12 o_t_5 f_t_5_6 f_t_5_7 K k x1 x2 x3 o_t_6 f_t_6_6 f_t_6_7 f_t_6_8 o_t_7 = some (r, o_t', o_t_6', f_t_6_6', f_t_6_7', f_t_6_8', o_t_7') → ∀ (H : Heap) (locs : List Loc) (ls : Array Slot), va_P g.1 vwCl [oX9 a_t p_t o_t, oX1 (p_t 1) p_t_1 o_t_1, aI g (p_t_1 4) 7 f_t_1_4, aI g (p_t_1 6) 7 f_t_1_6, aI g (p_t_1 7) 7 f_t_1_7, aI g (p_t_1 10) 8 f_t_1_10, aI g (p_t_1 11) 8 f_t_1_11, aI g (p_t_1 12) 8 f_t_1_12, oX2 (p_t 5) p_t_5 o_t_5, aI g (p_t_5 6) 7 f_t_5_6, aI g (p_t_5 7) 7 f_t_5_7, oX2 (p_t 6) p_t_6 o_t_6, aI g (p_t_6 6) 7 f_t_6_6, aI g (p_t_6 7) 7 f_t_6_7, aI g (p_t_6 8) 7 f_t_6_8, oX3 (p_t 7) p_t_7 o_t_7] H → va_D A [oX9 a_t p_t o_t, oX1 (p_t 1) p_t_1 o_t_1, aI g (p_t_1 4) 7 f_t_1_4, aI g (p_t_1 6) 7 f_t_1_6, aI g (p_t_1 7) 7 f_t_1_7, aI g (p_t_1 10) 8 f_t_1_10, aI g (p_t_1 11) 8 f_t_1_11, aI g (p_t_1 12) 8 f_t_1_12, oX2 (p_t 5) p_t_5 o_t_5, aI g (p_t_5 6) 7 f_t_5_6, aI g (p_t_5 7) 7 f_t_5_7, oX2 (p_t 6) p_t_6 o_t_6, aI g (p_t_6 6) 7 f_t_6_6, aI g (p_t_6 7) 7 f_t_6_7, aI g (p_t_6 8) 7 f_t_6_8, oX3 (p_t 7) p_t_7 o_t_7] → va_S A s.heap H locs → lv_has ls 5 [(0, .ref a_t), (1, .int x1), (2, .int x2), (3, .int x3)] → W p l e ({ frames := 5, cells := 0, slots := 0, locals := 117 } : Room) s m args below meth c H locs 0 0 (MQ below (EndI g r [oX9 a_t p_t o_t', oX1 (p_t 1) p_t_1 o_t_1, aI g (p_t_1 4) 7 f_t_1_4, aI g (p_t_1 6) 7 f_t_1_6, aI g (p_t_1 7) 7 f_t_1_7, aI g (p_t_1 10) 8 f_t_1_10, aI g (p_t_1 11) 8 f_t_1_11, aI g (p_t_1 12) 8 f_t_1_12, oX2 (p_t 5) p_t_5 o_t_5, aI g (p_t_5 6) 7 f_t_5_6, aI g (p_t_5 7) 7 f_t_5_7, oX2 (p_t 6) p_t_6 o_t_6', aI g (p_t_6 6) 7 f_t_6_6', aI g (p_t_6 7) 7 f_t_6_7', aI g (p_t_6 8) 7 f_t_6_8', oX3 (p_t 7) p_t_7 o_t_7'] A) args s 0 0 A) (F0 m 19 ls []) := by
  obtain ⟨hx, hb, hml, hown, hts, hr, hlk, hK, hA, hSW⟩ := id C0
  intro k
  induction k with
  | zero =>
    intro x1 x2 x3 o_t_6 f_t_6_6 f_t_6_7 f_t_6_8 o_t_7 hF
    exact absurd hF (by simp [fX9_holder_L19])
  | succ k ih =>
    intro x1 x2 x3 o_t_6 f_t_6_6 f_t_6_7 f_t_6_8 o_t_7 hF H locs ls hP hD hS hl
    rw [fX9_holder_L19] at hF
    refine lv_iload_n hx hb dX9_holder_19 rfl (lv_at hl 3 rfl) ?_
    refine lv_aload_n hx hb dX9_holder_20 rfl (lv_at hl 0 rfl) ?_
    refine va_get (D := g.1) (ci := 9) (v := .ref (p_t 1)) (C := RX9) (T := TX9) (N := 15) hx hb hts iX9_holder_X9 hown hK.1 hP 0 rfl rfl 1 (by decide) (hts _ kX9_holder_19) (fun _ h9 => h9) rfl dX9_holder_21 ?_
    refine va_get (D := g.1) (ci := 1) (v := .int (o_t_1 3)) (C := RX1) (T := TX1) (N := 17) hx hb hts iX9_holder_X1 hown hK.1 hP 1 rfl rfl 3 (by decide) (hts _ kX9_holder_109) (fun _ h9 => h9) rfl dX9_holder_24 ?_
    refine lv_icmp_ge (tgt := 74) hx hb dX9_holder_27 (by decide) (fun c_12 => ?_) (fun c_12 => ?_)
    · have hF := it_p c_12 hF
      exact hKx x2 o_t_6 f_t_6_6 f_t_6_7 f_t_6_8 o_t_7 _ _ _ hF (hP.sub [0, 1, 2, 3, 4, 5, 6, 7, 8, 9, 10, 11, 12, 13, 14, 15] rfl) (hD.sub [0, 1, 2, 3, 4, 5, 6, 7, 8, 9, 10, 11, 12, 13, 14, 15] rfl rfl) hS (lv_sub hl [2] rfl)
    · have hF := it_n c_12 hF
      refine lv_aload_n hx hb dX9_holder_30 rfl (lv_at hl 0 rfl) ?_
      refine va_get (D := g.1) (ci := 9) (v := .ref (p_t 5)) (C := RX9) (T := TX9) (N := 15) hx hb hts iX9_holder_X9 hown hK.1 hP 0 rfl rfl 5 (by decide) (hts _ kX9_holder_37) (fun _ h9 => h9) rfl dX9_holder_31 ?_
      refine lv_iload_n hx hb dX9_holder_34 rfl (lv_at hl 3 rfl) ?_
      obtain ⟨u_13, hu_14, hF⟩ := ob1_some hF
      refine call_i (wr := [oX9 a_t p_t o_t, oX1 (p_t 1) p_t_1 o_t_1, aI g (p_t_1 4) 7 f_t_1_4, aI g (p_t_1 6) 7 f_t_1_6, aI g (p_t_1 7) 7 f_t_1_7, aI g (p_t_1 10) 8 f_t_1_10, aI g (p_t_1 11) 8 f_t_1_11, aI g (p_t_1 12) 8 f_t_1_12, aI g (p_t_5 6) 7 f_t_5_6, aI g (p_t_5 7) 7 f_t_5_7, oX2 (p_t 6) p_t_6 o_t_6, aI g (p_t_6 6) 7 f_t_6_6, aI g (p_t_6 7) 7 f_t_6_7, aI g (p_t_6 8) 7 f_t_6_8, oX3 (p_t 7) p_t_7 o_t_7]) (As := [.int x3]) (rest := []) (ci := 2) (q0 := 0) C0 (mX2_has l g (p_t 5) p_t_5 n x3 o_t_5 u_13 hu_14) (cwV 1 hts gX9_holder_X2_has rfl rfl rfl (by decide +kernel) ⟨Nat.le_of_ble_eq_true rfl, Nat.le_of_ble_eq_true rfl⟩) hP hD hS [8] [0, 1, 2, 3, 4, 5, 6, 7, 9, 10, 11, 12, 13, 14, 15] rfl rfl rfl rfl rfl (by decide) rfl rfl hl.1 rfl rfl (Nat.le_of_ble_eq_true rfl) ⟨Nat.zero_le _, Nat.zero_le _⟩ dX9_holder_35 ?_
      intro H locs hP hD hS
      refine lv_if_eq (tgt := 53) hx hb dX9_holder_38 (by decide) (fun c_15 => ?_) (fun c_15 => ?_)
      · have hF := it_p c_15 hF
        refine lv_bipush (v := (61 : Int32)) hx hb dX9_holder_53 (by decide) ?_
        refine lv_istore (lv' := [(4, .int (61 : Int32)), (0, .ref a_t), (1, .int x1), (2, .int x2), (3, .int x3)]) hx hb dX9_holder_55 hl (by decide) rfl (fun ls hl => ?_)
        refine lv_iload hx hb dX9_holder_57 (lv_at hl 0 rfl) ?_
        refine lv_iload_n hx hb dX9_holder_59 rfl (lv_at hl 2 rfl) ?_
        refine lv_icmp_ge (tgt := 68) hx hb dX9_holder_60 (by decide) (fun c_16 => ?_) (fun c_16 => ?_)
        · have hF := it_p c_16 hF
          refine lv_iinc (v := (x3 + (1 : Int32))) (lv' := [(3, .int (x3 + (1 : Int32))), (4, .int (61 : Int32)), (0, .ref a_t), (1, .int x1), (2, .int x2)]) hx hb dX9_holder_68 hl (k := 4) rfl rfl (by decide) rfl (fun ls hl => ?_)
          refine lv_goto (tgt := 19) hx hb dX9_holder_71 (by decide) ?_
          exact ih x1 x2 (x3 + (1 : Int32)) o_t_6 f_t_6_6 f_t_6_7 f_t_6_8 o_t_7 hF _ _ _ (hP.sub [0, 1, 2, 3, 4, 5, 6, 7, 15, 8, 9, 10, 11, 12, 13, 14] rfl) (hD.sub [0, 1, 2, 3, 4, 5, 6, 7, 15, 8, 9, 10, 11, 12, 13, 14] rfl rfl) hS (lv_sub hl [2, 3, 4, 0] rfl)
        · have hF := it_n c_16 hF
          refine lv_iload hx hb dX9_holder_63 (lv_at hl 0 rfl) ?_
          refine lv_istore_n (lv' := [(1, .int (61 : Int32)), (4, .int (61 : Int32)), (0, .ref a_t), (2, .int x2), (3, .int x3)]) hx hb dX9_holder_65 rfl hl (by decide) rfl (fun ls hl => ?_)
          refine lv_iload_n hx hb dX9_holder_66 rfl (lv_at hl 4 rfl) ?_
          refine lv_istore_n (lv' := [(2, .int x3), (1, .int (61 : Int32)), (4, .int (61 : Int32)), (0, .ref a_t), (3, .int x3)]) hx hb dX9_holder_67 rfl hl (by decide) rfl (fun ls hl => ?_)
          refine lv_iinc (v := (x3 + (1 : Int32))) (lv' := [(3, .int (x3 + (1 : Int32))), (2, .int x3), (1, .int (61 : Int32)), (4, .int (61 : Int32)), (0, .ref a_t)]) hx hb dX9_holder_68 hl (k := 4) rfl rfl (by decide) rfl (fun ls hl => ?_)
          refine lv_goto (tgt := 19) hx hb dX9_holder_71 (by decide) ?_
          exact ih (61 : Int32) x3 (x3 + (1 : Int32)) o_t_6 f_t_6_6 f_t_6_7 f_t_6_8 o_t_7 hF _ _ _ (hP.sub [0, 1, 2, 3, 4, 5, 6, 7, 15, 8, 9, 10, 11, 12, 13, 14] rfl) (hD.sub [0, 1, 2, 3, 4, 5, 6, 7, 15, 8, 9, 10, 11, 12, 13, 14] rfl rfl) hS (lv_sub hl [4, 2, 1, 0] rfl)
      · have hF := it_n c_15 hF
        refine lv_aload_n hx hb dX9_holder_41 rfl (lv_at hl 0 rfl) ?_
        refine lv_iconst (v := (1 : Int32)) hx hb dX9_holder_42 (by decide) ?_
        refine lv_iload_n hx hb dX9_holder_43 rfl (lv_at hl 3 rfl) ?_
        refine lv_ishl hx hb dX9_holder_44 ?_
        refine lv_bipush (v := (60 : Int32)) hx hb dX9_holder_45 (by decide) ?_
        obtain ⟨u_17, u_18, u_19, u_20, u_21, u_22, hu_23, hF⟩ := ob6_some hF
        refine call_i (wr := []) (As := [.int ((1 : Int32) <<< (x3 &&& 31)), .int (60 : Int32)]) (rest := []) (ci := 9) (q0 := 0) C0 (mX9_endsLess l g a_t p_t p_t_1 p_t_5 p_t_6 p_t_7 n ((1 : Int32) <<< (x3 &&& 31)) (60 : Int32) o_t o_t_1 f_t_1_4 f_t_1_6 f_t_1_7 f_t_1_10 f_t_1_11 f_t_1_12 o_t_5 f_t_5_6 f_t_5_7 o_t_6 f_t_6_6 f_t_6_7 f_t_6_8 o_t_7 u_17 u_18 u_19 u_20 u_21 u_22 hu_23) (cwV 2 hts gX9_holder_X9_endsLess rfl rfl rfl (by decide +kernel) ⟨Nat.le_of_ble_eq_true rfl, Nat.le_of_ble_eq_true rfl⟩) hP hD hS [0, 1, 2, 3, 4, 5, 6, 7, 15, 8, 9, 10, 11, 12, 13, 14] [] rfl rfl rfl rfl rfl (by decide) rfl rfl hl.1 rfl rfl (Nat.le_of_ble_eq_true rfl) ⟨Nat.zero_le _, Nat.zero_le _⟩ dX9_holder_47 ?_
        intro H locs hP hD hS
        refine lv_goto (tgt := 55) hx hb dX9_holder_50 (by decide) ?_
        refine lv_istore (lv' := [(4, .int u_17), (0, .ref a_t), (1, .int x1), (2, .int x2), (3, .int x3)]) hx hb dX9_holder_55 hl (by decide) rfl (fun ls hl => ?_)
        refine lv_iload hx hb dX9_holder_57 (lv_at hl 0 rfl) ?_
        refine lv_iload_n hx hb dX9_holder_59 rfl (lv_at hl 2 rfl) ?_
        refine lv_icmp_ge (tgt := 68) hx hb dX9_holder_60 (by decide) (fun c_24 => ?_) (fun c_24 => ?_)
        · have hF := it_p c_24 hF
          refine lv_iinc (v := (x3 + (1 : Int32))) (lv' := [(3, .int (x3 + (1 : Int32))), (4, .int u_17), (0, .ref a_t), (1, .int x1), (2, .int x2)]) hx hb dX9_holder_68 hl (k := 4) rfl rfl (by decide) rfl (fun ls hl => ?_)
          refine lv_goto (tgt := 19) hx hb dX9_holder_71 (by decide) ?_
          exact ih x1 x2 (x3 + (1 : Int32)) u_18 u_19 u_20 u_21 u_22 hF _ _ _ (hP.sub [0, 1, 2, 3, 4, 5, 6, 7, 8, 9, 10, 11, 12, 13, 14, 15] rfl) (hD.sub [0, 1, 2, 3, 4, 5, 6, 7, 8, 9, 10, 11, 12, 13, 14, 15] rfl rfl) hS (lv_sub hl [2, 3, 4, 0] rfl)
        · have hF := it_n c_24 hF
          refine lv_iload hx hb dX9_holder_63 (lv_at hl 0 rfl) ?_
          refine lv_istore_n (lv' := [(1, .int u_17), (4, .int u_17), (0, .ref a_t), (2, .int x2), (3, .int x3)]) hx hb dX9_holder_65 rfl hl (by decide) rfl (fun ls hl => ?_)
          refine lv_iload_n hx hb dX9_holder_66 rfl (lv_at hl 4 rfl) ?_
          refine lv_istore_n (lv' := [(2, .int x3), (1, .int u_17), (4, .int u_17), (0, .ref a_t), (3, .int x3)]) hx hb dX9_holder_67 rfl hl (by decide) rfl (fun ls hl => ?_)
          refine lv_iinc (v := (x3 + (1 : Int32))) (lv' := [(3, .int (x3 + (1 : Int32))), (2, .int x3), (1, .int u_17), (4, .int u_17), (0, .ref a_t)]) hx hb dX9_holder_68 hl (k := 4) rfl rfl (by decide) rfl (fun ls hl => ?_)
          refine lv_goto (tgt := 19) hx hb dX9_holder_71 (by decide) ?_
          exact ih u_17 x3 (x3 + (1 : Int32)) u_18 u_19 u_20 u_21 u_22 hF _ _ _ (hP.sub [0, 1, 2, 3, 4, 5, 6, 7, 8, 9, 10, 11, 12, 13, 14, 15] rfl) (hD.sub [0, 1, 2, 3, 4, 5, 6, 7, 8, 9, 10, 11, 12, 13, 14, 15] rfl rfl) hS (lv_sub hl [4, 2, 1, 0] rfl)
set_option maxHeartbeats 4000000 in
set_option maxRecDepth 100000 in
theorem mX9_holder (l : Launch) (g : GG) (a_t : Nat) (p_t : Nat → Nat) (p_t_1 : Nat → Nat) (p_t_5 : Nat → Nat) (p_t_6 : Nat → Nat) (p_t_7 : Nat → Nat) (n : Nat) (o_t : Nat → Int32) (o_t_1 : Nat → Int32) (f_t_1_4 : Nat → Int32) (f_t_1_6 : Nat → Int32) (f_t_1_7 : Nat → Int32) (f_t_1_10 : Nat → Int32) (f_t_1_11 : Nat → Int32) (f_t_1_12 : Nat → Int32) (o_t_5 : Nat → Int32) (f_t_5_6 : Nat → Int32) (f_t_5_7 : Nat → Int32) (o_t_6 : Nat → Int32) (f_t_6_6 : Nat → Int32) (f_t_6_7 : Nat → Int32) (f_t_6_8 : Nat → Int32) (o_t_7 : Nat → Int32) (r : Int32) (o_t' : Nat → Int32) (o_t_6' : Nat → Int32) (f_t_6_6' : Nat → Int32) (f_t_6_7' : Nat → Int32) (f_t_6_8' : Nat → Int32) (o_t_7' : Nat → Int32) (hF : fX9_holder n o_t o_t_1 f_t_1_4 f_t_1_6 f_t_1_7 f_t_1_10 f_t_1_11 f_t_1_12 o_t_5 f_t_5_6 f_t_5_7 o_t_6 f_t_6_6 f_t_6_7 f_t_6_8 o_t_7 = some (r, o_t', o_t_6', f_t_6_6', f_t_6_7', f_t_6_8', o_t_7')) : MI l g yX9_holder wsX9_holder ({ frames := 5, cells := 0, slots := 0, locals := 117 } : Room) [.ref a_t] [oX9 a_t p_t o_t, oX1 (p_t 1) p_t_1 o_t_1, aI g (p_t_1 4) 7 f_t_1_4, aI g (p_t_1 6) 7 f_t_1_6, aI g (p_t_1 7) 7 f_t_1_7, aI g (p_t_1 10) 8 f_t_1_10, aI g (p_t_1 11) 8 f_t_1_11, aI g (p_t_1 12) 8 f_t_1_12, oX2 (p_t 5) p_t_5 o_t_5, aI g (p_t_5 6) 7 f_t_5_6, aI g (p_t_5 7) 7 f_t_5_7, oX2 (p_t 6) p_t_6 o_t_6, aI g (p_t_6 6) 7 f_t_6_6, aI g (p_t_6 7) 7 f_t_6_7, aI g (p_t_6 8) 7 f_t_6_8, oX3 (p_t 7) p_t_7 o_t_7] r [oX9 a_t p_t o_t', oX1 (p_t 1) p_t_1 o_t_1, aI g (p_t_1 4) 7 f_t_1_4, aI g (p_t_1 6) 7 f_t_1_6, aI g (p_t_1 7) 7 f_t_1_7, aI g (p_t_1 10) 8 f_t_1_10, aI g (p_t_1 11) 8 f_t_1_11, aI g (p_t_1 12) 8 f_t_1_12, oX2 (p_t 5) p_t_5 o_t_5, aI g (p_t_5 6) 7 f_t_5_6, aI g (p_t_5 7) 7 f_t_5_7, oX2 (p_t 6) p_t_6 o_t_6', aI g (p_t_6 6) 7 f_t_6_6', aI g (p_t_6 7) 7 f_t_6_7', aI g (p_t_6 8) 7 f_t_6_8', oX3 (p_t 7) p_t_7 o_t_7'] := by
  refine MI.of (cc := cX9_holder) (maxL := 5) (rt := .int) (own := RX9) rfl rfl (by decide) (Nat.le_of_ble_eq_true rfl) ?_
  intro p e s m args below meth c A C0 hP hD hS ls hl
  obtain ⟨hx, hb, hml, hown, hts, hr, hlk, hK, hA, hSW⟩ := id C0
  have hl : lv_has ls 5 [(0, .ref a_t)] := hl
  rw [fX9_holder] at hF
  refine lv_aload_n hx hb dX9_holder_0 rfl (lv_at hl 0 rfl) ?_
  obtain ⟨u_1, u_2, hu_3, hF⟩ := ob2_some hF
  refine call_i (wr := [oX1 (p_t 1) p_t_1 o_t_1, aI g (p_t_1 4) 7 f_t_1_4, aI g (p_t_1 6) 7 f_t_1_6, aI g (p_t_1 7) 7 f_t_1_7, aI g (p_t_1 10) 8 f_t_1_10, aI g (p_t_1 11) 8 f_t_1_11, aI g (p_t_1 12) 8 f_t_1_12, oX2 (p_t 5) p_t_5 o_t_5, aI g (p_t_5 6) 7 f_t_5_6, aI g (p_t_5 7) 7 f_t_5_7, oX2 (p_t 6) p_t_6 o_t_6, aI g (p_t_6 6) 7 f_t_6_6, aI g (p_t_6 7) 7 f_t_6_7, aI g (p_t_6 8) 7 f_t_6_8, oX3 (p_t 7) p_t_7 o_t_7]) (As := []) (rest := []) (ci := 9) (q0 := 0) C0 (mX9_asked l g a_t p_t n o_t u_1 u_2 hu_3) (cwV 0 hts gX9_holder_X9_asked rfl rfl rfl (by decide +kernel) ⟨Nat.le_of_ble_eq_true rfl, Nat.le_of_ble_eq_true rfl⟩) hP hD hS [0] [1, 2, 3, 4, 5, 6, 7, 8, 9, 10, 11, 12, 13, 14, 15] rfl rfl rfl rfl rfl (by decide) rfl rfl hl.1 rfl rfl (Nat.le_of_ble_eq_true rfl) ⟨Nat.zero_le _, Nat.zero_le _⟩ dX9_holder_1 ?_
  intro H locs hP hD hS
  refine lv_if_ne (tgt := 9) hx hb dX9_holder_4 (by decide) (fun c_4 => ?_) (fun c_4 => ?_)
  · have hF := it_n c_4 hF
    refine lv_aload_n hx hb dX9_holder_9 rfl (lv_at hl 0 rfl) ?_
    obtain ⟨u_5, u_6, u_7, u_8, u_9, u_10, hu_11, hF⟩ := ob6_some hF
    refine call_i (wr := []) (As := []) (rest := []) (ci := 9) (q0 := 0) C0 (mX9_endsAsIs l g a_t p_t p_t_1 p_t_5 p_t_6 p_t_7 n u_2 o_t_1 f_t_1_4 f_t_1_6 f_t_1_7 f_t_1_10 f_t_1_11 f_t_1_12 o_t_5 f_t_5_6 f_t_5_7 o_t_6 f_t_6_6 f_t_6_7 f_t_6_8 o_t_7 u_5 u_6 u_7 u_8 u_9 u_10 hu_11) (cwV 0 hts gX9_holder_X9_endsAsIs rfl rfl rfl (by decide +kernel) ⟨Nat.le_of_ble_eq_true rfl, Nat.le_of_ble_eq_true rfl⟩) hP hD hS [15, 0, 1, 2, 3, 4, 5, 6, 7, 8, 9, 10, 11, 12, 13, 14] [] rfl rfl rfl rfl rfl (by decide) rfl rfl hl.1 rfl rfl (Nat.le_of_ble_eq_true rfl) ⟨Nat.zero_le _, Nat.zero_le _⟩ dX9_holder_10 ?_
    intro H locs hP hD hS
    refine lv_istore_n (lv' := [(1, .int u_5), (0, .ref a_t)]) hx hb dX9_holder_13 rfl hl (by decide) rfl (fun ls hl => ?_)
    refine lv_bipush (v := (-2 : Int32)) hx hb dX9_holder_14 (by decide) ?_
    refine lv_istore_n (lv' := [(2, .int (-2 : Int32)), (1, .int u_5), (0, .ref a_t)]) hx hb dX9_holder_16 rfl hl (by decide) rfl (fun ls hl => ?_)
    refine lv_iconst (v := (0 : Int32)) hx hb dX9_holder_17 (by decide) ?_
    refine lv_istore_n (lv' := [(3, .int (0 : Int32)), (2, .int (-2 : Int32)), (1, .int u_5), (0, .ref a_t)]) hx hb dX9_holder_18 rfl hl (by decide) rfl (fun ls hl => ?_)
    refine wX9_holder_L19 C0 a_t p_t p_t_1 p_t_5 p_t_6 p_t_7 n u_2 o_t_1 f_t_1_4 f_t_1_6 f_t_1_7 f_t_1_10 f_t_1_11 f_t_1_12 o_t_5 f_t_5_6 f_t_5_7 r o_t' o_t_6' f_t_6_6' f_t_6_7' f_t_6_8' o_t_7' _ ?_ n u_5 (-2 : Int32) (0 : Int32) u_6 u_7 u_8 u_9 u_10 hF _ _ _ (hP.sub [0, 1, 2, 3, 4, 5, 6, 7, 8, 9, 10, 11, 12, 13, 14, 15] rfl) (hD.sub [0, 1, 2, 3, 4, 5, 6, 7, 8, 9, 10, 11, 12, 13, 14, 15] rfl rfl) hS (lv_sub hl [3, 2, 1, 0] rfl)
    · intro x2_x19 o_t_6_x19 f_t_6_6_x19 f_t_6_7_x19 f_t_6_8_x19 o_t_7_x19 H locs ls hF hP hD hS hl
      refine lv_iload_n hx hb dX9_holder_74 rfl (lv_at hl 0 rfl) ?_
      cases hF
      exact ret_i C0 hP hD hS [0, 1, 2, 3, 4, 5, 6, 7, 8, 9, 10, 11, 12, 13, 14, 15] rfl rfl rfl dX9_holder_75 rfl
  · have hF := it_p c_4 hF
    refine lv_iconst (v := (-1 : Int32)) hx hb dX9_holder_7 (by decide) ?_
    cases hF
    exact ret_i C0 hP hD hS [15, 0, 1, 2, 3, 4, 5, 6, 7, 8, 9, 10, 11, 12, 13, 14] rfl rfl rfl dX9_holder_8 rfl

theorem dAX9_without : ∀ q ∈ ([(0, (.aload_n 0, 1)), (1, (.invokevirtual 153, 3)), (4, (.ifCond .eq 14, 3)), (7, (.aload_n 0, 1)), (8, (.iload_n 1, 1)), (9, (.iconst 0, 1)), (10, (.bipush 60, 2)), (12, (.invokevirtual 168, 3)), (15, (.ifCond .ne 5, 3)), (18, (.iconst (-1), 1)), (19, (.ireturn, 1)), (20, (.aload_n 0, 1)), (21, (.getfield 37, 3)), (24, (.getfield 157, 3)), (27, (.istore_n 2, 1)), (28, (.iconst 0, 1)), (29, (.istore_n 3, 1)), (30, (.iload_n 3, 1)), (31, (.aload_n 0, 1)), (32, (.getfield 37, 3)), (35, (.getfield 157, 3)), (38, (.if_icmp .ge 58, 3)), (41, (.iload_n 3, 1)), (42, (.invokestatic 176, 3)), (45, (.iload_n 2, 1)), (46, (.invokestatic 176, 3)), (49, (.if_icmp .ge 7, 3)), (52, (.iconst 1, 1)), (53, (.goto 4, 3)), (56, (.iconst 0, 1)), (57, (.istore 4, 2)), (59, (.iload 4, 2)), (61, (.ifCond .eq 29, 3)), (64, (.iload_n 3, 1)), (65, (.aload_n 0, 1)), (66, (.getfield 37, 3)), (69, (.getfield 157, 3)), (72, (.iconst (-1), 1)), (73, (.ixor, 1)), (74, (.iand, 1)), (75, (.ifCond .ne 15, 3)), (78, (.aload_n 0, 1)), (79, (.iload_n 3, 1)), (80, (.iload_n 1, 1)), (81, (.invokevirtual 222, 3)), (84, (.iload_n 1, 1)), (85, (.if_icmp .gt 5, 3)), (88, (.iload_n 3, 1)), (89, (.istore_n 2, 1)), (90, (.iinc 3 1, 3)), (93, (.goto (-63), 3)), (96, (.iload_n 2, 1)), (97, (.ireturn, 1))] : List (Nat × (Instr × Nat))), decode cX9_without q.1 = .ok q.2 := by decide +kernel
theorem dX9_without_0 : decode cX9_without 0 = .ok (.aload_n 0, 1) := dAX9_without (0, (.aload_n 0, 1)) (List.mem_of_getElem? (i := 0) rfl)
theorem dX9_without_1 : decode cX9_without 1 = .ok (.invokevirtual 153, 3) := dAX9_without (1, (.invokevirtual 153, 3)) (List.mem_of_getElem? (i := 1) rfl)
theorem dX9_without_4 : decode cX9_without 4 = .ok (.ifCond .eq 14, 3) := dAX9_without (4, (.ifCond .eq 14, 3)) (List.mem_of_getElem? (i := 2) rfl)
theorem dX9_without_7 : decode cX9_without 7 = .ok (.aload_n 0, 1) := dAX9_without (7, (.aload_n 0, 1)) (List.mem_of_getElem? (i := 3) rfl)
theorem dX9_without_8 : decode cX9_without 8 = .ok (.iload_n 1, 1) := dAX9_without (8, (.iload_n 1, 1)) (List.mem_of_getElem? (i := 4) rfl)
theorem dX9_without_9 : decode cX9_without 9 = .ok (.iconst 0, 1) := dAX9_without (9, (.iconst 0, 1)) (List.mem_of_getElem? (i := 5) rfl)
theorem dX9_without_10 : decode cX9_without 10 = .ok (.bipush 60, 2) := dAX9_without (10, (.bipush 60, 2)) (List.mem_of_getElem? (i := 6) rfl)
theorem dX9_without_12 : decode cX9_without 12 = .ok (.invokevirtual 168, 3) := dAX9_without (12, (.invokevirtual 168, 3)) (List.mem_of_getElem? (i := 7) rfl)
theorem dX9_without_15 : decode cX9_without 15 = .ok (.ifCond .ne 5, 3) := dAX9_without (15, (.ifCond .ne 5, 3)) (List.mem_of_getElem? (i := 8) rfl)
theorem dX9_without_18 : decode cX9_without 18 = .ok (.iconst (-1), 1) := dAX9_without (18, (.iconst (-1), 1)) (List.mem_of_getElem? (i := 9) rfl)
theorem dX9_without_19 : decode cX9_without 19 = .ok (.ireturn, 1) := dAX9_without (19, (.ireturn, 1)) (List.mem_of_getElem? (i := 10) rfl)
theorem dX9_without_20 : decode cX9_without 20 = .ok (.aload_n 0, 1) := dAX9_without (20, (.aload_n 0, 1)) (List.mem_of_getElem? (i := 11) rfl)
theorem dX9_without_21 : decode cX9_without 21 = .ok (.getfield 37, 3) := dAX9_without (21, (.getfield 37, 3)) (List.mem_of_getElem? (i := 12) rfl)
theorem dX9_without_24 : decode cX9_without 24 = .ok (.getfield 157, 3) := dAX9_without (24, (.getfield 157, 3)) (List.mem_of_getElem? (i := 13) rfl)
theorem dX9_without_27 : decode cX9_without 27 = .ok (.istore_n 2, 1) := dAX9_without (27, (.istore_n 2, 1)) (List.mem_of_getElem? (i := 14) rfl)
theorem dX9_without_28 : decode cX9_without 28 = .ok (.iconst 0, 1) := dAX9_without (28, (.iconst 0, 1)) (List.mem_of_getElem? (i := 15) rfl)
theorem dX9_without_29 : decode cX9_without 29 = .ok (.istore_n 3, 1) := dAX9_without (29, (.istore_n 3, 1)) (List.mem_of_getElem? (i := 16) rfl)
theorem dX9_without_30 : decode cX9_without 30 = .ok (.iload_n 3, 1) := dAX9_without (30, (.iload_n 3, 1)) (List.mem_of_getElem? (i := 17) rfl)
theorem dX9_without_31 : decode cX9_without 31 = .ok (.aload_n 0, 1) := dAX9_without (31, (.aload_n 0, 1)) (List.mem_of_getElem? (i := 18) rfl)
theorem dX9_without_32 : decode cX9_without 32 = .ok (.getfield 37, 3) := dAX9_without (32, (.getfield 37, 3)) (List.mem_of_getElem? (i := 19) rfl)
theorem dX9_without_35 : decode cX9_without 35 = .ok (.getfield 157, 3) := dAX9_without (35, (.getfield 157, 3)) (List.mem_of_getElem? (i := 20) rfl)
theorem dX9_without_38 : decode cX9_without 38 = .ok (.if_icmp .ge 58, 3) := dAX9_without (38, (.if_icmp .ge 58, 3)) (List.mem_of_getElem? (i := 21) rfl)
theorem dX9_without_41 : decode cX9_without 41 = .ok (.iload_n 3, 1) := dAX9_without (41, (.iload_n 3, 1)) (List.mem_of_getElem? (i := 22) rfl)
theorem dX9_without_42 : decode cX9_without 42 = .ok (.invokestatic 176, 3) := dAX9_without (42, (.invokestatic 176, 3)) (List.mem_of_getElem? (i := 23) rfl)
theorem dX9_without_45 : decode cX9_without 45 = .ok (.iload_n 2, 1) := dAX9_without (45, (.iload_n 2, 1)) (List.mem_of_getElem? (i := 24) rfl)
theorem dX9_without_46 : decode cX9_without 46 = .ok (.invokestatic 176, 3) := dAX9_without (46, (.invokestatic 176, 3)) (List.mem_of_getElem? (i := 25) rfl)
theorem dX9_without_49 : decode cX9_without 49 = .ok (.if_icmp .ge 7, 3) := dAX9_without (49, (.if_icmp .ge 7, 3)) (List.mem_of_getElem? (i := 26) rfl)
theorem dX9_without_52 : decode cX9_without 52 = .ok (.iconst 1, 1) := dAX9_without (52, (.iconst 1, 1)) (List.mem_of_getElem? (i := 27) rfl)
theorem dX9_without_53 : decode cX9_without 53 = .ok (.goto 4, 3) := dAX9_without (53, (.goto 4, 3)) (List.mem_of_getElem? (i := 28) rfl)
theorem dX9_without_56 : decode cX9_without 56 = .ok (.iconst 0, 1) := dAX9_without (56, (.iconst 0, 1)) (List.mem_of_getElem? (i := 29) rfl)
theorem dX9_without_57 : decode cX9_without 57 = .ok (.istore 4, 2) := dAX9_without (57, (.istore 4, 2)) (List.mem_of_getElem? (i := 30) rfl)
theorem dX9_without_59 : decode cX9_without 59 = .ok (.iload 4, 2) := dAX9_without (59, (.iload 4, 2)) (List.mem_of_getElem? (i := 31) rfl)
theorem dX9_without_61 : decode cX9_without 61 = .ok (.ifCond .eq 29, 3) := dAX9_without (61, (.ifCond .eq 29, 3)) (List.mem_of_getElem? (i := 32) rfl)
theorem dX9_without_64 : decode cX9_without 64 = .ok (.iload_n 3, 1) := dAX9_without (64, (.iload_n 3, 1)) (List.mem_of_getElem? (i := 33) rfl)
theorem dX9_without_65 : decode cX9_without 65 = .ok (.aload_n 0, 1) := dAX9_without (65, (.aload_n 0, 1)) (List.mem_of_getElem? (i := 34) rfl)
theorem dX9_without_66 : decode cX9_without 66 = .ok (.getfield 37, 3) := dAX9_without (66, (.getfield 37, 3)) (List.mem_of_getElem? (i := 35) rfl)
theorem dX9_without_69 : decode cX9_without 69 = .ok (.getfield 157, 3) := dAX9_without (69, (.getfield 157, 3)) (List.mem_of_getElem? (i := 36) rfl)
theorem dX9_without_72 : decode cX9_without 72 = .ok (.iconst (-1), 1) := dAX9_without (72, (.iconst (-1), 1)) (List.mem_of_getElem? (i := 37) rfl)
theorem dX9_without_73 : decode cX9_without 73 = .ok (.ixor, 1) := dAX9_without (73, (.ixor, 1)) (List.mem_of_getElem? (i := 38) rfl)
theorem dX9_without_74 : decode cX9_without 74 = .ok (.iand, 1) := dAX9_without (74, (.iand, 1)) (List.mem_of_getElem? (i := 39) rfl)
theorem dX9_without_75 : decode cX9_without 75 = .ok (.ifCond .ne 15, 3) := dAX9_without (75, (.ifCond .ne 15, 3)) (List.mem_of_getElem? (i := 40) rfl)
theorem dX9_without_78 : decode cX9_without 78 = .ok (.aload_n 0, 1) := dAX9_without (78, (.aload_n 0, 1)) (List.mem_of_getElem? (i := 41) rfl)
theorem dX9_without_79 : decode cX9_without 79 = .ok (.iload_n 3, 1) := dAX9_without (79, (.iload_n 3, 1)) (List.mem_of_getElem? (i := 42) rfl)
theorem dX9_without_80 : decode cX9_without 80 = .ok (.iload_n 1, 1) := dAX9_without (80, (.iload_n 1, 1)) (List.mem_of_getElem? (i := 43) rfl)
theorem dX9_without_81 : decode cX9_without 81 = .ok (.invokevirtual 222, 3) := dAX9_without (81, (.invokevirtual 222, 3)) (List.mem_of_getElem? (i := 44) rfl)
theorem dX9_without_84 : decode cX9_without 84 = .ok (.iload_n 1, 1) := dAX9_without (84, (.iload_n 1, 1)) (List.mem_of_getElem? (i := 45) rfl)
theorem dX9_without_85 : decode cX9_without 85 = .ok (.if_icmp .gt 5, 3) := dAX9_without (85, (.if_icmp .gt 5, 3)) (List.mem_of_getElem? (i := 46) rfl)
theorem dX9_without_88 : decode cX9_without 88 = .ok (.iload_n 3, 1) := dAX9_without (88, (.iload_n 3, 1)) (List.mem_of_getElem? (i := 47) rfl)
theorem dX9_without_89 : decode cX9_without 89 = .ok (.istore_n 2, 1) := dAX9_without (89, (.istore_n 2, 1)) (List.mem_of_getElem? (i := 48) rfl)
theorem dX9_without_90 : decode cX9_without 90 = .ok (.iinc 3 1, 3) := dAX9_without (90, (.iinc 3 1, 3)) (List.mem_of_getElem? (i := 49) rfl)
theorem dX9_without_93 : decode cX9_without 93 = .ok (.goto (-63), 3) := dAX9_without (93, (.goto (-63), 3)) (List.mem_of_getElem? (i := 50) rfl)
theorem dX9_without_96 : decode cX9_without 96 = .ok (.iload_n 2, 1) := dAX9_without (96, (.iload_n 2, 1)) (List.mem_of_getElem? (i := 51) rfl)
theorem dX9_without_97 : decode cX9_without 97 = .ok (.ireturn, 1) := dAX9_without (97, (.ireturn, 1)) (List.mem_of_getElem? (i := 52) rfl)
set_option maxRecDepth 20000 in
theorem ggX9_without_X9_asked : GoodIn wsX9_without wsX9_asked := goodIn_r _ [7, 8, 9, 95, 96, 97, 98, 99, 100, 101, 102, 103, 104, 105, 106, 107, 108, 109] rfl (by decide +kernel)
set_option maxRecDepth 20000 in
theorem gX9_without_X9_asked : GoodIn wsX9_without (wsV RX9 153 RX9 yX9_asked wsX9_asked) := goodIn_app (goodIn_of _ (by decide +kernel)) ggX9_without_X9_asked
set_option maxRecDepth 20000 in
theorem ggX9_without_X9_within : GoodIn wsX9_without wsX9_within := goodIn_r _ [13, 9, 95, 96, 97, 98, 99, 100, 101, 102, 103, 104, 105, 106, 107, 108, 109] rfl (by decide +kernel)
set_option maxRecDepth 20000 in
theorem gX9_without_X9_within : GoodIn wsX9_without (wsV RX9 168 RX9 yX9_within wsX9_within) := goodIn_app (goodIn_of _ (by decide +kernel)) ggX9_without_X9_within
set_option maxRecDepth 20000 in
theorem ggX9_without_J6_bitCount_0f7a4 : GoodIn wsX9_without wsJ6_bitCount_0f7a4 := goodIn_r _ [17, 18, 19, 20] rfl (by decide +kernel)
set_option maxRecDepth 20000 in
theorem gX9_without_J6_bitCount_0f7a4 : GoodIn wsX9_without (va_wsS RX9 176 yJ6_bitCount_0f7a4 wsJ6_bitCount_0f7a4) := goodIn_app (goodIn_of _ (by decide +kernel)) ggX9_without_J6_bitCount_0f7a4
set_option maxRecDepth 20000 in
theorem ggX9_without_X9_endsLess : GoodIn wsX9_without wsX9_endsLess := goodIn_r _ [24, 25, 1, 26, 27, 28, 29, 30, 31, 32, 33, 34, 35, 36, 37, 38, 39, 40, 41, 42, 43, 44, 45, 46, 47, 48, 49, 50, 51, 52, 53, 54, 55, 56, 57, 58, 59, 60, 61, 62, 63, 64, 65, 66, 67, 68, 69, 70, 71, 72, 73, 74, 75, 76, 77, 78, 79, 80, 81, 82, 83, 84, 85, 86, 87, 88, 89, 90, 91, 92, 93, 94, 95, 96, 97, 98, 99, 100, 101, 102, 103, 104, 105, 106, 107, 108, 109, 110, 111, 112, 113, 114, 115, 116, 117, 118, 119, 120, 121, 122, 123, 124, 125, 126, 127, 128, 129, 130, 131, 132, 133, 134, 135, 136, 137] rfl (by decide +kernel)
set_option maxRecDepth 20000 in
theorem gX9_without_X9_endsLess : GoodIn wsX9_without (wsV RX9 222 RX9 yX9_endsLess wsX9_endsLess) := goodIn_app (goodIn_of _ (by decide +kernel)) ggX9_without_X9_endsLess
theorem kX9_without_37 : Cond.fieldLink RX9 37 "EveningVow" "now" "LEveningVow$Night;" ∈ wsX9_without := List.mem_of_getElem? (i := 1) rfl
theorem iX9_without_X9 : ∀ w ∈ u_ws RX9 TX9 15, w ∈ wsX9_without := fun w h => (List.mem_cons_of_mem _ (List.mem_append_left _ (List.mem_append_left _ (List.mem_append_left _ (List.mem_append_right _ h)))))
theorem kX9_without_157 : Cond.fieldLink RX9 157 "EveningVow$Night" "there" "I" ∈ wsX9_without := List.mem_of_getElem? (i := 2) rfl
theorem iX9_without_X2 : ∀ w ∈ u_ws RX2 TX2 9, w ∈ wsX9_without := fun w h => (List.mem_cons_of_mem _ (List.mem_append_left _ (List.mem_append_left _ (List.mem_append_right _ h))))
set_option maxHeartbeats 4000000 in
set_option maxRecDepth 100000 in
theorem wX9_without_L30 {p : Program} {l : Launch} {e : Env} {s : State} {m : MethodId} {args : Array Value} {below : List Frame} {meth : Method} {c : Code} {g : GG} {A : Nat → Prop} (C0 : Cx p s m args meth c cX9_without 5 (some .int) RX9 wsX9_without g A) (a_t : Nat) (p_t : Nat → Nat) (p_t_1 : Nat → Nat) (p_t_5 : Nat → Nat) (p_t_6 : Nat → Nat) (p_t_7 : Nat → Nat) (n : Nat) (x1 : Int32) (o_t : Nat → Int32) (o_t_1 : Nat → Int32) (f_t_1_4 : Nat → Int32) (f_t_1_6 : Nat → Int32) (f_t_1_7 : Nat → Int32) (f_t_1_10 : Nat → Int32) (f_t_1_11 : Nat → Int32) (f_t_1_12 : Nat → Int32) (o_t_5 : Nat → Int32) (f_t_5_6 : Nat → Int32) (f_t_5_7 : Nat → Int32)  (r : Int32) (o_t' : Nat → Int32) (o_t_6' : Nat → Int32) (f_t_6_6' : Nat → Int32) (f_t_6_7' : Nat → Int32) (f_t_6_8' : Nat → Int32) (o_t_7' : Nat → Int32) (K : Int32 → (Nat → Int32) → (Nat → Int32) → (Nat → Int32) → (Nat → Int32) → (Nat → Int32) → Option (Int32 × (Nat → Int32) × (Nat → Int32) × (Nat → Int32) × (Nat → Int32) × (Nat → Int32) × (Nat → Int32))) (hKx : ∀ (x2 : Int32) (o_t_6 : Nat → Int32) (f_t_6_6 : Nat → Int32) (f_t_6_7 : Nat → Int32) (f_t_6_8 : Nat → Int32) (o_t_7 : Nat → Int32) (H : Heap) (locs : List Loc) (ls : Array Slot), K x2 o_t_6 f_t_6_6 f_t_6_7 f_t_6_8 o_t_7 = some (r, o_t', o_t_6', f_t_6_6', f_t_6_7', f_t_6_8', o_t_7') → va_P g.1 vwCl [oX9 a_t p_t o_t, oX1 (p_t 1) p_t_1 o_t_1, aI g (p_t_1 4) 7 f_t_1_4, aI g (p_t_1 6) 7 f_t_1_6, aI g (p_t_1 7) 7 f_t_1_7, aI g (p_t_1 10) 8 f_t_1_10, aI g (p_t_1 11) 8 f_t_1_11, aI g (p_t_1 12) 8 f_t_1_12, oX2 (p_t 5) p_t_5 o_t_5, aI g (p_t_5 6) 7 f_t_5_6, aI g (p_t_5 7) 7 f_t_5_7, oX2 (p_t 6) p_t_6 o_t_6, aI g (p_t_6 6) 7 f_t_6_6, aI g (p_t_6 7) 7 f_t_6_7, aI g (p_t_6 8) 7 f_t_6_8, oX3 (p_t 7) p_t_7 o_t_7] H → va_D A [oX9 a_t p_t o_t, oX1 (p_t 1) p_t_1 o_t_1, aI g (p_t_1 4) 7 f_t_1_4, aI g (p_t_1 6) 7 f_t_1_6, aI g (p_t_1 7) 7 f_t_1_7, aI g (p_t_1 10) 8 f_t_1_10, aI g (p_t_1 11) 8 f_t_1_11, aI g (p_t_1 12) 8 f_t_1_12, oX2 (p_t 5) p_t_5 o_t_5, aI g (p_t_5 6) 7 f_t_5_6, aI g (p_t_5 7) 7 f_t_5_7, oX2 (p_t 6) p_t_6 o_t_6, aI g (p_t_6 6) 7 f_t_6_6, aI g (p_t_6 7) 7 f_t_6_7, aI g (p_t_6 8) 7 f_t_6_8, oX3 (p_t 7) p_t_7 o_t_7] → va_S A s.heap H locs → lv_has ls 5 [(2, .int x2)] → W p l e ({ frames := 5, cells := 0, slots := 0, locals := 117 } : Room) s m args below meth c H locs 0 0 (MQ below (EndI g r [oX9 a_t p_t o_t', oX1 (p_t 1) p_t_1 o_t_1, aI g (p_t_1 4) 7 f_t_1_4, aI g (p_t_1 6) 7 f_t_1_6, aI g (p_t_1 7) 7 f_t_1_7, aI g (p_t_1 10) 8 f_t_1_10, aI g (p_t_1 11) 8 f_t_1_11, aI g (p_t_1 12) 8 f_t_1_12, oX2 (p_t 5) p_t_5 o_t_5, aI g (p_t_5 6) 7 f_t_5_6, aI g (p_t_5 7) 7 f_t_5_7, oX2 (p_t 6) p_t_6 o_t_6', aI g (p_t_6 6) 7 f_t_6_6', aI g (p_t_6 7) 7 f_t_6_7', aI g (p_t_6 8) 7 f_t_6_8', oX3 (p_t 7) p_t_7 o_t_7'] A) args s 0 0 A) (F0 m 96 ls [])) : ∀ (k : Nat) (x2 : Int32) (x3 : Int32) (o_t_6 : Nat → Int32) (f_t_6_6 : Nat → Int32) (f_t_6_7 : Nat → Int32) (f_t_6_8 : Nat → Int32) (o_t_7 : Nat → Int32), fX9_without_L30 n x1 o_t o_t_1 f_t_1_4 f_t_1_6 f_t_1_7 f_t_1_10 f_t_1_11 f_t_1_12 o_t_5 f_t_5_6 f_t_5_7 K k x2 x3 o_t_6 f_t_6_6 f_t_6_7 f_t_6_8 o_t_7 = some (r, o_t', o_t_6', f_t_6_6', f_t_6_7', f_t_6_8', o_t_7') → ∀ (H : Heap) (locs : List Loc) (ls : Array Slot), va_P g.1 vwCl [oX9 a_t p_t o_t, oX1 (p_t 1) p_t_1 o_t_1, aI g (p_t_1 4) 7 f_t_1_4, aI g (p_t_1 6) 7 f_t_1_6, aI g (p_t_1 7) 7 f_t_1_7, aI g (p_t_1 10) 8 f_t_1_10, aI g (p_t_1 11) 8 f_t_1_11, aI g (p_t_1 12) 8 f_t_1_12, oX2 (p_t 5) p_t_5 o_t_5, aI g (p_t_5 6) 7 f_t_5_6, aI g (p_t_5 7) 7 f_t_5_7, oX2 (p_t 6) p_t_6 o_t_6, aI g (p_t_6 6) 7 f_t_6_6, aI g (p_t_6 7) 7 f_t_6_7, aI g (p_t_6 8) 7 f_t_6_8, oX3 (p_t 7) p_t_7 o_t_7] H → va_D A [oX9 a_t p_t o_t, oX1 (p_t 1) p_t_1 o_t_1, aI g (p_t_1 4) 7 f_t_1_4, aI g (p_t_1 6) 7 f_t_1_6, aI g (p_t_1 7) 7 f_t_1_7, aI g (p_t_1 10) 8 f_t_1_10, aI g (p_t_1 11) 8 f_t_1_11, aI g (p_t_1 12) 8 f_t_1_12, oX2 (p_t 5) p_t_5 o_t_5, aI g (p_t_5 6) 7 f_t_5_6, aI g (p_t_5 7) 7 f_t_5_7, oX2 (p_t 6) p_t_6 o_t_6, aI g (p_t_6 6) 7 f_t_6_6, aI g (p_t_6 7) 7 f_t_6_7, aI g (p_t_6 8) 7 f_t_6_8, oX3 (p_t 7) p_t_7 o_t_7] → va_S A s.heap H locs → lv_has ls 5 [(0, .ref a_t), (1, .int x1), (2, .int x2), (3, .int x3)] → W p l e ({ frames := 5, cells := 0, slots := 0, locals := 117 } : Room) s m args below meth c H locs 0 0 (MQ below (EndI g r [oX9 a_t p_t o_t', oX1 (p_t 1) p_t_1 o_t_1, aI g (p_t_1 4) 7 f_t_1_4, aI g (p_t_1 6) 7 f_t_1_6, aI g (p_t_1 7) 7 f_t_1_7, aI g (p_t_1 10) 8 f_t_1_10, aI g (p_t_1 11) 8 f_t_1_11, aI g (p_t_1 12) 8 f_t_1_12, oX2 (p_t 5) p_t_5 o_t_5, aI g (p_t_5 6) 7 f_t_5_6, aI g (p_t_5 7) 7 f_t_5_7, oX2 (p_t 6) p_t_6 o_t_6', aI g (p_t_6 6) 7 f_t_6_6', aI g (p_t_6 7) 7 f_t_6_7', aI g (p_t_6 8) 7 f_t_6_8', oX3 (p_t 7) p_t_7 o_t_7'] A) args s 0 0 A) (F0 m 30 ls []) := by
  obtain ⟨hx, hb, hml, hown, hts, hr, hlk, hK, hA, hSW⟩ := id C0
  intro k
  induction k with
  | zero =>
    intro x2 x3 o_t_6 f_t_6_6 f_t_6_7 f_t_6_8 o_t_7 hF
    exact absurd hF (by simp [fX9_without_L30])
  | succ k ih =>
    intro x2 x3 o_t_6 f_t_6_6 f_t_6_7 f_t_6_8 o_t_7 hF H locs ls hP hD hS hl
    rw [fX9_without_L30] at hF
    refine lv_iload_n hx hb dX9_without_30 rfl (lv_at hl 3 rfl) ?_
    refine lv_aload_n hx hb dX9_without_31 rfl (lv_at hl 0 rfl) ?_
    refine va_get (D := g.1) (ci := 9) (v := .ref (p_t 5)) (C := RX9) (T := TX9) (N := 15) hx hb hts iX9_without_X9 hown hK.1 hP 0 rfl rfl 5 (by decide) (hts _ kX9_without_37) (fun _ h9 => h9) rfl dX9_without_32 ?_
    refine va_get (D := g.1) (ci := 2) (v := .int (o_t_5 1)) (C := RX2) (T := TX2) (N := 9) hx hb hts iX9_without_X2 hown hK.1 hP 8 rfl rfl 1 (by decide) (hts _ kX9_without_157) (fun _ h9 => h9) rfl dX9_without_35 ?_
    refine lv_icmp_ge (tgt := 96) hx hb dX9_without_38 (by decide) (fun c_9 => ?_) (fun c_9 => ?_)
    · have hF := it_p c_9 hF
      exact hKx x2 o_t_6 f_t_6_6 f_t_6_7 f_t_6_8 o_t_7 _ _ _ hF (hP.sub [0, 1, 2, 3, 4, 5, 6, 7, 8, 9, 10, 11, 12, 13, 14, 15] rfl) (hD.sub [0, 1, 2, 3, 4, 5, 6, 7, 8, 9, 10, 11, 12, 13, 14, 15] rfl rfl) hS (lv_sub hl [2] rfl)
    · have hF := it_n c_9 hF
      refine lv_iload_n hx hb dX9_without_41 rfl (lv_at hl 3 rfl) ?_
      obtain ⟨u_10, hu_11, hF⟩ := ob1_some hF
      refine call_si (wr := [oX9 a_t p_t o_t, oX1 (p_t 1) p_t_1 o_t_1, aI g (p_t_1 4) 7 f_t_1_4, aI g (p_t_1 6) 7 f_t_1_6, aI g (p_t_1 7) 7 f_t_1_7, aI g (p_t_1 10) 8 f_t_1_10, aI g (p_t_1 11) 8 f_t_1_11, aI g (p_t_1 12) 8 f_t_1_12, oX2 (p_t 5) p_t_5 o_t_5, aI g (p_t_5 6) 7 f_t_5_6, aI g (p_t_5 7) 7 f_t_5_7, oX2 (p_t 6) p_t_6 o_t_6, aI g (p_t_6 6) 7 f_t_6_6, aI g (p_t_6 7) 7 f_t_6_7, aI g (p_t_6 8) 7 f_t_6_8, oX3 (p_t 7) p_t_7 o_t_7]) (As := [.int x3]) (rest := []) C0 (mJ6_bitCount_0f7a4 l g n x3 u_10 hu_11) (va_cwS 1 hts gX9_without_J6_bitCount_0f7a4 rfl rfl rfl (by decide +kernel) ⟨Nat.le_of_ble_eq_true rfl, Nat.le_of_ble_eq_true rfl⟩) hP hD hS [] [0, 1, 2, 3, 4, 5, 6, 7, 8, 9, 10, 11, 12, 13, 14, 15] rfl rfl rfl rfl rfl (by decide) hl.1 rfl rfl (Nat.le_of_ble_eq_true rfl) ⟨Nat.zero_le _, Nat.zero_le _⟩ dX9_without_42 ?_
      intro H locs hP hD hS
      refine lv_iload_n hx hb dX9_without_45 rfl (lv_at hl 2 rfl) ?_
      obtain ⟨u_12, hu_13, hF⟩ := ob1_some hF
      refine call_si (wr := [oX9 a_t p_t o_t, oX1 (p_t 1) p_t_1 o_t_1, aI g (p_t_1 4) 7 f_t_1_4, aI g (p_t_1 6) 7 f_t_1_6, aI g (p_t_1 7) 7 f_t_1_7, aI g (p_t_1 10) 8 f_t_1_10, aI g (p_t_1 11) 8 f_t_1_11, aI g (p_t_1 12) 8 f_t_1_12, oX2 (p_t 5) p_t_5 o_t_5, aI g (p_t_5 6) 7 f_t_5_6, aI g (p_t_5 7) 7 f_t_5_7, oX2 (p_t 6) p_t_6 o_t_6, aI g (p_t_6 6) 7 f_t_6_6, aI g (p_t_6 7) 7 f_t_6_7, aI g (p_t_6 8) 7 f_t_6_8, oX3 (p_t 7) p_t_7 o_t_7]) (As := [.int x2]) (rest := [.int u_10]) C0 (mJ6_bitCount_0f7a4 l g n x2 u_12 hu_13) (va_cwS 1 hts gX9_without_J6_bitCount_0f7a4 rfl rfl rfl (by decide +kernel) ⟨Nat.le_of_ble_eq_true rfl, Nat.le_of_ble_eq_true rfl⟩) hP hD hS [] [0, 1, 2, 3, 4, 5, 6, 7, 8, 9, 10, 11, 12, 13, 14, 15] rfl rfl rfl rfl rfl (by decide) hl.1 rfl rfl (Nat.le_of_ble_eq_true rfl) ⟨Nat.zero_le _, Nat.zero_le _⟩ dX9_without_46 ?_
      intro H locs hP hD hS
      obtain ⟨J57, eJ57, hF⟩ := jn_some hF
      have hJ57 : ∀ (s0_57 : Int32) (H : Heap) (locs : List Loc) (ls : Array Slot), J57 s0_57 = some (r, o_t', o_t_6', f_t_6_6', f_t_6_7', f_t_6_8', o_t_7') → va_P g.1 vwCl [oX9 a_t p_t o_t, oX1 (p_t 1) p_t_1 o_t_1, aI g (p_t_1 4) 7 f_t_1_4, aI g (p_t_1 6) 7 f_t_1_6, aI g (p_t_1 7) 7 f_t_1_7, aI g (p_t_1 10) 8 f_t_1_10, aI g (p_t_1 11) 8 f_t_1_11, aI g (p_t_1 12) 8 f_t_1_12, oX2 (p_t 5) p_t_5 o_t_5, aI g (p_t_5 6) 7 f_t_5_6, aI g (p_t_5 7) 7 f_t_5_7, oX2 (p_t 6) p_t_6 o_t_6, aI g (p_t_6 6) 7 f_t_6_6, aI g (p_t_6 7) 7 f_t_6_7, aI g (p_t_6 8) 7 f_t_6_8, oX3 (p_t 7) p_t_7 o_t_7] H → va_D A [oX9 a_t p_t o_t, oX1 (p_t 1) p_t_1 o_t_1, aI g (p_t_1 4) 7 f_t_1_4, aI g (p_t_1 6) 7 f_t_1_6, aI g (p_t_1 7) 7 f_t_1_7, aI g (p_t_1 10) 8 f_t_1_10, aI g (p_t_1 11) 8 f_t_1_11, aI g (p_t_1 12) 8 f_t_1_12, oX2 (p_t 5) p_t_5 o_t_5, aI g (p_t_5 6) 7 f_t_5_6, aI g (p_t_5 7) 7 f_t_5_7, oX2 (p_t 6) p_t_6 o_t_6, aI g (p_t_6 6) 7 f_t_6_6, aI g (p_t_6 7) 7 f_t_6_7, aI g (p_t_6 8) 7 f_t_6_8, oX3 (p_t 7) p_t_7 o_t_7] → va_S A s.heap H locs → lv_has ls 5 [(0, .ref a_t), (1, .int x1), (2, .int x2), (3, .int x3)] → W p l e ({ frames := 5, cells := 0, slots := 0, locals := 117 } : Room) s m args below meth c H locs 0 0 (MQ below (EndI g r [oX9 a_t p_t o_t', oX1 (p_t 1) p_t_1 o_t_1, aI g (p_t_1 4) 7 f_t_1_4, aI g (p_t_1 6) 7 f_t_1_6, aI g (p_t_1 7) 7 f_t_1_7, aI g (p_t_1 10) 8 f_t_1_10, aI g (p_t_1 11) 8 f_t_1_11, aI g (p_t_1 12) 8 f_t_1_12, oX2 (p_t 5) p_t_5 o_t_5, aI g (p_t_5 6) 7 f_t_5_6, aI g (p_t_5 7) 7 f_t_5_7, oX2 (p_t 6) p_t_6 o_t_6', aI g (p_t_6 6) 7 f_t_6_6', aI g (p_t_6 7) 7 f_t_6_7', aI g (p_t_6 8) 7 f_t_6_8', oX3 (p_t 7) p_t_7 o_t_7'] A) args s 0 0 A) (F0 m 57 ls [.int s0_57]) := by
        intro s0_57 H locs ls hF hP hD hS hl
        have hF := jj1 eJ57 hF
        refine lv_istore (lv' := [(4, .int s0_57), (0, .ref a_t), (1, .int x1), (2, .int x2), (3, .int x3)]) hx hb dX9_without_57 hl (by decide) rfl (fun ls hl => ?_)
        refine lv_iload hx hb dX9_without_59 (lv_at hl 0 rfl) ?_
        refine lv_if_eq (tgt := 90) hx hb dX9_without_61 (by decide) (fun c_14 => ?_) (fun c_14 => ?_)
        · have hF := it_p c_14 hF
          refine lv_iinc (v := (x3 + (1 : Int32))) (lv' := [(3, .int (x3 + (1 : Int32))), (4, .int s0_57), (0, .ref a_t), (1, .int x1), (2, .int x2)]) hx hb dX9_without_90 hl (k := 4) rfl rfl (by decide) rfl (fun ls hl => ?_)
          refine lv_goto (tgt := 30) hx hb dX9_without_93 (by decide) ?_
          exact ih x2 (x3 + (1 : Int32)) o_t_6 f_t_6_6 f_t_6_7 f_t_6_8 o_t_7 hF _ _ _ (hP.sub [0, 1, 2, 3, 4, 5, 6, 7, 8, 9, 10, 11, 12, 13, 14, 15] rfl) (hD.sub [0, 1, 2, 3, 4, 5, 6, 7, 8, 9, 10, 11, 12, 13, 14, 15] rfl rfl) hS (lv_sub hl [2, 3, 4, 0] rfl)
        · have hF := it_n c_14 hF
          refine lv_iload_n hx hb dX9_without_64 rfl (lv_at hl 4 rfl) ?_
          refine lv_aload_n hx hb dX9_without_65 rfl (lv_at hl 1 rfl) ?_
          refine va_get (D := g.1) (ci := 9) (v := .ref (p_t 5)) (C := RX9) (T := TX9) (N := 15) hx hb hts iX9_without_X9 hown hK.1 hP 0 rfl rfl 5 (by decide) (hts _ kX9_without_37) (fun _ h9 => h9) rfl dX9_without_66 ?_
          refine va_get (D := g.1) (ci := 2) (v := .int (o_t_5 1)) (C := RX2) (T := TX2) (N := 9) hx hb hts iX9_without_X2 hown hK.1 hP 8 rfl rfl 1 (by decide) (hts _ kX9_without_157) (fun _ h9 => h9) rfl dX9_without_69 ?_
          refine lv_iconst (v := (-1 : Int32)) hx hb dX9_without_72 (by decide) ?_
          refine lv_ixor hx hb dX9_without_73 ?_
          refine lv_iand hx hb dX9_without_74 ?_
          refine lv_if_ne (tgt := 90) hx hb dX9_without_75 (by decide) (fun c_15 => ?_) (fun c_15 => ?_)
          · have hF := it_n c_15 hF
            refine lv_iinc (v := (x3 + (1 : Int32))) (lv' := [(3, .int (x3 + (1 : Int32))), (4, .int s0_57), (0, .ref a_t), (1, .int x1), (2, .int x2)]) hx hb dX9_without_90 hl (k := 4) rfl rfl (by decide) rfl (fun ls hl => ?_)
            refine lv_goto (tgt := 30) hx hb dX9_without_93 (by decide) ?_
            exact ih x2 (x3 + (1 : Int32)) o_t_6 f_t_6_6 f_t_6_7 f_t_6_8 o_t_7 hF _ _ _ (hP.sub [0, 1, 2, 3, 4, 5, 6, 7, 8, 9, 10, 11, 12, 13, 14, 15] rfl) (hD.sub [0, 1, 2, 3, 4, 5, 6, 7, 8, 9, 10, 11, 12, 13, 14, 15] rfl rfl) hS (lv_sub hl [2, 3, 4, 0] rfl)
          · have hF := it_p c_15 hF
            refine lv_aload_n hx hb dX9_without_78 rfl (lv_at hl 1 rfl) ?_
            refine lv_iload_n hx hb dX9_without_79 rfl (lv_at hl 4 rfl) ?_
            refine lv_iload_n hx hb dX9_without_80 rfl (lv_at hl 2 rfl) ?_
            obtain ⟨u_16, u_17, u_18, u_19, u_20, u_21, hu_22, hF⟩ := ob6_some hF
            refine call_i (wr := []) (As := [.int x3, .int x1]) (rest := []) (ci := 9) (q0 := 0) C0 (mX9_endsLess l g a_t p_t p_t_1 p_t_5 p_t_6 p_t_7 n x3 x1 o_t o_t_1 f_t_1_4 f_t_1_6 f_t_1_7 f_t_1_10 f_t_1_11 f_t_1_12 o_t_5 f_t_5_6 f_t_5_7 o_t_6 f_t_6_6 f_t_6_7 f_t_6_8 o_t_7 u_16 u_17 u_18 u_19 u_20 u_21 hu_22) (cwV 2 hts gX9_without_X9_endsLess rfl rfl rfl (by decide +kernel) ⟨Nat.le_of_ble_eq_true rfl, Nat.le_of_ble_eq_true rfl⟩) hP hD hS [0, 1, 2, 3, 4, 5, 6, 7, 8, 9, 10, 11, 12, 13, 14, 15] [] rfl rfl rfl rfl rfl (by decide) rfl rfl hl.1 rfl rfl (Nat.le_of_ble_eq_true rfl) ⟨Nat.zero_le _, Nat.zero_le _⟩ dX9_without_81 ?_
            intro H locs hP hD hS
            refine lv_iload_n hx hb dX9_without_84 rfl (lv_at hl 2 rfl) ?_
            refine lv_icmp_gt (tgt := 90) hx hb dX9_without_85 (by decide) (fun c_23 => ?_) (fun c_23 => ?_)
            · have hF := it_p c_23 hF
              refine lv_iinc (v := (x3 + (1 : Int32))) (lv' := [(3, .int (x3 + (1 : Int32))), (4, .int s0_57), (0, .ref a_t), (1, .int x1), (2, .int x2)]) hx hb dX9_without_90 hl (k := 4) rfl rfl (by decide) rfl (fun ls hl => ?_)
              refine lv_goto (tgt := 30) hx hb dX9_without_93 (by decide) ?_
              exact ih x2 (x3 + (1 : Int32)) u_17 u_18 u_19 u_20 u_21 hF _ _ _ (hP.sub [0, 1, 2, 3, 4, 5, 6, 7, 8, 9, 10, 11, 12, 13, 14, 15] rfl) (hD.sub [0, 1, 2, 3, 4, 5, 6, 7, 8, 9, 10, 11, 12, 13, 14, 15] rfl rfl) hS (lv_sub hl [2, 3, 4, 0] rfl)
            · have hF := it_n c_23 hF
              refine lv_iload_n hx hb dX9_without_88 rfl (lv_at hl 4 rfl) ?_
              refine lv_istore_n (lv' := [(2, .int x3), (4, .int s0_57), (0, .ref a_t), (1, .int x1), (3, .int x3)]) hx hb dX9_without_89 rfl hl (by decide) rfl (fun ls hl => ?_)
              refine lv_iinc (v := (x3 + (1 : Int32))) (lv' := [(3, .int (x3 + (1 : Int32))), (2, .int x3), (4, .int s0_57), (0, .ref a_t), (1, .int x1)]) hx hb dX9_without_90 hl (k := 4) rfl rfl (by decide) rfl (fun ls hl => ?_)
              refine lv_goto (tgt := 30) hx hb dX9_without_93 (by decide) ?_
              exact ih x3 (x3 + (1 : Int32)) u_17 u_18 u_19 u_20 u_21 hF _ _ _ (hP.sub [0, 1, 2, 3, 4, 5, 6, 7, 8, 9, 10, 11, 12, 13, 14, 15] rfl) (hD.sub [0, 1, 2, 3, 4, 5, 6, 7, 8, 9, 10, 11, 12, 13, 14, 15] rfl rfl) hS (lv_sub hl [3, 4, 1, 0] rfl)
      refine lv_icmp_ge (tgt := 56) hx hb dX9_without_49 (by decide) (fun c_24 => ?_) (fun c_24 => ?_)
      · have hF := it_p c_24 hF
        refine lv_iconst (v := (0 : Int32)) hx hb dX9_without_56 (by decide) ?_
        exact hJ57 (0 : Int32) _ _ _ hF (hP.sub [0, 1, 2, 3, 4, 5, 6, 7, 8, 9, 10, 11, 12, 13, 14, 15] rfl) (hD.sub [0, 1, 2, 3, 4, 5, 6, 7, 8, 9, 10, 11, 12, 13, 14, 15] rfl rfl) hS (lv_sub hl [0, 1, 2, 3] rfl)
      · have hF := it_n c_24 hF
        refine lv_iconst (v := (1 : Int32)) hx hb dX9_without_52 (by decide) ?_
        refine lv_goto (tgt := 57) hx hb dX9_without_53 (by decide) ?_
        exact hJ57 (1 : Int32) _ _ _ hF (hP.sub [0, 1, 2, 3, 4, 5, 6, 7, 8, 9, 10, 11, 12, 13, 14, 15] rfl) (hD.sub [0, 1, 2, 3, 4, 5, 6, 7, 8, 9, 10, 11, 12, 13, 14, 15] rfl rfl) hS (lv_sub hl [0, 1, 2, 3] rfl)
set_option maxHeartbeats 4000000 in
set_option maxRecDepth 100000 in
theorem mX9_without (l : Launch) (g : GG) (a_t : Nat) (p_t : Nat → Nat) (p_t_1 : Nat → Nat) (p_t_5 : Nat → Nat) (p_t_6 : Nat → Nat) (p_t_7 : Nat → Nat) (n : Nat) (x1 : Int32) (o_t : Nat → Int32) (o_t_1 : Nat → Int32) (f_t_1_4 : Nat → Int32) (f_t_1_6 : Nat → Int32) (f_t_1_7 : Nat → Int32) (f_t_1_10 : Nat → Int32) (f_t_1_11 : Nat → Int32) (f_t_1_12 : Nat → Int32) (o_t_5 : Nat → Int32) (f_t_5_6 : Nat → Int32) (f_t_5_7 : Nat → Int32) (o_t_6 : Nat → Int32) (f_t_6_6 : Nat → Int32) (f_t_6_7 : Nat → Int32) (f_t_6_8 : Nat → Int32) (o_t_7 : Nat → Int32) (r : Int32) (o_t' : Nat → Int32) (o_t_6' : Nat → Int32) (f_t_6_6' : Nat → Int32) (f_t_6_7' : Nat → Int32) (f_t_6_8' : Nat → Int32) (o_t_7' : Nat → Int32) (hF : fX9_without n x1 o_t o_t_1 f_t_1_4 f_t_1_6 f_t_1_7 f_t_1_10 f_t_1_11 f_t_1_12 o_t_5 f_t_5_6 f_t_5_7 o_t_6 f_t_6_6 f_t_6_7 f_t_6_8 o_t_7 = some (r, o_t', o_t_6', f_t_6_6', f_t_6_7', f_t_6_8', o_t_7')) : MI l g yX9_without wsX9_without ({ frames := 5, cells := 0, slots := 0, locals := 117 } : Room) [.ref a_t, .int x1] [oX9 a_t p_t o_t, oX1 (p_t 1) p_t_1 o_t_1, aI g (p_t_1 4) 7 f_t_1_4, aI g (p_t_1 6) 7 f_t_1_6, aI g (p_t_1 7) 7 f_t_1_7, aI g (p_t_1 10) 8 f_t_1_10, aI g (p_t_1 11) 8 f_t_1_11, aI g (p_t_1 12) 8 f_t_1_12, oX2 (p_t 5) p_t_5 o_t_5, aI g (p_t_5 6) 7 f_t_5_6, aI g (p_t_5 7) 7 f_t_5_7, oX2 (p_t 6) p_t_6 o_t_6, aI g (p_t_6 6) 7 f_t_6_6, aI g (p_t_6 7) 7 f_t_6_7, aI g (p_t_6 8) 7 f_t_6_8, oX3 (p_t 7) p_t_7 o_t_7] r [oX9 a_t p_t o_t', oX1 (p_t 1) p_t_1 o_t_1, aI g (p_t_1 4) 7 f_t_1_4, aI g (p_t_1 6) 7 f_t_1_6, aI g (p_t_1 7) 7 f_t_1_7, aI g (p_t_1 10) 8 f_t_1_10, aI g (p_t_1 11) 8 f_t_1_11, aI g (p_t_1 12) 8 f_t_1_12, oX2 (p_t 5) p_t_5 o_t_5, aI g (p_t_5 6) 7 f_t_5_6, aI g (p_t_5 7) 7 f_t_5_7, oX2 (p_t 6) p_t_6 o_t_6', aI g (p_t_6 6) 7 f_t_6_6', aI g (p_t_6 7) 7 f_t_6_7', aI g (p_t_6 8) 7 f_t_6_8', oX3 (p_t 7) p_t_7 o_t_7'] := by
  refine MI.of (cc := cX9_without) (maxL := 5) (rt := .int) (own := RX9) rfl rfl (by decide) (Nat.le_of_ble_eq_true rfl) ?_
  intro p e s m args below meth c A C0 hP hD hS ls hl
  obtain ⟨hx, hb, hml, hown, hts, hr, hlk, hK, hA, hSW⟩ := id C0
  have hl : lv_has ls 5 [(0, .ref a_t), (1, .int x1)] := hl
  rw [fX9_without] at hF
  refine lv_aload_n hx hb dX9_without_0 rfl (lv_at hl 0 rfl) ?_
  obtain ⟨u_1, u_2, hu_3, hF⟩ := ob2_some hF
  refine call_i (wr := [oX1 (p_t 1) p_t_1 o_t_1, aI g (p_t_1 4) 7 f_t_1_4, aI g (p_t_1 6) 7 f_t_1_6, aI g (p_t_1 7) 7 f_t_1_7, aI g (p_t_1 10) 8 f_t_1_10, aI g (p_t_1 11) 8 f_t_1_11, aI g (p_t_1 12) 8 f_t_1_12, oX2 (p_t 5) p_t_5 o_t_5, aI g (p_t_5 6) 7 f_t_5_6, aI g (p_t_5 7) 7 f_t_5_7, oX2 (p_t 6) p_t_6 o_t_6, aI g (p_t_6 6) 7 f_t_6_6, aI g (p_t_6 7) 7 f_t_6_7, aI g (p_t_6 8) 7 f_t_6_8, oX3 (p_t 7) p_t_7 o_t_7]) (As := []) (rest := []) (ci := 9) (q0 := 0) C0 (mX9_asked l g a_t p_t n o_t u_1 u_2 hu_3) (cwV 0 hts gX9_without_X9_asked rfl rfl rfl (by decide +kernel) ⟨Nat.le_of_ble_eq_true rfl, Nat.le_of_ble_eq_true rfl⟩) hP hD hS [0] [1, 2, 3, 4, 5, 6, 7, 8, 9, 10, 11, 12, 13, 14, 15] rfl rfl rfl rfl rfl (by decide) rfl rfl hl.1 rfl rfl (Nat.le_of_ble_eq_true rfl) ⟨Nat.zero_le _, Nat.zero_le _⟩ dX9_without_1 ?_
  intro H locs hP hD hS
  refine lv_if_eq (tgt := 18) hx hb dX9_without_4 (by decide) (fun c_4 => ?_) (fun c_4 => ?_)
  · have hF := it_p c_4 hF
    refine lv_iconst (v := (-1 : Int32)) hx hb dX9_without_18 (by decide) ?_
    cases hF
    exact ret_i C0 hP hD hS [15, 0, 1, 2, 3, 4, 5, 6, 7, 8, 9, 10, 11, 12, 13, 14] rfl rfl rfl dX9_without_19 rfl
  · have hF := it_n c_4 hF
    refine lv_aload_n hx hb dX9_without_7 rfl (lv_at hl 0 rfl) ?_
    refine lv_iload_n hx hb dX9_without_8 rfl (lv_at hl 1 rfl) ?_
    refine lv_iconst (v := (0 : Int32)) hx hb dX9_without_9 (by decide) ?_
    refine lv_bipush (v := (60 : Int32)) hx hb dX9_without_10 (by decide) ?_
    obtain ⟨u_5, u_6, hu_7, hF⟩ := ob2_some hF
    refine call_i (wr := [oX1 (p_t 1) p_t_1 o_t_1, aI g (p_t_1 4) 7 f_t_1_4, aI g (p_t_1 6) 7 f_t_1_6, aI g (p_t_1 7) 7 f_t_1_7, aI g (p_t_1 10) 8 f_t_1_10, aI g (p_t_1 11) 8 f_t_1_11, aI g (p_t_1 12) 8 f_t_1_12, oX2 (p_t 5) p_t_5 o_t_5, aI g (p_t_5 6) 7 f_t_5_6, aI g (p_t_5 7) 7 f_t_5_7, oX2 (p_t 6) p_t_6 o_t_6, aI g (p_t_6 6) 7 f_t_6_6, aI g (p_t_6 7) 7 f_t_6_7, aI g (p_t_6 8) 7 f_t_6_8, oX3 (p_t 7) p_t_7 o_t_7]) (As := [.int x1, .int (0 : Int32), .int (60 : Int32)]) (rest := []) (ci := 9) (q0 := 0) C0 (mX9_within l g a_t p_t n x1 (0 : Int32) (60 : Int32) u_2 u_5 u_6 hu_7) (cwV 3 hts gX9_without_X9_within rfl rfl rfl (by decide +kernel) ⟨Nat.le_of_ble_eq_true rfl, Nat.le_of_ble_eq_true rfl⟩) hP hD hS [15] [0, 1, 2, 3, 4, 5, 6, 7, 8, 9, 10, 11, 12, 13, 14] rfl rfl rfl rfl rfl (by decide) rfl rfl hl.1 rfl rfl (Nat.le_of_ble_eq_true rfl) ⟨Nat.zero_le _, Nat.zero_le _⟩ dX9_without_12 ?_
    intro H locs hP hD hS
    refine lv_if_ne (tgt := 20) hx hb dX9_without_15 (by decide) (fun c_8 => ?_) (fun c_8 => ?_)
    · have hF := it_n c_8 hF
      refine lv_aload_n hx hb dX9_without_20 rfl (lv_at hl 0 rfl) ?_
      refine va_get (D := g.1) (ci := 9) (v := .ref (p_t 5)) (C := RX9) (T := TX9) (N := 15) hx hb hts iX9_without_X9 hown hK.1 hP 15 rfl rfl 5 (by decide) (hts _ kX9_without_37) (fun _ h9 => h9) rfl dX9_without_21 ?_
      refine va_get (D := g.1) (ci := 2) (v := .int (o_t_5 1)) (C := RX2) (T := TX2) (N := 9) hx hb hts iX9_without_X2 hown hK.1 hP 7 rfl rfl 1 (by decide) (hts _ kX9_without_157) (fun _ h9 => h9) rfl dX9_without_24 ?_
      refine lv_istore_n (lv' := [(2, .int (o_t_5 1)), (0, .ref a_t), (1, .int x1)]) hx hb dX9_without_27 rfl hl (by decide) rfl (fun ls hl => ?_)
      refine lv_iconst (v := (0 : Int32)) hx hb dX9_without_28 (by decide) ?_
      refine lv_istore_n (lv' := [(3, .int (0 : Int32)), (2, .int (o_t_5 1)), (0, .ref a_t), (1, .int x1)]) hx hb dX9_without_29 rfl hl (by decide) rfl (fun ls hl => ?_)
      refine wX9_without_L30 C0 a_t p_t p_t_1 p_t_5 p_t_6 p_t_7 n x1 u_6 o_t_1 f_t_1_4 f_t_1_6 f_t_1_7 f_t_1_10 f_t_1_11 f_t_1_12 o_t_5 f_t_5_6 f_t_5_7 r o_t' o_t_6' f_t_6_6' f_t_6_7' f_t_6_8' o_t_7' _ ?_ n (o_t_5 1) (0 : Int32) o_t_6 f_t_6_6 f_t_6_7 f_t_6_8 o_t_7 hF _ _ _ (hP.sub [15, 0, 1, 2, 3, 4, 5, 6, 7, 8, 9, 10, 11, 12, 13, 14] rfl) (hD.sub [15, 0, 1, 2, 3, 4, 5, 6, 7, 8, 9, 10, 11, 12, 13, 14] rfl rfl) hS (lv_sub hl [2, 3, 1, 0] rfl)
      · intro x2_x30 o_t_6_x30 f_t_6_6_x30 f_t_6_7_x30 f_t_6_8_x30 o_t_7_x30 H locs ls hF hP hD hS hl
        refine lv_iload_n hx hb dX9_without_96 rfl (lv_at hl 0 rfl) ?_
        cases hF
        exact ret_i C0 hP hD hS [0, 1, 2, 3, 4, 5, 6, 7, 8, 9, 10, 11, 12, 13, 14, 15] rfl rfl rfl dX9_without_97 rfl
    · have hF := it_p c_8 hF
      refine lv_iconst (v := (-1 : Int32)) hx hb dX9_without_18 (by decide) ?_
      cases hF
      exact ret_i C0 hP hD hS [15, 0, 1, 2, 3, 4, 5, 6, 7, 8, 9, 10, 11, 12, 13, 14] rfl rfl rfl dX9_without_19 rfl

theorem dAX9_taleAsked : ∀ q ∈ ([(0, (.iload_n 1, 1)), (1, (.ifCond .lt 18, 3)), (4, (.iload_n 1, 1)), (5, (.aload_n 0, 1)), (6, (.getfield 19, 3)), (9, (.getfield 327, 3)), (12, (.if_icmp .ge 7, 3)), (15, (.iconst 1, 1)), (16, (.goto 4, 3)), (19, (.iconst 0, 1)), (20, (.istore_n 2, 1)), (21, (.aload_n 0, 1)), (22, (.iload_n 2, 1)), (23, (.ifCond .eq 7, 3)), (26, (.iconst 0, 1)), (27, (.goto 4, 3)), (30, (.iconst 1, 1)), (31, (.putfield 30, 3)), (34, (.iload_n 2, 1)), (35, (.ireturn, 1))] : List (Nat × (Instr × Nat))), decode cX9_taleAsked q.1 = .ok q.2 := by decide +kernel
theorem dX9_taleAsked_0 : decode cX9_taleAsked 0 = .ok (.iload_n 1, 1) := dAX9_taleAsked (0, (.iload_n 1, 1)) (List.mem_of_getElem? (i := 0) rfl)
theorem dX9_taleAsked_1 : decode cX9_taleAsked 1 = .ok (.ifCond .lt 18, 3) := dAX9_taleAsked (1, (.ifCond .lt 18, 3)) (List.mem_of_getElem? (i := 1) rfl)
theorem dX9_taleAsked_4 : decode cX9_taleAsked 4 = .ok (.iload_n 1, 1) := dAX9_taleAsked (4, (.iload_n 1, 1)) (List.mem_of_getElem? (i := 2) rfl)
theorem dX9_taleAsked_5 : decode cX9_taleAsked 5 = .ok (.aload_n 0, 1) := dAX9_taleAsked (5, (.aload_n 0, 1)) (List.mem_of_getElem? (i := 3) rfl)
theorem dX9_taleAsked_6 : decode cX9_taleAsked 6 = .ok (.getfield 19, 3) := dAX9_taleAsked (6, (.getfield 19, 3)) (List.mem_of_getElem? (i := 4) rfl)
theorem dX9_taleAsked_9 : decode cX9_taleAsked 9 = .ok (.getfield 327, 3) := dAX9_taleAsked (9, (.getfield 327, 3)) (List.mem_of_getElem? (i := 5) rfl)
theorem dX9_taleAsked_12 : decode cX9_taleAsked 12 = .ok (.if_icmp .ge 7, 3) := dAX9_taleAsked (12, (.if_icmp .ge 7, 3)) (List.mem_of_getElem? (i := 6) rfl)
theorem dX9_taleAsked_15 : decode cX9_taleAsked 15 = .ok (.iconst 1, 1) := dAX9_taleAsked (15, (.iconst 1, 1)) (List.mem_of_getElem? (i := 7) rfl)
theorem dX9_taleAsked_16 : decode cX9_taleAsked 16 = .ok (.goto 4, 3) := dAX9_taleAsked (16, (.goto 4, 3)) (List.mem_of_getElem? (i := 8) rfl)
theorem dX9_taleAsked_19 : decode cX9_taleAsked 19 = .ok (.iconst 0, 1) := dAX9_taleAsked (19, (.iconst 0, 1)) (List.mem_of_getElem? (i := 9) rfl)
theorem dX9_taleAsked_20 : decode cX9_taleAsked 20 = .ok (.istore_n 2, 1) := dAX9_taleAsked (20, (.istore_n 2, 1)) (List.mem_of_getElem? (i := 10) rfl)
theorem dX9_taleAsked_21 : decode cX9_taleAsked 21 = .ok (.aload_n 0, 1) := dAX9_taleAsked (21, (.aload_n 0, 1)) (List.mem_of_getElem? (i := 11) rfl)
theorem dX9_taleAsked_22 : decode cX9_taleAsked 22 = .ok (.iload_n 2, 1) := dAX9_taleAsked (22, (.iload_n 2, 1)) (List.mem_of_getElem? (i := 12) rfl)
theorem dX9_taleAsked_23 : decode cX9_taleAsked 23 = .ok (.ifCond .eq 7, 3) := dAX9_taleAsked (23, (.ifCond .eq 7, 3)) (List.mem_of_getElem? (i := 13) rfl)
theorem dX9_taleAsked_26 : decode cX9_taleAsked 26 = .ok (.iconst 0, 1) := dAX9_taleAsked (26, (.iconst 0, 1)) (List.mem_of_getElem? (i := 14) rfl)
theorem dX9_taleAsked_27 : decode cX9_taleAsked 27 = .ok (.goto 4, 3) := dAX9_taleAsked (27, (.goto 4, 3)) (List.mem_of_getElem? (i := 15) rfl)
theorem dX9_taleAsked_30 : decode cX9_taleAsked 30 = .ok (.iconst 1, 1) := dAX9_taleAsked (30, (.iconst 1, 1)) (List.mem_of_getElem? (i := 16) rfl)
theorem dX9_taleAsked_31 : decode cX9_taleAsked 31 = .ok (.putfield 30, 3) := dAX9_taleAsked (31, (.putfield 30, 3)) (List.mem_of_getElem? (i := 17) rfl)
theorem dX9_taleAsked_34 : decode cX9_taleAsked 34 = .ok (.iload_n 2, 1) := dAX9_taleAsked (34, (.iload_n 2, 1)) (List.mem_of_getElem? (i := 18) rfl)
theorem dX9_taleAsked_35 : decode cX9_taleAsked 35 = .ok (.ireturn, 1) := dAX9_taleAsked (35, (.ireturn, 1)) (List.mem_of_getElem? (i := 19) rfl)
theorem kX9_taleAsked_30 : Cond.fieldLink RX9 30 "EveningVow" "refusal" "I" ∈ wsX9_taleAsked := List.mem_of_getElem? (i := 3) rfl
theorem iX9_taleAsked_X9 : ∀ w ∈ u_ws RX9 TX9 15, w ∈ wsX9_taleAsked := fun w h => (List.mem_cons_of_mem _ (List.mem_append_left _ (List.mem_append_right _ h)))
theorem kX9_taleAsked_19 : Cond.fieldLink RX9 19 "EveningVow" "told" "LEveningVow$House;" ∈ wsX9_taleAsked := List.mem_of_getElem? (i := 1) rfl
theorem kX9_taleAsked_327 : Cond.fieldLink RX9 327 "EveningVow$House" "tales" "I" ∈ wsX9_taleAsked := List.mem_of_getElem? (i := 2) rfl
theorem iX9_taleAsked_X1 : ∀ w ∈ u_ws RX1 TX1 17, w ∈ wsX9_taleAsked := fun w h => (List.mem_cons_of_mem _ (List.mem_append_right _ h))
set_option maxHeartbeats 4000000 in
set_option maxRecDepth 100000 in
theorem mX9_taleAsked (l : Launch) (g : GG) (a_t : Nat) (p_t : Nat → Nat) (p_t_1 : Nat → Nat) (n : Nat) (x1 : Int32) (o_t : Nat → Int32) (o_t_1 : Nat → Int32) (r : Int32) (o_t' : Nat → Int32) (hF : fX9_taleAsked n x1 o_t o_t_1 = some (r, o_t')) : MI l g yX9_taleAsked wsX9_taleAsked ({ frames := 0, cells := 0, slots := 0, locals := 0 } : Room) [.ref a_t, .int x1] [oX9 a_t p_t o_t, oX1 (p_t 1) p_t_1 o_t_1] r [oX9 a_t p_t o_t', oX1 (p_t 1) p_t_1 o_t_1] := by
  refine MI.of (cc := cX9_taleAsked) (maxL := 3) (rt := .boolean) (own := RX9) rfl rfl (by decide) (Nat.le_of_ble_eq_true rfl) ?_
  intro p e s m args below meth c A C0 hP hD hS ls hl
  obtain ⟨hx, hb, hml, hown, hts, hr, hlk, hK, hA, hSW⟩ := id C0
  have hl : lv_has ls 3 [(0, .ref a_t), (1, .int x1)] := hl
  rw [fX9_taleAsked] at hF
  refine lv_iload_n hx hb dX9_taleAsked_0 rfl (lv_at hl 1 rfl) ?_
  refine lv_if_lt (tgt := 19) hx hb dX9_taleAsked_1 (by decide) (fun c_1 => ?_) (fun c_1 => ?_)
  · have hF := it_p c_1 hF
    refine lv_iconst (v := (0 : Int32)) hx hb dX9_taleAsked_19 (by decide) ?_
    refine lv_istore_n (lv' := [(2, .int (0 : Int32)), (0, .ref a_t), (1, .int x1)]) hx hb dX9_taleAsked_20 rfl hl (by decide) rfl (fun ls hl => ?_)
    refine lv_aload_n hx hb dX9_taleAsked_21 rfl (lv_at hl 1 rfl) ?_
    refine lv_iload_n hx hb dX9_taleAsked_22 rfl (lv_at hl 0 rfl) ?_
    refine lv_if_eq (tgt := 30) hx hb dX9_taleAsked_23 (by decide) (fun c_2 => ?_) (fun c_2 => ?_)
    · skip
      refine lv_iconst (v := (1 : Int32)) hx hb dX9_taleAsked_30 (by decide) ?_
      refine va_put (D := g.1) (ci := 9) (v := .int (1 : Int32)) (ty := .int) (C := RX9) (T := TX9) (N := 15) hx hb hts iX9_taleAsked_X9 tyX9 tyX9_ok nmX9 hown hK.1 hP hD hS 0 rfl rfl 4 (by decide) (hts _ kX9_taleAsked_30) (fun _ h9 => h9) rfl (by decide +kernel) rfl rfl (Nat.le_of_ble_eq_true rfl) dX9_taleAsked_31 (fun H locs hP hD hS => ?_)
      have hP : va_P g.1 vwCl [oX9 a_t p_t (upd o_t 4 (1 : Int32)), oX1 (p_t 1) p_t_1 o_t_1] H := hP
      have hD : va_D A [oX9 a_t p_t (upd o_t 4 (1 : Int32)), oX1 (p_t 1) p_t_1 o_t_1] := hD
      refine lv_iload_n hx hb dX9_taleAsked_34 rfl (lv_at hl 0 rfl) ?_
      cases hF
      exact ret_z C0 hP hD hS [0, 1] rfl rfl rfl dX9_taleAsked_35 rfl rfl
    · exact absurd c_2 (by decide)
  · have hF := it_n c_1 hF
    refine lv_iload_n hx hb dX9_taleAsked_4 rfl (lv_at hl 1 rfl) ?_
    refine lv_aload_n hx hb dX9_taleAsked_5 rfl (lv_at hl 0 rfl) ?_
    refine va_get (D := g.1) (ci := 9) (v := .ref (p_t 1)) (C := RX9) (T := TX9) (N := 15) hx hb hts iX9_taleAsked_X9 hown hK.1 hP 0 rfl rfl 1 (by decide) (hts _ kX9_taleAsked_19) (fun _ h9 => h9) rfl dX9_taleAsked_6 ?_
    refine va_get (D := g.1) (ci := 1) (v := .int (o_t_1 13)) (C := RX1) (T := TX1) (N := 17) hx hb hts iX9_taleAsked_X1 hown hK.1 hP 1 rfl rfl 13 (by decide) (hts _ kX9_taleAsked_327) (fun _ h9 => h9) rfl dX9_taleAsked_9 ?_
    refine lv_icmp_ge (tgt := 19) hx hb dX9_taleAsked_12 (by decide) (fun c_3 => ?_) (fun c_3 => ?_)
    · have hF := it_p c_3 hF
      refine lv_iconst (v := (0 : Int32)) hx hb dX9_taleAsked_19 (by decide) ?_
      refine lv_istore_n (lv' := [(2, .int (0 : Int32)), (0, .ref a_t), (1, .int x1)]) hx hb dX9_taleAsked_20 rfl hl (by decide) rfl (fun ls hl => ?_)
      refine lv_aload_n hx hb dX9_taleAsked_21 rfl (lv_at hl 1 rfl) ?_
      refine lv_iload_n hx hb dX9_taleAsked_22 rfl (lv_at hl 0 rfl) ?_
      refine lv_if_eq (tgt := 30) hx hb dX9_taleAsked_23 (by decide) (fun c_4 => ?_) (fun c_4 => ?_)
      · skip
        refine lv_iconst (v := (1 : Int32)) hx hb dX9_taleAsked_30 (by decide) ?_
        refine va_put (D := g.1) (ci := 9) (v := .int (1 : Int32)) (ty := .int) (C := RX9) (T := TX9) (N := 15) hx hb hts iX9_taleAsked_X9 tyX9 tyX9_ok nmX9 hown hK.1 hP hD hS 0 rfl rfl 4 (by decide) (hts _ kX9_taleAsked_30) (fun _ h9 => h9) rfl (by decide +kernel) rfl rfl (Nat.le_of_ble_eq_true rfl) dX9_taleAsked_31 (fun H locs hP hD hS => ?_)
        have hP : va_P g.1 vwCl [oX9 a_t p_t (upd o_t 4 (1 : Int32)), oX1 (p_t 1) p_t_1 o_t_1] H := hP
        have hD : va_D A [oX9 a_t p_t (upd o_t 4 (1 : Int32)), oX1 (p_t 1) p_t_1 o_t_1] := hD
        refine lv_iload_n hx hb dX9_taleAsked_34 rfl (lv_at hl 0 rfl) ?_
        cases hF
        exact ret_z C0 hP hD hS [0, 1] rfl rfl rfl dX9_taleAsked_35 rfl rfl
      · exact absurd c_4 (by decide)
    · have hF := it_n c_3 hF
      refine lv_iconst (v := (1 : Int32)) hx hb dX9_taleAsked_15 (by decide) ?_
      refine lv_goto (tgt := 20) hx hb dX9_taleAsked_16 (by decide) ?_
      refine lv_istore_n (lv' := [(2, .int (1 : Int32)), (0, .ref a_t), (1, .int x1)]) hx hb dX9_taleAsked_20 rfl hl (by decide) rfl (fun ls hl => ?_)
      refine lv_aload_n hx hb dX9_taleAsked_21 rfl (lv_at hl 1 rfl) ?_
      refine lv_iload_n hx hb dX9_taleAsked_22 rfl (lv_at hl 0 rfl) ?_
      refine lv_if_eq (tgt := 30) hx hb dX9_taleAsked_23 (by decide) (fun c_5 => ?_) (fun c_5 => ?_)
      · exact absurd c_5 (by decide)
      · skip
        refine lv_iconst (v := (0 : Int32)) hx hb dX9_taleAsked_26 (by decide) ?_
        refine lv_goto (tgt := 31) hx hb dX9_taleAsked_27 (by decide) ?_
        refine va_put (D := g.1) (ci := 9) (v := .int (0 : Int32)) (ty := .int) (C := RX9) (T := TX9) (N := 15) hx hb hts iX9_taleAsked_X9 tyX9 tyX9_ok nmX9 hown hK.1 hP hD hS 0 rfl rfl 4 (by decide) (hts _ kX9_taleAsked_30) (fun _ h9 => h9) rfl (by decide +kernel) rfl rfl (Nat.le_of_ble_eq_true rfl) dX9_taleAsked_31 (fun H locs hP hD hS => ?_)
        have hP : va_P g.1 vwCl [oX9 a_t p_t (upd o_t 4 (0 : Int32)), oX1 (p_t 1) p_t_1 o_t_1] H := hP
        have hD : va_D A [oX9 a_t p_t (upd o_t 4 (0 : Int32)), oX1 (p_t 1) p_t_1 o_t_1] := hD
        refine lv_iload_n hx hb dX9_taleAsked_34 rfl (lv_at hl 0 rfl) ?_
        cases hF
        exact ret_z C0 hP hD hS [0, 1] rfl rfl rfl dX9_taleAsked_35 rfl rfl

theorem dAX9_endsWithTale : ∀ q ∈ ([(0, (.aload_n 0, 1)), (1, (.iload_n 1, 1)), (2, (.invokevirtual 225, 3)), (5, (.ifCond .ne 5, 3)), (8, (.iconst (-1), 1)), (9, (.ireturn, 1)), (10, (.aload_n 0, 1)), (11, (.getfield 37, 3)), (14, (.iload_n 1, 1)), (15, (.invokevirtual 228, 3)), (18, (.ifCond .eq 9, 3)), (21, (.aload_n 0, 1)), (22, (.iconst 5, 1)), (23, (.invokevirtual 98, 3)), (26, (.ireturn, 1)), (27, (.aload_n 0, 1)), (28, (.getfield 19, 3)), (31, (.getfield 231, 3)), (34, (.iload_n 1, 1)), (35, (.iaload, 1)), (36, (.istore_n 2, 1)), (37, (.aload_n 0, 1)), (38, (.getfield 41, 3)), (41, (.aload_n 0, 1)), (42, (.getfield 37, 3)), (45, (.invokevirtual 160, 3)), (48, (.aload_n 0, 1)), (49, (.getfield 41, 3)), (52, (.aload_n 0, 1)), (53, (.getfield 19, 3)), (56, (.iload_n 1, 1)), (57, (.aload_n 0, 1)), (58, (.getfield 49, 3)), (61, (.invokevirtual 234, 3)), (64, (.pop, 1)), (65, (.iload_n 2, 1)), (66, (.aload_n 0, 1)), (67, (.getfield 41, 3)), (70, (.aload_n 0, 1)), (71, (.getfield 19, 3)), (74, (.aload_n 0, 1)), (75, (.getfield 49, 3)), (78, (.bipush 60, 2)), (80, (.iload_n 2, 1)), (81, (.isub, 1)), (82, (.invokevirtual 219, 3)), (85, (.iadd, 1)), (86, (.invokestatic 197, 3)), (89, (.ireturn, 1))] : List (Nat × (Instr × Nat))), decode cX9_endsWithTale q.1 = .ok q.2 := by decide +kernel
theorem dX9_endsWithTale_0 : decode cX9_endsWithTale 0 = .ok (.aload_n 0, 1) := dAX9_endsWithTale (0, (.aload_n 0, 1)) (List.mem_of_getElem? (i := 0) rfl)
theorem dX9_endsWithTale_1 : decode cX9_endsWithTale 1 = .ok (.iload_n 1, 1) := dAX9_endsWithTale (1, (.iload_n 1, 1)) (List.mem_of_getElem? (i := 1) rfl)
theorem dX9_endsWithTale_2 : decode cX9_endsWithTale 2 = .ok (.invokevirtual 225, 3) := dAX9_endsWithTale (2, (.invokevirtual 225, 3)) (List.mem_of_getElem? (i := 2) rfl)
theorem dX9_endsWithTale_5 : decode cX9_endsWithTale 5 = .ok (.ifCond .ne 5, 3) := dAX9_endsWithTale (5, (.ifCond .ne 5, 3)) (List.mem_of_getElem? (i := 3) rfl)
theorem dX9_endsWithTale_8 : decode cX9_endsWithTale 8 = .ok (.iconst (-1), 1) := dAX9_endsWithTale (8, (.iconst (-1), 1)) (List.mem_of_getElem? (i := 4) rfl)
theorem dX9_endsWithTale_9 : decode cX9_endsWithTale 9 = .ok (.ireturn, 1) := dAX9_endsWithTale (9, (.ireturn, 1)) (List.mem_of_getElem? (i := 5) rfl)
theorem dX9_endsWithTale_10 : decode cX9_endsWithTale 10 = .ok (.aload_n 0, 1) := dAX9_endsWithTale (10, (.aload_n 0, 1)) (List.mem_of_getElem? (i := 6) rfl)
theorem dX9_endsWithTale_11 : decode cX9_endsWithTale 11 = .ok (.getfield 37, 3) := dAX9_endsWithTale (11, (.getfield 37, 3)) (List.mem_of_getElem? (i := 7) rfl)
theorem dX9_endsWithTale_14 : decode cX9_endsWithTale 14 = .ok (.iload_n 1, 1) := dAX9_endsWithTale (14, (.iload_n 1, 1)) (List.mem_of_getElem? (i := 8) rfl)
theorem dX9_endsWithTale_15 : decode cX9_endsWithTale 15 = .ok (.invokevirtual 228, 3) := dAX9_endsWithTale (15, (.invokevirtual 228, 3)) (List.mem_of_getElem? (i := 9) rfl)
theorem dX9_endsWithTale_18 : decode cX9_endsWithTale 18 = .ok (.ifCond .eq 9, 3) := dAX9_endsWithTale (18, (.ifCond .eq 9, 3)) (List.mem_of_getElem? (i := 10) rfl)
theorem dX9_endsWithTale_21 : decode cX9_endsWithTale 21 = .ok (.aload_n 0, 1) := dAX9_endsWithTale (21, (.aload_n 0, 1)) (List.mem_of_getElem? (i := 11) rfl)
theorem dX9_endsWithTale_22 : decode cX9_endsWithTale 22 = .ok (.iconst 5, 1) := dAX9_endsWithTale (22, (.iconst 5, 1)) (List.mem_of_getElem? (i := 12) rfl)
theorem dX9_endsWithTale_23 : decode cX9_endsWithTale 23 = .ok (.invokevirtual 98, 3) := dAX9_endsWithTale (23, (.invokevirtual 98, 3)) (List.mem_of_getElem? (i := 13) rfl)
theorem dX9_endsWithTale_26 : decode cX9_endsWithTale 26 = .ok (.ireturn, 1) := dAX9_endsWithTale (26, (.ireturn, 1)) (List.mem_of_getElem? (i := 14) rfl)
theorem dX9_endsWithTale_27 : decode cX9_endsWithTale 27 = .ok (.aload_n 0, 1) := dAX9_endsWithTale (27, (.aload_n 0, 1)) (List.mem_of_getElem? (i := 15) rfl)
theorem dX9_endsWithTale_28 : decode cX9_endsWithTale 28 = .ok (.getfield 19, 3) := dAX9_endsWithTale (28, (.getfield 19, 3)) (List.mem_of_getElem? (i := 16) rfl)
theorem dX9_endsWithTale_31 : decode cX9_endsWithTale 31 = .ok (.getfield 231, 3) := dAX9_endsWithTale (31, (.getfield 231, 3)) (List.mem_of_getElem? (i := 17) rfl)
theorem dX9_endsWithTale_34 : decode cX9_endsWithTale 34 = .ok (.iload_n 1, 1) := dAX9_endsWithTale (34, (.iload_n 1, 1)) (List.mem_of_getElem? (i := 18) rfl)
theorem dX9_endsWithTale_35 : decode cX9_endsWithTale 35 = .ok (.iaload, 1) := dAX9_endsWithTale (35, (.iaload, 1)) (List.mem_of_getElem? (i := 19) rfl)
theorem dX9_endsWithTale_36 : decode cX9_endsWithTale 36 = .ok (.istore_n 2, 1) := dAX9_endsWithTale (36, (.istore_n 2, 1)) (List.mem_of_getElem? (i := 20) rfl)
theorem dX9_endsWithTale_37 : decode cX9_endsWithTale 37 = .ok (.aload_n 0, 1) := dAX9_endsWithTale (37, (.aload_n 0, 1)) (List.mem_of_getElem? (i := 21) rfl)
theorem dX9_endsWithTale_38 : decode cX9_endsWithTale 38 = .ok (.getfield 41, 3) := dAX9_endsWithTale (38, (.getfield 41, 3)) (List.mem_of_getElem? (i := 22) rfl)
theorem dX9_endsWithTale_41 : decode cX9_endsWithTale 41 = .ok (.aload_n 0, 1) := dAX9_endsWithTale (41, (.aload_n 0, 1)) (List.mem_of_getElem? (i := 23) rfl)
theorem dX9_endsWithTale_42 : decode cX9_endsWithTale 42 = .ok (.getfield 37, 3) := dAX9_endsWithTale (42, (.getfield 37, 3)) (List.mem_of_getElem? (i := 24) rfl)
theorem dX9_endsWithTale_45 : decode cX9_endsWithTale 45 = .ok (.invokevirtual 160, 3) := dAX9_endsWithTale (45, (.invokevirtual 160, 3)) (List.mem_of_getElem? (i := 25) rfl)
theorem dX9_endsWithTale_48 : decode cX9_endsWithTale 48 = .ok (.aload_n 0, 1) := dAX9_endsWithTale (48, (.aload_n 0, 1)) (List.mem_of_getElem? (i := 26) rfl)
theorem dX9_endsWithTale_49 : decode cX9_endsWithTale 49 = .ok (.getfield 41, 3) := dAX9_endsWithTale (49, (.getfield 41, 3)) (List.mem_of_getElem? (i := 27) rfl)
theorem dX9_endsWithTale_52 : decode cX9_endsWithTale 52 = .ok (.aload_n 0, 1) := dAX9_endsWithTale (52, (.aload_n 0, 1)) (List.mem_of_getElem? (i := 28) rfl)
theorem dX9_endsWithTale_53 : decode cX9_endsWithTale 53 = .ok (.getfield 19, 3) := dAX9_endsWithTale (53, (.getfield 19, 3)) (List.mem_of_getElem? (i := 29) rfl)
theorem dX9_endsWithTale_56 : decode cX9_endsWithTale 56 = .ok (.iload_n 1, 1) := dAX9_endsWithTale (56, (.iload_n 1, 1)) (List.mem_of_getElem? (i := 30) rfl)
theorem dX9_endsWithTale_57 : decode cX9_endsWithTale 57 = .ok (.aload_n 0, 1) := dAX9_endsWithTale (57, (.aload_n 0, 1)) (List.mem_of_getElem? (i := 31) rfl)
theorem dX9_endsWithTale_58 : decode cX9_endsWithTale 58 = .ok (.getfield 49, 3) := dAX9_endsWithTale (58, (.getfield 49, 3)) (List.mem_of_getElem? (i := 32) rfl)
theorem dX9_endsWithTale_61 : decode cX9_endsWithTale 61 = .ok (.invokevirtual 234, 3) := dAX9_endsWithTale (61, (.invokevirtual 234, 3)) (List.mem_of_getElem? (i := 33) rfl)
theorem dX9_endsWithTale_64 : decode cX9_endsWithTale 64 = .ok (.pop, 1) := dAX9_endsWithTale (64, (.pop, 1)) (List.mem_of_getElem? (i := 34) rfl)
theorem dX9_endsWithTale_65 : decode cX9_endsWithTale 65 = .ok (.iload_n 2, 1) := dAX9_endsWithTale (65, (.iload_n 2, 1)) (List.mem_of_getElem? (i := 35) rfl)
theorem dX9_endsWithTale_66 : decode cX9_endsWithTale 66 = .ok (.aload_n 0, 1) := dAX9_endsWithTale (66, (.aload_n 0, 1)) (List.mem_of_getElem? (i := 36) rfl)
theorem dX9_endsWithTale_67 : decode cX9_endsWithTale 67 = .ok (.getfield 41, 3) := dAX9_endsWithTale (67, (.getfield 41, 3)) (List.mem_of_getElem? (i := 37) rfl)
theorem dX9_endsWithTale_70 : decode cX9_endsWithTale 70 = .ok (.aload_n 0, 1) := dAX9_endsWithTale (70, (.aload_n 0, 1)) (List.mem_of_getElem? (i := 38) rfl)
theorem dX9_endsWithTale_71 : decode cX9_endsWithTale 71 = .ok (.getfield 19, 3) := dAX9_endsWithTale (71, (.getfield 19, 3)) (List.mem_of_getElem? (i := 39) rfl)
theorem dX9_endsWithTale_74 : decode cX9_endsWithTale 74 = .ok (.aload_n 0, 1) := dAX9_endsWithTale (74, (.aload_n 0, 1)) (List.mem_of_getElem? (i := 40) rfl)
theorem dX9_endsWithTale_75 : decode cX9_endsWithTale 75 = .ok (.getfield 49, 3) := dAX9_endsWithTale (75, (.getfield 49, 3)) (List.mem_of_getElem? (i := 41) rfl)
theorem dX9_endsWithTale_78 : decode cX9_endsWithTale 78 = .ok (.bipush 60, 2) := dAX9_endsWithTale (78, (.bipush 60, 2)) (List.mem_of_getElem? (i := 42) rfl)
theorem dX9_endsWithTale_80 : decode cX9_endsWithTale 80 = .ok (.iload_n 2, 1) := dAX9_endsWithTale (80, (.iload_n 2, 1)) (List.mem_of_getElem? (i := 43) rfl)
theorem dX9_endsWithTale_81 : decode cX9_endsWithTale 81 = .ok (.isub, 1) := dAX9_endsWithTale (81, (.isub, 1)) (List.mem_of_getElem? (i := 44) rfl)
theorem dX9_endsWithTale_82 : decode cX9_endsWithTale 82 = .ok (.invokevirtual 219, 3) := dAX9_endsWithTale (82, (.invokevirtual 219, 3)) (List.mem_of_getElem? (i := 45) rfl)
theorem dX9_endsWithTale_85 : decode cX9_endsWithTale 85 = .ok (.iadd, 1) := dAX9_endsWithTale (85, (.iadd, 1)) (List.mem_of_getElem? (i := 46) rfl)
theorem dX9_endsWithTale_86 : decode cX9_endsWithTale 86 = .ok (.invokestatic 197, 3) := dAX9_endsWithTale (86, (.invokestatic 197, 3)) (List.mem_of_getElem? (i := 47) rfl)
theorem dX9_endsWithTale_89 : decode cX9_endsWithTale 89 = .ok (.ireturn, 1) := dAX9_endsWithTale (89, (.ireturn, 1)) (List.mem_of_getElem? (i := 48) rfl)
set_option maxRecDepth 20000 in
theorem ggX9_endsWithTale_X9_taleAsked : GoodIn wsX9_endsWithTale wsX9_taleAsked := goodIn_r _ [10, 2, 11, 12, 107, 108, 109, 110, 111, 112, 113, 114, 115, 116, 117, 118, 119, 120, 121, 122, 123, 124, 125, 126, 127, 128, 129, 130, 131, 132, 133, 134, 135, 136, 137, 138] rfl (by decide +kernel)
set_option maxRecDepth 20000 in
theorem gX9_endsWithTale_X9_taleAsked : GoodIn wsX9_endsWithTale (wsV RX9 225 RX9 yX9_taleAsked wsX9_taleAsked) := goodIn_app (goodIn_of _ (by decide +kernel)) ggX9_endsWithTale_X9_taleAsked
set_option maxRecDepth 20000 in
theorem ggX9_endsWithTale_X2_wasTold : GoodIn wsX9_endsWithTale wsX2_wasTold := goodIn_r _ [17, 18, 19, 9, 20, 139, 140, 141, 142, 143, 144, 145, 146, 147] rfl (by decide +kernel)
set_option maxRecDepth 20000 in
theorem gX9_endsWithTale_X2_wasTold : GoodIn wsX9_endsWithTale (wsV RX9 228 RX2 yX2_wasTold wsX2_wasTold) := goodIn_app (goodIn_of _ (by decide +kernel)) ggX9_endsWithTale_X2_wasTold
set_option maxRecDepth 20000 in
theorem ggX9_endsWithTale_X9_refuse : GoodIn wsX9_endsWithTale wsX9_refuse := goodIn_r _ [24, 12, 107, 108, 109, 110, 111, 112, 113, 114, 115, 116, 117, 118, 119, 120, 121] rfl (by decide +kernel)
set_option maxRecDepth 20000 in
theorem gX9_endsWithTale_X9_refuse : GoodIn wsX9_endsWithTale (wsV RX9 98 RX9 yX9_refuse wsX9_refuse) := goodIn_app (goodIn_of _ (by decide +kernel)) ggX9_endsWithTale_X9_refuse
set_option maxRecDepth 20000 in
theorem ggX9_endsWithTale_X2_become : GoodIn wsX9_endsWithTale wsX2_become := goodIn_r _ [28, 29, 30, 31, 18, 32, 33, 34, 35, 36, 37, 139, 140, 141, 142, 143, 144, 145, 146, 147] rfl (by decide +kernel)
set_option maxRecDepth 20000 in
theorem gX9_endsWithTale_X2_become : GoodIn wsX9_endsWithTale (wsV RX9 160 RX2 yX2_become wsX2_become) := goodIn_app (goodIn_of _ (by decide +kernel)) ggX9_endsWithTale_X2_become
set_option maxRecDepth 20000 in
theorem ggX9_endsWithTale_X2_narrate : GoodIn wsX9_endsWithTale wsX2_narrate := goodIn_r _ [41, 18, 42, 43, 44, 45, 46, 16, 47, 48, 32, 49, 50, 51, 52, 30, 19, 9, 20, 53, 54, 55, 56, 57, 58, 59, 60, 29, 61, 62, 63, 64, 65, 66, 67, 68, 69, 70, 71, 72, 73, 74, 75, 76, 77, 78, 79, 80, 81, 82, 83, 84, 85, 86, 87, 88, 89, 90, 91, 92, 93, 94, 95, 96, 37, 97, 98, 139, 140, 141, 142, 143, 144, 145, 146, 147, 122, 123, 124, 125, 126, 127, 128, 129, 130, 131, 132, 133, 134, 135, 136, 137, 138, 148, 149] rfl (by decide +kernel)
set_option maxRecDepth 20000 in
theorem gX9_endsWithTale_X2_narrate : GoodIn wsX9_endsWithTale (wsV RX9 234 RX2 yX2_narrate wsX2_narrate) := goodIn_app (goodIn_of _ (by decide +kernel)) ggX9_endsWithTale_X2_narrate
set_option maxRecDepth 20000 in
theorem ggX9_endsWithTale_X2_runOut : GoodIn wsX9_endsWithTale wsX2_runOut := goodIn_r _ [102, 103, 30, 57, 58, 59, 16, 60, 29, 61, 62, 63, 64, 48, 65, 32, 66, 67, 68, 69, 70, 71, 72, 73, 74, 75, 76, 77, 78, 79, 80, 81, 82, 83, 84, 85, 86, 87, 88, 89, 90, 91, 92, 93, 94, 95, 96, 37, 97, 98, 139, 140, 141, 142, 143, 144, 145, 146, 147, 122, 123, 124, 125, 126, 127, 128, 129, 130, 131, 132, 133, 134, 135, 136, 137, 138, 148, 149] rfl (by decide +kernel)
set_option maxRecDepth 20000 in
theorem gX9_endsWithTale_X2_runOut : GoodIn wsX9_endsWithTale (wsV RX9 219 RX2 yX2_runOut wsX2_runOut) := goodIn_app (goodIn_of _ (by decide +kernel)) ggX9_endsWithTale_X2_runOut
set_option maxRecDepth 20000 in
theorem ggX9_endsWithTale_X9_orNot : GoodIn wsX9_endsWithTale wsX9_orNot := goodIn_r _ [106] rfl (by decide +kernel)
set_option maxRecDepth 20000 in
theorem gX9_endsWithTale_X9_orNot : GoodIn wsX9_endsWithTale (va_wsS RX9 197 yX9_orNot wsX9_orNot) := goodIn_app (goodIn_of _ (by decide +kernel)) ggX9_endsWithTale_X9_orNot
theorem kX9_endsWithTale_37 : Cond.fieldLink RX9 37 "EveningVow" "now" "LEveningVow$Night;" ∈ wsX9_endsWithTale := List.mem_of_getElem? (i := 1) rfl
theorem iX9_endsWithTale_X9 : ∀ w ∈ u_ws RX9 TX9 15, w ∈ wsX9_endsWithTale := fun w h => (List.mem_cons_of_mem _ (List.mem_append_left _ (List.mem_append_left _ (List.mem_append_left _ (List.mem_append_right _ h)))))
theorem kX9_endsWithTale_19 : Cond.fieldLink RX9 19 "EveningVow" "told" "LEveningVow$House;" ∈ wsX9_endsWithTale := List.mem_of_getElem? (i := 2) rfl
theorem kX9_endsWithTale_231 : Cond.fieldLink RX9 231 "EveningVow$House" "taleHours" "[I" ∈ wsX9_endsWithTale := List.mem_of_getElem? (i := 3) rfl
theorem iX9_endsWithTale_X1 : ∀ w ∈ u_ws RX1 TX1 17, w ∈ wsX9_endsWithTale := fun w h => (List.mem_cons_of_mem _ (List.mem_append_left _ (List.mem_append_left _ (List.mem_append_right _ h))))
theorem kX9_endsWithTale_41 : Cond.fieldLink RX9 41 "EveningVow" "trial" "LEveningVow$Night;" ∈ wsX9_endsWithTale := List.mem_of_getElem? (i := 4) rfl
theorem kX9_endsWithTale_49 : Cond.fieldLink RX9 49 "EveningVow" "asTold" "LEveningVow$Pace;" ∈ wsX9_endsWithTale := List.mem_of_getElem? (i := 5) rfl
set_option maxHeartbeats 4000000 in
set_option maxRecDepth 100000 in
theorem mX9_endsWithTale (l : Launch) (g : GG) (a_t : Nat) (p_t : Nat → Nat) (p_t_1 : Nat → Nat) (p_t_5 : Nat → Nat) (p_t_6 : Nat → Nat) (p_t_7 : Nat → Nat) (n : Nat) (x1 : Int32) (o_t : Nat → Int32) (o_t_1 : Nat → Int32) (f_t_1_4 : Nat → Int32) (f_t_1_6 : Nat → Int32) (f_t_1_7 : Nat → Int32) (f_t_1_10 : Nat → Int32) (f_t_1_11 : Nat → Int32) (f_t_1_12 : Nat → Int32) (f_t_1_14 : Nat → Int32) (f_t_1_15 : Nat → Int32) (o_t_5 : Nat → Int32) (f_t_5_6 : Nat → Int32) (f_t_5_7 : Nat → Int32) (o_t_6 : Nat → Int32) (f_t_6_6 : Nat → Int32) (f_t_6_7 : Nat → Int32) (f_t_6_8 : Nat → Int32) (o_t_7 : Nat → Int32) (r : Int32) (o_t' : Nat → Int32) (o_t_6' : Nat → Int32) (f_t_6_6' : Nat → Int32) (f_t_6_7' : Nat → Int32) (f_t_6_8' : Nat → Int32) (o_t_7' : Nat → Int32) (hF : fX9_endsWithTale n x1 o_t o_t_1 f_t_1_4 f_t_1_6 f_t_1_7 f_t_1_10 f_t_1_11 f_t_1_12 f_t_1_14 f_t_1_15 o_t_5 f_t_5_6 f_t_5_7 o_t_6 f_t_6_6 f_t_6_7 f_t_6_8 o_t_7 = some (r, o_t', o_t_6', f_t_6_6', f_t_6_7', f_t_6_8', o_t_7')) : MI l g yX9_endsWithTale wsX9_endsWithTale ({ frames := 5, cells := 0, slots := 0, locals := 119 } : Room) [.ref a_t, .int x1] [oX9 a_t p_t o_t, oX1 (p_t 1) p_t_1 o_t_1, aI g (p_t_1 4) 7 f_t_1_4, aI g (p_t_1 6) 7 f_t_1_6, aI g (p_t_1 7) 7 f_t_1_7, aI g (p_t_1 10) 8 f_t_1_10, aI g (p_t_1 11) 8 f_t_1_11, aI g (p_t_1 12) 8 f_t_1_12, aI g (p_t_1 14) 4 f_t_1_14, aI g (p_t_1 15) 4 f_t_1_15, oX2 (p_t 5) p_t_5 o_t_5, aI g (p_t_5 6) 7 f_t_5_6, aI g (p_t_5 7) 7 f_t_5_7, oX2 (p_t 6) p_t_6 o_t_6, aI g (p_t_6 6) 7 f_t_6_6, aI g (p_t_6 7) 7 f_t_6_7, aI g (p_t_6 8) 7 f_t_6_8, oX3 (p_t 7) p_t_7 o_t_7] r [oX9 a_t p_t o_t', oX1 (p_t 1) p_t_1 o_t_1, aI g (p_t_1 4) 7 f_t_1_4, aI g (p_t_1 6) 7 f_t_1_6, aI g (p_t_1 7) 7 f_t_1_7, aI g (p_t_1 10) 8 f_t_1_10, aI g (p_t_1 11) 8 f_t_1_11, aI g (p_t_1 12) 8 f_t_1_12, aI g (p_t_1 14) 4 f_t_1_14, aI g (p_t_1 15) 4 f_t_1_15, oX2 (p_t 5) p_t_5 o_t_5, aI g (p_t_5 6) 7 f_t_5_6, aI g (p_t_5 7) 7 f_t_5_7, oX2 (p_t 6) p_t_6 o_t_6', aI g (p_t_6 6) 7 f_t_6_6', aI g (p_t_6 7) 7 f_t_6_7', aI g (p_t_6 8) 7 f_t_6_8', oX3 (p_t 7) p_t_7 o_t_7'] := by
  refine MI.of (cc := cX9_endsWithTale) (maxL := 3) (rt := .int) (own := RX9) rfl rfl (by decide) (Nat.le_of_ble_eq_true rfl) ?_
  intro p e s m args below meth c A C0 hP hD hS ls hl
  obtain ⟨hx, hb, hml, hown, hts, hr, hlk, hK, hA, hSW⟩ := id C0
  have hl : lv_has ls 3 [(0, .ref a_t), (1, .int x1)] := hl
  rw [fX9_endsWithTale] at hF
  refine lv_aload_n hx hb dX9_endsWithTale_0 rfl (lv_at hl 0 rfl) ?_
  refine lv_iload_n hx hb dX9_endsWithTale_1 rfl (lv_at hl 1 rfl) ?_
  obtain ⟨u_1, u_2, hu_3, hF⟩ := ob2_some hF
  refine call_i (wr := [aI g (p_t_1 4) 7 f_t_1_4, aI g (p_t_1 6) 7 f_t_1_6, aI g (p_t_1 7) 7 f_t_1_7, aI g (p_t_1 10) 8 f_t_1_10, aI g (p_t_1 11) 8 f_t_1_11, aI g (p_t_1 12) 8 f_t_1_12, aI g (p_t_1 14) 4 f_t_1_14, aI g (p_t_1 15) 4 f_t_1_15, oX2 (p_t 5) p_t_5 o_t_5, aI g (p_t_5 6) 7 f_t_5_6, aI g (p_t_5 7) 7 f_t_5_7, oX2 (p_t 6) p_t_6 o_t_6, aI g (p_t_6 6) 7 f_t_6_6, aI g (p_t_6 7) 7 f_t_6_7, aI g (p_t_6 8) 7 f_t_6_8, oX3 (p_t 7) p_t_7 o_t_7]) (As := [.int x1]) (rest := []) (ci := 9) (q0 := 0) C0 (mX9_taleAsked l g a_t p_t p_t_1 n x1 o_t o_t_1 u_1 u_2 hu_3) (cwV 1 hts gX9_endsWithTale_X9_taleAsked rfl rfl rfl (by decide +kernel) ⟨Nat.le_of_ble_eq_true rfl, Nat.le_of_ble_eq_true rfl⟩) hP hD hS [0, 1] [2, 3, 4, 5, 6, 7, 8, 9, 10, 11, 12, 13, 14, 15, 16, 17] rfl rfl rfl rfl rfl (by decide) rfl rfl hl.1 rfl rfl (Nat.le_of_ble_eq_true rfl) ⟨Nat.zero_le _, Nat.zero_le _⟩ dX9_endsWithTale_2 ?_
  intro H locs hP hD hS
  refine lv_if_ne (tgt := 10) hx hb dX9_endsWithTale_5 (by decide) (fun c_4 => ?_) (fun c_4 => ?_)
  · have hF := it_n c_4 hF
    refine lv_aload_n hx hb dX9_endsWithTale_10 rfl (lv_at hl 0 rfl) ?_
    refine va_get (D := g.1) (ci := 9) (v := .ref (p_t 5)) (C := RX9) (T := TX9) (N := 15) hx hb hts iX9_endsWithTale_X9 hown hK.1 hP 16 rfl rfl 5 (by decide) (hts _ kX9_endsWithTale_37) (fun _ h9 => h9) rfl dX9_endsWithTale_11 ?_
    refine lv_iload_n hx hb dX9_endsWithTale_14 rfl (lv_at hl 1 rfl) ?_
    obtain ⟨u_5, hu_6, hF⟩ := ob1_some hF
    refine call_i (wr := [aI g (p_t_1 4) 7 f_t_1_4, aI g (p_t_1 6) 7 f_t_1_6, aI g (p_t_1 7) 7 f_t_1_7, aI g (p_t_1 10) 8 f_t_1_10, aI g (p_t_1 11) 8 f_t_1_11, aI g (p_t_1 12) 8 f_t_1_12, aI g (p_t_1 14) 4 f_t_1_14, aI g (p_t_1 15) 4 f_t_1_15, aI g (p_t_5 6) 7 f_t_5_6, aI g (p_t_5 7) 7 f_t_5_7, oX2 (p_t 6) p_t_6 o_t_6, aI g (p_t_6 6) 7 f_t_6_6, aI g (p_t_6 7) 7 f_t_6_7, aI g (p_t_6 8) 7 f_t_6_8, oX3 (p_t 7) p_t_7 o_t_7, oX9 a_t p_t u_2, oX1 (p_t 1) p_t_1 o_t_1]) (As := [.int x1]) (rest := []) (ci := 2) (q0 := 0) C0 (mX2_wasTold l g (p_t 5) p_t_5 n x1 o_t_5 u_5 hu_6) (cwV 1 hts gX9_endsWithTale_X2_wasTold rfl rfl rfl (by decide +kernel) ⟨Nat.le_of_ble_eq_true rfl, Nat.le_of_ble_eq_true rfl⟩) hP hD hS [8] [0, 1, 2, 3, 4, 5, 6, 7, 9, 10, 11, 12, 13, 14, 15, 16, 17] rfl rfl rfl rfl rfl (by decide) rfl rfl hl.1 rfl rfl (Nat.le_of_ble_eq_true rfl) ⟨Nat.zero_le _, Nat.zero_le _⟩ dX9_endsWithTale_15 ?_
    intro H locs hP hD hS
    refine lv_if_eq (tgt := 27) hx hb dX9_endsWithTale_18 (by decide) (fun c_7 => ?_) (fun c_7 => ?_)
    · have hF := it_p c_7 hF
      refine lv_aload_n hx hb dX9_endsWithTale_27 rfl (lv_at hl 0 rfl) ?_
      refine va_get (D := g.1) (ci := 9) (v := .ref (p_t 1)) (C := RX9) (T := TX9) (N := 15) hx hb hts iX9_endsWithTale_X9 hown hK.1 hP 15 rfl rfl 1 (by decide) (hts _ kX9_endsWithTale_19) (fun _ h9 => h9) rfl dX9_endsWithTale_28 ?_
      refine va_get (D := g.1) (ci := 1) (v := .ref (p_t_1 14)) (C := RX1) (T := TX1) (N := 17) hx hb hts iX9_endsWithTale_X1 hown hK.1 hP 16 rfl rfl 14 (by decide) (hts _ kX9_endsWithTale_231) (fun _ h9 => h9) rfl dX9_endsWithTale_31 ?_
      refine lv_iload_n hx hb dX9_endsWithTale_34 rfl (lv_at hl 1 rfl) ?_
      obtain ⟨h_8, hF⟩ := it_ck hF
      refine va_iald hx hb hK.1 hP 6 0 rfl rfl h_8 dX9_endsWithTale_35 ?_
      refine lv_istore_n (lv' := [(2, .int (f_t_1_14 (x1).toNatClampNeg)), (0, .ref a_t), (1, .int x1)]) hx hb dX9_endsWithTale_36 rfl hl (by decide) rfl (fun ls hl => ?_)
      refine lv_aload_n hx hb dX9_endsWithTale_37 rfl (lv_at hl 1 rfl) ?_
      refine va_get (D := g.1) (ci := 9) (v := .ref (p_t 6)) (C := RX9) (T := TX9) (N := 15) hx hb hts iX9_endsWithTale_X9 hown hK.1 hP 15 rfl rfl 6 (by decide) (hts _ kX9_endsWithTale_41) (fun _ h9 => h9) rfl dX9_endsWithTale_38 ?_
      refine lv_aload_n hx hb dX9_endsWithTale_41 rfl (lv_at hl 1 rfl) ?_
      refine va_get (D := g.1) (ci := 9) (v := .ref (p_t 5)) (C := RX9) (T := TX9) (N := 15) hx hb hts iX9_endsWithTale_X9 hown hK.1 hP 15 rfl rfl 5 (by decide) (hts _ kX9_endsWithTale_37) (fun _ h9 => h9) rfl dX9_endsWithTale_42 ?_
      obtain ⟨u_9, u_10, u_11, hu_12, hF⟩ := ob3_some hF
      refine call_v (wr := [aI g (p_t_1 4) 7 f_t_1_4, aI g (p_t_1 6) 7 f_t_1_6, aI g (p_t_1 7) 7 f_t_1_7, aI g (p_t_1 10) 8 f_t_1_10, aI g (p_t_1 11) 8 f_t_1_11, aI g (p_t_1 12) 8 f_t_1_12, aI g (p_t_1 14) 4 f_t_1_14, aI g (p_t_1 15) 4 f_t_1_15, aI g (p_t_6 8) 7 f_t_6_8, oX3 (p_t 7) p_t_7 o_t_7, oX9 a_t p_t u_2, oX1 (p_t 1) p_t_1 o_t_1]) (As := [.ref (p_t 5)]) (rest := []) (ci := 2) (q0 := 0) C0 (mX2_become l g (p_t 6) (p_t 5) p_t_6 p_t_5 n o_t_6 f_t_6_6 f_t_6_7 o_t_5 f_t_5_6 f_t_5_7 u_9 u_10 u_11 hu_12) (cwV 1 hts gX9_endsWithTale_X2_become rfl rfl rfl (by decide +kernel) ⟨Nat.le_of_ble_eq_true rfl, Nat.le_of_ble_eq_true rfl⟩) hP hD hS [10, 11, 12, 17, 8, 9] [0, 1, 2, 3, 4, 5, 6, 7, 13, 14, 15, 16] rfl rfl rfl rfl rfl (by decide) rfl rfl hl.1 rfl rfl (Nat.le_of_ble_eq_true rfl) ⟨Nat.zero_le _, Nat.zero_le _⟩ dX9_endsWithTale_45 ?_
      intro H locs hP hD hS
      refine lv_aload_n hx hb dX9_endsWithTale_48 rfl (lv_at hl 1 rfl) ?_
      refine va_get (D := g.1) (ci := 9) (v := .ref (p_t 6)) (C := RX9) (T := TX9) (N := 15) hx hb hts iX9_endsWithTale_X9 hown hK.1 hP 10 rfl rfl 6 (by decide) (hts _ kX9_endsWithTale_41) (fun _ h9 => h9) rfl dX9_endsWithTale_49 ?_
      refine lv_aload_n hx hb dX9_endsWithTale_52 rfl (lv_at hl 1 rfl) ?_
      refine va_get (D := g.1) (ci := 9) (v := .ref (p_t 1)) (C := RX9) (T := TX9) (N := 15) hx hb hts iX9_endsWithTale_X9 hown hK.1 hP 10 rfl rfl 1 (by decide) (hts _ kX9_endsWithTale_19) (fun _ h9 => h9) rfl dX9_endsWithTale_53 ?_
      refine lv_iload_n hx hb dX9_endsWithTale_56 rfl (lv_at hl 2 rfl) ?_
      refine lv_aload_n hx hb dX9_endsWithTale_57 rfl (lv_at hl 1 rfl) ?_
      refine va_get (D := g.1) (ci := 9) (v := .ref (p_t 7)) (C := RX9) (T := TX9) (N := 15) hx hb hts iX9_endsWithTale_X9 hown hK.1 hP 10 rfl rfl 7 (by decide) (hts _ kX9_endsWithTale_49) (fun _ h9 => h9) rfl dX9_endsWithTale_58 ?_
      obtain ⟨u_13, u_14, u_15, u_16, u_17, u_18, hu_19, hF⟩ := ob6_some hF
      refine call_i (wr := [oX9 a_t p_t u_2, oX2 (p_t 5) p_t_5 o_t_5, aI g (p_t_5 6) 7 f_t_5_6, aI g (p_t_5 7) 7 f_t_5_7]) (As := [.ref (p_t 1), .int x1, .ref (p_t 7)]) (rest := []) (ci := 2) (q0 := 0) C0 (mX2_narrate l g (p_t 6) (p_t 1) (p_t 7) p_t_6 p_t_1 p_t_7 n x1 u_9 u_10 u_11 f_t_6_8 o_t_1 f_t_1_4 f_t_1_6 f_t_1_7 f_t_1_10 f_t_1_11 f_t_1_12 f_t_1_14 f_t_1_15 o_t_7 u_13 u_14 u_15 u_16 u_17 u_18 hu_19) (cwV 3 hts gX9_endsWithTale_X2_narrate rfl rfl rfl (by decide +kernel) ⟨Nat.le_of_ble_eq_true rfl, Nat.le_of_ble_eq_true rfl⟩) hP hD hS [12, 13, 14, 8, 11, 0, 1, 2, 3, 4, 5, 6, 7, 9] [10, 15, 16, 17] rfl rfl rfl rfl rfl (by decide) rfl rfl hl.1 rfl rfl (Nat.le_of_ble_eq_true rfl) ⟨Nat.zero_le _, Nat.zero_le _⟩ dX9_endsWithTale_61 ?_
      intro H locs hP hD hS
      refine lv_pop hx hb dX9_endsWithTale_64 rfl ?_
      refine lv_iload_n hx hb dX9_endsWithTale_65 rfl (lv_at hl 0 rfl) ?_
      refine lv_aload_n hx hb dX9_endsWithTale_66 rfl (lv_at hl 1 rfl) ?_
      refine va_get (D := g.1) (ci := 9) (v := .ref (p_t 6)) (C := RX9) (T := TX9) (N := 15) hx hb hts iX9_endsWithTale_X9 hown hK.1 hP 0 rfl rfl 6 (by decide) (hts _ kX9_endsWithTale_41) (fun _ h9 => h9) rfl dX9_endsWithTale_67 ?_
      refine lv_aload_n hx hb dX9_endsWithTale_70 rfl (lv_at hl 1 rfl) ?_
      refine va_get (D := g.1) (ci := 9) (v := .ref (p_t 1)) (C := RX9) (T := TX9) (N := 15) hx hb hts iX9_endsWithTale_X9 hown hK.1 hP 0 rfl rfl 1 (by decide) (hts _ kX9_endsWithTale_19) (fun _ h9 => h9) rfl dX9_endsWithTale_71 ?_
      refine lv_aload_n hx hb dX9_endsWithTale_74 rfl (lv_at hl 1 rfl) ?_
      refine va_get (D := g.1) (ci := 9) (v := .ref (p_t 7)) (C := RX9) (T := TX9) (N := 15) hx hb hts iX9_endsWithTale_X9 hown hK.1 hP 0 rfl rfl 7 (by decide) (hts _ kX9_endsWithTale_49) (fun _ h9 => h9) rfl dX9_endsWithTale_75 ?_
      refine lv_bipush (v := (60 : Int32)) hx hb dX9_endsWithTale_78 (by decide) ?_
      refine lv_iload_n hx hb dX9_endsWithTale_80 rfl (lv_at hl 0 rfl) ?_
      refine lv_isub hx hb dX9_endsWithTale_81 ?_
      obtain ⟨u_20, u_21, u_22, u_23, u_24, u_25, hu_26, hF⟩ := ob6_some hF
      refine call_i (wr := [oX9 a_t p_t u_2, oX2 (p_t 5) p_t_5 o_t_5, aI g (p_t_5 6) 7 f_t_5_6, aI g (p_t_5 7) 7 f_t_5_7, aI g (p_t_1 14) 4 f_t_1_14, aI g (p_t_1 15) 4 f_t_1_15]) (As := [.ref (p_t 1), .ref (p_t 7), .int ((60 : Int32) - (f_t_1_14 (x1).toNatClampNeg))]) (rest := [.int (f_t_1_14 (x1).toNatClampNeg)]) (ci := 2) (q0 := 0) C0 (mX2_runOut l g (p_t 6) (p_t 1) (p_t 7) p_t_6 p_t_1 p_t_7 n ((60 : Int32) - (f_t_1_14 (x1).toNatClampNeg)) u_14 u_15 u_16 u_17 o_t_1 f_t_1_4 f_t_1_6 f_t_1_7 f_t_1_10 f_t_1_11 f_t_1_12 u_18 u_20 u_21 u_22 u_23 u_24 u_25 hu_26) (cwV 3 hts gX9_endsWithTale_X2_runOut rfl rfl rfl (by decide +kernel) ⟨Nat.le_of_ble_eq_true rfl, Nat.le_of_ble_eq_true rfl⟩) hP hD hS [4, 5, 6, 7, 8, 9, 10, 11, 12, 13, 14, 17] [0, 1, 2, 3, 15, 16] rfl rfl rfl rfl rfl (by decide) rfl rfl hl.1 rfl rfl (Nat.le_of_ble_eq_true rfl) ⟨Nat.zero_le _, Nat.zero_le _⟩ dX9_endsWithTale_82 ?_
      intro H locs hP hD hS
      refine lv_iadd hx hb dX9_endsWithTale_85 ?_
      obtain ⟨u_27, hu_28, hF⟩ := ob1_some hF
      refine call_si (wr := [oX9 a_t p_t u_2, oX2 (p_t 5) p_t_5 o_t_5, aI g (p_t_5 6) 7 f_t_5_6, aI g (p_t_5 7) 7 f_t_5_7, aI g (p_t_1 14) 4 f_t_1_14, aI g (p_t_1 15) 4 f_t_1_15, oX2 (p_t 6) p_t_6 u_21, aI g (p_t_6 6) 7 u_22, aI g (p_t_6 7) 7 u_23, aI g (p_t_6 8) 7 u_24, oX1 (p_t 1) p_t_1 o_t_1, aI g (p_t_1 4) 7 f_t_1_4, aI g (p_t_1 6) 7 f_t_1_6, aI g (p_t_1 7) 7 f_t_1_7, aI g (p_t_1 10) 8 f_t_1_10, aI g (p_t_1 11) 8 f_t_1_11, aI g (p_t_1 12) 8 f_t_1_12, oX3 (p_t 7) p_t_7 u_25]) (As := [.int ((f_t_1_14 (x1).toNatClampNeg) + u_20)]) (rest := []) C0 (mX9_orNot l g n ((f_t_1_14 (x1).toNatClampNeg) + u_20) u_27 hu_28) (va_cwS 1 hts gX9_endsWithTale_X9_orNot rfl rfl rfl (by decide +kernel) ⟨Nat.le_of_ble_eq_true rfl, Nat.le_of_ble_eq_true rfl⟩) hP hD hS [] [0, 1, 2, 3, 4, 5, 6, 7, 8, 9, 10, 11, 12, 13, 14, 15, 16, 17] rfl rfl rfl rfl rfl (by decide) hl.1 rfl rfl (Nat.le_of_ble_eq_true rfl) ⟨Nat.zero_le _, Nat.zero_le _⟩ dX9_endsWithTale_86 ?_
      intro H locs hP hD hS
      cases hF
      exact ret_i C0 hP hD hS [0, 10, 11, 12, 13, 14, 15, 16, 4, 5, 1, 2, 3, 6, 7, 8, 9, 17] rfl rfl rfl dX9_endsWithTale_89 rfl
    · have hF := it_n c_7 hF
      refine lv_aload_n hx hb dX9_endsWithTale_21 rfl (lv_at hl 0 rfl) ?_
      refine lv_iconst (v := (5 : Int32)) hx hb dX9_endsWithTale_22 (by decide) ?_
      obtain ⟨u_29, u_30, hu_31, hF⟩ := ob2_some hF
      refine call_i (wr := [aI g (p_t_1 4) 7 f_t_1_4, aI g (p_t_1 6) 7 f_t_1_6, aI g (p_t_1 7) 7 f_t_1_7, aI g (p_t_1 10) 8 f_t_1_10, aI g (p_t_1 11) 8 f_t_1_11, aI g (p_t_1 12) 8 f_t_1_12, aI g (p_t_1 14) 4 f_t_1_14, aI g (p_t_1 15) 4 f_t_1_15, aI g (p_t_5 6) 7 f_t_5_6, aI g (p_t_5 7) 7 f_t_5_7, oX2 (p_t 6) p_t_6 o_t_6, aI g (p_t_6 6) 7 f_t_6_6, aI g (p_t_6 7) 7 f_t_6_7, aI g (p_t_6 8) 7 f_t_6_8, oX3 (p_t 7) p_t_7 o_t_7, oX1 (p_t 1) p_t_1 o_t_1, oX2 (p_t 5) p_t_5 o_t_5]) (As := [.int (5 : Int32)]) (rest := []) (ci := 9) (q0 := 0) C0 (mX9_refuse l g a_t p_t n (5 : Int32) u_2 u_29 u_30 hu_31) (cwV 1 hts gX9_endsWithTale_X9_refuse rfl rfl rfl (by decide +kernel) ⟨Nat.le_of_ble_eq_true rfl, Nat.le_of_ble_eq_true rfl⟩) hP hD hS [15] [0, 1, 2, 3, 4, 5, 6, 7, 8, 9, 10, 11, 12, 13, 14, 16, 17] rfl rfl rfl rfl rfl (by decide) rfl rfl hl.1 rfl rfl (Nat.le_of_ble_eq_true rfl) ⟨Nat.zero_le _, Nat.zero_le _⟩ dX9_endsWithTale_23 ?_
      intro H locs hP hD hS
      cases hF
      exact ret_i C0 hP hD hS [17, 15, 0, 1, 2, 3, 4, 5, 6, 7, 16, 8, 9, 10, 11, 12, 13, 14] rfl rfl rfl dX9_endsWithTale_26 rfl
  · have hF := it_p c_4 hF
    refine lv_iconst (v := (-1 : Int32)) hx hb dX9_endsWithTale_8 (by decide) ?_
    cases hF
    exact ret_i C0 hP hD hS [16, 17, 0, 1, 2, 3, 4, 5, 6, 7, 8, 9, 10, 11, 12, 13, 14, 15] rfl rfl rfl dX9_endsWithTale_9 rfl

theorem dAX9_endsWoken : ∀ q ∈ ([(0, (.aload_n 0, 1)), (1, (.getfield 41, 3)), (4, (.aload_n 0, 1)), (5, (.getfield 37, 3)), (8, (.invokevirtual 160, 3)), (11, (.aload_n 0, 1)), (12, (.getfield 41, 3)), (15, (.getfield 126, 3)), (18, (.iload_n 1, 1)), (19, (.dup2, 1)), (20, (.iaload, 1)), (21, (.aload_n 0, 1)), (22, (.getfield 19, 3)), (25, (.getfield 311, 3)), (28, (.iadd, 1)), (29, (.iastore, 1)), (30, (.aload_n 0, 1)), (31, (.getfield 41, 3)), (34, (.aload_n 0, 1)), (35, (.getfield 19, 3)), (38, (.aload_n 0, 1)), (39, (.getfield 49, 3)), (42, (.bipush 60, 2)), (44, (.invokevirtual 219, 3)), (47, (.ireturn, 1))] : List (Nat × (Instr × Nat))), decode cX9_endsWoken q.1 = .ok q.2 := by decide +kernel
theorem dX9_endsWoken_0 : decode cX9_endsWoken 0 = .ok (.aload_n 0, 1) := dAX9_endsWoken (0, (.aload_n 0, 1)) (List.mem_of_getElem? (i := 0) rfl)
theorem dX9_endsWoken_1 : decode cX9_endsWoken 1 = .ok (.getfield 41, 3) := dAX9_endsWoken (1, (.getfield 41, 3)) (List.mem_of_getElem? (i := 1) rfl)
theorem dX9_endsWoken_4 : decode cX9_endsWoken 4 = .ok (.aload_n 0, 1) := dAX9_endsWoken (4, (.aload_n 0, 1)) (List.mem_of_getElem? (i := 2) rfl)
theorem dX9_endsWoken_5 : decode cX9_endsWoken 5 = .ok (.getfield 37, 3) := dAX9_endsWoken (5, (.getfield 37, 3)) (List.mem_of_getElem? (i := 3) rfl)
theorem dX9_endsWoken_8 : decode cX9_endsWoken 8 = .ok (.invokevirtual 160, 3) := dAX9_endsWoken (8, (.invokevirtual 160, 3)) (List.mem_of_getElem? (i := 4) rfl)
theorem dX9_endsWoken_11 : decode cX9_endsWoken 11 = .ok (.aload_n 0, 1) := dAX9_endsWoken (11, (.aload_n 0, 1)) (List.mem_of_getElem? (i := 5) rfl)
theorem dX9_endsWoken_12 : decode cX9_endsWoken 12 = .ok (.getfield 41, 3) := dAX9_endsWoken (12, (.getfield 41, 3)) (List.mem_of_getElem? (i := 6) rfl)
theorem dX9_endsWoken_15 : decode cX9_endsWoken 15 = .ok (.getfield 126, 3) := dAX9_endsWoken (15, (.getfield 126, 3)) (List.mem_of_getElem? (i := 7) rfl)
theorem dX9_endsWoken_18 : decode cX9_endsWoken 18 = .ok (.iload_n 1, 1) := dAX9_endsWoken (18, (.iload_n 1, 1)) (List.mem_of_getElem? (i := 8) rfl)
theorem dX9_endsWoken_19 : decode cX9_endsWoken 19 = .ok (.dup2, 1) := dAX9_endsWoken (19, (.dup2, 1)) (List.mem_of_getElem? (i := 9) rfl)
theorem dX9_endsWoken_20 : decode cX9_endsWoken 20 = .ok (.iaload, 1) := dAX9_endsWoken (20, (.iaload, 1)) (List.mem_of_getElem? (i := 10) rfl)
theorem dX9_endsWoken_21 : decode cX9_endsWoken 21 = .ok (.aload_n 0, 1) := dAX9_endsWoken (21, (.aload_n 0, 1)) (List.mem_of_getElem? (i := 11) rfl)
theorem dX9_endsWoken_22 : decode cX9_endsWoken 22 = .ok (.getfield 19, 3) := dAX9_endsWoken (22, (.getfield 19, 3)) (List.mem_of_getElem? (i := 12) rfl)
theorem dX9_endsWoken_25 : decode cX9_endsWoken 25 = .ok (.getfield 311, 3) := dAX9_endsWoken (25, (.getfield 311, 3)) (List.mem_of_getElem? (i := 13) rfl)
theorem dX9_endsWoken_28 : decode cX9_endsWoken 28 = .ok (.iadd, 1) := dAX9_endsWoken (28, (.iadd, 1)) (List.mem_of_getElem? (i := 14) rfl)
theorem dX9_endsWoken_29 : decode cX9_endsWoken 29 = .ok (.iastore, 1) := dAX9_endsWoken (29, (.iastore, 1)) (List.mem_of_getElem? (i := 15) rfl)
theorem dX9_endsWoken_30 : decode cX9_endsWoken 30 = .ok (.aload_n 0, 1) := dAX9_endsWoken (30, (.aload_n 0, 1)) (List.mem_of_getElem? (i := 16) rfl)
theorem dX9_endsWoken_31 : decode cX9_endsWoken 31 = .ok (.getfield 41, 3) := dAX9_endsWoken (31, (.getfield 41, 3)) (List.mem_of_getElem? (i := 17) rfl)
theorem dX9_endsWoken_34 : decode cX9_endsWoken 34 = .ok (.aload_n 0, 1) := dAX9_endsWoken (34, (.aload_n 0, 1)) (List.mem_of_getElem? (i := 18) rfl)
theorem dX9_endsWoken_35 : decode cX9_endsWoken 35 = .ok (.getfield 19, 3) := dAX9_endsWoken (35, (.getfield 19, 3)) (List.mem_of_getElem? (i := 19) rfl)
theorem dX9_endsWoken_38 : decode cX9_endsWoken 38 = .ok (.aload_n 0, 1) := dAX9_endsWoken (38, (.aload_n 0, 1)) (List.mem_of_getElem? (i := 20) rfl)
theorem dX9_endsWoken_39 : decode cX9_endsWoken 39 = .ok (.getfield 49, 3) := dAX9_endsWoken (39, (.getfield 49, 3)) (List.mem_of_getElem? (i := 21) rfl)
theorem dX9_endsWoken_42 : decode cX9_endsWoken 42 = .ok (.bipush 60, 2) := dAX9_endsWoken (42, (.bipush 60, 2)) (List.mem_of_getElem? (i := 22) rfl)
theorem dX9_endsWoken_44 : decode cX9_endsWoken 44 = .ok (.invokevirtual 219, 3) := dAX9_endsWoken (44, (.invokevirtual 219, 3)) (List.mem_of_getElem? (i := 23) rfl)
theorem dX9_endsWoken_47 : decode cX9_endsWoken 47 = .ok (.ireturn, 1) := dAX9_endsWoken (47, (.ireturn, 1)) (List.mem_of_getElem? (i := 24) rfl)
set_option maxRecDepth 20000 in
theorem ggX9_endsWoken_X2_become : GoodIn wsX9_endsWoken wsX2_become := goodIn_r _ [11, 12, 13, 14, 15, 16, 17, 18, 19, 20, 21, 85, 86, 87, 88, 89, 90, 91, 92, 93] rfl (by decide +kernel)
set_option maxRecDepth 20000 in
theorem gX9_endsWoken_X2_become : GoodIn wsX9_endsWoken (wsV RX9 160 RX2 yX2_become wsX2_become) := goodIn_app (goodIn_of _ (by decide +kernel)) ggX9_endsWoken_X2_become
set_option maxRecDepth 20000 in
theorem ggX9_endsWoken_X2_runOut : GoodIn wsX9_endsWoken wsX2_runOut := goodIn_r _ [25, 26, 13, 27, 28, 29, 10, 30, 12, 31, 32, 33, 34, 35, 36, 16, 37, 38, 39, 40, 41, 42, 43, 44, 45, 46, 47, 48, 49, 50, 51, 52, 53, 54, 55, 56, 57, 58, 59, 60, 61, 62, 63, 64, 65, 66, 67, 21, 68, 69, 85, 86, 87, 88, 89, 90, 91, 92, 93, 94, 95, 96, 97, 98, 99, 100, 101, 102, 103, 104, 105, 106, 107, 108, 109, 110, 111, 112] rfl (by decide +kernel)
set_option maxRecDepth 20000 in
theorem gX9_endsWoken_X2_runOut : GoodIn wsX9_endsWoken (wsV RX9 219 RX2 yX2_runOut wsX2_runOut) := goodIn_app (goodIn_of _ (by decide +kernel)) ggX9_endsWoken_X2_runOut
theorem kX9_endsWoken_41 : Cond.fieldLink RX9 41 "EveningVow" "trial" "LEveningVow$Night;" ∈ wsX9_endsWoken := List.mem_of_getElem? (i := 1) rfl
theorem iX9_endsWoken_X9 : ∀ w ∈ u_ws RX9 TX9 15, w ∈ wsX9_endsWoken := fun w h => (List.mem_cons_of_mem _ (List.mem_append_left _ (List.mem_append_left _ (List.mem_append_left _ (List.mem_append_right _ h)))))
theorem kX9_endsWoken_37 : Cond.fieldLink RX9 37 "EveningVow" "now" "LEveningVow$Night;" ∈ wsX9_endsWoken := List.mem_of_getElem? (i := 2) rfl
theorem kX9_endsWoken_126 : Cond.fieldLink RX9 126 "EveningVow$Night" "want" "[I" ∈ wsX9_endsWoken := List.mem_of_getElem? (i := 3) rfl
theorem iX9_endsWoken_X2 : ∀ w ∈ u_ws RX2 TX2 9, w ∈ wsX9_endsWoken := fun w h => (List.mem_cons_of_mem _ (List.mem_append_left _ (List.mem_append_left _ (List.mem_append_right _ h))))
theorem kX9_endsWoken_19 : Cond.fieldLink RX9 19 "EveningVow" "told" "LEveningVow$House;" ∈ wsX9_endsWoken := List.mem_of_getElem? (i := 4) rfl
theorem kX9_endsWoken_311 : Cond.fieldLink RX9 311 "EveningVow$House" "wakes" "I" ∈ wsX9_endsWoken := List.mem_of_getElem? (i := 5) rfl
theorem iX9_endsWoken_X1 : ∀ w ∈ u_ws RX1 TX1 17, w ∈ wsX9_endsWoken := fun w h => (List.mem_cons_of_mem _ (List.mem_append_left _ (List.mem_append_right _ h)))
theorem kX9_endsWoken_49 : Cond.fieldLink RX9 49 "EveningVow" "asTold" "LEveningVow$Pace;" ∈ wsX9_endsWoken := List.mem_of_getElem? (i := 6) rfl
set_option maxHeartbeats 4000000 in
set_option maxRecDepth 100000 in
theorem mX9_endsWoken (l : Launch) (g : GG) (a_t : Nat) (p_t : Nat → Nat) (p_t_1 : Nat → Nat) (p_t_5 : Nat → Nat) (p_t_6 : Nat → Nat) (p_t_7 : Nat → Nat) (n : Nat) (x1 : Int32) (o_t : Nat → Int32) (o_t_1 : Nat → Int32) (f_t_1_4 : Nat → Int32) (f_t_1_6 : Nat → Int32) (f_t_1_7 : Nat → Int32) (f_t_1_10 : Nat → Int32) (f_t_1_11 : Nat → Int32) (f_t_1_12 : Nat → Int32) (o_t_5 : Nat → Int32) (f_t_5_6 : Nat → Int32) (f_t_5_7 : Nat → Int32) (o_t_6 : Nat → Int32) (f_t_6_6 : Nat → Int32) (f_t_6_7 : Nat → Int32) (f_t_6_8 : Nat → Int32) (o_t_7 : Nat → Int32) (r : Int32) (o_t_6' : Nat → Int32) (f_t_6_6' : Nat → Int32) (f_t_6_7' : Nat → Int32) (f_t_6_8' : Nat → Int32) (o_t_7' : Nat → Int32) (hF : fX9_endsWoken n x1 o_t o_t_1 f_t_1_4 f_t_1_6 f_t_1_7 f_t_1_10 f_t_1_11 f_t_1_12 o_t_5 f_t_5_6 f_t_5_7 o_t_6 f_t_6_6 f_t_6_7 f_t_6_8 o_t_7 = some (r, o_t_6', f_t_6_6', f_t_6_7', f_t_6_8', o_t_7')) : MI l g yX9_endsWoken wsX9_endsWoken ({ frames := 4, cells := 0, slots := 0, locals := 95 } : Room) [.ref a_t, .int x1] [oX9 a_t p_t o_t, oX1 (p_t 1) p_t_1 o_t_1, aI g (p_t_1 4) 7 f_t_1_4, aI g (p_t_1 6) 7 f_t_1_6, aI g (p_t_1 7) 7 f_t_1_7, aI g (p_t_1 10) 8 f_t_1_10, aI g (p_t_1 11) 8 f_t_1_11, aI g (p_t_1 12) 8 f_t_1_12, oX2 (p_t 5) p_t_5 o_t_5, aI g (p_t_5 6) 7 f_t_5_6, aI g (p_t_5 7) 7 f_t_5_7, oX2 (p_t 6) p_t_6 o_t_6, aI g (p_t_6 6) 7 f_t_6_6, aI g (p_t_6 7) 7 f_t_6_7, aI g (p_t_6 8) 7 f_t_6_8, oX3 (p_t 7) p_t_7 o_t_7] r [oX9 a_t p_t o_t, oX1 (p_t 1) p_t_1 o_t_1, aI g (p_t_1 4) 7 f_t_1_4, aI g (p_t_1 6) 7 f_t_1_6, aI g (p_t_1 7) 7 f_t_1_7, aI g (p_t_1 10) 8 f_t_1_10, aI g (p_t_1 11) 8 f_t_1_11, aI g (p_t_1 12) 8 f_t_1_12, oX2 (p_t 5) p_t_5 o_t_5, aI g (p_t_5 6) 7 f_t_5_6, aI g (p_t_5 7) 7 f_t_5_7, oX2 (p_t 6) p_t_6 o_t_6', aI g (p_t_6 6) 7 f_t_6_6', aI g (p_t_6 7) 7 f_t_6_7', aI g (p_t_6 8) 7 f_t_6_8', oX3 (p_t 7) p_t_7 o_t_7'] := by
  refine MI.of (cc := cX9_endsWoken) (maxL := 2) (rt := .int) (own := RX9) rfl rfl (by decide) (Nat.le_of_ble_eq_true rfl) ?_
  intro p e s m args below meth c A C0 hP hD hS ls hl
  obtain ⟨hx, hb, hml, hown, hts, hr, hlk, hK, hA, hSW⟩ := id C0
  have hl : lv_has ls 2 [(0, .ref a_t), (1, .int x1)] := hl
  rw [fX9_endsWoken] at hF
  refine lv_aload_n hx hb dX9_endsWoken_0 rfl (lv_at hl 0 rfl) ?_
  refine va_get (D := g.1) (ci := 9) (v := .ref (p_t 6)) (C := RX9) (T := TX9) (N := 15) hx hb hts iX9_endsWoken_X9 hown hK.1 hP 0 rfl rfl 6 (by decide) (hts _ kX9_endsWoken_41) (fun _ h9 => h9) rfl dX9_endsWoken_1 ?_
  refine lv_aload_n hx hb dX9_endsWoken_4 rfl (lv_at hl 0 rfl) ?_
  refine va_get (D := g.1) (ci := 9) (v := .ref (p_t 5)) (C := RX9) (T := TX9) (N := 15) hx hb hts iX9_endsWoken_X9 hown hK.1 hP 0 rfl rfl 5 (by decide) (hts _ kX9_endsWoken_37) (fun _ h9 => h9) rfl dX9_endsWoken_5 ?_
  obtain ⟨u_1, u_2, u_3, hu_4, hF⟩ := ob3_some hF
  refine call_v (wr := [oX9 a_t p_t o_t, oX1 (p_t 1) p_t_1 o_t_1, aI g (p_t_1 4) 7 f_t_1_4, aI g (p_t_1 6) 7 f_t_1_6, aI g (p_t_1 7) 7 f_t_1_7, aI g (p_t_1 10) 8 f_t_1_10, aI g (p_t_1 11) 8 f_t_1_11, aI g (p_t_1 12) 8 f_t_1_12, aI g (p_t_6 8) 7 f_t_6_8, oX3 (p_t 7) p_t_7 o_t_7]) (As := [.ref (p_t 5)]) (rest := []) (ci := 2) (q0 := 0) C0 (mX2_become l g (p_t 6) (p_t 5) p_t_6 p_t_5 n o_t_6 f_t_6_6 f_t_6_7 o_t_5 f_t_5_6 f_t_5_7 u_1 u_2 u_3 hu_4) (cwV 1 hts gX9_endsWoken_X2_become rfl rfl rfl (by decide +kernel) ⟨Nat.le_of_ble_eq_true rfl, Nat.le_of_ble_eq_true rfl⟩) hP hD hS [11, 12, 13, 8, 9, 10] [0, 1, 2, 3, 4, 5, 6, 7, 14, 15] rfl rfl rfl rfl rfl (by decide) rfl rfl hl.1 rfl rfl (Nat.le_of_ble_eq_true rfl) ⟨Nat.zero_le _, Nat.zero_le _⟩ dX9_endsWoken_8 ?_
  intro H locs hP hD hS
  refine lv_aload_n hx hb dX9_endsWoken_11 rfl (lv_at hl 0 rfl) ?_
  refine va_get (D := g.1) (ci := 9) (v := .ref (p_t 6)) (C := RX9) (T := TX9) (N := 15) hx hb hts iX9_endsWoken_X9 hown hK.1 hP 0 rfl rfl 6 (by decide) (hts _ kX9_endsWoken_41) (fun _ h9 => h9) rfl dX9_endsWoken_12 ?_
  refine va_get (D := g.1) (ci := 2) (v := .ref (p_t_6 6)) (C := RX2) (T := TX2) (N := 9) hx hb hts iX9_endsWoken_X2 hown hK.1 hP 10 rfl rfl 6 (by decide) (hts _ kX9_endsWoken_126) (fun _ h9 => h9) rfl dX9_endsWoken_15 ?_
  refine lv_iload_n hx hb dX9_endsWoken_18 rfl (lv_at hl 1 rfl) ?_
  refine lv_dup2_11 hx hb dX9_endsWoken_19 rfl rfl ?_
  obtain ⟨h_5, hF⟩ := it_ck hF
  refine va_iald hx hb hK.1 hP 11 0 rfl rfl h_5 dX9_endsWoken_20 ?_
  refine lv_aload_n hx hb dX9_endsWoken_21 rfl (lv_at hl 0 rfl) ?_
  refine va_get (D := g.1) (ci := 9) (v := .ref (p_t 1)) (C := RX9) (T := TX9) (N := 15) hx hb hts iX9_endsWoken_X9 hown hK.1 hP 0 rfl rfl 1 (by decide) (hts _ kX9_endsWoken_19) (fun _ h9 => h9) rfl dX9_endsWoken_22 ?_
  refine va_get (D := g.1) (ci := 1) (v := .int (o_t_1 1)) (C := RX1) (T := TX1) (N := 17) hx hb hts iX9_endsWoken_X1 hown hK.1 hP 1 rfl rfl 1 (by decide) (hts _ kX9_endsWoken_311) (fun _ h9 => h9) rfl dX9_endsWoken_25 ?_
  refine lv_iadd hx hb dX9_endsWoken_28 ?_
  obtain ⟨h_6, hF⟩ := it_ck hF
  refine va_iast hx hb hK.1 hP hD hS 11 0 rfl rfl h_6 dX9_endsWoken_29 (fun H locs hP hD hS => ?_)
  have hP : va_P g.1 vwCl [oX9 a_t p_t o_t, oX1 (p_t 1) p_t_1 o_t_1, aI g (p_t_1 4) 7 f_t_1_4, aI g (p_t_1 6) 7 f_t_1_6, aI g (p_t_1 7) 7 f_t_1_7, aI g (p_t_1 10) 8 f_t_1_10, aI g (p_t_1 11) 8 f_t_1_11, aI g (p_t_1 12) 8 f_t_1_12, aI g (p_t_6 8) 7 f_t_6_8, oX3 (p_t 7) p_t_7 o_t_7, oX2 (p_t 6) p_t_6 u_1, aI g (p_t_6 6) 7 (upd u_2 (x1).toNatClampNeg ((u_2 (x1).toNatClampNeg) + (o_t_1 1))), aI g (p_t_6 7) 7 u_3, oX2 (p_t 5) p_t_5 o_t_5, aI g (p_t_5 6) 7 f_t_5_6, aI g (p_t_5 7) 7 f_t_5_7] H := hP
  have hD : va_D A [oX9 a_t p_t o_t, oX1 (p_t 1) p_t_1 o_t_1, aI g (p_t_1 4) 7 f_t_1_4, aI g (p_t_1 6) 7 f_t_1_6, aI g (p_t_1 7) 7 f_t_1_7, aI g (p_t_1 10) 8 f_t_1_10, aI g (p_t_1 11) 8 f_t_1_11, aI g (p_t_1 12) 8 f_t_1_12, aI g (p_t_6 8) 7 f_t_6_8, oX3 (p_t 7) p_t_7 o_t_7, oX2 (p_t 6) p_t_6 u_1, aI g (p_t_6 6) 7 (upd u_2 (x1).toNatClampNeg ((u_2 (x1).toNatClampNeg) + (o_t_1 1))), aI g (p_t_6 7) 7 u_3, oX2 (p_t 5) p_t_5 o_t_5, aI g (p_t_5 6) 7 f_t_5_6, aI g (p_t_5 7) 7 f_t_5_7] := hD
  refine lv_aload_n hx hb dX9_endsWoken_30 rfl (lv_at hl 0 rfl) ?_
  refine va_get (D := g.1) (ci := 9) (v := .ref (p_t 6)) (C := RX9) (T := TX9) (N := 15) hx hb hts iX9_endsWoken_X9 hown hK.1 hP 0 rfl rfl 6 (by decide) (hts _ kX9_endsWoken_41) (fun _ h9 => h9) rfl dX9_endsWoken_31 ?_
  refine lv_aload_n hx hb dX9_endsWoken_34 rfl (lv_at hl 0 rfl) ?_
  refine va_get (D := g.1) (ci := 9) (v := .ref (p_t 1)) (C := RX9) (T := TX9) (N := 15) hx hb hts iX9_endsWoken_X9 hown hK.1 hP 0 rfl rfl 1 (by decide) (hts _ kX9_endsWoken_19) (fun _ h9 => h9) rfl dX9_endsWoken_35 ?_
  refine lv_aload_n hx hb dX9_endsWoken_38 rfl (lv_at hl 0 rfl) ?_
  refine va_get (D := g.1) (ci := 9) (v := .ref (p_t 7)) (C := RX9) (T := TX9) (N := 15) hx hb hts iX9_endsWoken_X9 hown hK.1 hP 0 rfl rfl 7 (by decide) (hts _ kX9_endsWoken_49) (fun _ h9 => h9) rfl dX9_endsWoken_39 ?_
  refine lv_bipush (v := (60 : Int32)) hx hb dX9_endsWoken_42 (by decide) ?_
  obtain ⟨u_7, u_8, u_9, u_10, u_11, u_12, hu_13, hF⟩ := ob6_some hF
  refine call_i (wr := [oX9 a_t p_t o_t, oX2 (p_t 5) p_t_5 o_t_5, aI g (p_t_5 6) 7 f_t_5_6, aI g (p_t_5 7) 7 f_t_5_7]) (As := [.ref (p_t 1), .ref (p_t 7), .int (60 : Int32)]) (rest := []) (ci := 2) (q0 := 0) C0 (mX2_runOut l g (p_t 6) (p_t 1) (p_t 7) p_t_6 p_t_1 p_t_7 n (60 : Int32) u_1 (upd u_2 (x1).toNatClampNeg ((u_2 (x1).toNatClampNeg) + (o_t_1 1))) u_3 f_t_6_8 o_t_1 f_t_1_4 f_t_1_6 f_t_1_7 f_t_1_10 f_t_1_11 f_t_1_12 o_t_7 u_7 u_8 u_9 u_10 u_11 u_12 hu_13) (cwV 3 hts gX9_endsWoken_X2_runOut rfl rfl rfl (by decide +kernel) ⟨Nat.le_of_ble_eq_true rfl, Nat.le_of_ble_eq_true rfl⟩) hP hD hS [10, 11, 12, 8, 1, 2, 3, 4, 5, 6, 7, 9] [0, 13, 14, 15] rfl rfl rfl rfl rfl (by decide) rfl rfl hl.1 rfl rfl (Nat.le_of_ble_eq_true rfl) ⟨Nat.zero_le _, Nat.zero_le _⟩ dX9_endsWoken_44 ?_
  intro H locs hP hD hS
  cases hF
  exact ret_i C0 hP hD hS [0, 8, 9, 10, 11, 12, 13, 14, 1, 2, 3, 4, 5, 6, 7, 15] rfl rfl rfl dX9_endsWoken_47 rfl

theorem dAX9_endsWithCup : ∀ q ∈ ([(0, (.aload_n 0, 1)), (1, (.iload_n 1, 1)), (2, (.invokevirtual 203, 3)), (5, (.ifCond .eq 14, 3)), (8, (.aload_n 0, 1)), (9, (.iload_n 1, 1)), (10, (.invokevirtual 238, 3)), (13, (.invokestatic 197, 3)), (16, (.goto 4, 3)), (19, (.iconst (-1), 1)), (20, (.ireturn, 1))] : List (Nat × (Instr × Nat))), decode cX9_endsWithCup q.1 = .ok q.2 := by decide +kernel
theorem dX9_endsWithCup_0 : decode cX9_endsWithCup 0 = .ok (.aload_n 0, 1) := dAX9_endsWithCup (0, (.aload_n 0, 1)) (List.mem_of_getElem? (i := 0) rfl)
theorem dX9_endsWithCup_1 : decode cX9_endsWithCup 1 = .ok (.iload_n 1, 1) := dAX9_endsWithCup (1, (.iload_n 1, 1)) (List.mem_of_getElem? (i := 1) rfl)
theorem dX9_endsWithCup_2 : decode cX9_endsWithCup 2 = .ok (.invokevirtual 203, 3) := dAX9_endsWithCup (2, (.invokevirtual 203, 3)) (List.mem_of_getElem? (i := 2) rfl)
theorem dX9_endsWithCup_5 : decode cX9_endsWithCup 5 = .ok (.ifCond .eq 14, 3) := dAX9_endsWithCup (5, (.ifCond .eq 14, 3)) (List.mem_of_getElem? (i := 3) rfl)
theorem dX9_endsWithCup_8 : decode cX9_endsWithCup 8 = .ok (.aload_n 0, 1) := dAX9_endsWithCup (8, (.aload_n 0, 1)) (List.mem_of_getElem? (i := 4) rfl)
theorem dX9_endsWithCup_9 : decode cX9_endsWithCup 9 = .ok (.iload_n 1, 1) := dAX9_endsWithCup (9, (.iload_n 1, 1)) (List.mem_of_getElem? (i := 5) rfl)
theorem dX9_endsWithCup_10 : decode cX9_endsWithCup 10 = .ok (.invokevirtual 238, 3) := dAX9_endsWithCup (10, (.invokevirtual 238, 3)) (List.mem_of_getElem? (i := 6) rfl)
theorem dX9_endsWithCup_13 : decode cX9_endsWithCup 13 = .ok (.invokestatic 197, 3) := dAX9_endsWithCup (13, (.invokestatic 197, 3)) (List.mem_of_getElem? (i := 7) rfl)
theorem dX9_endsWithCup_16 : decode cX9_endsWithCup 16 = .ok (.goto 4, 3) := dAX9_endsWithCup (16, (.goto 4, 3)) (List.mem_of_getElem? (i := 8) rfl)
theorem dX9_endsWithCup_19 : decode cX9_endsWithCup 19 = .ok (.iconst (-1), 1) := dAX9_endsWithCup (19, (.iconst (-1), 1)) (List.mem_of_getElem? (i := 9) rfl)
theorem dX9_endsWithCup_20 : decode cX9_endsWithCup 20 = .ok (.ireturn, 1) := dAX9_endsWithCup (20, (.ireturn, 1)) (List.mem_of_getElem? (i := 10) rfl)
set_option maxRecDepth 20000 in
theorem ggX9_endsWithCup_X9_presentAsked : GoodIn wsX9_endsWithCup wsX9_presentAsked := goodIn_r _ [5, 6, 7, 8, 9, 10, 4, 11, 12, 13, 14, 15, 16, 17, 18, 19, 20, 21, 94, 95, 96, 97, 98, 99, 100, 101, 102, 103, 104, 105, 106, 107, 108, 109, 110, 111, 112, 113, 114, 115, 116, 117, 118, 119, 120, 121, 122, 123, 124, 125, 126, 127, 128, 129, 130, 131, 132, 133, 134] rfl (by decide +kernel)
set_option maxRecDepth 20000 in
theorem gX9_endsWithCup_X9_presentAsked : GoodIn wsX9_endsWithCup (wsV RX9 203 RX9 yX9_presentAsked wsX9_presentAsked) := goodIn_app (goodIn_of _ (by decide +kernel)) ggX9_endsWithCup_X9_presentAsked
set_option maxRecDepth 20000 in
theorem ggX9_endsWithCup_X9_endsWoken : GoodIn wsX9_endsWithCup wsX9_endsWoken := goodIn_r _ [25, 26, 6, 27, 12, 28, 29, 30, 31, 32, 17, 33, 34, 19, 35, 36, 37, 38, 39, 40, 41, 42, 43, 44, 45, 46, 47, 48, 49, 50, 51, 52, 53, 54, 55, 56, 57, 58, 59, 60, 61, 62, 63, 64, 65, 66, 67, 68, 69, 70, 71, 72, 73, 74, 75, 76, 77, 78, 79, 80, 81, 82, 83, 84, 85, 86, 87, 88, 89, 90, 94, 95, 96, 97, 98, 99, 100, 101, 102, 103, 104, 105, 106, 107, 108, 126, 127, 128, 129, 130, 131, 132, 133, 134, 109, 110, 111, 112, 113, 114, 115, 116, 117, 118, 119, 120, 121, 122, 123, 124, 125, 135, 136] rfl (by decide +kernel)
set_option maxRecDepth 20000 in
theorem gX9_endsWithCup_X9_endsWoken : GoodIn wsX9_endsWithCup (wsV RX9 238 RX9 yX9_endsWoken wsX9_endsWoken) := goodIn_app (goodIn_of _ (by decide +kernel)) ggX9_endsWithCup_X9_endsWoken
set_option maxRecDepth 20000 in
theorem ggX9_endsWithCup_X9_orNot : GoodIn wsX9_endsWithCup wsX9_orNot := goodIn_r _ [93] rfl (by decide +kernel)
set_option maxRecDepth 20000 in
theorem gX9_endsWithCup_X9_orNot : GoodIn wsX9_endsWithCup (va_wsS RX9 197 yX9_orNot wsX9_orNot) := goodIn_app (goodIn_of _ (by decide +kernel)) ggX9_endsWithCup_X9_orNot
set_option maxHeartbeats 4000000 in
set_option maxRecDepth 100000 in
theorem mX9_endsWithCup (l : Launch) (g : GG) (a_t : Nat) (p_t : Nat → Nat) (p_t_1 : Nat → Nat) (p_t_5 : Nat → Nat) (p_t_6 : Nat → Nat) (p_t_7 : Nat → Nat) (n : Nat) (x1 : Int32) (o_t : Nat → Int32) (o_t_1 : Nat → Int32) (f_t_1_4 : Nat → Int32) (f_t_1_6 : Nat → Int32) (f_t_1_7 : Nat → Int32) (f_t_1_10 : Nat → Int32) (f_t_1_11 : Nat → Int32) (f_t_1_12 : Nat → Int32) (o_t_5 : Nat → Int32) (f_t_5_6 : Nat → Int32) (f_t_5_7 : Nat → Int32) (o_t_6 : Nat → Int32) (f_t_6_6 : Nat → Int32) (f_t_6_7 : Nat → Int32) (f_t_6_8 : Nat → Int32) (o_t_7 : Nat → Int32) (r : Int32) (o_t' : Nat → Int32) (o_t_6' : Nat → Int32) (f_t_6_6' : Nat → Int32) (f_t_6_7' : Nat → Int32) (f_t_6_8' : Nat → Int32) (o_t_7' : Nat → Int32) (hF : fX9_endsWithCup n x1 o_t o_t_1 f_t_1_4 f_t_1_6 f_t_1_7 f_t_1_10 f_t_1_11 f_t_1_12 o_t_5 f_t_5_6 f_t_5_7 o_t_6 f_t_6_6 f_t_6_7 f_t_6_8 o_t_7 = some (r, o_t', o_t_6', f_t_6_6', f_t_6_7', f_t_6_8', o_t_7')) : MI l g yX9_endsWithCup wsX9_endsWithCup ({ frames := 5, cells := 0, slots := 0, locals := 116 } : Room) [.ref a_t, .int x1] [oX9 a_t p_t o_t, oX1 (p_t 1) p_t_1 o_t_1, aI g (p_t_1 4) 7 f_t_1_4, aI g (p_t_1 6) 7 f_t_1_6, aI g (p_t_1 7) 7 f_t_1_7, aI g (p_t_1 10) 8 f_t_1_10, aI g (p_t_1 11) 8 f_t_1_11, aI g (p_t_1 12) 8 f_t_1_12, oX2 (p_t 5) p_t_5 o_t_5, aI g (p_t_5 6) 7 f_t_5_6, aI g (p_t_5 7) 7 f_t_5_7, oX2 (p_t 6) p_t_6 o_t_6, aI g (p_t_6 6) 7 f_t_6_6, aI g (p_t_6 7) 7 f_t_6_7, aI g (p_t_6 8) 7 f_t_6_8, oX3 (p_t 7) p_t_7 o_t_7] r [oX9 a_t p_t o_t', oX1 (p_t 1) p_t_1 o_t_1, aI g (p_t_1 4) 7 f_t_1_4, aI g (p_t_1 6) 7 f_t_1_6, aI g (p_t_1 7) 7 f_t_1_7, aI g (p_t_1 10) 8 f_t_1_10, aI g (p_t_1 11) 8 f_t_1_11, aI g (p_t_1 12) 8 f_t_1_12, oX2 (p_t 5) p_t_5 o_t_5, aI g (p_t_5 6) 7 f_t_5_6, aI g (p_t_5 7) 7 f_t_5_7, oX2 (p_t 6) p_t_6 o_t_6', aI g (p_t_6 6) 7 f_t_6_6', aI g (p_t_6 7) 7 f_t_6_7', aI g (p_t_6 8) 7 f_t_6_8', oX3 (p_t 7) p_t_7 o_t_7'] := by
  refine MI.of (cc := cX9_endsWithCup) (maxL := 2) (rt := .int) (own := RX9) rfl rfl (by decide) (Nat.le_of_ble_eq_true rfl) ?_
  intro p e s m args below meth c A C0 hP hD hS ls hl
  obtain ⟨hx, hb, hml, hown, hts, hr, hlk, hK, hA, hSW⟩ := id C0
  have hl : lv_has ls 2 [(0, .ref a_t), (1, .int x1)] := hl
  rw [fX9_endsWithCup] at hF
  refine lv_aload_n hx hb dX9_endsWithCup_0 rfl (lv_at hl 0 rfl) ?_
  refine lv_iload_n hx hb dX9_endsWithCup_1 rfl (lv_at hl 1 rfl) ?_
  obtain ⟨u_1, u_2, hu_3, hF⟩ := ob2_some hF
  refine call_i (wr := [aI g (p_t_1 4) 7 f_t_1_4, aI g (p_t_1 6) 7 f_t_1_6, aI g (p_t_1 7) 7 f_t_1_7, aI g (p_t_1 10) 8 f_t_1_10, aI g (p_t_1 11) 8 f_t_1_11, aI g (p_t_1 12) 8 f_t_1_12, aI g (p_t_5 6) 7 f_t_5_6, aI g (p_t_5 7) 7 f_t_5_7, oX2 (p_t 6) p_t_6 o_t_6, aI g (p_t_6 6) 7 f_t_6_6, aI g (p_t_6 7) 7 f_t_6_7, aI g (p_t_6 8) 7 f_t_6_8, oX3 (p_t 7) p_t_7 o_t_7]) (As := [.int x1]) (rest := []) (ci := 9) (q0 := 0) C0 (mX9_presentAsked l g a_t p_t p_t_1 p_t_5 n x1 o_t o_t_1 o_t_5 u_1 u_2 hu_3) (cwV 1 hts gX9_endsWithCup_X9_presentAsked rfl rfl rfl (by decide +kernel) ⟨Nat.le_of_ble_eq_true rfl, Nat.le_of_ble_eq_true rfl⟩) hP hD hS [0, 1, 8] [2, 3, 4, 5, 6, 7, 9, 10, 11, 12, 13, 14, 15] rfl rfl rfl rfl rfl (by decide) rfl rfl hl.1 rfl rfl (Nat.le_of_ble_eq_true rfl) ⟨Nat.zero_le _, Nat.zero_le _⟩ dX9_endsWithCup_2 ?_
  intro H locs hP hD hS
  refine lv_if_eq (tgt := 19) hx hb dX9_endsWithCup_5 (by decide) (fun c_4 => ?_) (fun c_4 => ?_)
  · have hF := it_p c_4 hF
    refine lv_iconst (v := (-1 : Int32)) hx hb dX9_endsWithCup_19 (by decide) ?_
    cases hF
    exact ret_i C0 hP hD hS [13, 14, 0, 1, 2, 3, 4, 5, 15, 6, 7, 8, 9, 10, 11, 12] rfl rfl rfl dX9_endsWithCup_20 rfl
  · have hF := it_n c_4 hF
    refine lv_aload_n hx hb dX9_endsWithCup_8 rfl (lv_at hl 0 rfl) ?_
    refine lv_iload_n hx hb dX9_endsWithCup_9 rfl (lv_at hl 1 rfl) ?_
    obtain ⟨u_5, u_6, u_7, u_8, u_9, u_10, hu_11, hF⟩ := ob6_some hF
    refine call_i (wr := []) (As := [.int x1]) (rest := []) (ci := 9) (q0 := 0) C0 (mX9_endsWoken l g a_t p_t p_t_1 p_t_5 p_t_6 p_t_7 n x1 u_2 o_t_1 f_t_1_4 f_t_1_6 f_t_1_7 f_t_1_10 f_t_1_11 f_t_1_12 o_t_5 f_t_5_6 f_t_5_7 o_t_6 f_t_6_6 f_t_6_7 f_t_6_8 o_t_7 u_5 u_6 u_7 u_8 u_9 u_10 hu_11) (cwV 1 hts gX9_endsWithCup_X9_endsWoken rfl rfl rfl (by decide +kernel) ⟨Nat.le_of_ble_eq_true rfl, Nat.le_of_ble_eq_true rfl⟩) hP hD hS [13, 14, 0, 1, 2, 3, 4, 5, 15, 6, 7, 8, 9, 10, 11, 12] [] rfl rfl rfl rfl rfl (by decide) rfl rfl hl.1 rfl rfl (Nat.le_of_ble_eq_true rfl) ⟨Nat.zero_le _, Nat.zero_le _⟩ dX9_endsWithCup_10 ?_
    intro H locs hP hD hS
    obtain ⟨u_12, hu_13, hF⟩ := ob1_some hF
    refine call_si (wr := [oX9 a_t p_t u_2, oX1 (p_t 1) p_t_1 o_t_1, aI g (p_t_1 4) 7 f_t_1_4, aI g (p_t_1 6) 7 f_t_1_6, aI g (p_t_1 7) 7 f_t_1_7, aI g (p_t_1 10) 8 f_t_1_10, aI g (p_t_1 11) 8 f_t_1_11, aI g (p_t_1 12) 8 f_t_1_12, oX2 (p_t 5) p_t_5 o_t_5, aI g (p_t_5 6) 7 f_t_5_6, aI g (p_t_5 7) 7 f_t_5_7, oX2 (p_t 6) p_t_6 u_6, aI g (p_t_6 6) 7 u_7, aI g (p_t_6 7) 7 u_8, aI g (p_t_6 8) 7 u_9, oX3 (p_t 7) p_t_7 u_10]) (As := [.int u_5]) (rest := []) C0 (mX9_orNot l g n u_5 u_12 hu_13) (va_cwS 1 hts gX9_endsWithCup_X9_orNot rfl rfl rfl (by decide +kernel) ⟨Nat.le_of_ble_eq_true rfl, Nat.le_of_ble_eq_true rfl⟩) hP hD hS [] [0, 1, 2, 3, 4, 5, 6, 7, 8, 9, 10, 11, 12, 13, 14, 15] rfl rfl rfl rfl rfl (by decide) hl.1 rfl rfl (Nat.le_of_ble_eq_true rfl) ⟨Nat.zero_le _, Nat.zero_le _⟩ dX9_endsWithCup_13 ?_
    intro H locs hP hD hS
    refine lv_goto (tgt := 20) hx hb dX9_endsWithCup_16 (by decide) ?_
    cases hF
    exact ret_i C0 hP hD hS [0, 1, 2, 3, 4, 5, 6, 7, 8, 9, 10, 11, 12, 13, 14, 15] rfl rfl rfl dX9_endsWithCup_20 rfl

theorem dAX9_bestCup : ∀ q ∈ ([(0, (.aload_n 0, 1)), (1, (.invokevirtual 153, 3)), (4, (.ifCond .ne 5, 3)), (7, (.iconst (-1), 1)), (8, (.ireturn, 1)), (9, (.iconst (-1), 1)), (10, (.istore_n 1, 1)), (11, (.bipush (-2), 2)), (13, (.istore_n 2, 1)), (14, (.iconst 0, 1)), (15, (.istore_n 3, 1)), (16, (.iload_n 3, 1)), (17, (.aload_n 0, 1)), (18, (.getfield 19, 3)), (21, (.getfield 109, 3)), (24, (.if_icmp .ge 42, 3)), (27, (.aload_n 0, 1)), (28, (.getfield 37, 3)), (31, (.iload_n 3, 1)), (32, (.invokevirtual 133, 3)), (35, (.ifCond .eq 11, 3)), (38, (.aload_n 0, 1)), (39, (.iload_n 3, 1)), (40, (.invokevirtual 238, 3)), (43, (.goto 4, 3)), (46, (.iconst (-1), 1)), (47, (.istore 4, 2)), (49, (.iload 4, 2)), (51, (.iload_n 1, 1)), (52, (.if_icmp .le 8, 3)), (55, (.iload 4, 2)), (57, (.istore_n 1, 1)), (58, (.iload_n 3, 1)), (59, (.istore_n 2, 1)), (60, (.iinc 3 1, 3)), (63, (.goto (-47), 3)), (66, (.iload_n 2, 1)), (67, (.ireturn, 1))] : List (Nat × (Instr × Nat))), decode cX9_bestCup q.1 = .ok q.2 := by decide +kernel
theorem dX9_bestCup_0 : decode cX9_bestCup 0 = .ok (.aload_n 0, 1) := dAX9_bestCup (0, (.aload_n 0, 1)) (List.mem_of_getElem? (i := 0) rfl)
theorem dX9_bestCup_1 : decode cX9_bestCup 1 = .ok (.invokevirtual 153, 3) := dAX9_bestCup (1, (.invokevirtual 153, 3)) (List.mem_of_getElem? (i := 1) rfl)
theorem dX9_bestCup_4 : decode cX9_bestCup 4 = .ok (.ifCond .ne 5, 3) := dAX9_bestCup (4, (.ifCond .ne 5, 3)) (List.mem_of_getElem? (i := 2) rfl)
theorem dX9_bestCup_7 : decode cX9_bestCup 7 = .ok (.iconst (-1), 1) := dAX9_bestCup (7, (.iconst (-1), 1)) (List.mem_of_getElem? (i := 3) rfl)
theorem dX9_bestCup_8 : decode cX9_bestCup 8 = .ok (.ireturn, 1) := dAX9_bestCup (8, (.ireturn, 1)) (List.mem_of_getElem? (i := 4) rfl)
theorem dX9_bestCup_9 : decode cX9_bestCup 9 = .ok (.iconst (-1), 1) := dAX9_bestCup (9, (.iconst (-1), 1)) (List.mem_of_getElem? (i := 5) rfl)
theorem dX9_bestCup_10 : decode cX9_bestCup 10 = .ok (.istore_n 1, 1) := dAX9_bestCup (10, (.istore_n 1, 1)) (List.mem_of_getElem? (i := 6) rfl)
theorem dX9_bestCup_11 : decode cX9_bestCup 11 = .ok (.bipush (-2), 2) := dAX9_bestCup (11, (.bipush (-2), 2)) (List.mem_of_getElem? (i := 7) rfl)
theorem dX9_bestCup_13 : decode cX9_bestCup 13 = .ok (.istore_n 2, 1) := dAX9_bestCup (13, (.istore_n 2, 1)) (List.mem_of_getElem? (i := 8) rfl)
theorem dX9_bestCup_14 : decode cX9_bestCup 14 = .ok (.iconst 0, 1) := dAX9_bestCup (14, (.iconst 0, 1)) (List.mem_of_getElem? (i := 9) rfl)
theorem dX9_bestCup_15 : decode cX9_bestCup 15 = .ok (.istore_n 3, 1) := dAX9_bestCup (15, (.istore_n 3, 1)) (List.mem_of_getElem? (i := 10) rfl)
theorem dX9_bestCup_16 : decode cX9_bestCup 16 = .ok (.iload_n 3, 1) := dAX9_bestCup (16, (.iload_n 3, 1)) (List.mem_of_getElem? (i := 11) rfl)
theorem dX9_bestCup_17 : decode cX9_bestCup 17 = .ok (.aload_n 0, 1) := dAX9_bestCup (17, (.aload_n 0, 1)) (List.mem_of_getElem? (i := 12) rfl)
theorem dX9_bestCup_18 : decode cX9_bestCup 18 = .ok (.getfield 19, 3) := dAX9_bestCup (18, (.getfield 19, 3)) (List.mem_of_getElem? (i := 13) rfl)
theorem dX9_bestCup_21 : decode cX9_bestCup 21 = .ok (.getfield 109, 3) := dAX9_bestCup (21, (.getfield 109, 3)) (List.mem_of_getElem? (i := 14) rfl)
theorem dX9_bestCup_24 : decode cX9_bestCup 24 = .ok (.if_icmp .ge 42, 3) := dAX9_bestCup (24, (.if_icmp .ge 42, 3)) (List.mem_of_getElem? (i := 15) rfl)
theorem dX9_bestCup_27 : decode cX9_bestCup 27 = .ok (.aload_n 0, 1) := dAX9_bestCup (27, (.aload_n 0, 1)) (List.mem_of_getElem? (i := 16) rfl)
theorem dX9_bestCup_28 : decode cX9_bestCup 28 = .ok (.getfield 37, 3) := dAX9_bestCup (28, (.getfield 37, 3)) (List.mem_of_getElem? (i := 17) rfl)
theorem dX9_bestCup_31 : decode cX9_bestCup 31 = .ok (.iload_n 3, 1) := dAX9_bestCup (31, (.iload_n 3, 1)) (List.mem_of_getElem? (i := 18) rfl)
theorem dX9_bestCup_32 : decode cX9_bestCup 32 = .ok (.invokevirtual 133, 3) := dAX9_bestCup (32, (.invokevirtual 133, 3)) (List.mem_of_getElem? (i := 19) rfl)
theorem dX9_bestCup_35 : decode cX9_bestCup 35 = .ok (.ifCond .eq 11, 3) := dAX9_bestCup (35, (.ifCond .eq 11, 3)) (List.mem_of_getElem? (i := 20) rfl)
theorem dX9_bestCup_38 : decode cX9_bestCup 38 = .ok (.aload_n 0, 1) := dAX9_bestCup (38, (.aload_n 0, 1)) (List.mem_of_getElem? (i := 21) rfl)
theorem dX9_bestCup_39 : decode cX9_bestCup 39 = .ok (.iload_n 3, 1) := dAX9_bestCup (39, (.iload_n 3, 1)) (List.mem_of_getElem? (i := 22) rfl)
theorem dX9_bestCup_40 : decode cX9_bestCup 40 = .ok (.invokevirtual 238, 3) := dAX9_bestCup (40, (.invokevirtual 238, 3)) (List.mem_of_getElem? (i := 23) rfl)
theorem dX9_bestCup_43 : decode cX9_bestCup 43 = .ok (.goto 4, 3) := dAX9_bestCup (43, (.goto 4, 3)) (List.mem_of_getElem? (i := 24) rfl)
theorem dX9_bestCup_46 : decode cX9_bestCup 46 = .ok (.iconst (-1), 1) := dAX9_bestCup (46, (.iconst (-1), 1)) (List.mem_of_getElem? (i := 25) rfl)
theorem dX9_bestCup_47 : decode cX9_bestCup 47 = .ok (.istore 4, 2) := dAX9_bestCup (47, (.istore 4, 2)) (List.mem_of_getElem? (i := 26) rfl)
theorem dX9_bestCup_49 : decode cX9_bestCup 49 = .ok (.iload 4, 2) := dAX9_bestCup (49, (.iload 4, 2)) (List.mem_of_getElem? (i := 27) rfl)
theorem dX9_bestCup_51 : decode cX9_bestCup 51 = .ok (.iload_n 1, 1) := dAX9_bestCup (51, (.iload_n 1, 1)) (List.mem_of_getElem? (i := 28) rfl)
theorem dX9_bestCup_52 : decode cX9_bestCup 52 = .ok (.if_icmp .le 8, 3) := dAX9_bestCup (52, (.if_icmp .le 8, 3)) (List.mem_of_getElem? (i := 29) rfl)
theorem dX9_bestCup_55 : decode cX9_bestCup 55 = .ok (.iload 4, 2) := dAX9_bestCup (55, (.iload 4, 2)) (List.mem_of_getElem? (i := 30) rfl)
theorem dX9_bestCup_57 : decode cX9_bestCup 57 = .ok (.istore_n 1, 1) := dAX9_bestCup (57, (.istore_n 1, 1)) (List.mem_of_getElem? (i := 31) rfl)
theorem dX9_bestCup_58 : decode cX9_bestCup 58 = .ok (.iload_n 3, 1) := dAX9_bestCup (58, (.iload_n 3, 1)) (List.mem_of_getElem? (i := 32) rfl)
theorem dX9_bestCup_59 : decode cX9_bestCup 59 = .ok (.istore_n 2, 1) := dAX9_bestCup (59, (.istore_n 2, 1)) (List.mem_of_getElem? (i := 33) rfl)
theorem dX9_bestCup_60 : decode cX9_bestCup 60 = .ok (.iinc 3 1, 3) := dAX9_bestCup (60, (.iinc 3 1, 3)) (List.mem_of_getElem? (i := 34) rfl)
theorem dX9_bestCup_63 : decode cX9_bestCup 63 = .ok (.goto (-47), 3) := dAX9_bestCup (63, (.goto (-47), 3)) (List.mem_of_getElem? (i := 35) rfl)
theorem dX9_bestCup_66 : decode cX9_bestCup 66 = .ok (.iload_n 2, 1) := dAX9_bestCup (66, (.iload_n 2, 1)) (List.mem_of_getElem? (i := 36) rfl)
theorem dX9_bestCup_67 : decode cX9_bestCup 67 = .ok (.ireturn, 1) := dAX9_bestCup (67, (.ireturn, 1)) (List.mem_of_getElem? (i := 37) rfl)
set_option maxRecDepth 20000 in
theorem ggX9_bestCup_X9_asked : GoodIn wsX9_bestCup wsX9_asked := goodIn_r _ [8, 9, 10, 88, 89, 90, 91, 92, 93, 94, 95, 96, 97, 98, 99, 100, 101, 102] rfl (by decide +kernel)
set_option maxRecDepth 20000 in
theorem gX9_bestCup_X9_asked : GoodIn wsX9_bestCup (wsV RX9 153 RX9 yX9_asked wsX9_asked) := goodIn_app (goodIn_of _ (by decide +kernel)) ggX9_bestCup_X9_asked
set_option maxRecDepth 20000 in
theorem ggX9_bestCup_X2_has : GoodIn wsX9_bestCup wsX2_has := goodIn_r _ [15, 16, 17, 7, 18, 120, 121, 122, 123, 124, 125, 126, 127, 128] rfl (by decide +kernel)
set_option maxRecDepth 20000 in
theorem gX9_bestCup_X2_has : GoodIn wsX9_bestCup (wsV RX9 133 RX2 yX2_has wsX2_has) := goodIn_app (goodIn_of _ (by decide +kernel)) ggX9_bestCup_X2_has
set_option maxRecDepth 20000 in
theorem ggX9_bestCup_X9_endsWoken : GoodIn wsX9_bestCup wsX9_endsWoken := goodIn_r _ [22, 23, 3, 24, 1, 25, 26, 27, 28, 29, 14, 30, 31, 16, 32, 33, 34, 35, 36, 37, 38, 39, 40, 41, 42, 43, 44, 45, 46, 47, 48, 49, 50, 51, 52, 53, 54, 55, 56, 57, 58, 59, 60, 61, 62, 63, 64, 65, 66, 67, 68, 69, 70, 71, 72, 73, 74, 75, 76, 77, 78, 79, 80, 81, 82, 83, 84, 85, 86, 87, 88, 89, 90, 91, 92, 93, 94, 95, 96, 97, 98, 99, 100, 101, 102, 120, 121, 122, 123, 124, 125, 126, 127, 128, 103, 104, 105, 106, 107, 108, 109, 110, 111, 112, 113, 114, 115, 116, 117, 118, 119, 129, 130] rfl (by decide +kernel)
set_option maxRecDepth 20000 in
theorem gX9_bestCup_X9_endsWoken : GoodIn wsX9_bestCup (wsV RX9 238 RX9 yX9_endsWoken wsX9_endsWoken) := goodIn_app (goodIn_of _ (by decide +kernel)) ggX9_bestCup_X9_endsWoken
theorem kX9_bestCup_19 : Cond.fieldLink RX9 19 "EveningVow" "told" "LEveningVow$House;" ∈ wsX9_bestCup := List.mem_of_getElem? (i := 1) rfl
theorem iX9_bestCup_X9 : ∀ w ∈ u_ws RX9 TX9 15, w ∈ wsX9_bestCup := fun w h => (List.mem_cons_of_mem _ (List.mem_append_left _ (List.mem_append_left _ (List.mem_append_left _ (List.mem_append_right _ h)))))
theorem kX9_bestCup_109 : Cond.fieldLink RX9 109 "EveningVow$House" "guests" "I" ∈ wsX9_bestCup := List.mem_of_getElem? (i := 2) rfl
theorem iX9_bestCup_X1 : ∀ w ∈ u_ws RX1 TX1 17, w ∈ wsX9_bestCup := fun w h => (List.mem_cons_of_mem _ (List.mem_append_left _ (List.mem_append_left _ (List.mem_append_right _ h))))
theorem kX9_bestCup_37 : Cond.fieldLink RX9 37 "EveningVow" "now" "LEveningVow$Night;" ∈ wsX9_bestCup := List.mem_of_getElem? (i := 3) rfl
set_option maxHeartbeats 4000000 in
set_option maxRecDepth 100000 in
theorem wX9_bestCup_L16 {p : Program} {l : Launch} {e : Env} {s : State} {m : MethodId} {args : Array Value} {below : List Frame} {meth : Method} {c : Code} {g : GG} {A : Nat → Prop} (C0 : Cx p s m args meth c cX9_bestCup 5 (some .int) RX9 wsX9_bestCup g A) (a_t : Nat) (p_t : Nat → Nat) (p_t_1 : Nat → Nat) (p_t_5 : Nat → Nat) (p_t_6 : Nat → Nat) (p_t_7 : Nat → Nat) (n : Nat) (o_t : Nat → Int32) (o_t_1 : Nat → Int32) (f_t_1_4 : Nat → Int32) (f_t_1_6 : Nat → Int32) (f_t_1_7 : Nat → Int32) (f_t_1_10 : Nat → Int32) (f_t_1_11 : Nat → Int32) (f_t_1_12 : Nat → Int32) (o_t_5 : Nat → Int32) (f_t_5_6 : Nat → Int32) (f_t_5_7 : Nat → Int32)  (r : Int32) (o_t' : Nat → Int32) (o_t_6' : Nat → Int32) (f_t_6_6' : Nat → Int32) (f_t_6_7' : Nat → Int32) (f_t_6_8' : Nat → Int32) (o_t_7' : Nat → Int32) (K : Int32 → (Nat → Int32) → (Nat → Int32) → (Nat → Int32) → (Nat → Int32) → (Nat → Int32) → Option (Int32 × (Nat → Int32) × (Nat → Int32) × (Nat → Int32) × (Nat → Int32) × (Nat → Int32) × (Nat → Int32))) (hKx : ∀ (x2 : Int32) (o_t_6 : Nat → Int32) (f_t_6_6 : Nat → Int32) (f_t_6_7 : Nat → Int32) (f_t_6_8 : Nat → Int32) (o_t_7 : Nat → Int32) (H : Heap) (locs : List Loc) (ls : Array Slot), K x2 o_t_6 f_t_6_6 f_t_6_7 f_t_6_8 o_t_7 = some (r, o_t', o_t_6', f_t_6_6', f_t_6_7', f_t_6_8', o_t_7') → va_P g.1 vwCl [oX9 a_t p_t o_t, oX1 (p_t 1) p_t_1 o_t_1, aI g (p_t_1 4) 7 f_t_1_4, aI g (p_t_1 6) 7 f_t_1_6, aI g (p_t_1 7) 7 f_t_1_7, aI g (p_t_1 10) 8 f_t_1_10, aI g (p_t_1 11) 8 f_t_1_11, aI g (p_t_1 12) 8 f_t_1_12, oX2 (p_t 5) p_t_5 o_t_5, aI g (p_t_5 6) 7 f_t_5_6, aI g (p_t_5 7) 7 f_t_5_7, oX2 (p_t 6) p_t_6 o_t_6, aI g (p_t_6 6) 7 f_t_6_6, aI g (p_t_6 7) 7 f_t_6_7, aI g (p_t_6 8) 7 f_t_6_8, oX3 (p_t 7) p_t_7 o_t_7] H → va_D A [oX9 a_t p_t o_t, oX1 (p_t 1) p_t_1 o_t_1, aI g (p_t_1 4) 7 f_t_1_4, aI g (p_t_1 6) 7 f_t_1_6, aI g (p_t_1 7) 7 f_t_1_7, aI g (p_t_1 10) 8 f_t_1_10, aI g (p_t_1 11) 8 f_t_1_11, aI g (p_t_1 12) 8 f_t_1_12, oX2 (p_t 5) p_t_5 o_t_5, aI g (p_t_5 6) 7 f_t_5_6, aI g (p_t_5 7) 7 f_t_5_7, oX2 (p_t 6) p_t_6 o_t_6, aI g (p_t_6 6) 7 f_t_6_6, aI g (p_t_6 7) 7 f_t_6_7, aI g (p_t_6 8) 7 f_t_6_8, oX3 (p_t 7) p_t_7 o_t_7] → va_S A s.heap H locs → lv_has ls 5 [(2, .int x2)] → W p l e ({ frames := 5, cells := 0, slots := 0, locals := 116 } : Room) s m args below meth c H locs 0 0 (MQ below (EndI g r [oX9 a_t p_t o_t', oX1 (p_t 1) p_t_1 o_t_1, aI g (p_t_1 4) 7 f_t_1_4, aI g (p_t_1 6) 7 f_t_1_6, aI g (p_t_1 7) 7 f_t_1_7, aI g (p_t_1 10) 8 f_t_1_10, aI g (p_t_1 11) 8 f_t_1_11, aI g (p_t_1 12) 8 f_t_1_12, oX2 (p_t 5) p_t_5 o_t_5, aI g (p_t_5 6) 7 f_t_5_6, aI g (p_t_5 7) 7 f_t_5_7, oX2 (p_t 6) p_t_6 o_t_6', aI g (p_t_6 6) 7 f_t_6_6', aI g (p_t_6 7) 7 f_t_6_7', aI g (p_t_6 8) 7 f_t_6_8', oX3 (p_t 7) p_t_7 o_t_7'] A) args s 0 0 A) (F0 m 66 ls [])) : ∀ (k : Nat) (x1 : Int32) (x2 : Int32) (x3 : Int32) (o_t_6 : Nat → Int32) (f_t_6_6 : Nat → Int32) (f_t_6_7 : Nat → Int32) (f_t_6_8 : Nat → Int32) (o_t_7 : Nat → Int32), fX9_bestCup_L16 n o_t o_t_1 f_t_1_4 f_t_1_6 f_t_1_7 f_t_1_10 f_t_1_11 f_t_1_12 o_t_5 f_t_5_6 f_t_5_7 K k x1 x2 x3 o_t_6 f_t_6_6 f_t_6_7 f_t_6_8 o_t_7 = some (r, o_t', o_t_6', f_t_6_6', f_t_6_7', f_t_6_8', o_t_7') → ∀ (H : Heap) (locs : List Loc) (ls : Array Slot), va_P g.1 vwCl [oX9 a_t p_t o_t, oX1 (p_t 1) p_t_1 o_t_1, aI g (p_t_1 4) 7 f_t_1_4, aI g (p_t_1 6) 7 f_t_1_6, aI g (p_t_1 7) 7 f_t_1_7, aI g (p_t_1 10) 8 f_t_1_10, aI g (p_t_1 11) 8 f_t_1_11, aI g (p_t_1 12) 8 f_t_1_12, oX2 (p_t 5) p_t_5 o_t_5, aI g (p_t_5 6) 7 f_t_5_6, aI g (p_t_5 7) 7 f_t_5_7, oX2 (p_t 6) p_t_6 o_t_6, aI g (p_t_6 6) 7 f_t_6_6, aI g (p_t_6 7) 7 f_t_6_7, aI g (p_t_6 8) 7 f_t_6_8, oX3 (p_t 7) p_t_7 o_t_7] H → va_D A [oX9 a_t p_t o_t, oX1 (p_t 1) p_t_1 o_t_1, aI g (p_t_1 4) 7 f_t_1_4, aI g (p_t_1 6) 7 f_t_1_6, aI g (p_t_1 7) 7 f_t_1_7, aI g (p_t_1 10) 8 f_t_1_10, aI g (p_t_1 11) 8 f_t_1_11, aI g (p_t_1 12) 8 f_t_1_12, oX2 (p_t 5) p_t_5 o_t_5, aI g (p_t_5 6) 7 f_t_5_6, aI g (p_t_5 7) 7 f_t_5_7, oX2 (p_t 6) p_t_6 o_t_6, aI g (p_t_6 6) 7 f_t_6_6, aI g (p_t_6 7) 7 f_t_6_7, aI g (p_t_6 8) 7 f_t_6_8, oX3 (p_t 7) p_t_7 o_t_7] → va_S A s.heap H locs → lv_has ls 5 [(0, .ref a_t), (1, .int x1), (2, .int x2), (3, .int x3)] → W p l e ({ frames := 5, cells := 0, slots := 0, locals := 116 } : Room) s m args below meth c H locs 0 0 (MQ below (EndI g r [oX9 a_t p_t o_t', oX1 (p_t 1) p_t_1 o_t_1, aI g (p_t_1 4) 7 f_t_1_4, aI g (p_t_1 6) 7 f_t_1_6, aI g (p_t_1 7) 7 f_t_1_7, aI g (p_t_1 10) 8 f_t_1_10, aI g (p_t_1 11) 8 f_t_1_11, aI g (p_t_1 12) 8 f_t_1_12, oX2 (p_t 5) p_t_5 o_t_5, aI g (p_t_5 6) 7 f_t_5_6, aI g (p_t_5 7) 7 f_t_5_7, oX2 (p_t 6) p_t_6 o_t_6', aI g (p_t_6 6) 7 f_t_6_6', aI g (p_t_6 7) 7 f_t_6_7', aI g (p_t_6 8) 7 f_t_6_8', oX3 (p_t 7) p_t_7 o_t_7'] A) args s 0 0 A) (F0 m 16 ls []) := by
  obtain ⟨hx, hb, hml, hown, hts, hr, hlk, hK, hA, hSW⟩ := id C0
  intro k
  induction k with
  | zero =>
    intro x1 x2 x3 o_t_6 f_t_6_6 f_t_6_7 f_t_6_8 o_t_7 hF
    exact absurd hF (by simp [fX9_bestCup_L16])
  | succ k ih =>
    intro x1 x2 x3 o_t_6 f_t_6_6 f_t_6_7 f_t_6_8 o_t_7 hF H locs ls hP hD hS hl
    rw [fX9_bestCup_L16] at hF
    refine lv_iload_n hx hb dX9_bestCup_16 rfl (lv_at hl 3 rfl) ?_
    refine lv_aload_n hx hb dX9_bestCup_17 rfl (lv_at hl 0 rfl) ?_
    refine va_get (D := g.1) (ci := 9) (v := .ref (p_t 1)) (C := RX9) (T := TX9) (N := 15) hx hb hts iX9_bestCup_X9 hown hK.1 hP 0 rfl rfl 1 (by decide) (hts _ kX9_bestCup_19) (fun _ h9 => h9) rfl dX9_bestCup_18 ?_
    refine va_get (D := g.1) (ci := 1) (v := .int (o_t_1 3)) (C := RX1) (T := TX1) (N := 17) hx hb hts iX9_bestCup_X1 hown hK.1 hP 1 rfl rfl 3 (by decide) (hts _ kX9_bestCup_109) (fun _ h9 => h9) rfl dX9_bestCup_21 ?_
    refine lv_icmp_ge (tgt := 66) hx hb dX9_bestCup_24 (by decide) (fun c_5 => ?_) (fun c_5 => ?_)
    · have hF := it_p c_5 hF
      exact hKx x2 o_t_6 f_t_6_6 f_t_6_7 f_t_6_8 o_t_7 _ _ _ hF (hP.sub [0, 1, 2, 3, 4, 5, 6, 7, 8, 9, 10, 11, 12, 13, 14, 15] rfl) (hD.sub [0, 1, 2, 3, 4, 5, 6, 7, 8, 9, 10, 11, 12, 13, 14, 15] rfl rfl) hS (lv_sub hl [2] rfl)
    · have hF := it_n c_5 hF
      refine lv_aload_n hx hb dX9_bestCup_27 rfl (lv_at hl 0 rfl) ?_
      refine va_get (D := g.1) (ci := 9) (v := .ref (p_t 5)) (C := RX9) (T := TX9) (N := 15) hx hb hts iX9_bestCup_X9 hown hK.1 hP 0 rfl rfl 5 (by decide) (hts _ kX9_bestCup_37) (fun _ h9 => h9) rfl dX9_bestCup_28 ?_
      refine lv_iload_n hx hb dX9_bestCup_31 rfl (lv_at hl 3 rfl) ?_
      obtain ⟨u_6, hu_7, hF⟩ := ob1_some hF
      refine call_i (wr := [oX9 a_t p_t o_t, oX1 (p_t 1) p_t_1 o_t_1, aI g (p_t_1 4) 7 f_t_1_4, aI g (p_t_1 6) 7 f_t_1_6, aI g (p_t_1 7) 7 f_t_1_7, aI g (p_t_1 10) 8 f_t_1_10, aI g (p_t_1 11) 8 f_t_1_11, aI g (p_t_1 12) 8 f_t_1_12, aI g (p_t_5 6) 7 f_t_5_6, aI g (p_t_5 7) 7 f_t_5_7, oX2 (p_t 6) p_t_6 o_t_6, aI g (p_t_6 6) 7 f_t_6_6, aI g (p_t_6 7) 7 f_t_6_7, aI g (p_t_6 8) 7 f_t_6_8, oX3 (p_t 7) p_t_7 o_t_7]) (As := [.int x3]) (rest := []) (ci := 2) (q0 := 0) C0 (mX2_has l g (p_t 5) p_t_5 n x3 o_t_5 u_6 hu_7) (cwV 1 hts gX9_bestCup_X2_has rfl rfl rfl (by decide +kernel) ⟨Nat.le_of_ble_eq_true rfl, Nat.le_of_ble_eq_true rfl⟩) hP hD hS [8] [0, 1, 2, 3, 4, 5, 6, 7, 9, 10, 11, 12, 13, 14, 15] rfl rfl rfl rfl rfl (by decide) rfl rfl hl.1 rfl rfl (Nat.le_of_ble_eq_true rfl) ⟨Nat.zero_le _, Nat.zero_le _⟩ dX9_bestCup_32 ?_
      intro H locs hP hD hS
      refine lv_if_eq (tgt := 46) hx hb dX9_bestCup_35 (by decide) (fun c_8 => ?_) (fun c_8 => ?_)
      · have hF := it_p c_8 hF
        refine lv_iconst (v := (-1 : Int32)) hx hb dX9_bestCup_46 (by decide) ?_
        refine lv_istore (lv' := [(4, .int (-1 : Int32)), (0, .ref a_t), (1, .int x1), (2, .int x2), (3, .int x3)]) hx hb dX9_bestCup_47 hl (by decide) rfl (fun ls hl => ?_)
        refine lv_iload hx hb dX9_bestCup_49 (lv_at hl 0 rfl) ?_
        refine lv_iload_n hx hb dX9_bestCup_51 rfl (lv_at hl 2 rfl) ?_
        refine lv_icmp_le (tgt := 60) hx hb dX9_bestCup_52 (by decide) (fun c_9 => ?_) (fun c_9 => ?_)
        · have hF := it_p c_9 hF
          refine lv_iinc (v := (x3 + (1 : Int32))) (lv' := [(3, .int (x3 + (1 : Int32))), (4, .int (-1 : Int32)), (0, .ref a_t), (1, .int x1), (2, .int x2)]) hx hb dX9_bestCup_60 hl (k := 4) rfl rfl (by decide) rfl (fun ls hl => ?_)
          refine lv_goto (tgt := 16) hx hb dX9_bestCup_63 (by decide) ?_
          exact ih x1 x2 (x3 + (1 : Int32)) o_t_6 f_t_6_6 f_t_6_7 f_t_6_8 o_t_7 hF _ _ _ (hP.sub [0, 1, 2, 3, 4, 5, 6, 7, 15, 8, 9, 10, 11, 12, 13, 14] rfl) (hD.sub [0, 1, 2, 3, 4, 5, 6, 7, 15, 8, 9, 10, 11, 12, 13, 14] rfl rfl) hS (lv_sub hl [2, 3, 4, 0] rfl)
        · have hF := it_n c_9 hF
          refine lv_iload hx hb dX9_bestCup_55 (lv_at hl 0 rfl) ?_
          refine lv_istore_n (lv' := [(1, .int (-1 : Int32)), (4, .int (-1 : Int32)), (0, .ref a_t), (2, .int x2), (3, .int x3)]) hx hb dX9_bestCup_57 rfl hl (by decide) rfl (fun ls hl => ?_)
          refine lv_iload_n hx hb dX9_bestCup_58 rfl (lv_at hl 4 rfl) ?_
          refine lv_istore_n (lv' := [(2, .int x3), (1, .int (-1 : Int32)), (4, .int (-1 : Int32)), (0, .ref a_t), (3, .int x3)]) hx hb dX9_bestCup_59 rfl hl (by decide) rfl (fun ls hl => ?_)
          refine lv_iinc (v := (x3 + (1 : Int32))) (lv' := [(3, .int (x3 + (1 : Int32))), (2, .int x3), (1, .int (-1 : Int32)), (4, .int (-1 : Int32)), (0, .ref a_t)]) hx hb dX9_bestCup_60 hl (k := 4) rfl rfl (by decide) rfl (fun ls hl => ?_)
          refine lv_goto (tgt := 16) hx hb dX9_bestCup_63 (by decide) ?_
          exact ih (-1 : Int32) x3 (x3 + (1 : Int32)) o_t_6 f_t_6_6 f_t_6_7 f_t_6_8 o_t_7 hF _ _ _ (hP.sub [0, 1, 2, 3, 4, 5, 6, 7, 15, 8, 9, 10, 11, 12, 13, 14] rfl) (hD.sub [0, 1, 2, 3, 4, 5, 6, 7, 15, 8, 9, 10, 11, 12, 13, 14] rfl rfl) hS (lv_sub hl [4, 2, 1, 0] rfl)
      · have hF := it_n c_8 hF
        refine lv_aload_n hx hb dX9_bestCup_38 rfl (lv_at hl 0 rfl) ?_
        refine lv_iload_n hx hb dX9_bestCup_39 rfl (lv_at hl 3 rfl) ?_
        obtain ⟨u_10, u_11, u_12, u_13, u_14, u_15, hu_16, hF⟩ := ob6_some hF
        refine call_i (wr := []) (As := [.int x3]) (rest := []) (ci := 9) (q0 := 0) C0 (mX9_endsWoken l g a_t p_t p_t_1 p_t_5 p_t_6 p_t_7 n x3 o_t o_t_1 f_t_1_4 f_t_1_6 f_t_1_7 f_t_1_10 f_t_1_11 f_t_1_12 o_t_5 f_t_5_6 f_t_5_7 o_t_6 f_t_6_6 f_t_6_7 f_t_6_8 o_t_7 u_10 u_11 u_12 u_13 u_14 u_15 hu_16) (cwV 1 hts gX9_bestCup_X9_endsWoken rfl rfl rfl (by decide +kernel) ⟨Nat.le_of_ble_eq_true rfl, Nat.le_of_ble_eq_true rfl⟩) hP hD hS [0, 1, 2, 3, 4, 5, 6, 7, 15, 8, 9, 10, 11, 12, 13, 14] [] rfl rfl rfl rfl rfl (by decide) rfl rfl hl.1 rfl rfl (Nat.le_of_ble_eq_true rfl) ⟨Nat.zero_le _, Nat.zero_le _⟩ dX9_bestCup_40 ?_
        intro H locs hP hD hS
        refine lv_goto (tgt := 47) hx hb dX9_bestCup_43 (by decide) ?_
        refine lv_istore (lv' := [(4, .int u_10), (0, .ref a_t), (1, .int x1), (2, .int x2), (3, .int x3)]) hx hb dX9_bestCup_47 hl (by decide) rfl (fun ls hl => ?_)
        refine lv_iload hx hb dX9_bestCup_49 (lv_at hl 0 rfl) ?_
        refine lv_iload_n hx hb dX9_bestCup_51 rfl (lv_at hl 2 rfl) ?_
        refine lv_icmp_le (tgt := 60) hx hb dX9_bestCup_52 (by decide) (fun c_17 => ?_) (fun c_17 => ?_)
        · have hF := it_p c_17 hF
          refine lv_iinc (v := (x3 + (1 : Int32))) (lv' := [(3, .int (x3 + (1 : Int32))), (4, .int u_10), (0, .ref a_t), (1, .int x1), (2, .int x2)]) hx hb dX9_bestCup_60 hl (k := 4) rfl rfl (by decide) rfl (fun ls hl => ?_)
          refine lv_goto (tgt := 16) hx hb dX9_bestCup_63 (by decide) ?_
          exact ih x1 x2 (x3 + (1 : Int32)) u_11 u_12 u_13 u_14 u_15 hF _ _ _ (hP.sub [0, 1, 2, 3, 4, 5, 6, 7, 8, 9, 10, 11, 12, 13, 14, 15] rfl) (hD.sub [0, 1, 2, 3, 4, 5, 6, 7, 8, 9, 10, 11, 12, 13, 14, 15] rfl rfl) hS (lv_sub hl [2, 3, 4, 0] rfl)
        · have hF := it_n c_17 hF
          refine lv_iload hx hb dX9_bestCup_55 (lv_at hl 0 rfl) ?_
          refine lv_istore_n (lv' := [(1, .int u_10), (4, .int u_10), (0, .ref a_t), (2, .int x2), (3, .int x3)]) hx hb dX9_bestCup_57 rfl hl (by decide) rfl (fun ls hl => ?_)
          refine lv_iload_n hx hb dX9_bestCup_58 rfl (lv_at hl 4 rfl) ?_
          refine lv_istore_n (lv' := [(2, .int x3), (1, .int u_10), (4, .int u_10), (0, .ref a_t), (3, .int x3)]) hx hb dX9_bestCup_59 rfl hl (by decide) rfl (fun ls hl => ?_)
          refine lv_iinc (v := (x3 + (1 : Int32))) (lv' := [(3, .int (x3 + (1 : Int32))), (2, .int x3), (1, .int u_10), (4, .int u_10), (0, .ref a_t)]) hx hb dX9_bestCup_60 hl (k := 4) rfl rfl (by decide) rfl (fun ls hl => ?_)
          refine lv_goto (tgt := 16) hx hb dX9_bestCup_63 (by decide) ?_
          exact ih u_10 x3 (x3 + (1 : Int32)) u_11 u_12 u_13 u_14 u_15 hF _ _ _ (hP.sub [0, 1, 2, 3, 4, 5, 6, 7, 8, 9, 10, 11, 12, 13, 14, 15] rfl) (hD.sub [0, 1, 2, 3, 4, 5, 6, 7, 8, 9, 10, 11, 12, 13, 14, 15] rfl rfl) hS (lv_sub hl [4, 2, 1, 0] rfl)
set_option maxHeartbeats 4000000 in
set_option maxRecDepth 100000 in
theorem mX9_bestCup (l : Launch) (g : GG) (a_t : Nat) (p_t : Nat → Nat) (p_t_1 : Nat → Nat) (p_t_5 : Nat → Nat) (p_t_6 : Nat → Nat) (p_t_7 : Nat → Nat) (n : Nat) (o_t : Nat → Int32) (o_t_1 : Nat → Int32) (f_t_1_4 : Nat → Int32) (f_t_1_6 : Nat → Int32) (f_t_1_7 : Nat → Int32) (f_t_1_10 : Nat → Int32) (f_t_1_11 : Nat → Int32) (f_t_1_12 : Nat → Int32) (o_t_5 : Nat → Int32) (f_t_5_6 : Nat → Int32) (f_t_5_7 : Nat → Int32) (o_t_6 : Nat → Int32) (f_t_6_6 : Nat → Int32) (f_t_6_7 : Nat → Int32) (f_t_6_8 : Nat → Int32) (o_t_7 : Nat → Int32) (r : Int32) (o_t' : Nat → Int32) (o_t_6' : Nat → Int32) (f_t_6_6' : Nat → Int32) (f_t_6_7' : Nat → Int32) (f_t_6_8' : Nat → Int32) (o_t_7' : Nat → Int32) (hF : fX9_bestCup n o_t o_t_1 f_t_1_4 f_t_1_6 f_t_1_7 f_t_1_10 f_t_1_11 f_t_1_12 o_t_5 f_t_5_6 f_t_5_7 o_t_6 f_t_6_6 f_t_6_7 f_t_6_8 o_t_7 = some (r, o_t', o_t_6', f_t_6_6', f_t_6_7', f_t_6_8', o_t_7')) : MI l g yX9_bestCup wsX9_bestCup ({ frames := 5, cells := 0, slots := 0, locals := 116 } : Room) [.ref a_t] [oX9 a_t p_t o_t, oX1 (p_t 1) p_t_1 o_t_1, aI g (p_t_1 4) 7 f_t_1_4, aI g (p_t_1 6) 7 f_t_1_6, aI g (p_t_1 7) 7 f_t_1_7, aI g (p_t_1 10) 8 f_t_1_10, aI g (p_t_1 11) 8 f_t_1_11, aI g (p_t_1 12) 8 f_t_1_12, oX2 (p_t 5) p_t_5 o_t_5, aI g (p_t_5 6) 7 f_t_5_6, aI g (p_t_5 7) 7 f_t_5_7, oX2 (p_t 6) p_t_6 o_t_6, aI g (p_t_6 6) 7 f_t_6_6, aI g (p_t_6 7) 7 f_t_6_7, aI g (p_t_6 8) 7 f_t_6_8, oX3 (p_t 7) p_t_7 o_t_7] r [oX9 a_t p_t o_t', oX1 (p_t 1) p_t_1 o_t_1, aI g (p_t_1 4) 7 f_t_1_4, aI g (p_t_1 6) 7 f_t_1_6, aI g (p_t_1 7) 7 f_t_1_7, aI g (p_t_1 10) 8 f_t_1_10, aI g (p_t_1 11) 8 f_t_1_11, aI g (p_t_1 12) 8 f_t_1_12, oX2 (p_t 5) p_t_5 o_t_5, aI g (p_t_5 6) 7 f_t_5_6, aI g (p_t_5 7) 7 f_t_5_7, oX2 (p_t 6) p_t_6 o_t_6', aI g (p_t_6 6) 7 f_t_6_6', aI g (p_t_6 7) 7 f_t_6_7', aI g (p_t_6 8) 7 f_t_6_8', oX3 (p_t 7) p_t_7 o_t_7'] := by
  refine MI.of (cc := cX9_bestCup) (maxL := 5) (rt := .int) (own := RX9) rfl rfl (by decide) (Nat.le_of_ble_eq_true rfl) ?_
  intro p e s m args below meth c A C0 hP hD hS ls hl
  obtain ⟨hx, hb, hml, hown, hts, hr, hlk, hK, hA, hSW⟩ := id C0
  have hl : lv_has ls 5 [(0, .ref a_t)] := hl
  rw [fX9_bestCup] at hF
  refine lv_aload_n hx hb dX9_bestCup_0 rfl (lv_at hl 0 rfl) ?_
  obtain ⟨u_1, u_2, hu_3, hF⟩ := ob2_some hF
  refine call_i (wr := [oX1 (p_t 1) p_t_1 o_t_1, aI g (p_t_1 4) 7 f_t_1_4, aI g (p_t_1 6) 7 f_t_1_6, aI g (p_t_1 7) 7 f_t_1_7, aI g (p_t_1 10) 8 f_t_1_10, aI g (p_t_1 11) 8 f_t_1_11, aI g (p_t_1 12) 8 f_t_1_12, oX2 (p_t 5) p_t_5 o_t_5, aI g (p_t_5 6) 7 f_t_5_6, aI g (p_t_5 7) 7 f_t_5_7, oX2 (p_t 6) p_t_6 o_t_6, aI g (p_t_6 6) 7 f_t_6_6, aI g (p_t_6 7) 7 f_t_6_7, aI g (p_t_6 8) 7 f_t_6_8, oX3 (p_t 7) p_t_7 o_t_7]) (As := []) (rest := []) (ci := 9) (q0 := 0) C0 (mX9_asked l g a_t p_t n o_t u_1 u_2 hu_3) (cwV 0 hts gX9_bestCup_X9_asked rfl rfl rfl (by decide +kernel) ⟨Nat.le_of_ble_eq_true rfl, Nat.le_of_ble_eq_true rfl⟩) hP hD hS [0] [1, 2, 3, 4, 5, 6, 7, 8, 9, 10, 11, 12, 13, 14, 15] rfl rfl rfl rfl rfl (by decide) rfl rfl hl.1 rfl rfl (Nat.le_of_ble_eq_true rfl) ⟨Nat.zero_le _, Nat.zero_le _⟩ dX9_bestCup_1 ?_
  intro H locs hP hD hS
  refine lv_if_ne (tgt := 9) hx hb dX9_bestCup_4 (by decide) (fun c_4 => ?_) (fun c_4 => ?_)
  · have hF := it_n c_4 hF
    refine lv_iconst (v := (-1 : Int32)) hx hb dX9_bestCup_9 (by decide) ?_
    refine lv_istore_n (lv' := [(1, .int (-1 : Int32)), (0, .ref a_t)]) hx hb dX9_bestCup_10 rfl hl (by decide) rfl (fun ls hl => ?_)
    refine lv_bipush (v := (-2 : Int32)) hx hb dX9_bestCup_11 (by decide) ?_
    refine lv_istore_n (lv' := [(2, .int (-2 : Int32)), (1, .int (-1 : Int32)), (0, .ref a_t)]) hx hb dX9_bestCup_13 rfl hl (by decide) rfl (fun ls hl => ?_)
    refine lv_iconst (v := (0 : Int32)) hx hb dX9_bestCup_14 (by decide) ?_
    refine lv_istore_n (lv' := [(3, .int (0 : Int32)), (2, .int (-2 : Int32)), (1, .int (-1 : Int32)), (0, .ref a_t)]) hx hb dX9_bestCup_15 rfl hl (by decide) rfl (fun ls hl => ?_)
    refine wX9_bestCup_L16 C0 a_t p_t p_t_1 p_t_5 p_t_6 p_t_7 n u_2 o_t_1 f_t_1_4 f_t_1_6 f_t_1_7 f_t_1_10 f_t_1_11 f_t_1_12 o_t_5 f_t_5_6 f_t_5_7 r o_t' o_t_6' f_t_6_6' f_t_6_7' f_t_6_8' o_t_7' _ ?_ n (-1 : Int32) (-2 : Int32) (0 : Int32) o_t_6 f_t_6_6 f_t_6_7 f_t_6_8 o_t_7 hF _ _ _ (hP.sub [15, 0, 1, 2, 3, 4, 5, 6, 7, 8, 9, 10, 11, 12, 13, 14] rfl) (hD.sub [15, 0, 1, 2, 3, 4, 5, 6, 7, 8, 9, 10, 11, 12, 13, 14] rfl rfl) hS (lv_sub hl [3, 2, 1, 0] rfl)
    · intro x2_x16 o_t_6_x16 f_t_6_6_x16 f_t_6_7_x16 f_t_6_8_x16 o_t_7_x16 H locs ls hF hP hD hS hl
      refine lv_iload_n hx hb dX9_bestCup_66 rfl (lv_at hl 0 rfl) ?_
      cases hF
      exact ret_i C0 hP hD hS [0, 1, 2, 3, 4, 5, 6, 7, 8, 9, 10, 11, 12, 13, 14, 15] rfl rfl rfl dX9_bestCup_67 rfl
  · have hF := it_p c_4 hF
    refine lv_iconst (v := (-1 : Int32)) hx hb dX9_bestCup_7 (by decide) ?_
    cases hF
    exact ret_i C0 hP hD hS [15, 0, 1, 2, 3, 4, 5, 6, 7, 8, 9, 10, 11, 12, 13, 14] rfl rfl rfl dX9_bestCup_8 rfl

theorem dAX9_soonest : ∀ q ∈ ([(0, (.aload_n 0, 1)), (1, (.invokevirtual 153, 3)), (4, (.ifCond .ne 5, 3)), (7, (.iconst (-1), 1)), (8, (.ireturn, 1)), (9, (.aload_n 0, 1)), (10, (.getfield 73, 3)), (13, (.aload_n 0, 1)), (14, (.getfield 19, 3)), (17, (.aload_n 0, 1)), (18, (.getfield 37, 3)), (21, (.aload_n 0, 1)), (22, (.getfield 49, 3)), (25, (.invokevirtual 241, 3)), (28, (.aload_n 0, 1)), (29, (.getfield 73, 3)), (32, (.getfield 245, 3)), (35, (.invokestatic 197, 3)), (38, (.ireturn, 1))] : List (Nat × (Instr × Nat))), decode cX9_soonest q.1 = .ok q.2 := by decide +kernel
theorem dX9_soonest_0 : decode cX9_soonest 0 = .ok (.aload_n 0, 1) := dAX9_soonest (0, (.aload_n 0, 1)) (List.mem_of_getElem? (i := 0) rfl)
theorem dX9_soonest_1 : decode cX9_soonest 1 = .ok (.invokevirtual 153, 3) := dAX9_soonest (1, (.invokevirtual 153, 3)) (List.mem_of_getElem? (i := 1) rfl)
theorem dX9_soonest_4 : decode cX9_soonest 4 = .ok (.ifCond .ne 5, 3) := dAX9_soonest (4, (.ifCond .ne 5, 3)) (List.mem_of_getElem? (i := 2) rfl)
theorem dX9_soonest_7 : decode cX9_soonest 7 = .ok (.iconst (-1), 1) := dAX9_soonest (7, (.iconst (-1), 1)) (List.mem_of_getElem? (i := 3) rfl)
theorem dX9_soonest_8 : decode cX9_soonest 8 = .ok (.ireturn, 1) := dAX9_soonest (8, (.ireturn, 1)) (List.mem_of_getElem? (i := 4) rfl)
theorem dX9_soonest_9 : decode cX9_soonest 9 = .ok (.aload_n 0, 1) := dAX9_soonest (9, (.aload_n 0, 1)) (List.mem_of_getElem? (i := 5) rfl)
theorem dX9_soonest_10 : decode cX9_soonest 10 = .ok (.getfield 73, 3) := dAX9_soonest (10, (.getfield 73, 3)) (List.mem_of_getElem? (i := 6) rfl)
theorem dX9_soonest_13 : decode cX9_soonest 13 = .ok (.aload_n 0, 1) := dAX9_soonest (13, (.aload_n 0, 1)) (List.mem_of_getElem? (i := 7) rfl)
theorem dX9_soonest_14 : decode cX9_soonest 14 = .ok (.getfield 19, 3) := dAX9_soonest (14, (.getfield 19, 3)) (List.mem_of_getElem? (i := 8) rfl)
theorem dX9_soonest_17 : decode cX9_soonest 17 = .ok (.aload_n 0, 1) := dAX9_soonest (17, (.aload_n 0, 1)) (List.mem_of_getElem? (i := 9) rfl)
theorem dX9_soonest_18 : decode cX9_soonest 18 = .ok (.getfield 37, 3) := dAX9_soonest (18, (.getfield 37, 3)) (List.mem_of_getElem? (i := 10) rfl)
theorem dX9_soonest_21 : decode cX9_soonest 21 = .ok (.aload_n 0, 1) := dAX9_soonest (21, (.aload_n 0, 1)) (List.mem_of_getElem? (i := 11) rfl)
theorem dX9_soonest_22 : decode cX9_soonest 22 = .ok (.getfield 49, 3) := dAX9_soonest (22, (.getfield 49, 3)) (List.mem_of_getElem? (i := 12) rfl)
theorem dX9_soonest_25 : decode cX9_soonest 25 = .ok (.invokevirtual 241, 3) := dAX9_soonest (25, (.invokevirtual 241, 3)) (List.mem_of_getElem? (i := 13) rfl)
theorem dX9_soonest_28 : decode cX9_soonest 28 = .ok (.aload_n 0, 1) := dAX9_soonest (28, (.aload_n 0, 1)) (List.mem_of_getElem? (i := 14) rfl)
theorem dX9_soonest_29 : decode cX9_soonest 29 = .ok (.getfield 73, 3) := dAX9_soonest (29, (.getfield 73, 3)) (List.mem_of_getElem? (i := 15) rfl)
theorem dX9_soonest_32 : decode cX9_soonest 32 = .ok (.getfield 245, 3) := dAX9_soonest (32, (.getfield 245, 3)) (List.mem_of_getElem? (i := 16) rfl)
theorem dX9_soonest_35 : decode cX9_soonest 35 = .ok (.invokestatic 197, 3) := dAX9_soonest (35, (.invokestatic 197, 3)) (List.mem_of_getElem? (i := 17) rfl)
theorem dX9_soonest_38 : decode cX9_soonest 38 = .ok (.ireturn, 1) := dAX9_soonest (38, (.ireturn, 1)) (List.mem_of_getElem? (i := 18) rfl)
set_option maxRecDepth 20000 in
theorem ggX9_soonest_X9_asked : GoodIn wsX9_soonest wsX9_asked := goodIn_r _ [10, 11, 12, 130, 131, 132, 133, 134, 135, 136, 137, 138, 139, 140, 141, 142, 143, 144] rfl (by decide +kernel)
set_option maxRecDepth 20000 in
theorem gX9_soonest_X9_asked : GoodIn wsX9_soonest (wsV RX9 153 RX9 yX9_asked wsX9_asked) := goodIn_app (goodIn_of _ (by decide +kernel)) ggX9_soonest_X9_asked
set_option maxRecDepth 20000 in
theorem ggX9_soonest_X6_search : GoodIn wsX9_soonest wsX6_search := goodIn_r _ [17, 18, 19, 20, 21, 22, 23, 24, 25, 26, 27, 28, 29, 30, 31, 32, 33, 34, 35, 36, 37, 38, 39, 16, 40, 41, 42, 43, 44, 45, 46, 47, 48, 49, 50, 51, 52, 53, 54, 55, 56, 57, 58, 59, 60, 61, 62, 63, 64, 65, 66, 67, 68, 69, 70, 71, 72, 73, 74, 75, 76, 77, 78, 79, 80, 81, 82, 83, 84, 85, 86, 87, 88, 89, 90, 91, 92, 93, 94, 95, 96, 97, 98, 99, 100, 101, 102, 103, 104, 105, 106, 107, 9, 108, 109, 110, 111, 112, 113, 114, 115, 116, 117, 118, 119, 120, 121, 122, 123, 124, 125, 126, 145, 146, 147, 148, 149, 150, 151, 152, 153, 154, 155, 156, 157, 158, 159, 160, 161, 162, 163, 164, 165, 166, 167, 168, 169, 170, 171, 172, 173, 174, 175, 176, 177, 178, 179] rfl (by decide +kernel)
set_option maxRecDepth 20000 in
theorem gX9_soonest_X6_search : GoodIn wsX9_soonest (wsV RX9 241 RX6 yX6_search wsX6_search) := goodIn_app (goodIn_of _ (by decide +kernel)) ggX9_soonest_X6_search
set_option maxRecDepth 20000 in
theorem ggX9_soonest_X9_orNot : GoodIn wsX9_soonest wsX9_orNot := goodIn_r _ [129] rfl (by decide +kernel)
set_option maxRecDepth 20000 in
theorem gX9_soonest_X9_orNot : GoodIn wsX9_soonest (va_wsS RX9 197 yX9_orNot wsX9_orNot) := goodIn_app (goodIn_of _ (by decide +kernel)) ggX9_soonest_X9_orNot
theorem kX9_soonest_73 : Cond.fieldLink RX9 73 "EveningVow" "rows" "LEveningVow$TaleRows;" ∈ wsX9_soonest := List.mem_of_getElem? (i := 1) rfl
theorem iX9_soonest_X9 : ∀ w ∈ u_ws RX9 TX9 15, w ∈ wsX9_soonest := fun w h => (List.mem_cons_of_mem _ (List.mem_append_left _ (List.mem_append_left _ (List.mem_append_left _ (List.mem_append_left _ (List.mem_append_right _ h))))))
theorem kX9_soonest_19 : Cond.fieldLink RX9 19 "EveningVow" "told" "LEveningVow$House;" ∈ wsX9_soonest := List.mem_of_getElem? (i := 2) rfl
theorem kX9_soonest_37 : Cond.fieldLink RX9 37 "EveningVow" "now" "LEveningVow$Night;" ∈ wsX9_soonest := List.mem_of_getElem? (i := 3) rfl
theorem kX9_soonest_49 : Cond.fieldLink RX9 49 "EveningVow" "asTold" "LEveningVow$Pace;" ∈ wsX9_soonest := List.mem_of_getElem? (i := 4) rfl
theorem kX9_soonest_245 : Cond.fieldLink RX9 245 "EveningVow$TaleRows" "bestHours" "I" ∈ wsX9_soonest := List.mem_of_getElem? (i := 5) rfl
theorem iX9_soonest_X6 : ∀ w ∈ u_ws RX6 TX6 7, w ∈ wsX9_soonest := fun w h => (List.mem_cons_of_mem _ (List.mem_append_left _ (List.mem_append_left _ (List.mem_append_left _ (List.mem_append_right _ h)))))
set_option maxHeartbeats 4000000 in
set_option maxRecDepth 100000 in
theorem mX9_soonest (l : Launch) (g : GG) (a_t : Nat) (p_t : Nat → Nat) (p_t_1 : Nat → Nat) (p_t_5 : Nat → Nat) (p_t_7 : Nat → Nat) (p_t_12 : Nat → Nat) (q_t_12_5 : Nat → Nat) (pp_t_12_5_e : Nat → Nat → Nat) (p_t_12_6 : Nat → Nat) (n : Nat) (o_t : Nat → Int32) (o_t_1 : Nat → Int32) (f_t_1_4 : Nat → Int32) (f_t_1_6 : Nat → Int32) (f_t_1_7 : Nat → Int32) (f_t_1_10 : Nat → Int32) (f_t_1_11 : Nat → Int32) (f_t_1_12 : Nat → Int32) (f_t_1_14 : Nat → Int32) (f_t_1_15 : Nat → Int32) (o_t_5 : Nat → Int32) (f_t_5_6 : Nat → Int32) (f_t_5_7 : Nat → Int32) (o_t_7 : Nat → Int32) (o_t_12 : Nat → Int32) (f_t_12_3 : Nat → Int32) (f_t_12_4 : Nat → Int32) (O_t_12_5_e : Nat → Nat → Int32) (F6_t_12_5_e : Nat → Nat → Int32) (F7_t_12_5_e : Nat → Nat → Int32) (F8_t_12_5_e : Nat → Nat → Int32) (o_t_12_6 : Nat → Int32) (f_t_12_6_6 : Nat → Int32) (f_t_12_6_7 : Nat → Int32) (f_t_12_6_8 : Nat → Int32) (r : Int32) (o_t' : Nat → Int32) (o_t_7' : Nat → Int32) (o_t_12' : Nat → Int32) (f_t_12_3' : Nat → Int32) (f_t_12_4' : Nat → Int32) (O_t_12_5_e' : Nat → Nat → Int32) (F6_t_12_5_e' : Nat → Nat → Int32) (F7_t_12_5_e' : Nat → Nat → Int32) (F8_t_12_5_e' : Nat → Nat → Int32) (o_t_12_6' : Nat → Int32) (f_t_12_6_6' : Nat → Int32) (f_t_12_6_7' : Nat → Int32) (f_t_12_6_8' : Nat → Int32) (hF : fX9_soonest n o_t o_t_1 f_t_1_4 f_t_1_6 f_t_1_7 f_t_1_10 f_t_1_11 f_t_1_12 f_t_1_14 f_t_1_15 o_t_5 f_t_5_6 f_t_5_7 o_t_7 o_t_12 f_t_12_3 f_t_12_4 O_t_12_5_e F6_t_12_5_e F7_t_12_5_e F8_t_12_5_e o_t_12_6 f_t_12_6_6 f_t_12_6_7 f_t_12_6_8 = some (r, o_t', o_t_7', o_t_12', f_t_12_3', f_t_12_4', O_t_12_5_e', F6_t_12_5_e', F7_t_12_5_e', F8_t_12_5_e', o_t_12_6', f_t_12_6_6', f_t_12_6_7', f_t_12_6_8')) : MI l g yX9_soonest wsX9_soonest ({ frames := 17, cells := 0, slots := 0, locals := 418 } : Room) [.ref a_t] [oX9 a_t p_t o_t, oX1 (p_t 1) p_t_1 o_t_1, aI g (p_t_1 4) 7 f_t_1_4, aI g (p_t_1 6) 7 f_t_1_6, aI g (p_t_1 7) 7 f_t_1_7, aI g (p_t_1 10) 8 f_t_1_10, aI g (p_t_1 11) 8 f_t_1_11, aI g (p_t_1 12) 8 f_t_1_12, aI g (p_t_1 14) 4 f_t_1_14, aI g (p_t_1 15) 4 f_t_1_15, oX2 (p_t 5) p_t_5 o_t_5, aI g (p_t_5 6) 7 f_t_5_6, aI g (p_t_5 7) 7 f_t_5_7, oX3 (p_t 7) p_t_7 o_t_7, oX6 (p_t 12) p_t_12 o_t_12, aI g (p_t_12 3) 4 f_t_12_3, aI g (p_t_12 4) 4 f_t_12_4, aN g (p_t_12 5) 5 q_t_12_5, oX2 (q_t_12_5 0) (pp_t_12_5_e 0) (O_t_12_5_e 0), aI g ((pp_t_12_5_e 0) 6) 7 (F6_t_12_5_e 0), aI g ((pp_t_12_5_e 0) 7) 7 (F7_t_12_5_e 0), aI g ((pp_t_12_5_e 0) 8) 7 (F8_t_12_5_e 0), oX2 (q_t_12_5 1) (pp_t_12_5_e 1) (O_t_12_5_e 1), aI g ((pp_t_12_5_e 1) 6) 7 (F6_t_12_5_e 1), aI g ((pp_t_12_5_e 1) 7) 7 (F7_t_12_5_e 1), aI g ((pp_t_12_5_e 1) 8) 7 (F8_t_12_5_e 1), oX2 (q_t_12_5 2) (pp_t_12_5_e 2) (O_t_12_5_e 2), aI g ((pp_t_12_5_e 2) 6) 7 (F6_t_12_5_e 2), aI g ((pp_t_12_5_e 2) 7) 7 (F7_t_12_5_e 2), aI g ((pp_t_12_5_e 2) 8) 7 (F8_t_12_5_e 2), oX2 (q_t_12_5 3) (pp_t_12_5_e 3) (O_t_12_5_e 3), aI g ((pp_t_12_5_e 3) 6) 7 (F6_t_12_5_e 3), aI g ((pp_t_12_5_e 3) 7) 7 (F7_t_12_5_e 3), aI g ((pp_t_12_5_e 3) 8) 7 (F8_t_12_5_e 3), oX2 (q_t_12_5 4) (pp_t_12_5_e 4) (O_t_12_5_e 4), aI g ((pp_t_12_5_e 4) 6) 7 (F6_t_12_5_e 4), aI g ((pp_t_12_5_e 4) 7) 7 (F7_t_12_5_e 4), aI g ((pp_t_12_5_e 4) 8) 7 (F8_t_12_5_e 4), oX2 (p_t_12 6) p_t_12_6 o_t_12_6, aI g (p_t_12_6 6) 7 f_t_12_6_6, aI g (p_t_12_6 7) 7 f_t_12_6_7, aI g (p_t_12_6 8) 7 f_t_12_6_8] r [oX9 a_t p_t o_t', oX1 (p_t 1) p_t_1 o_t_1, aI g (p_t_1 4) 7 f_t_1_4, aI g (p_t_1 6) 7 f_t_1_6, aI g (p_t_1 7) 7 f_t_1_7, aI g (p_t_1 10) 8 f_t_1_10, aI g (p_t_1 11) 8 f_t_1_11, aI g (p_t_1 12) 8 f_t_1_12, aI g (p_t_1 14) 4 f_t_1_14, aI g (p_t_1 15) 4 f_t_1_15, oX2 (p_t 5) p_t_5 o_t_5, aI g (p_t_5 6) 7 f_t_5_6, aI g (p_t_5 7) 7 f_t_5_7, oX3 (p_t 7) p_t_7 o_t_7', oX6 (p_t 12) p_t_12 o_t_12', aI g (p_t_12 3) 4 f_t_12_3', aI g (p_t_12 4) 4 f_t_12_4', aN g (p_t_12 5) 5 q_t_12_5, oX2 (q_t_12_5 0) (pp_t_12_5_e 0) (O_t_12_5_e' 0), aI g ((pp_t_12_5_e 0) 6) 7 (F6_t_12_5_e' 0), aI g ((pp_t_12_5_e 0) 7) 7 (F7_t_12_5_e' 0), aI g ((pp_t_12_5_e 0) 8) 7 (F8_t_12_5_e' 0), oX2 (q_t_12_5 1) (pp_t_12_5_e 1) (O_t_12_5_e' 1), aI g ((pp_t_12_5_e 1) 6) 7 (F6_t_12_5_e' 1), aI g ((pp_t_12_5_e 1) 7) 7 (F7_t_12_5_e' 1), aI g ((pp_t_12_5_e 1) 8) 7 (F8_t_12_5_e' 1), oX2 (q_t_12_5 2) (pp_t_12_5_e 2) (O_t_12_5_e' 2), aI g ((pp_t_12_5_e 2) 6) 7 (F6_t_12_5_e' 2), aI g ((pp_t_12_5_e 2) 7) 7 (F7_t_12_5_e' 2), aI g ((pp_t_12_5_e 2) 8) 7 (F8_t_12_5_e' 2), oX2 (q_t_12_5 3) (pp_t_12_5_e 3) (O_t_12_5_e' 3), aI g ((pp_t_12_5_e 3) 6) 7 (F6_t_12_5_e' 3), aI g ((pp_t_12_5_e 3) 7) 7 (F7_t_12_5_e' 3), aI g ((pp_t_12_5_e 3) 8) 7 (F8_t_12_5_e' 3), oX2 (q_t_12_5 4) (pp_t_12_5_e 4) (O_t_12_5_e' 4), aI g ((pp_t_12_5_e 4) 6) 7 (F6_t_12_5_e' 4), aI g ((pp_t_12_5_e 4) 7) 7 (F7_t_12_5_e' 4), aI g ((pp_t_12_5_e 4) 8) 7 (F8_t_12_5_e' 4), oX2 (p_t_12 6) p_t_12_6 o_t_12_6', aI g (p_t_12_6 6) 7 f_t_12_6_6', aI g (p_t_12_6 7) 7 f_t_12_6_7', aI g (p_t_12_6 8) 7 f_t_12_6_8'] := by
  refine MI.of (cc := cX9_soonest) (maxL := 1) (rt := .int) (own := RX9) rfl rfl (by decide) (Nat.le_of_ble_eq_true rfl) ?_
  intro p e s m args below meth c A C0 hP hD hS ls hl
  obtain ⟨hx, hb, hml, hown, hts, hr, hlk, hK, hA, hSW⟩ := id C0
  have hl : lv_has ls 1 [(0, .ref a_t)] := hl
  rw [fX9_soonest] at hF
  refine lv_aload_n hx hb dX9_soonest_0 rfl (lv_at hl 0 rfl) ?_
  obtain ⟨u_1, u_2, hu_3, hF⟩ := ob2_some hF
  refine call_i (wr := [oX1 (p_t 1) p_t_1 o_t_1, aI g (p_t_1 4) 7 f_t_1_4, aI g (p_t_1 6) 7 f_t_1_6, aI g (p_t_1 7) 7 f_t_1_7, aI g (p_t_1 10) 8 f_t_1_10, aI g (p_t_1 11) 8 f_t_1_11, aI g (p_t_1 12) 8 f_t_1_12, aI g (p_t_1 14) 4 f_t_1_14, aI g (p_t_1 15) 4 f_t_1_15, oX2 (p_t 5) p_t_5 o_t_5, aI g (p_t_5 6) 7 f_t_5_6, aI g (p_t_5 7) 7 f_t_5_7, oX3 (p_t 7) p_t_7 o_t_7, oX6 (p_t 12) p_t_12 o_t_12, aI g (p_t_12 3) 4 f_t_12_3, aI g (p_t_12 4) 4 f_t_12_4, aN g (p_t_12 5) 5 q_t_12_5, oX2 (q_t_12_5 0) (pp_t_12_5_e 0) (O_t_12_5_e 0), aI g ((pp_t_12_5_e 0) 6) 7 (F6_t_12_5_e 0), aI g ((pp_t_12_5_e 0) 7) 7 (F7_t_12_5_e 0), aI g ((pp_t_12_5_e 0) 8) 7 (F8_t_12_5_e 0), oX2 (q_t_12_5 1) (pp_t_12_5_e 1) (O_t_12_5_e 1), aI g ((pp_t_12_5_e 1) 6) 7 (F6_t_12_5_e 1), aI g ((pp_t_12_5_e 1) 7) 7 (F7_t_12_5_e 1), aI g ((pp_t_12_5_e 1) 8) 7 (F8_t_12_5_e 1), oX2 (q_t_12_5 2) (pp_t_12_5_e 2) (O_t_12_5_e 2), aI g ((pp_t_12_5_e 2) 6) 7 (F6_t_12_5_e 2), aI g ((pp_t_12_5_e 2) 7) 7 (F7_t_12_5_e 2), aI g ((pp_t_12_5_e 2) 8) 7 (F8_t_12_5_e 2), oX2 (q_t_12_5 3) (pp_t_12_5_e 3) (O_t_12_5_e 3), aI g ((pp_t_12_5_e 3) 6) 7 (F6_t_12_5_e 3), aI g ((pp_t_12_5_e 3) 7) 7 (F7_t_12_5_e 3), aI g ((pp_t_12_5_e 3) 8) 7 (F8_t_12_5_e 3), oX2 (q_t_12_5 4) (pp_t_12_5_e 4) (O_t_12_5_e 4), aI g ((pp_t_12_5_e 4) 6) 7 (F6_t_12_5_e 4), aI g ((pp_t_12_5_e 4) 7) 7 (F7_t_12_5_e 4), aI g ((pp_t_12_5_e 4) 8) 7 (F8_t_12_5_e 4), oX2 (p_t_12 6) p_t_12_6 o_t_12_6, aI g (p_t_12_6 6) 7 f_t_12_6_6, aI g (p_t_12_6 7) 7 f_t_12_6_7, aI g (p_t_12_6 8) 7 f_t_12_6_8]) (As := []) (rest := []) (ci := 9) (q0 := 0) C0 (mX9_asked l g a_t p_t n o_t u_1 u_2 hu_3) (cwV 0 hts gX9_soonest_X9_asked rfl rfl rfl (by decide +kernel) ⟨Nat.le_of_ble_eq_true rfl, Nat.le_of_ble_eq_true rfl⟩) hP hD hS [0] [1, 2, 3, 4, 5, 6, 7, 8, 9, 10, 11, 12, 13, 14, 15, 16, 17, 18, 19, 20, 21, 22, 23, 24, 25, 26, 27, 28, 29, 30, 31, 32, 33, 34, 35, 36, 37, 38, 39, 40, 41] rfl rfl rfl rfl rfl (by decide) rfl rfl hl.1 rfl rfl (Nat.le_of_ble_eq_true rfl) ⟨Nat.zero_le _, Nat.zero_le _⟩ dX9_soonest_1 ?_
  intro H locs hP hD hS
  refine lv_if_ne (tgt := 9) hx hb dX9_soonest_4 (by decide) (fun c_4 => ?_) (fun c_4 => ?_)
  · have hF := it_n c_4 hF
    refine lv_aload_n hx hb dX9_soonest_9 rfl (lv_at hl 0 rfl) ?_
    refine va_get (D := g.1) (ci := 9) (v := .ref (p_t 12)) (C := RX9) (T := TX9) (N := 15) hx hb hts iX9_soonest_X9 hown hK.1 hP 41 rfl rfl 12 (by decide) (hts _ kX9_soonest_73) (fun _ h9 => h9) rfl dX9_soonest_10 ?_
    refine lv_aload_n hx hb dX9_soonest_13 rfl (lv_at hl 0 rfl) ?_
    refine va_get (D := g.1) (ci := 9) (v := .ref (p_t 1)) (C := RX9) (T := TX9) (N := 15) hx hb hts iX9_soonest_X9 hown hK.1 hP 41 rfl rfl 1 (by decide) (hts _ kX9_soonest_19) (fun _ h9 => h9) rfl dX9_soonest_14 ?_
    refine lv_aload_n hx hb dX9_soonest_17 rfl (lv_at hl 0 rfl) ?_
    refine va_get (D := g.1) (ci := 9) (v := .ref (p_t 5)) (C := RX9) (T := TX9) (N := 15) hx hb hts iX9_soonest_X9 hown hK.1 hP 41 rfl rfl 5 (by decide) (hts _ kX9_soonest_37) (fun _ h9 => h9) rfl dX9_soonest_18 ?_
    refine lv_aload_n hx hb dX9_soonest_21 rfl (lv_at hl 0 rfl) ?_
    refine va_get (D := g.1) (ci := 9) (v := .ref (p_t 7)) (C := RX9) (T := TX9) (N := 15) hx hb hts iX9_soonest_X9 hown hK.1 hP 41 rfl rfl 7 (by decide) (hts _ kX9_soonest_49) (fun _ h9 => h9) rfl dX9_soonest_22 ?_
    obtain ⟨u_5, u_6, u_7, u_8, u_9, u_10, u_11, u_12, u_13, u_14, u_15, u_16, hu_17, hF⟩ := ob12_some hF
    refine call_v (wr := [oX9 a_t p_t u_2]) (As := [.ref (p_t 1), .ref (p_t 5), .ref (p_t 7)]) (rest := []) (ci := 6) (q0 := 0) C0 (mX6_search l g (p_t 12) (p_t 1) (p_t 5) (p_t 7) p_t_12 q_t_12_5 pp_t_12_5_e p_t_12_6 p_t_1 p_t_5 p_t_7 n o_t_12 f_t_12_3 f_t_12_4 O_t_12_5_e F6_t_12_5_e F7_t_12_5_e F8_t_12_5_e o_t_12_6 f_t_12_6_6 f_t_12_6_7 f_t_12_6_8 o_t_1 f_t_1_4 f_t_1_6 f_t_1_7 f_t_1_10 f_t_1_11 f_t_1_12 f_t_1_14 f_t_1_15 o_t_5 f_t_5_6 f_t_5_7 o_t_7 u_5 u_6 u_7 u_8 u_9 u_10 u_11 u_12 u_13 u_14 u_15 u_16 hu_17) (cwV 3 hts gX9_soonest_X6_search rfl rfl rfl (by decide +kernel) ⟨Nat.le_of_ble_eq_true rfl, Nat.le_of_ble_eq_true rfl⟩) hP hD hS [13, 14, 15, 16, 17, 18, 19, 20, 21, 22, 23, 24, 25, 26, 27, 28, 29, 30, 31, 32, 33, 34, 35, 36, 37, 38, 39, 40, 0, 1, 2, 3, 4, 5, 6, 7, 8, 9, 10, 11, 12] [41] rfl rfl rfl rfl rfl (by decide) rfl rfl hl.1 rfl rfl (Nat.le_of_ble_eq_true rfl) ⟨Nat.zero_le _, Nat.zero_le _⟩ dX9_soonest_25 ?_
    intro H locs hP hD hS
    refine lv_aload_n hx hb dX9_soonest_28 rfl (lv_at hl 0 rfl) ?_
    refine va_get (D := g.1) (ci := 9) (v := .ref (p_t 12)) (C := RX9) (T := TX9) (N := 15) hx hb hts iX9_soonest_X9 hown hK.1 hP 0 rfl rfl 12 (by decide) (hts _ kX9_soonest_73) (fun _ h9 => h9) rfl dX9_soonest_29 ?_
    refine va_get (D := g.1) (ci := 6) (v := .int (u_5 1)) (C := RX6) (T := TX6) (N := 7) hx hb hts iX9_soonest_X6 hown hK.1 hP 1 rfl rfl 1 (by decide) (hts _ kX9_soonest_245) (fun _ h9 => h9) rfl dX9_soonest_32 ?_
    obtain ⟨u_18, hu_19, hF⟩ := ob1_some hF
    refine call_si (wr := [oX9 a_t p_t u_2, oX6 (p_t 12) p_t_12 u_5, aI g (p_t_12 3) 4 u_6, aI g (p_t_12 4) 4 u_7, aN g (p_t_12 5) 5 q_t_12_5, oX2 (q_t_12_5 0) (pp_t_12_5_e 0) (u_8 0), aI g ((pp_t_12_5_e 0) 6) 7 (u_9 0), aI g ((pp_t_12_5_e 0) 7) 7 (u_10 0), aI g ((pp_t_12_5_e 0) 8) 7 (u_11 0), oX2 (q_t_12_5 1) (pp_t_12_5_e 1) (u_8 1), aI g ((pp_t_12_5_e 1) 6) 7 (u_9 1), aI g ((pp_t_12_5_e 1) 7) 7 (u_10 1), aI g ((pp_t_12_5_e 1) 8) 7 (u_11 1), oX2 (q_t_12_5 2) (pp_t_12_5_e 2) (u_8 2), aI g ((pp_t_12_5_e 2) 6) 7 (u_9 2), aI g ((pp_t_12_5_e 2) 7) 7 (u_10 2), aI g ((pp_t_12_5_e 2) 8) 7 (u_11 2), oX2 (q_t_12_5 3) (pp_t_12_5_e 3) (u_8 3), aI g ((pp_t_12_5_e 3) 6) 7 (u_9 3), aI g ((pp_t_12_5_e 3) 7) 7 (u_10 3), aI g ((pp_t_12_5_e 3) 8) 7 (u_11 3), oX2 (q_t_12_5 4) (pp_t_12_5_e 4) (u_8 4), aI g ((pp_t_12_5_e 4) 6) 7 (u_9 4), aI g ((pp_t_12_5_e 4) 7) 7 (u_10 4), aI g ((pp_t_12_5_e 4) 8) 7 (u_11 4), oX2 (p_t_12 6) p_t_12_6 u_12, aI g (p_t_12_6 6) 7 u_13, aI g (p_t_12_6 7) 7 u_14, aI g (p_t_12_6 8) 7 u_15, oX1 (p_t 1) p_t_1 o_t_1, aI g (p_t_1 4) 7 f_t_1_4, aI g (p_t_1 6) 7 f_t_1_6, aI g (p_t_1 7) 7 f_t_1_7, aI g (p_t_1 10) 8 f_t_1_10, aI g (p_t_1 11) 8 f_t_1_11, aI g (p_t_1 12) 8 f_t_1_12, aI g (p_t_1 14) 4 f_t_1_14, aI g (p_t_1 15) 4 f_t_1_15, oX2 (p_t 5) p_t_5 o_t_5, aI g (p_t_5 6) 7 f_t_5_6, aI g (p_t_5 7) 7 f_t_5_7, oX3 (p_t 7) p_t_7 u_16]) (As := [.int (u_5 1)]) (rest := []) C0 (mX9_orNot l g n (u_5 1) u_18 hu_19) (va_cwS 1 hts gX9_soonest_X9_orNot rfl rfl rfl (by decide +kernel) ⟨Nat.le_of_ble_eq_true rfl, Nat.le_of_ble_eq_true rfl⟩) hP hD hS [] [0, 1, 2, 3, 4, 5, 6, 7, 8, 9, 10, 11, 12, 13, 14, 15, 16, 17, 18, 19, 20, 21, 22, 23, 24, 25, 26, 27, 28, 29, 30, 31, 32, 33, 34, 35, 36, 37, 38, 39, 40, 41] rfl rfl rfl rfl rfl (by decide) hl.1 rfl rfl (Nat.le_of_ble_eq_true rfl) ⟨Nat.zero_le _, Nat.zero_le _⟩ dX9_soonest_35 ?_
    intro H locs hP hD hS
    cases hF
    exact ret_i C0 hP hD hS [0, 29, 30, 31, 32, 33, 34, 35, 36, 37, 38, 39, 40, 41, 1, 2, 3, 4, 5, 6, 7, 8, 9, 10, 11, 12, 13, 14, 15, 16, 17, 18, 19, 20, 21, 22, 23, 24, 25, 26, 27, 28] rfl rfl rfl dX9_soonest_38 rfl
  · have hF := it_p c_4 hF
    refine lv_iconst (v := (-1 : Int32)) hx hb dX9_soonest_7 (by decide) ?_
    cases hF
    exact ret_i C0 hP hD hS [41, 0, 1, 2, 3, 4, 5, 6, 7, 8, 9, 10, 11, 12, 13, 14, 15, 16, 17, 18, 19, 20, 21, 22, 23, 24, 25, 26, 27, 28, 29, 30, 31, 32, 33, 34, 35, 36, 37, 38, 39, 40] rfl rfl rfl dX9_soonest_8 rfl

theorem dAX9_taleAt : ∀ q ∈ ([(0, (.aload_n 0, 1)), (1, (.invokevirtual 153, 3)), (4, (.ifCond .ne 5, 3)), (7, (.iconst (-1), 1)), (8, (.ireturn, 1)), (9, (.aload_n 0, 1)), (10, (.getfield 73, 3)), (13, (.aload_n 0, 1)), (14, (.getfield 19, 3)), (17, (.aload_n 0, 1)), (18, (.getfield 37, 3)), (21, (.aload_n 0, 1)), (22, (.getfield 49, 3)), (25, (.invokevirtual 241, 3)), (28, (.aload_n 0, 1)), (29, (.getfield 73, 3)), (32, (.getfield 245, 3)), (35, (.bipush 60, 2)), (37, (.if_icmp .le 10, 3)), (40, (.aload_n 0, 1)), (41, (.bipush 6, 2)), (43, (.invokevirtual 98, 3)), (46, (.ireturn, 1)), (47, (.iload_n 1, 1)), (48, (.ifCond .lt 14, 3)), (51, (.iload_n 1, 1)), (52, (.aload_n 0, 1)), (53, (.getfield 73, 3)), (56, (.getfield 248, 3)), (59, (.if_icmp .lt 9, 3)), (62, (.aload_n 0, 1)), (63, (.iconst 1, 1)), (64, (.invokevirtual 98, 3)), (67, (.ireturn, 1)), (68, (.aload_n 0, 1)), (69, (.getfield 73, 3)), (72, (.getfield 251, 3)), (75, (.iload_n 1, 1)), (76, (.iaload, 1)), (77, (.ireturn, 1))] : List (Nat × (Instr × Nat))), decode cX9_taleAt q.1 = .ok q.2 := by decide +kernel
theorem dX9_taleAt_0 : decode cX9_taleAt 0 = .ok (.aload_n 0, 1) := dAX9_taleAt (0, (.aload_n 0, 1)) (List.mem_of_getElem? (i := 0) rfl)
theorem dX9_taleAt_1 : decode cX9_taleAt 1 = .ok (.invokevirtual 153, 3) := dAX9_taleAt (1, (.invokevirtual 153, 3)) (List.mem_of_getElem? (i := 1) rfl)
theorem dX9_taleAt_4 : decode cX9_taleAt 4 = .ok (.ifCond .ne 5, 3) := dAX9_taleAt (4, (.ifCond .ne 5, 3)) (List.mem_of_getElem? (i := 2) rfl)
theorem dX9_taleAt_7 : decode cX9_taleAt 7 = .ok (.iconst (-1), 1) := dAX9_taleAt (7, (.iconst (-1), 1)) (List.mem_of_getElem? (i := 3) rfl)
theorem dX9_taleAt_8 : decode cX9_taleAt 8 = .ok (.ireturn, 1) := dAX9_taleAt (8, (.ireturn, 1)) (List.mem_of_getElem? (i := 4) rfl)
theorem dX9_taleAt_9 : decode cX9_taleAt 9 = .ok (.aload_n 0, 1) := dAX9_taleAt (9, (.aload_n 0, 1)) (List.mem_of_getElem? (i := 5) rfl)
theorem dX9_taleAt_10 : decode cX9_taleAt 10 = .ok (.getfield 73, 3) := dAX9_taleAt (10, (.getfield 73, 3)) (List.mem_of_getElem? (i := 6) rfl)
theorem dX9_taleAt_13 : decode cX9_taleAt 13 = .ok (.aload_n 0, 1) := dAX9_taleAt (13, (.aload_n 0, 1)) (List.mem_of_getElem? (i := 7) rfl)
theorem dX9_taleAt_14 : decode cX9_taleAt 14 = .ok (.getfield 19, 3) := dAX9_taleAt (14, (.getfield 19, 3)) (List.mem_of_getElem? (i := 8) rfl)
theorem dX9_taleAt_17 : decode cX9_taleAt 17 = .ok (.aload_n 0, 1) := dAX9_taleAt (17, (.aload_n 0, 1)) (List.mem_of_getElem? (i := 9) rfl)
theorem dX9_taleAt_18 : decode cX9_taleAt 18 = .ok (.getfield 37, 3) := dAX9_taleAt (18, (.getfield 37, 3)) (List.mem_of_getElem? (i := 10) rfl)
theorem dX9_taleAt_21 : decode cX9_taleAt 21 = .ok (.aload_n 0, 1) := dAX9_taleAt (21, (.aload_n 0, 1)) (List.mem_of_getElem? (i := 11) rfl)
theorem dX9_taleAt_22 : decode cX9_taleAt 22 = .ok (.getfield 49, 3) := dAX9_taleAt (22, (.getfield 49, 3)) (List.mem_of_getElem? (i := 12) rfl)
theorem dX9_taleAt_25 : decode cX9_taleAt 25 = .ok (.invokevirtual 241, 3) := dAX9_taleAt (25, (.invokevirtual 241, 3)) (List.mem_of_getElem? (i := 13) rfl)
theorem dX9_taleAt_28 : decode cX9_taleAt 28 = .ok (.aload_n 0, 1) := dAX9_taleAt (28, (.aload_n 0, 1)) (List.mem_of_getElem? (i := 14) rfl)
theorem dX9_taleAt_29 : decode cX9_taleAt 29 = .ok (.getfield 73, 3) := dAX9_taleAt (29, (.getfield 73, 3)) (List.mem_of_getElem? (i := 15) rfl)
theorem dX9_taleAt_32 : decode cX9_taleAt 32 = .ok (.getfield 245, 3) := dAX9_taleAt (32, (.getfield 245, 3)) (List.mem_of_getElem? (i := 16) rfl)
theorem dX9_taleAt_35 : decode cX9_taleAt 35 = .ok (.bipush 60, 2) := dAX9_taleAt (35, (.bipush 60, 2)) (List.mem_of_getElem? (i := 17) rfl)
theorem dX9_taleAt_37 : decode cX9_taleAt 37 = .ok (.if_icmp .le 10, 3) := dAX9_taleAt (37, (.if_icmp .le 10, 3)) (List.mem_of_getElem? (i := 18) rfl)
theorem dX9_taleAt_40 : decode cX9_taleAt 40 = .ok (.aload_n 0, 1) := dAX9_taleAt (40, (.aload_n 0, 1)) (List.mem_of_getElem? (i := 19) rfl)
theorem dX9_taleAt_41 : decode cX9_taleAt 41 = .ok (.bipush 6, 2) := dAX9_taleAt (41, (.bipush 6, 2)) (List.mem_of_getElem? (i := 20) rfl)
theorem dX9_taleAt_43 : decode cX9_taleAt 43 = .ok (.invokevirtual 98, 3) := dAX9_taleAt (43, (.invokevirtual 98, 3)) (List.mem_of_getElem? (i := 21) rfl)
theorem dX9_taleAt_46 : decode cX9_taleAt 46 = .ok (.ireturn, 1) := dAX9_taleAt (46, (.ireturn, 1)) (List.mem_of_getElem? (i := 22) rfl)
theorem dX9_taleAt_47 : decode cX9_taleAt 47 = .ok (.iload_n 1, 1) := dAX9_taleAt (47, (.iload_n 1, 1)) (List.mem_of_getElem? (i := 23) rfl)
theorem dX9_taleAt_48 : decode cX9_taleAt 48 = .ok (.ifCond .lt 14, 3) := dAX9_taleAt (48, (.ifCond .lt 14, 3)) (List.mem_of_getElem? (i := 24) rfl)
theorem dX9_taleAt_51 : decode cX9_taleAt 51 = .ok (.iload_n 1, 1) := dAX9_taleAt (51, (.iload_n 1, 1)) (List.mem_of_getElem? (i := 25) rfl)
theorem dX9_taleAt_52 : decode cX9_taleAt 52 = .ok (.aload_n 0, 1) := dAX9_taleAt (52, (.aload_n 0, 1)) (List.mem_of_getElem? (i := 26) rfl)
theorem dX9_taleAt_53 : decode cX9_taleAt 53 = .ok (.getfield 73, 3) := dAX9_taleAt (53, (.getfield 73, 3)) (List.mem_of_getElem? (i := 27) rfl)
theorem dX9_taleAt_56 : decode cX9_taleAt 56 = .ok (.getfield 248, 3) := dAX9_taleAt (56, (.getfield 248, 3)) (List.mem_of_getElem? (i := 28) rfl)
theorem dX9_taleAt_59 : decode cX9_taleAt 59 = .ok (.if_icmp .lt 9, 3) := dAX9_taleAt (59, (.if_icmp .lt 9, 3)) (List.mem_of_getElem? (i := 29) rfl)
theorem dX9_taleAt_62 : decode cX9_taleAt 62 = .ok (.aload_n 0, 1) := dAX9_taleAt (62, (.aload_n 0, 1)) (List.mem_of_getElem? (i := 30) rfl)
theorem dX9_taleAt_63 : decode cX9_taleAt 63 = .ok (.iconst 1, 1) := dAX9_taleAt (63, (.iconst 1, 1)) (List.mem_of_getElem? (i := 31) rfl)
theorem dX9_taleAt_64 : decode cX9_taleAt 64 = .ok (.invokevirtual 98, 3) := dAX9_taleAt (64, (.invokevirtual 98, 3)) (List.mem_of_getElem? (i := 32) rfl)
theorem dX9_taleAt_67 : decode cX9_taleAt 67 = .ok (.ireturn, 1) := dAX9_taleAt (67, (.ireturn, 1)) (List.mem_of_getElem? (i := 33) rfl)
theorem dX9_taleAt_68 : decode cX9_taleAt 68 = .ok (.aload_n 0, 1) := dAX9_taleAt (68, (.aload_n 0, 1)) (List.mem_of_getElem? (i := 34) rfl)
theorem dX9_taleAt_69 : decode cX9_taleAt 69 = .ok (.getfield 73, 3) := dAX9_taleAt (69, (.getfield 73, 3)) (List.mem_of_getElem? (i := 35) rfl)
theorem dX9_taleAt_72 : decode cX9_taleAt 72 = .ok (.getfield 251, 3) := dAX9_taleAt (72, (.getfield 251, 3)) (List.mem_of_getElem? (i := 36) rfl)
theorem dX9_taleAt_75 : decode cX9_taleAt 75 = .ok (.iload_n 1, 1) := dAX9_taleAt (75, (.iload_n 1, 1)) (List.mem_of_getElem? (i := 37) rfl)
theorem dX9_taleAt_76 : decode cX9_taleAt 76 = .ok (.iaload, 1) := dAX9_taleAt (76, (.iaload, 1)) (List.mem_of_getElem? (i := 38) rfl)
theorem dX9_taleAt_77 : decode cX9_taleAt 77 = .ok (.ireturn, 1) := dAX9_taleAt (77, (.ireturn, 1)) (List.mem_of_getElem? (i := 39) rfl)
set_option maxRecDepth 20000 in
theorem ggX9_taleAt_X9_asked : GoodIn wsX9_taleAt wsX9_asked := goodIn_r _ [12, 13, 14, 133, 134, 135, 136, 137, 138, 139, 140, 141, 142, 143, 144, 145, 146, 147] rfl (by decide +kernel)
set_option maxRecDepth 20000 in
theorem gX9_taleAt_X9_asked : GoodIn wsX9_taleAt (wsV RX9 153 RX9 yX9_asked wsX9_asked) := goodIn_app (goodIn_of _ (by decide +kernel)) ggX9_taleAt_X9_asked
set_option maxRecDepth 20000 in
theorem ggX9_taleAt_X6_search : GoodIn wsX9_taleAt wsX6_search := goodIn_r _ [19, 20, 21, 22, 23, 24, 25, 26, 27, 28, 29, 30, 31, 32, 33, 34, 35, 36, 37, 38, 39, 40, 41, 18, 42, 43, 44, 45, 46, 47, 48, 49, 50, 51, 52, 53, 54, 55, 56, 57, 58, 59, 60, 61, 62, 63, 64, 65, 66, 67, 68, 69, 70, 71, 72, 73, 74, 75, 76, 77, 78, 79, 80, 81, 82, 83, 84, 85, 86, 87, 88, 89, 90, 91, 92, 93, 94, 95, 96, 97, 98, 99, 100, 101, 102, 103, 104, 105, 106, 107, 108, 109, 11, 110, 111, 112, 113, 114, 115, 116, 117, 118, 119, 120, 121, 122, 123, 124, 125, 126, 127, 128, 148, 149, 150, 151, 152, 153, 154, 155, 156, 157, 158, 159, 160, 161, 162, 163, 164, 165, 166, 167, 168, 169, 170, 171, 172, 173, 174, 175, 176, 177, 178, 179, 180, 181, 182] rfl (by decide +kernel)
set_option maxRecDepth 20000 in
theorem gX9_taleAt_X6_search : GoodIn wsX9_taleAt (wsV RX9 241 RX6 yX6_search wsX6_search) := goodIn_app (goodIn_of _ (by decide +kernel)) ggX9_taleAt_X6_search
set_option maxRecDepth 20000 in
theorem ggX9_taleAt_X9_refuse : GoodIn wsX9_taleAt wsX9_refuse := goodIn_r _ [132, 14, 133, 134, 135, 136, 137, 138, 139, 140, 141, 142, 143, 144, 145, 146, 147] rfl (by decide +kernel)
set_option maxRecDepth 20000 in
theorem gX9_taleAt_X9_refuse : GoodIn wsX9_taleAt (wsV RX9 98 RX9 yX9_refuse wsX9_refuse) := goodIn_app (goodIn_of _ (by decide +kernel)) ggX9_taleAt_X9_refuse
theorem kX9_taleAt_73 : Cond.fieldLink RX9 73 "EveningVow" "rows" "LEveningVow$TaleRows;" ∈ wsX9_taleAt := List.mem_of_getElem? (i := 1) rfl
theorem iX9_taleAt_X9 : ∀ w ∈ u_ws RX9 TX9 15, w ∈ wsX9_taleAt := fun w h => (List.mem_cons_of_mem _ (List.mem_append_left _ (List.mem_append_left _ (List.mem_append_left _ (List.mem_append_left _ (List.mem_append_right _ h))))))
theorem kX9_taleAt_19 : Cond.fieldLink RX9 19 "EveningVow" "told" "LEveningVow$House;" ∈ wsX9_taleAt := List.mem_of_getElem? (i := 2) rfl
theorem kX9_taleAt_37 : Cond.fieldLink RX9 37 "EveningVow" "now" "LEveningVow$Night;" ∈ wsX9_taleAt := List.mem_of_getElem? (i := 3) rfl
theorem kX9_taleAt_49 : Cond.fieldLink RX9 49 "EveningVow" "asTold" "LEveningVow$Pace;" ∈ wsX9_taleAt := List.mem_of_getElem? (i := 4) rfl
theorem kX9_taleAt_245 : Cond.fieldLink RX9 245 "EveningVow$TaleRows" "bestHours" "I" ∈ wsX9_taleAt := List.mem_of_getElem? (i := 5) rfl
theorem iX9_taleAt_X6 : ∀ w ∈ u_ws RX6 TX6 7, w ∈ wsX9_taleAt := fun w h => (List.mem_cons_of_mem _ (List.mem_append_left _ (List.mem_append_left _ (List.mem_append_left _ (List.mem_append_right _ h)))))
theorem kX9_taleAt_248 : Cond.fieldLink RX9 248 "EveningVow$TaleRows" "bestLength" "I" ∈ wsX9_taleAt := List.mem_of_getElem? (i := 6) rfl
theorem kX9_taleAt_251 : Cond.fieldLink RX9 251 "EveningVow$TaleRows" "bestRow" "[I" ∈ wsX9_taleAt := List.mem_of_getElem? (i := 7) rfl
set_option maxHeartbeats 4000000 in
set_option maxRecDepth 100000 in
theorem mX9_taleAt (l : Launch) (g : GG) (a_t : Nat) (p_t : Nat → Nat) (p_t_1 : Nat → Nat) (p_t_5 : Nat → Nat) (p_t_7 : Nat → Nat) (p_t_12 : Nat → Nat) (q_t_12_5 : Nat → Nat) (pp_t_12_5_e : Nat → Nat → Nat) (p_t_12_6 : Nat → Nat) (n : Nat) (x1 : Int32) (o_t : Nat → Int32) (o_t_1 : Nat → Int32) (f_t_1_4 : Nat → Int32) (f_t_1_6 : Nat → Int32) (f_t_1_7 : Nat → Int32) (f_t_1_10 : Nat → Int32) (f_t_1_11 : Nat → Int32) (f_t_1_12 : Nat → Int32) (f_t_1_14 : Nat → Int32) (f_t_1_15 : Nat → Int32) (o_t_5 : Nat → Int32) (f_t_5_6 : Nat → Int32) (f_t_5_7 : Nat → Int32) (o_t_7 : Nat → Int32) (o_t_12 : Nat → Int32) (f_t_12_3 : Nat → Int32) (f_t_12_4 : Nat → Int32) (O_t_12_5_e : Nat → Nat → Int32) (F6_t_12_5_e : Nat → Nat → Int32) (F7_t_12_5_e : Nat → Nat → Int32) (F8_t_12_5_e : Nat → Nat → Int32) (o_t_12_6 : Nat → Int32) (f_t_12_6_6 : Nat → Int32) (f_t_12_6_7 : Nat → Int32) (f_t_12_6_8 : Nat → Int32) (r : Int32) (o_t' : Nat → Int32) (o_t_7' : Nat → Int32) (o_t_12' : Nat → Int32) (f_t_12_3' : Nat → Int32) (f_t_12_4' : Nat → Int32) (O_t_12_5_e' : Nat → Nat → Int32) (F6_t_12_5_e' : Nat → Nat → Int32) (F7_t_12_5_e' : Nat → Nat → Int32) (F8_t_12_5_e' : Nat → Nat → Int32) (o_t_12_6' : Nat → Int32) (f_t_12_6_6' : Nat → Int32) (f_t_12_6_7' : Nat → Int32) (f_t_12_6_8' : Nat → Int32) (hF : fX9_taleAt n x1 o_t o_t_1 f_t_1_4 f_t_1_6 f_t_1_7 f_t_1_10 f_t_1_11 f_t_1_12 f_t_1_14 f_t_1_15 o_t_5 f_t_5_6 f_t_5_7 o_t_7 o_t_12 f_t_12_3 f_t_12_4 O_t_12_5_e F6_t_12_5_e F7_t_12_5_e F8_t_12_5_e o_t_12_6 f_t_12_6_6 f_t_12_6_7 f_t_12_6_8 = some (r, o_t', o_t_7', o_t_12', f_t_12_3', f_t_12_4', O_t_12_5_e', F6_t_12_5_e', F7_t_12_5_e', F8_t_12_5_e', o_t_12_6', f_t_12_6_6', f_t_12_6_7', f_t_12_6_8')) : MI l g yX9_taleAt wsX9_taleAt ({ frames := 17, cells := 0, slots := 0, locals := 418 } : Room) [.ref a_t, .int x1] [oX9 a_t p_t o_t, oX1 (p_t 1) p_t_1 o_t_1, aI g (p_t_1 4) 7 f_t_1_4, aI g (p_t_1 6) 7 f_t_1_6, aI g (p_t_1 7) 7 f_t_1_7, aI g (p_t_1 10) 8 f_t_1_10, aI g (p_t_1 11) 8 f_t_1_11, aI g (p_t_1 12) 8 f_t_1_12, aI g (p_t_1 14) 4 f_t_1_14, aI g (p_t_1 15) 4 f_t_1_15, oX2 (p_t 5) p_t_5 o_t_5, aI g (p_t_5 6) 7 f_t_5_6, aI g (p_t_5 7) 7 f_t_5_7, oX3 (p_t 7) p_t_7 o_t_7, oX6 (p_t 12) p_t_12 o_t_12, aI g (p_t_12 3) 4 f_t_12_3, aI g (p_t_12 4) 4 f_t_12_4, aN g (p_t_12 5) 5 q_t_12_5, oX2 (q_t_12_5 0) (pp_t_12_5_e 0) (O_t_12_5_e 0), aI g ((pp_t_12_5_e 0) 6) 7 (F6_t_12_5_e 0), aI g ((pp_t_12_5_e 0) 7) 7 (F7_t_12_5_e 0), aI g ((pp_t_12_5_e 0) 8) 7 (F8_t_12_5_e 0), oX2 (q_t_12_5 1) (pp_t_12_5_e 1) (O_t_12_5_e 1), aI g ((pp_t_12_5_e 1) 6) 7 (F6_t_12_5_e 1), aI g ((pp_t_12_5_e 1) 7) 7 (F7_t_12_5_e 1), aI g ((pp_t_12_5_e 1) 8) 7 (F8_t_12_5_e 1), oX2 (q_t_12_5 2) (pp_t_12_5_e 2) (O_t_12_5_e 2), aI g ((pp_t_12_5_e 2) 6) 7 (F6_t_12_5_e 2), aI g ((pp_t_12_5_e 2) 7) 7 (F7_t_12_5_e 2), aI g ((pp_t_12_5_e 2) 8) 7 (F8_t_12_5_e 2), oX2 (q_t_12_5 3) (pp_t_12_5_e 3) (O_t_12_5_e 3), aI g ((pp_t_12_5_e 3) 6) 7 (F6_t_12_5_e 3), aI g ((pp_t_12_5_e 3) 7) 7 (F7_t_12_5_e 3), aI g ((pp_t_12_5_e 3) 8) 7 (F8_t_12_5_e 3), oX2 (q_t_12_5 4) (pp_t_12_5_e 4) (O_t_12_5_e 4), aI g ((pp_t_12_5_e 4) 6) 7 (F6_t_12_5_e 4), aI g ((pp_t_12_5_e 4) 7) 7 (F7_t_12_5_e 4), aI g ((pp_t_12_5_e 4) 8) 7 (F8_t_12_5_e 4), oX2 (p_t_12 6) p_t_12_6 o_t_12_6, aI g (p_t_12_6 6) 7 f_t_12_6_6, aI g (p_t_12_6 7) 7 f_t_12_6_7, aI g (p_t_12_6 8) 7 f_t_12_6_8] r [oX9 a_t p_t o_t', oX1 (p_t 1) p_t_1 o_t_1, aI g (p_t_1 4) 7 f_t_1_4, aI g (p_t_1 6) 7 f_t_1_6, aI g (p_t_1 7) 7 f_t_1_7, aI g (p_t_1 10) 8 f_t_1_10, aI g (p_t_1 11) 8 f_t_1_11, aI g (p_t_1 12) 8 f_t_1_12, aI g (p_t_1 14) 4 f_t_1_14, aI g (p_t_1 15) 4 f_t_1_15, oX2 (p_t 5) p_t_5 o_t_5, aI g (p_t_5 6) 7 f_t_5_6, aI g (p_t_5 7) 7 f_t_5_7, oX3 (p_t 7) p_t_7 o_t_7', oX6 (p_t 12) p_t_12 o_t_12', aI g (p_t_12 3) 4 f_t_12_3', aI g (p_t_12 4) 4 f_t_12_4', aN g (p_t_12 5) 5 q_t_12_5, oX2 (q_t_12_5 0) (pp_t_12_5_e 0) (O_t_12_5_e' 0), aI g ((pp_t_12_5_e 0) 6) 7 (F6_t_12_5_e' 0), aI g ((pp_t_12_5_e 0) 7) 7 (F7_t_12_5_e' 0), aI g ((pp_t_12_5_e 0) 8) 7 (F8_t_12_5_e' 0), oX2 (q_t_12_5 1) (pp_t_12_5_e 1) (O_t_12_5_e' 1), aI g ((pp_t_12_5_e 1) 6) 7 (F6_t_12_5_e' 1), aI g ((pp_t_12_5_e 1) 7) 7 (F7_t_12_5_e' 1), aI g ((pp_t_12_5_e 1) 8) 7 (F8_t_12_5_e' 1), oX2 (q_t_12_5 2) (pp_t_12_5_e 2) (O_t_12_5_e' 2), aI g ((pp_t_12_5_e 2) 6) 7 (F6_t_12_5_e' 2), aI g ((pp_t_12_5_e 2) 7) 7 (F7_t_12_5_e' 2), aI g ((pp_t_12_5_e 2) 8) 7 (F8_t_12_5_e' 2), oX2 (q_t_12_5 3) (pp_t_12_5_e 3) (O_t_12_5_e' 3), aI g ((pp_t_12_5_e 3) 6) 7 (F6_t_12_5_e' 3), aI g ((pp_t_12_5_e 3) 7) 7 (F7_t_12_5_e' 3), aI g ((pp_t_12_5_e 3) 8) 7 (F8_t_12_5_e' 3), oX2 (q_t_12_5 4) (pp_t_12_5_e 4) (O_t_12_5_e' 4), aI g ((pp_t_12_5_e 4) 6) 7 (F6_t_12_5_e' 4), aI g ((pp_t_12_5_e 4) 7) 7 (F7_t_12_5_e' 4), aI g ((pp_t_12_5_e 4) 8) 7 (F8_t_12_5_e' 4), oX2 (p_t_12 6) p_t_12_6 o_t_12_6', aI g (p_t_12_6 6) 7 f_t_12_6_6', aI g (p_t_12_6 7) 7 f_t_12_6_7', aI g (p_t_12_6 8) 7 f_t_12_6_8'] := by
  refine MI.of (cc := cX9_taleAt) (maxL := 2) (rt := .int) (own := RX9) rfl rfl (by decide) (Nat.le_of_ble_eq_true rfl) ?_
  intro p e s m args below meth c A C0 hP hD hS ls hl
  obtain ⟨hx, hb, hml, hown, hts, hr, hlk, hK, hA, hSW⟩ := id C0
  have hl : lv_has ls 2 [(0, .ref a_t), (1, .int x1)] := hl
  rw [fX9_taleAt] at hF
  refine lv_aload_n hx hb dX9_taleAt_0 rfl (lv_at hl 0 rfl) ?_
  obtain ⟨u_1, u_2, hu_3, hF⟩ := ob2_some hF
  refine call_i (wr := [oX1 (p_t 1) p_t_1 o_t_1, aI g (p_t_1 4) 7 f_t_1_4, aI g (p_t_1 6) 7 f_t_1_6, aI g (p_t_1 7) 7 f_t_1_7, aI g (p_t_1 10) 8 f_t_1_10, aI g (p_t_1 11) 8 f_t_1_11, aI g (p_t_1 12) 8 f_t_1_12, aI g (p_t_1 14) 4 f_t_1_14, aI g (p_t_1 15) 4 f_t_1_15, oX2 (p_t 5) p_t_5 o_t_5, aI g (p_t_5 6) 7 f_t_5_6, aI g (p_t_5 7) 7 f_t_5_7, oX3 (p_t 7) p_t_7 o_t_7, oX6 (p_t 12) p_t_12 o_t_12, aI g (p_t_12 3) 4 f_t_12_3, aI g (p_t_12 4) 4 f_t_12_4, aN g (p_t_12 5) 5 q_t_12_5, oX2 (q_t_12_5 0) (pp_t_12_5_e 0) (O_t_12_5_e 0), aI g ((pp_t_12_5_e 0) 6) 7 (F6_t_12_5_e 0), aI g ((pp_t_12_5_e 0) 7) 7 (F7_t_12_5_e 0), aI g ((pp_t_12_5_e 0) 8) 7 (F8_t_12_5_e 0), oX2 (q_t_12_5 1) (pp_t_12_5_e 1) (O_t_12_5_e 1), aI g ((pp_t_12_5_e 1) 6) 7 (F6_t_12_5_e 1), aI g ((pp_t_12_5_e 1) 7) 7 (F7_t_12_5_e 1), aI g ((pp_t_12_5_e 1) 8) 7 (F8_t_12_5_e 1), oX2 (q_t_12_5 2) (pp_t_12_5_e 2) (O_t_12_5_e 2), aI g ((pp_t_12_5_e 2) 6) 7 (F6_t_12_5_e 2), aI g ((pp_t_12_5_e 2) 7) 7 (F7_t_12_5_e 2), aI g ((pp_t_12_5_e 2) 8) 7 (F8_t_12_5_e 2), oX2 (q_t_12_5 3) (pp_t_12_5_e 3) (O_t_12_5_e 3), aI g ((pp_t_12_5_e 3) 6) 7 (F6_t_12_5_e 3), aI g ((pp_t_12_5_e 3) 7) 7 (F7_t_12_5_e 3), aI g ((pp_t_12_5_e 3) 8) 7 (F8_t_12_5_e 3), oX2 (q_t_12_5 4) (pp_t_12_5_e 4) (O_t_12_5_e 4), aI g ((pp_t_12_5_e 4) 6) 7 (F6_t_12_5_e 4), aI g ((pp_t_12_5_e 4) 7) 7 (F7_t_12_5_e 4), aI g ((pp_t_12_5_e 4) 8) 7 (F8_t_12_5_e 4), oX2 (p_t_12 6) p_t_12_6 o_t_12_6, aI g (p_t_12_6 6) 7 f_t_12_6_6, aI g (p_t_12_6 7) 7 f_t_12_6_7, aI g (p_t_12_6 8) 7 f_t_12_6_8]) (As := []) (rest := []) (ci := 9) (q0 := 0) C0 (mX9_asked l g a_t p_t n o_t u_1 u_2 hu_3) (cwV 0 hts gX9_taleAt_X9_asked rfl rfl rfl (by decide +kernel) ⟨Nat.le_of_ble_eq_true rfl, Nat.le_of_ble_eq_true rfl⟩) hP hD hS [0] [1, 2, 3, 4, 5, 6, 7, 8, 9, 10, 11, 12, 13, 14, 15, 16, 17, 18, 19, 20, 21, 22, 23, 24, 25, 26, 27, 28, 29, 30, 31, 32, 33, 34, 35, 36, 37, 38, 39, 40, 41] rfl rfl rfl rfl rfl (by decide) rfl rfl hl.1 rfl rfl (Nat.le_of_ble_eq_true rfl) ⟨Nat.zero_le _, Nat.zero_le _⟩ dX9_taleAt_1 ?_
  intro H locs hP hD hS
  refine lv_if_ne (tgt := 9) hx hb dX9_taleAt_4 (by decide) (fun c_4 => ?_) (fun c_4 => ?_)
  · have hF := it_n c_4 hF
    refine lv_aload_n hx hb dX9_taleAt_9 rfl (lv_at hl 0 rfl) ?_
    refine va_get (D := g.1) (ci := 9) (v := .ref (p_t 12)) (C := RX9) (T := TX9) (N := 15) hx hb hts iX9_taleAt_X9 hown hK.1 hP 41 rfl rfl 12 (by decide) (hts _ kX9_taleAt_73) (fun _ h9 => h9) rfl dX9_taleAt_10 ?_
    refine lv_aload_n hx hb dX9_taleAt_13 rfl (lv_at hl 0 rfl) ?_
    refine va_get (D := g.1) (ci := 9) (v := .ref (p_t 1)) (C := RX9) (T := TX9) (N := 15) hx hb hts iX9_taleAt_X9 hown hK.1 hP 41 rfl rfl 1 (by decide) (hts _ kX9_taleAt_19) (fun _ h9 => h9) rfl dX9_taleAt_14 ?_
    refine lv_aload_n hx hb dX9_taleAt_17 rfl (lv_at hl 0 rfl) ?_
    refine va_get (D := g.1) (ci := 9) (v := .ref (p_t 5)) (C := RX9) (T := TX9) (N := 15) hx hb hts iX9_taleAt_X9 hown hK.1 hP 41 rfl rfl 5 (by decide) (hts _ kX9_taleAt_37) (fun _ h9 => h9) rfl dX9_taleAt_18 ?_
    refine lv_aload_n hx hb dX9_taleAt_21 rfl (lv_at hl 0 rfl) ?_
    refine va_get (D := g.1) (ci := 9) (v := .ref (p_t 7)) (C := RX9) (T := TX9) (N := 15) hx hb hts iX9_taleAt_X9 hown hK.1 hP 41 rfl rfl 7 (by decide) (hts _ kX9_taleAt_49) (fun _ h9 => h9) rfl dX9_taleAt_22 ?_
    obtain ⟨u_5, u_6, u_7, u_8, u_9, u_10, u_11, u_12, u_13, u_14, u_15, u_16, hu_17, hF⟩ := ob12_some hF
    refine call_v (wr := [oX9 a_t p_t u_2]) (As := [.ref (p_t 1), .ref (p_t 5), .ref (p_t 7)]) (rest := []) (ci := 6) (q0 := 0) C0 (mX6_search l g (p_t 12) (p_t 1) (p_t 5) (p_t 7) p_t_12 q_t_12_5 pp_t_12_5_e p_t_12_6 p_t_1 p_t_5 p_t_7 n o_t_12 f_t_12_3 f_t_12_4 O_t_12_5_e F6_t_12_5_e F7_t_12_5_e F8_t_12_5_e o_t_12_6 f_t_12_6_6 f_t_12_6_7 f_t_12_6_8 o_t_1 f_t_1_4 f_t_1_6 f_t_1_7 f_t_1_10 f_t_1_11 f_t_1_12 f_t_1_14 f_t_1_15 o_t_5 f_t_5_6 f_t_5_7 o_t_7 u_5 u_6 u_7 u_8 u_9 u_10 u_11 u_12 u_13 u_14 u_15 u_16 hu_17) (cwV 3 hts gX9_taleAt_X6_search rfl rfl rfl (by decide +kernel) ⟨Nat.le_of_ble_eq_true rfl, Nat.le_of_ble_eq_true rfl⟩) hP hD hS [13, 14, 15, 16, 17, 18, 19, 20, 21, 22, 23, 24, 25, 26, 27, 28, 29, 30, 31, 32, 33, 34, 35, 36, 37, 38, 39, 40, 0, 1, 2, 3, 4, 5, 6, 7, 8, 9, 10, 11, 12] [41] rfl rfl rfl rfl rfl (by decide) rfl rfl hl.1 rfl rfl (Nat.le_of_ble_eq_true rfl) ⟨Nat.zero_le _, Nat.zero_le _⟩ dX9_taleAt_25 ?_
    intro H locs hP hD hS
    refine lv_aload_n hx hb dX9_taleAt_28 rfl (lv_at hl 0 rfl) ?_
    refine va_get (D := g.1) (ci := 9) (v := .ref (p_t 12)) (C := RX9) (T := TX9) (N := 15) hx hb hts iX9_taleAt_X9 hown hK.1 hP 0 rfl rfl 12 (by decide) (hts _ kX9_taleAt_73) (fun _ h9 => h9) rfl dX9_taleAt_29 ?_
    refine va_get (D := g.1) (ci := 6) (v := .int (u_5 1)) (C := RX6) (T := TX6) (N := 7) hx hb hts iX9_taleAt_X6 hown hK.1 hP 1 rfl rfl 1 (by decide) (hts _ kX9_taleAt_245) (fun _ h9 => h9) rfl dX9_taleAt_32 ?_
    refine lv_bipush (v := (60 : Int32)) hx hb dX9_taleAt_35 (by decide) ?_
    refine lv_icmp_le (tgt := 47) hx hb dX9_taleAt_37 (by decide) (fun c_18 => ?_) (fun c_18 => ?_)
    · have hF := it_p c_18 hF
      refine lv_iload_n hx hb dX9_taleAt_47 rfl (lv_at hl 1 rfl) ?_
      refine lv_if_lt (tgt := 62) hx hb dX9_taleAt_48 (by decide) (fun c_19 => ?_) (fun c_19 => ?_)
      · have hF := it_p c_19 hF
        refine lv_aload_n hx hb dX9_taleAt_62 rfl (lv_at hl 0 rfl) ?_
        refine lv_iconst (v := (1 : Int32)) hx hb dX9_taleAt_63 (by decide) ?_
        obtain ⟨u_20, u_21, hu_22, hF⟩ := ob2_some hF
        refine call_i (wr := [oX6 (p_t 12) p_t_12 u_5, aI g (p_t_12 3) 4 u_6, aI g (p_t_12 4) 4 u_7, aN g (p_t_12 5) 5 q_t_12_5, oX2 (q_t_12_5 0) (pp_t_12_5_e 0) (u_8 0), aI g ((pp_t_12_5_e 0) 6) 7 (u_9 0), aI g ((pp_t_12_5_e 0) 7) 7 (u_10 0), aI g ((pp_t_12_5_e 0) 8) 7 (u_11 0), oX2 (q_t_12_5 1) (pp_t_12_5_e 1) (u_8 1), aI g ((pp_t_12_5_e 1) 6) 7 (u_9 1), aI g ((pp_t_12_5_e 1) 7) 7 (u_10 1), aI g ((pp_t_12_5_e 1) 8) 7 (u_11 1), oX2 (q_t_12_5 2) (pp_t_12_5_e 2) (u_8 2), aI g ((pp_t_12_5_e 2) 6) 7 (u_9 2), aI g ((pp_t_12_5_e 2) 7) 7 (u_10 2), aI g ((pp_t_12_5_e 2) 8) 7 (u_11 2), oX2 (q_t_12_5 3) (pp_t_12_5_e 3) (u_8 3), aI g ((pp_t_12_5_e 3) 6) 7 (u_9 3), aI g ((pp_t_12_5_e 3) 7) 7 (u_10 3), aI g ((pp_t_12_5_e 3) 8) 7 (u_11 3), oX2 (q_t_12_5 4) (pp_t_12_5_e 4) (u_8 4), aI g ((pp_t_12_5_e 4) 6) 7 (u_9 4), aI g ((pp_t_12_5_e 4) 7) 7 (u_10 4), aI g ((pp_t_12_5_e 4) 8) 7 (u_11 4), oX2 (p_t_12 6) p_t_12_6 u_12, aI g (p_t_12_6 6) 7 u_13, aI g (p_t_12_6 7) 7 u_14, aI g (p_t_12_6 8) 7 u_15, oX1 (p_t 1) p_t_1 o_t_1, aI g (p_t_1 4) 7 f_t_1_4, aI g (p_t_1 6) 7 f_t_1_6, aI g (p_t_1 7) 7 f_t_1_7, aI g (p_t_1 10) 8 f_t_1_10, aI g (p_t_1 11) 8 f_t_1_11, aI g (p_t_1 12) 8 f_t_1_12, aI g (p_t_1 14) 4 f_t_1_14, aI g (p_t_1 15) 4 f_t_1_15, oX2 (p_t 5) p_t_5 o_t_5, aI g (p_t_5 6) 7 f_t_5_6, aI g (p_t_5 7) 7 f_t_5_7, oX3 (p_t 7) p_t_7 u_16]) (As := [.int (1 : Int32)]) (rest := []) (ci := 9) (q0 := 0) C0 (mX9_refuse l g a_t p_t n (1 : Int32) u_2 u_20 u_21 hu_22) (cwV 1 hts gX9_taleAt_X9_refuse rfl rfl rfl (by decide +kernel) ⟨Nat.le_of_ble_eq_true rfl, Nat.le_of_ble_eq_true rfl⟩) hP hD hS [0] [1, 2, 3, 4, 5, 6, 7, 8, 9, 10, 11, 12, 13, 14, 15, 16, 17, 18, 19, 20, 21, 22, 23, 24, 25, 26, 27, 28, 29, 30, 31, 32, 33, 34, 35, 36, 37, 38, 39, 40, 41] rfl rfl rfl rfl rfl (by decide) rfl rfl hl.1 rfl rfl (Nat.le_of_ble_eq_true rfl) ⟨Nat.zero_le _, Nat.zero_le _⟩ dX9_taleAt_64 ?_
        intro H locs hP hD hS
        cases hF
        exact ret_i C0 hP hD hS [41, 28, 29, 30, 31, 32, 33, 34, 35, 36, 37, 38, 39, 40, 0, 1, 2, 3, 4, 5, 6, 7, 8, 9, 10, 11, 12, 13, 14, 15, 16, 17, 18, 19, 20, 21, 22, 23, 24, 25, 26, 27] rfl rfl rfl dX9_taleAt_67 rfl
      · have hF := it_n c_19 hF
        refine lv_iload_n hx hb dX9_taleAt_51 rfl (lv_at hl 1 rfl) ?_
        refine lv_aload_n hx hb dX9_taleAt_52 rfl (lv_at hl 0 rfl) ?_
        refine va_get (D := g.1) (ci := 9) (v := .ref (p_t 12)) (C := RX9) (T := TX9) (N := 15) hx hb hts iX9_taleAt_X9 hown hK.1 hP 0 rfl rfl 12 (by decide) (hts _ kX9_taleAt_73) (fun _ h9 => h9) rfl dX9_taleAt_53 ?_
        refine va_get (D := g.1) (ci := 6) (v := .int (u_5 2)) (C := RX6) (T := TX6) (N := 7) hx hb hts iX9_taleAt_X6 hown hK.1 hP 1 rfl rfl 2 (by decide) (hts _ kX9_taleAt_248) (fun _ h9 => h9) rfl dX9_taleAt_56 ?_
        refine lv_icmp_lt (tgt := 68) hx hb dX9_taleAt_59 (by decide) (fun c_23 => ?_) (fun c_23 => ?_)
        · have hF := it_p c_23 hF
          refine lv_aload_n hx hb dX9_taleAt_68 rfl (lv_at hl 0 rfl) ?_
          refine va_get (D := g.1) (ci := 9) (v := .ref (p_t 12)) (C := RX9) (T := TX9) (N := 15) hx hb hts iX9_taleAt_X9 hown hK.1 hP 0 rfl rfl 12 (by decide) (hts _ kX9_taleAt_73) (fun _ h9 => h9) rfl dX9_taleAt_69 ?_
          refine va_get (D := g.1) (ci := 6) (v := .ref (p_t_12 3)) (C := RX6) (T := TX6) (N := 7) hx hb hts iX9_taleAt_X6 hown hK.1 hP 1 rfl rfl 3 (by decide) (hts _ kX9_taleAt_251) (fun _ h9 => h9) rfl dX9_taleAt_72 ?_
          refine lv_iload_n hx hb dX9_taleAt_75 rfl (lv_at hl 1 rfl) ?_
          obtain ⟨h_24, hF⟩ := it_ck hF
          refine va_iald hx hb hK.1 hP 2 0 rfl rfl h_24 dX9_taleAt_76 ?_
          cases hF
          exact ret_i C0 hP hD hS [0, 29, 30, 31, 32, 33, 34, 35, 36, 37, 38, 39, 40, 41, 1, 2, 3, 4, 5, 6, 7, 8, 9, 10, 11, 12, 13, 14, 15, 16, 17, 18, 19, 20, 21, 22, 23, 24, 25, 26, 27, 28] rfl rfl rfl dX9_taleAt_77 rfl
        · have hF := it_n c_23 hF
          refine lv_aload_n hx hb dX9_taleAt_62 rfl (lv_at hl 0 rfl) ?_
          refine lv_iconst (v := (1 : Int32)) hx hb dX9_taleAt_63 (by decide) ?_
          obtain ⟨u_25, u_26, hu_27, hF⟩ := ob2_some hF
          refine call_i (wr := [oX6 (p_t 12) p_t_12 u_5, aI g (p_t_12 3) 4 u_6, aI g (p_t_12 4) 4 u_7, aN g (p_t_12 5) 5 q_t_12_5, oX2 (q_t_12_5 0) (pp_t_12_5_e 0) (u_8 0), aI g ((pp_t_12_5_e 0) 6) 7 (u_9 0), aI g ((pp_t_12_5_e 0) 7) 7 (u_10 0), aI g ((pp_t_12_5_e 0) 8) 7 (u_11 0), oX2 (q_t_12_5 1) (pp_t_12_5_e 1) (u_8 1), aI g ((pp_t_12_5_e 1) 6) 7 (u_9 1), aI g ((pp_t_12_5_e 1) 7) 7 (u_10 1), aI g ((pp_t_12_5_e 1) 8) 7 (u_11 1), oX2 (q_t_12_5 2) (pp_t_12_5_e 2) (u_8 2), aI g ((pp_t_12_5_e 2) 6) 7 (u_9 2), aI g ((pp_t_12_5_e 2) 7) 7 (u_10 2), aI g ((pp_t_12_5_e 2) 8) 7 (u_11 2), oX2 (q_t_12_5 3) (pp_t_12_5_e 3) (u_8 3), aI g ((pp_t_12_5_e 3) 6) 7 (u_9 3), aI g ((pp_t_12_5_e 3) 7) 7 (u_10 3), aI g ((pp_t_12_5_e 3) 8) 7 (u_11 3), oX2 (q_t_12_5 4) (pp_t_12_5_e 4) (u_8 4), aI g ((pp_t_12_5_e 4) 6) 7 (u_9 4), aI g ((pp_t_12_5_e 4) 7) 7 (u_10 4), aI g ((pp_t_12_5_e 4) 8) 7 (u_11 4), oX2 (p_t_12 6) p_t_12_6 u_12, aI g (p_t_12_6 6) 7 u_13, aI g (p_t_12_6 7) 7 u_14, aI g (p_t_12_6 8) 7 u_15, oX1 (p_t 1) p_t_1 o_t_1, aI g (p_t_1 4) 7 f_t_1_4, aI g (p_t_1 6) 7 f_t_1_6, aI g (p_t_1 7) 7 f_t_1_7, aI g (p_t_1 10) 8 f_t_1_10, aI g (p_t_1 11) 8 f_t_1_11, aI g (p_t_1 12) 8 f_t_1_12, aI g (p_t_1 14) 4 f_t_1_14, aI g (p_t_1 15) 4 f_t_1_15, oX2 (p_t 5) p_t_5 o_t_5, aI g (p_t_5 6) 7 f_t_5_6, aI g (p_t_5 7) 7 f_t_5_7, oX3 (p_t 7) p_t_7 u_16]) (As := [.int (1 : Int32)]) (rest := []) (ci := 9) (q0 := 0) C0 (mX9_refuse l g a_t p_t n (1 : Int32) u_2 u_25 u_26 hu_27) (cwV 1 hts gX9_taleAt_X9_refuse rfl rfl rfl (by decide +kernel) ⟨Nat.le_of_ble_eq_true rfl, Nat.le_of_ble_eq_true rfl⟩) hP hD hS [0] [1, 2, 3, 4, 5, 6, 7, 8, 9, 10, 11, 12, 13, 14, 15, 16, 17, 18, 19, 20, 21, 22, 23, 24, 25, 26, 27, 28, 29, 30, 31, 32, 33, 34, 35, 36, 37, 38, 39, 40, 41] rfl rfl rfl rfl rfl (by decide) rfl rfl hl.1 rfl rfl (Nat.le_of_ble_eq_true rfl) ⟨Nat.zero_le _, Nat.zero_le _⟩ dX9_taleAt_64 ?_
          intro H locs hP hD hS
          cases hF
          exact ret_i C0 hP hD hS [41, 28, 29, 30, 31, 32, 33, 34, 35, 36, 37, 38, 39, 40, 0, 1, 2, 3, 4, 5, 6, 7, 8, 9, 10, 11, 12, 13, 14, 15, 16, 17, 18, 19, 20, 21, 22, 23, 24, 25, 26, 27] rfl rfl rfl dX9_taleAt_67 rfl
    · have hF := it_n c_18 hF
      refine lv_aload_n hx hb dX9_taleAt_40 rfl (lv_at hl 0 rfl) ?_
      refine lv_bipush (v := (6 : Int32)) hx hb dX9_taleAt_41 (by decide) ?_
      obtain ⟨u_28, u_29, hu_30, hF⟩ := ob2_some hF
      refine call_i (wr := [oX6 (p_t 12) p_t_12 u_5, aI g (p_t_12 3) 4 u_6, aI g (p_t_12 4) 4 u_7, aN g (p_t_12 5) 5 q_t_12_5, oX2 (q_t_12_5 0) (pp_t_12_5_e 0) (u_8 0), aI g ((pp_t_12_5_e 0) 6) 7 (u_9 0), aI g ((pp_t_12_5_e 0) 7) 7 (u_10 0), aI g ((pp_t_12_5_e 0) 8) 7 (u_11 0), oX2 (q_t_12_5 1) (pp_t_12_5_e 1) (u_8 1), aI g ((pp_t_12_5_e 1) 6) 7 (u_9 1), aI g ((pp_t_12_5_e 1) 7) 7 (u_10 1), aI g ((pp_t_12_5_e 1) 8) 7 (u_11 1), oX2 (q_t_12_5 2) (pp_t_12_5_e 2) (u_8 2), aI g ((pp_t_12_5_e 2) 6) 7 (u_9 2), aI g ((pp_t_12_5_e 2) 7) 7 (u_10 2), aI g ((pp_t_12_5_e 2) 8) 7 (u_11 2), oX2 (q_t_12_5 3) (pp_t_12_5_e 3) (u_8 3), aI g ((pp_t_12_5_e 3) 6) 7 (u_9 3), aI g ((pp_t_12_5_e 3) 7) 7 (u_10 3), aI g ((pp_t_12_5_e 3) 8) 7 (u_11 3), oX2 (q_t_12_5 4) (pp_t_12_5_e 4) (u_8 4), aI g ((pp_t_12_5_e 4) 6) 7 (u_9 4), aI g ((pp_t_12_5_e 4) 7) 7 (u_10 4), aI g ((pp_t_12_5_e 4) 8) 7 (u_11 4), oX2 (p_t_12 6) p_t_12_6 u_12, aI g (p_t_12_6 6) 7 u_13, aI g (p_t_12_6 7) 7 u_14, aI g (p_t_12_6 8) 7 u_15, oX1 (p_t 1) p_t_1 o_t_1, aI g (p_t_1 4) 7 f_t_1_4, aI g (p_t_1 6) 7 f_t_1_6, aI g (p_t_1 7) 7 f_t_1_7, aI g (p_t_1 10) 8 f_t_1_10, aI g (p_t_1 11) 8 f_t_1_11, aI g (p_t_1 12) 8 f_t_1_12, aI g (p_t_1 14) 4 f_t_1_14, aI g (p_t_1 15) 4 f_t_1_15, oX2 (p_t 5) p_t_5 o_t_5, aI g (p_t_5 6) 7 f_t_5_6, aI g (p_t_5 7) 7 f_t_5_7, oX3 (p_t 7) p_t_7 u_16]) (As := [.int (6 : Int32)]) (rest := []) (ci := 9) (q0 := 0) C0 (mX9_refuse l g a_t p_t n (6 : Int32) u_2 u_28 u_29 hu_30) (cwV 1 hts gX9_taleAt_X9_refuse rfl rfl rfl (by decide +kernel) ⟨Nat.le_of_ble_eq_true rfl, Nat.le_of_ble_eq_true rfl⟩) hP hD hS [0] [1, 2, 3, 4, 5, 6, 7, 8, 9, 10, 11, 12, 13, 14, 15, 16, 17, 18, 19, 20, 21, 22, 23, 24, 25, 26, 27, 28, 29, 30, 31, 32, 33, 34, 35, 36, 37, 38, 39, 40, 41] rfl rfl rfl rfl rfl (by decide) rfl rfl hl.1 rfl rfl (Nat.le_of_ble_eq_true rfl) ⟨Nat.zero_le _, Nat.zero_le _⟩ dX9_taleAt_43 ?_
      intro H locs hP hD hS
      cases hF
      exact ret_i C0 hP hD hS [41, 28, 29, 30, 31, 32, 33, 34, 35, 36, 37, 38, 39, 40, 0, 1, 2, 3, 4, 5, 6, 7, 8, 9, 10, 11, 12, 13, 14, 15, 16, 17, 18, 19, 20, 21, 22, 23, 24, 25, 26, 27] rfl rfl rfl dX9_taleAt_46 rfl
  · have hF := it_p c_4 hF
    refine lv_iconst (v := (-1 : Int32)) hx hb dX9_taleAt_7 (by decide) ?_
    cases hF
    exact ret_i C0 hP hD hS [41, 0, 1, 2, 3, 4, 5, 6, 7, 8, 9, 10, 11, 12, 13, 14, 15, 16, 17, 18, 19, 20, 21, 22, 23, 24, 25, 26, 27, 28, 29, 30, 31, 32, 33, 34, 35, 36, 37, 38, 39, 40] rfl rfl rfl dX9_taleAt_8 rfl

theorem dAX9_latest : ∀ q ∈ ([(0, (.aload_n 0, 1)), (1, (.invokevirtual 153, 3)), (4, (.ifCond .ne 5, 3)), (7, (.iconst (-1), 1)), (8, (.ireturn, 1)), (9, (.aload_n 0, 1)), (10, (.getfield 80, 3)), (13, (.aload_n 0, 1)), (14, (.getfield 19, 3)), (17, (.aload_n 0, 1)), (18, (.getfield 37, 3)), (21, (.aload_n 0, 1)), (22, (.getfield 49, 3)), (25, (.invokevirtual 254, 3)), (28, (.aload_n 0, 1)), (29, (.getfield 80, 3)), (32, (.getfield 255, 3)), (35, (.invokestatic 197, 3)), (38, (.ireturn, 1))] : List (Nat × (Instr × Nat))), decode cX9_latest q.1 = .ok q.2 := by decide +kernel
theorem dX9_latest_0 : decode cX9_latest 0 = .ok (.aload_n 0, 1) := dAX9_latest (0, (.aload_n 0, 1)) (List.mem_of_getElem? (i := 0) rfl)
theorem dX9_latest_1 : decode cX9_latest 1 = .ok (.invokevirtual 153, 3) := dAX9_latest (1, (.invokevirtual 153, 3)) (List.mem_of_getElem? (i := 1) rfl)
theorem dX9_latest_4 : decode cX9_latest 4 = .ok (.ifCond .ne 5, 3) := dAX9_latest (4, (.ifCond .ne 5, 3)) (List.mem_of_getElem? (i := 2) rfl)
theorem dX9_latest_7 : decode cX9_latest 7 = .ok (.iconst (-1), 1) := dAX9_latest (7, (.iconst (-1), 1)) (List.mem_of_getElem? (i := 3) rfl)
theorem dX9_latest_8 : decode cX9_latest 8 = .ok (.ireturn, 1) := dAX9_latest (8, (.ireturn, 1)) (List.mem_of_getElem? (i := 4) rfl)
theorem dX9_latest_9 : decode cX9_latest 9 = .ok (.aload_n 0, 1) := dAX9_latest (9, (.aload_n 0, 1)) (List.mem_of_getElem? (i := 5) rfl)
theorem dX9_latest_10 : decode cX9_latest 10 = .ok (.getfield 80, 3) := dAX9_latest (10, (.getfield 80, 3)) (List.mem_of_getElem? (i := 6) rfl)
theorem dX9_latest_13 : decode cX9_latest 13 = .ok (.aload_n 0, 1) := dAX9_latest (13, (.aload_n 0, 1)) (List.mem_of_getElem? (i := 7) rfl)
theorem dX9_latest_14 : decode cX9_latest 14 = .ok (.getfield 19, 3) := dAX9_latest (14, (.getfield 19, 3)) (List.mem_of_getElem? (i := 8) rfl)
theorem dX9_latest_17 : decode cX9_latest 17 = .ok (.aload_n 0, 1) := dAX9_latest (17, (.aload_n 0, 1)) (List.mem_of_getElem? (i := 9) rfl)
theorem dX9_latest_18 : decode cX9_latest 18 = .ok (.getfield 37, 3) := dAX9_latest (18, (.getfield 37, 3)) (List.mem_of_getElem? (i := 10) rfl)
theorem dX9_latest_21 : decode cX9_latest 21 = .ok (.aload_n 0, 1) := dAX9_latest (21, (.aload_n 0, 1)) (List.mem_of_getElem? (i := 11) rfl)
theorem dX9_latest_22 : decode cX9_latest 22 = .ok (.getfield 49, 3) := dAX9_latest (22, (.getfield 49, 3)) (List.mem_of_getElem? (i := 12) rfl)
theorem dX9_latest_25 : decode cX9_latest 25 = .ok (.invokevirtual 254, 3) := dAX9_latest (25, (.invokevirtual 254, 3)) (List.mem_of_getElem? (i := 13) rfl)
theorem dX9_latest_28 : decode cX9_latest 28 = .ok (.aload_n 0, 1) := dAX9_latest (28, (.aload_n 0, 1)) (List.mem_of_getElem? (i := 14) rfl)
theorem dX9_latest_29 : decode cX9_latest 29 = .ok (.getfield 80, 3) := dAX9_latest (29, (.getfield 80, 3)) (List.mem_of_getElem? (i := 15) rfl)
theorem dX9_latest_32 : decode cX9_latest 32 = .ok (.getfield 255, 3) := dAX9_latest (32, (.getfield 255, 3)) (List.mem_of_getElem? (i := 16) rfl)
theorem dX9_latest_35 : decode cX9_latest 35 = .ok (.invokestatic 197, 3) := dAX9_latest (35, (.invokestatic 197, 3)) (List.mem_of_getElem? (i := 17) rfl)
theorem dX9_latest_38 : decode cX9_latest 38 = .ok (.ireturn, 1) := dAX9_latest (38, (.ireturn, 1)) (List.mem_of_getElem? (i := 18) rfl)
set_option maxRecDepth 20000 in
theorem ggX9_latest_X9_asked : GoodIn wsX9_latest wsX9_asked := goodIn_r _ [10, 11, 12, 113, 114, 115, 116, 117, 118, 119, 120, 121, 122, 123, 124, 125, 126, 127] rfl (by decide +kernel)
set_option maxRecDepth 20000 in
theorem gX9_latest_X9_asked : GoodIn wsX9_latest (wsV RX9 153 RX9 yX9_asked wsX9_asked) := goodIn_app (goodIn_of _ (by decide +kernel)) ggX9_latest_X9_asked
set_option maxRecDepth 20000 in
theorem ggX9_latest_X0_search : GoodIn wsX9_latest wsX0_search := goodIn_r _ [17, 18, 19, 20, 21, 22, 23, 24, 16, 25, 26, 27, 28, 29, 30, 31, 32, 33, 34, 35, 36, 37, 38, 39, 40, 41, 42, 43, 44, 45, 46, 47, 48, 49, 50, 51, 52, 53, 54, 55, 56, 57, 58, 59, 60, 61, 62, 63, 64, 65, 66, 67, 68, 69, 70, 71, 72, 73, 74, 75, 76, 77, 78, 79, 80, 81, 82, 83, 84, 85, 86, 87, 88, 89, 90, 91, 92, 93, 94, 95, 96, 97, 98, 99, 100, 101, 102, 103, 104, 105, 106, 107, 108, 9, 109, 128, 129, 130, 131, 132, 133, 134, 135, 136, 137, 138, 139, 140, 141, 142, 143, 144, 145, 146, 147, 148, 149, 150, 151, 152, 153, 154, 155, 156, 157, 158, 159, 160, 161] rfl (by decide +kernel)
set_option maxRecDepth 20000 in
theorem gX9_latest_X0_search : GoodIn wsX9_latest (wsV RX9 254 RX0 yX0_search wsX0_search) := goodIn_app (goodIn_of _ (by decide +kernel)) ggX9_latest_X0_search
set_option maxRecDepth 20000 in
theorem ggX9_latest_X9_orNot : GoodIn wsX9_latest wsX9_orNot := goodIn_r _ [112] rfl (by decide +kernel)
set_option maxRecDepth 20000 in
theorem gX9_latest_X9_orNot : GoodIn wsX9_latest (va_wsS RX9 197 yX9_orNot wsX9_orNot) := goodIn_app (goodIn_of _ (by decide +kernel)) ggX9_latest_X9_orNot
theorem kX9_latest_80 : Cond.fieldLink RX9 80 "EveningVow" "shares" "LEveningVow$CupShares;" ∈ wsX9_latest := List.mem_of_getElem? (i := 1) rfl
theorem iX9_latest_X9 : ∀ w ∈ u_ws RX9 TX9 15, w ∈ wsX9_latest := fun w h => (List.mem_cons_of_mem _ (List.mem_append_left _ (List.mem_append_left _ (List.mem_append_left _ (List.mem_append_left _ (List.mem_append_right _ h))))))
theorem kX9_latest_19 : Cond.fieldLink RX9 19 "EveningVow" "told" "LEveningVow$House;" ∈ wsX9_latest := List.mem_of_getElem? (i := 2) rfl
theorem kX9_latest_37 : Cond.fieldLink RX9 37 "EveningVow" "now" "LEveningVow$Night;" ∈ wsX9_latest := List.mem_of_getElem? (i := 3) rfl
theorem kX9_latest_49 : Cond.fieldLink RX9 49 "EveningVow" "asTold" "LEveningVow$Pace;" ∈ wsX9_latest := List.mem_of_getElem? (i := 4) rfl
theorem kX9_latest_255 : Cond.fieldLink RX9 255 "EveningVow$CupShares" "bestHours" "I" ∈ wsX9_latest := List.mem_of_getElem? (i := 5) rfl
theorem iX9_latest_X0 : ∀ w ∈ u_ws RX0 TX0 6, w ∈ wsX9_latest := fun w h => (List.mem_cons_of_mem _ (List.mem_append_left _ (List.mem_append_left _ (List.mem_append_left _ (List.mem_append_right _ h)))))
set_option maxHeartbeats 4000000 in
set_option maxRecDepth 100000 in
theorem mX9_latest (l : Launch) (g : GG) (a_t : Nat) (p_t : Nat → Nat) (p_t_1 : Nat → Nat) (p_t_5 : Nat → Nat) (p_t_7 : Nat → Nat) (p_t_13 : Nat → Nat) (p_t_13_5 : Nat → Nat) (n : Nat) (o_t : Nat → Int32) (o_t_1 : Nat → Int32) (f_t_1_4 : Nat → Int32) (f_t_1_6 : Nat → Int32) (f_t_1_7 : Nat → Int32) (f_t_1_10 : Nat → Int32) (f_t_1_11 : Nat → Int32) (f_t_1_12 : Nat → Int32) (o_t_5 : Nat → Int32) (f_t_5_6 : Nat → Int32) (f_t_5_7 : Nat → Int32) (o_t_7 : Nat → Int32) (o_t_13 : Nat → Int32) (f_t_13_2 : Nat → Int32) (f_t_13_3 : Nat → Int32) (f_t_13_4 : Nat → Int32) (o_t_13_5 : Nat → Int32) (f_t_13_5_6 : Nat → Int32) (f_t_13_5_7 : Nat → Int32) (f_t_13_5_8 : Nat → Int32) (r : Int32) (o_t' : Nat → Int32) (o_t_7' : Nat → Int32) (o_t_13' : Nat → Int32) (f_t_13_2' : Nat → Int32) (f_t_13_3' : Nat → Int32) (f_t_13_4' : Nat → Int32) (o_t_13_5' : Nat → Int32) (f_t_13_5_6' : Nat → Int32) (f_t_13_5_7' : Nat → Int32) (f_t_13_5_8' : Nat → Int32) (hF : fX9_latest n o_t o_t_1 f_t_1_4 f_t_1_6 f_t_1_7 f_t_1_10 f_t_1_11 f_t_1_12 o_t_5 f_t_5_6 f_t_5_7 o_t_7 o_t_13 f_t_13_2 f_t_13_3 f_t_13_4 o_t_13_5 f_t_13_5_6 f_t_13_5_7 f_t_13_5_8 = some (r, o_t', o_t_7', o_t_13', f_t_13_2', f_t_13_3', f_t_13_4', o_t_13_5', f_t_13_5_6', f_t_13_5_7', f_t_13_5_8')) : MI l g yX9_latest wsX9_latest ({ frames := 17, cells := 0, slots := 0, locals := 452 } : Room) [.ref a_t] [oX9 a_t p_t o_t, oX1 (p_t 1) p_t_1 o_t_1, aI g (p_t_1 4) 7 f_t_1_4, aI g (p_t_1 6) 7 f_t_1_6, aI g (p_t_1 7) 7 f_t_1_7, aI g (p_t_1 10) 8 f_t_1_10, aI g (p_t_1 11) 8 f_t_1_11, aI g (p_t_1 12) 8 f_t_1_12, oX2 (p_t 5) p_t_5 o_t_5, aI g (p_t_5 6) 7 f_t_5_6, aI g (p_t_5 7) 7 f_t_5_7, oX3 (p_t 7) p_t_7 o_t_7, oX0 (p_t 13) p_t_13 o_t_13, aI g (p_t_13 2) 7 f_t_13_2, aI g (p_t_13 3) 5 f_t_13_3, aI g (p_t_13 4) 7 f_t_13_4, oX2 (p_t_13 5) p_t_13_5 o_t_13_5, aI g (p_t_13_5 6) 7 f_t_13_5_6, aI g (p_t_13_5 7) 7 f_t_13_5_7, aI g (p_t_13_5 8) 7 f_t_13_5_8] r [oX9 a_t p_t o_t', oX1 (p_t 1) p_t_1 o_t_1, aI g (p_t_1 4) 7 f_t_1_4, aI g (p_t_1 6) 7 f_t_1_6, aI g (p_t_1 7) 7 f_t_1_7, aI g (p_t_1 10) 8 f_t_1_10, aI g (p_t_1 11) 8 f_t_1_11, aI g (p_t_1 12) 8 f_t_1_12, oX2 (p_t 5) p_t_5 o_t_5, aI g (p_t_5 6) 7 f_t_5_6, aI g (p_t_5 7) 7 f_t_5_7, oX3 (p_t 7) p_t_7 o_t_7', oX0 (p_t 13) p_t_13 o_t_13', aI g (p_t_13 2) 7 f_t_13_2', aI g (p_t_13 3) 5 f_t_13_3', aI g (p_t_13 4) 7 f_t_13_4', oX2 (p_t_13 5) p_t_13_5 o_t_13_5', aI g (p_t_13_5 6) 7 f_t_13_5_6', aI g (p_t_13_5 7) 7 f_t_13_5_7', aI g (p_t_13_5 8) 7 f_t_13_5_8'] := by
  refine MI.of (cc := cX9_latest) (maxL := 1) (rt := .int) (own := RX9) rfl rfl (by decide) (Nat.le_of_ble_eq_true rfl) ?_
  intro p e s m args below meth c A C0 hP hD hS ls hl
  obtain ⟨hx, hb, hml, hown, hts, hr, hlk, hK, hA, hSW⟩ := id C0
  have hl : lv_has ls 1 [(0, .ref a_t)] := hl
  rw [fX9_latest] at hF
  refine lv_aload_n hx hb dX9_latest_0 rfl (lv_at hl 0 rfl) ?_
  obtain ⟨u_1, u_2, hu_3, hF⟩ := ob2_some hF
  refine call_i (wr := [oX1 (p_t 1) p_t_1 o_t_1, aI g (p_t_1 4) 7 f_t_1_4, aI g (p_t_1 6) 7 f_t_1_6, aI g (p_t_1 7) 7 f_t_1_7, aI g (p_t_1 10) 8 f_t_1_10, aI g (p_t_1 11) 8 f_t_1_11, aI g (p_t_1 12) 8 f_t_1_12, oX2 (p_t 5) p_t_5 o_t_5, aI g (p_t_5 6) 7 f_t_5_6, aI g (p_t_5 7) 7 f_t_5_7, oX3 (p_t 7) p_t_7 o_t_7, oX0 (p_t 13) p_t_13 o_t_13, aI g (p_t_13 2) 7 f_t_13_2, aI g (p_t_13 3) 5 f_t_13_3, aI g (p_t_13 4) 7 f_t_13_4, oX2 (p_t_13 5) p_t_13_5 o_t_13_5, aI g (p_t_13_5 6) 7 f_t_13_5_6, aI g (p_t_13_5 7) 7 f_t_13_5_7, aI g (p_t_13_5 8) 7 f_t_13_5_8]) (As := []) (rest := []) (ci := 9) (q0 := 0) C0 (mX9_asked l g a_t p_t n o_t u_1 u_2 hu_3) (cwV 0 hts gX9_latest_X9_asked rfl rfl rfl (by decide +kernel) ⟨Nat.le_of_ble_eq_true rfl, Nat.le_of_ble_eq_true rfl⟩) hP hD hS [0] [1, 2, 3, 4, 5, 6, 7, 8, 9, 10, 11, 12, 13, 14, 15, 16, 17, 18, 19] rfl rfl rfl rfl rfl (by decide) rfl rfl hl.1 rfl rfl (Nat.le_of_ble_eq_true rfl) ⟨Nat.zero_le _, Nat.zero_le _⟩ dX9_latest_1 ?_
  intro H locs hP hD hS
  refine lv_if_ne (tgt := 9) hx hb dX9_latest_4 (by decide) (fun c_4 => ?_) (fun c_4 => ?_)
  · have hF := it_n c_4 hF
    refine lv_aload_n hx hb dX9_latest_9 rfl (lv_at hl 0 rfl) ?_
    refine va_get (D := g.1) (ci := 9) (v := .ref (p_t 13)) (C := RX9) (T := TX9) (N := 15) hx hb hts iX9_latest_X9 hown hK.1 hP 19 rfl rfl 13 (by decide) (hts _ kX9_latest_80) (fun _ h9 => h9) rfl dX9_latest_10 ?_
    refine lv_aload_n hx hb dX9_latest_13 rfl (lv_at hl 0 rfl) ?_
    refine va_get (D := g.1) (ci := 9) (v := .ref (p_t 1)) (C := RX9) (T := TX9) (N := 15) hx hb hts iX9_latest_X9 hown hK.1 hP 19 rfl rfl 1 (by decide) (hts _ kX9_latest_19) (fun _ h9 => h9) rfl dX9_latest_14 ?_
    refine lv_aload_n hx hb dX9_latest_17 rfl (lv_at hl 0 rfl) ?_
    refine va_get (D := g.1) (ci := 9) (v := .ref (p_t 5)) (C := RX9) (T := TX9) (N := 15) hx hb hts iX9_latest_X9 hown hK.1 hP 19 rfl rfl 5 (by decide) (hts _ kX9_latest_37) (fun _ h9 => h9) rfl dX9_latest_18 ?_
    refine lv_aload_n hx hb dX9_latest_21 rfl (lv_at hl 0 rfl) ?_
    refine va_get (D := g.1) (ci := 9) (v := .ref (p_t 7)) (C := RX9) (T := TX9) (N := 15) hx hb hts iX9_latest_X9 hown hK.1 hP 19 rfl rfl 7 (by decide) (hts _ kX9_latest_49) (fun _ h9 => h9) rfl dX9_latest_22 ?_
    obtain ⟨u_5, u_6, u_7, u_8, u_9, u_10, u_11, u_12, u_13, hu_14, hF⟩ := ob9_some hF
    refine call_v (wr := [oX9 a_t p_t u_2]) (As := [.ref (p_t 1), .ref (p_t 5), .ref (p_t 7)]) (rest := []) (ci := 0) (q0 := 0) C0 (mX0_search l g (p_t 13) (p_t 1) (p_t 5) (p_t 7) p_t_13 p_t_13_5 p_t_1 p_t_5 p_t_7 n o_t_13 f_t_13_2 f_t_13_3 f_t_13_4 o_t_13_5 f_t_13_5_6 f_t_13_5_7 f_t_13_5_8 o_t_1 f_t_1_4 f_t_1_6 f_t_1_7 f_t_1_10 f_t_1_11 f_t_1_12 o_t_5 f_t_5_6 f_t_5_7 o_t_7 u_5 u_6 u_7 u_8 u_9 u_10 u_11 u_12 u_13 hu_14) (cwV 3 hts gX9_latest_X0_search rfl rfl rfl (by decide +kernel) ⟨Nat.le_of_ble_eq_true rfl, Nat.le_of_ble_eq_true rfl⟩) hP hD hS [11, 12, 13, 14, 15, 16, 17, 18, 0, 1, 2, 3, 4, 5, 6, 7, 8, 9, 10] [19] rfl rfl rfl rfl rfl (by decide) rfl rfl hl.1 rfl rfl (Nat.le_of_ble_eq_true rfl) ⟨Nat.zero_le _, Nat.zero_le _⟩ dX9_latest_25 ?_
    intro H locs hP hD hS
    refine lv_aload_n hx hb dX9_latest_28 rfl (lv_at hl 0 rfl) ?_
    refine va_get (D := g.1) (ci := 9) (v := .ref (p_t 13)) (C := RX9) (T := TX9) (N := 15) hx hb hts iX9_latest_X9 hown hK.1 hP 0 rfl rfl 13 (by decide) (hts _ kX9_latest_80) (fun _ h9 => h9) rfl dX9_latest_29 ?_
    refine va_get (D := g.1) (ci := 0) (v := .int (u_5 1)) (C := RX0) (T := TX0) (N := 6) hx hb hts iX9_latest_X0 hown hK.1 hP 1 rfl rfl 1 (by decide) (hts _ kX9_latest_255) (fun _ h9 => h9) rfl dX9_latest_32 ?_
    obtain ⟨u_15, hu_16, hF⟩ := ob1_some hF
    refine call_si (wr := [oX9 a_t p_t u_2, oX0 (p_t 13) p_t_13 u_5, aI g (p_t_13 2) 7 u_6, aI g (p_t_13 3) 5 u_7, aI g (p_t_13 4) 7 u_8, oX2 (p_t_13 5) p_t_13_5 u_9, aI g (p_t_13_5 6) 7 u_10, aI g (p_t_13_5 7) 7 u_11, aI g (p_t_13_5 8) 7 u_12, oX1 (p_t 1) p_t_1 o_t_1, aI g (p_t_1 4) 7 f_t_1_4, aI g (p_t_1 6) 7 f_t_1_6, aI g (p_t_1 7) 7 f_t_1_7, aI g (p_t_1 10) 8 f_t_1_10, aI g (p_t_1 11) 8 f_t_1_11, aI g (p_t_1 12) 8 f_t_1_12, oX2 (p_t 5) p_t_5 o_t_5, aI g (p_t_5 6) 7 f_t_5_6, aI g (p_t_5 7) 7 f_t_5_7, oX3 (p_t 7) p_t_7 u_13]) (As := [.int (u_5 1)]) (rest := []) C0 (mX9_orNot l g n (u_5 1) u_15 hu_16) (va_cwS 1 hts gX9_latest_X9_orNot rfl rfl rfl (by decide +kernel) ⟨Nat.le_of_ble_eq_true rfl, Nat.le_of_ble_eq_true rfl⟩) hP hD hS [] [0, 1, 2, 3, 4, 5, 6, 7, 8, 9, 10, 11, 12, 13, 14, 15, 16, 17, 18, 19] rfl rfl rfl rfl rfl (by decide) hl.1 rfl rfl (Nat.le_of_ble_eq_true rfl) ⟨Nat.zero_le _, Nat.zero_le _⟩ dX9_latest_35 ?_
    intro H locs hP hD hS
    cases hF
    exact ret_i C0 hP hD hS [0, 9, 10, 11, 12, 13, 14, 15, 16, 17, 18, 19, 1, 2, 3, 4, 5, 6, 7, 8] rfl rfl rfl dX9_latest_38 rfl
  · have hF := it_p c_4 hF
    refine lv_iconst (v := (-1 : Int32)) hx hb dX9_latest_7 (by decide) ?_
    cases hF
    exact ret_i C0 hP hD hS [19, 0, 1, 2, 3, 4, 5, 6, 7, 8, 9, 10, 11, 12, 13, 14, 15, 16, 17, 18] rfl rfl rfl dX9_latest_8 rfl

theorem dAX9_cupsFor : ∀ q ∈ ([(0, (.aload_n 0, 1)), (1, (.invokevirtual 153, 3)), (4, (.ifCond .eq 14, 3)), (7, (.aload_n 0, 1)), (8, (.iload_n 1, 1)), (9, (.iconst 0, 1)), (10, (.bipush 60, 2)), (12, (.invokevirtual 168, 3)), (15, (.ifCond .ne 5, 3)), (18, (.iconst (-1), 1)), (19, (.ireturn, 1)), (20, (.aload_n 0, 1)), (21, (.getfield 80, 3)), (24, (.aload_n 0, 1)), (25, (.getfield 19, 3)), (28, (.aload_n 0, 1)), (29, (.getfield 37, 3)), (32, (.aload_n 0, 1)), (33, (.getfield 49, 3)), (36, (.invokevirtual 254, 3)), (39, (.iconst 0, 1)), (40, (.istore_n 2, 1)), (41, (.iload_n 2, 1)), (42, (.iconst 4, 1)), (43, (.if_icmp .gt 24, 3)), (46, (.aload_n 0, 1)), (47, (.getfield 80, 3)), (50, (.getfield 256, 3)), (53, (.iload_n 2, 1)), (54, (.iaload, 1)), (55, (.iload_n 1, 1)), (56, (.if_icmp .lt 5, 3)), (59, (.iload_n 2, 1)), (60, (.ireturn, 1)), (61, (.iinc 2 1, 3)), (64, (.goto (-23), 3)), (67, (.bipush (-2), 2)), (69, (.ireturn, 1))] : List (Nat × (Instr × Nat))), decode cX9_cupsFor q.1 = .ok q.2 := by decide +kernel
theorem dX9_cupsFor_0 : decode cX9_cupsFor 0 = .ok (.aload_n 0, 1) := dAX9_cupsFor (0, (.aload_n 0, 1)) (List.mem_of_getElem? (i := 0) rfl)
theorem dX9_cupsFor_1 : decode cX9_cupsFor 1 = .ok (.invokevirtual 153, 3) := dAX9_cupsFor (1, (.invokevirtual 153, 3)) (List.mem_of_getElem? (i := 1) rfl)
theorem dX9_cupsFor_4 : decode cX9_cupsFor 4 = .ok (.ifCond .eq 14, 3) := dAX9_cupsFor (4, (.ifCond .eq 14, 3)) (List.mem_of_getElem? (i := 2) rfl)
theorem dX9_cupsFor_7 : decode cX9_cupsFor 7 = .ok (.aload_n 0, 1) := dAX9_cupsFor (7, (.aload_n 0, 1)) (List.mem_of_getElem? (i := 3) rfl)
theorem dX9_cupsFor_8 : decode cX9_cupsFor 8 = .ok (.iload_n 1, 1) := dAX9_cupsFor (8, (.iload_n 1, 1)) (List.mem_of_getElem? (i := 4) rfl)
theorem dX9_cupsFor_9 : decode cX9_cupsFor 9 = .ok (.iconst 0, 1) := dAX9_cupsFor (9, (.iconst 0, 1)) (List.mem_of_getElem? (i := 5) rfl)
theorem dX9_cupsFor_10 : decode cX9_cupsFor 10 = .ok (.bipush 60, 2) := dAX9_cupsFor (10, (.bipush 60, 2)) (List.mem_of_getElem? (i := 6) rfl)
theorem dX9_cupsFor_12 : decode cX9_cupsFor 12 = .ok (.invokevirtual 168, 3) := dAX9_cupsFor (12, (.invokevirtual 168, 3)) (List.mem_of_getElem? (i := 7) rfl)
theorem dX9_cupsFor_15 : decode cX9_cupsFor 15 = .ok (.ifCond .ne 5, 3) := dAX9_cupsFor (15, (.ifCond .ne 5, 3)) (List.mem_of_getElem? (i := 8) rfl)
theorem dX9_cupsFor_18 : decode cX9_cupsFor 18 = .ok (.iconst (-1), 1) := dAX9_cupsFor (18, (.iconst (-1), 1)) (List.mem_of_getElem? (i := 9) rfl)
theorem dX9_cupsFor_19 : decode cX9_cupsFor 19 = .ok (.ireturn, 1) := dAX9_cupsFor (19, (.ireturn, 1)) (List.mem_of_getElem? (i := 10) rfl)
theorem dX9_cupsFor_20 : decode cX9_cupsFor 20 = .ok (.aload_n 0, 1) := dAX9_cupsFor (20, (.aload_n 0, 1)) (List.mem_of_getElem? (i := 11) rfl)
theorem dX9_cupsFor_21 : decode cX9_cupsFor 21 = .ok (.getfield 80, 3) := dAX9_cupsFor (21, (.getfield 80, 3)) (List.mem_of_getElem? (i := 12) rfl)
theorem dX9_cupsFor_24 : decode cX9_cupsFor 24 = .ok (.aload_n 0, 1) := dAX9_cupsFor (24, (.aload_n 0, 1)) (List.mem_of_getElem? (i := 13) rfl)
theorem dX9_cupsFor_25 : decode cX9_cupsFor 25 = .ok (.getfield 19, 3) := dAX9_cupsFor (25, (.getfield 19, 3)) (List.mem_of_getElem? (i := 14) rfl)
theorem dX9_cupsFor_28 : decode cX9_cupsFor 28 = .ok (.aload_n 0, 1) := dAX9_cupsFor (28, (.aload_n 0, 1)) (List.mem_of_getElem? (i := 15) rfl)
theorem dX9_cupsFor_29 : decode cX9_cupsFor 29 = .ok (.getfield 37, 3) := dAX9_cupsFor (29, (.getfield 37, 3)) (List.mem_of_getElem? (i := 16) rfl)
theorem dX9_cupsFor_32 : decode cX9_cupsFor 32 = .ok (.aload_n 0, 1) := dAX9_cupsFor (32, (.aload_n 0, 1)) (List.mem_of_getElem? (i := 17) rfl)
theorem dX9_cupsFor_33 : decode cX9_cupsFor 33 = .ok (.getfield 49, 3) := dAX9_cupsFor (33, (.getfield 49, 3)) (List.mem_of_getElem? (i := 18) rfl)
theorem dX9_cupsFor_36 : decode cX9_cupsFor 36 = .ok (.invokevirtual 254, 3) := dAX9_cupsFor (36, (.invokevirtual 254, 3)) (List.mem_of_getElem? (i := 19) rfl)
theorem dX9_cupsFor_39 : decode cX9_cupsFor 39 = .ok (.iconst 0, 1) := dAX9_cupsFor (39, (.iconst 0, 1)) (List.mem_of_getElem? (i := 20) rfl)
theorem dX9_cupsFor_40 : decode cX9_cupsFor 40 = .ok (.istore_n 2, 1) := dAX9_cupsFor (40, (.istore_n 2, 1)) (List.mem_of_getElem? (i := 21) rfl)
theorem dX9_cupsFor_41 : decode cX9_cupsFor 41 = .ok (.iload_n 2, 1) := dAX9_cupsFor (41, (.iload_n 2, 1)) (List.mem_of_getElem? (i := 22) rfl)
theorem dX9_cupsFor_42 : decode cX9_cupsFor 42 = .ok (.iconst 4, 1) := dAX9_cupsFor (42, (.iconst 4, 1)) (List.mem_of_getElem? (i := 23) rfl)
theorem dX9_cupsFor_43 : decode cX9_cupsFor 43 = .ok (.if_icmp .gt 24, 3) := dAX9_cupsFor (43, (.if_icmp .gt 24, 3)) (List.mem_of_getElem? (i := 24) rfl)
theorem dX9_cupsFor_46 : decode cX9_cupsFor 46 = .ok (.aload_n 0, 1) := dAX9_cupsFor (46, (.aload_n 0, 1)) (List.mem_of_getElem? (i := 25) rfl)
theorem dX9_cupsFor_47 : decode cX9_cupsFor 47 = .ok (.getfield 80, 3) := dAX9_cupsFor (47, (.getfield 80, 3)) (List.mem_of_getElem? (i := 26) rfl)
theorem dX9_cupsFor_50 : decode cX9_cupsFor 50 = .ok (.getfield 256, 3) := dAX9_cupsFor (50, (.getfield 256, 3)) (List.mem_of_getElem? (i := 27) rfl)
theorem dX9_cupsFor_53 : decode cX9_cupsFor 53 = .ok (.iload_n 2, 1) := dAX9_cupsFor (53, (.iload_n 2, 1)) (List.mem_of_getElem? (i := 28) rfl)
theorem dX9_cupsFor_54 : decode cX9_cupsFor 54 = .ok (.iaload, 1) := dAX9_cupsFor (54, (.iaload, 1)) (List.mem_of_getElem? (i := 29) rfl)
theorem dX9_cupsFor_55 : decode cX9_cupsFor 55 = .ok (.iload_n 1, 1) := dAX9_cupsFor (55, (.iload_n 1, 1)) (List.mem_of_getElem? (i := 30) rfl)
theorem dX9_cupsFor_56 : decode cX9_cupsFor 56 = .ok (.if_icmp .lt 5, 3) := dAX9_cupsFor (56, (.if_icmp .lt 5, 3)) (List.mem_of_getElem? (i := 31) rfl)
theorem dX9_cupsFor_59 : decode cX9_cupsFor 59 = .ok (.iload_n 2, 1) := dAX9_cupsFor (59, (.iload_n 2, 1)) (List.mem_of_getElem? (i := 32) rfl)
theorem dX9_cupsFor_60 : decode cX9_cupsFor 60 = .ok (.ireturn, 1) := dAX9_cupsFor (60, (.ireturn, 1)) (List.mem_of_getElem? (i := 33) rfl)
theorem dX9_cupsFor_61 : decode cX9_cupsFor 61 = .ok (.iinc 2 1, 3) := dAX9_cupsFor (61, (.iinc 2 1, 3)) (List.mem_of_getElem? (i := 34) rfl)
theorem dX9_cupsFor_64 : decode cX9_cupsFor 64 = .ok (.goto (-23), 3) := dAX9_cupsFor (64, (.goto (-23), 3)) (List.mem_of_getElem? (i := 35) rfl)
theorem dX9_cupsFor_67 : decode cX9_cupsFor 67 = .ok (.bipush (-2), 2) := dAX9_cupsFor (67, (.bipush (-2), 2)) (List.mem_of_getElem? (i := 36) rfl)
theorem dX9_cupsFor_69 : decode cX9_cupsFor 69 = .ok (.ireturn, 1) := dAX9_cupsFor (69, (.ireturn, 1)) (List.mem_of_getElem? (i := 37) rfl)
set_option maxRecDepth 20000 in
theorem ggX9_cupsFor_X9_asked : GoodIn wsX9_cupsFor wsX9_asked := goodIn_r _ [10, 11, 12, 114, 115, 116, 117, 118, 119, 120, 121, 122, 123, 124, 125, 126, 127, 128] rfl (by decide +kernel)
set_option maxRecDepth 20000 in
theorem gX9_cupsFor_X9_asked : GoodIn wsX9_cupsFor (wsV RX9 153 RX9 yX9_asked wsX9_asked) := goodIn_app (goodIn_of _ (by decide +kernel)) ggX9_cupsFor_X9_asked
set_option maxRecDepth 20000 in
theorem ggX9_cupsFor_X9_within : GoodIn wsX9_cupsFor wsX9_within := goodIn_r _ [16, 12, 114, 115, 116, 117, 118, 119, 120, 121, 122, 123, 124, 125, 126, 127, 128] rfl (by decide +kernel)
set_option maxRecDepth 20000 in
theorem gX9_cupsFor_X9_within : GoodIn wsX9_cupsFor (wsV RX9 168 RX9 yX9_within wsX9_within) := goodIn_app (goodIn_of _ (by decide +kernel)) ggX9_cupsFor_X9_within
set_option maxRecDepth 20000 in
theorem ggX9_cupsFor_X0_search : GoodIn wsX9_cupsFor wsX0_search := goodIn_r _ [21, 22, 23, 24, 25, 26, 27, 28, 20, 29, 30, 31, 32, 33, 34, 35, 36, 37, 38, 39, 40, 41, 42, 43, 44, 45, 46, 47, 48, 49, 50, 51, 52, 53, 54, 55, 56, 57, 58, 59, 60, 61, 62, 63, 64, 65, 66, 67, 68, 69, 70, 71, 72, 73, 74, 75, 76, 77, 78, 79, 80, 81, 82, 83, 84, 85, 86, 87, 88, 89, 90, 91, 92, 93, 94, 95, 96, 97, 98, 99, 100, 101, 102, 103, 104, 105, 106, 107, 108, 109, 110, 111, 112, 9, 113, 129, 130, 131, 132, 133, 134, 135, 136, 137, 138, 139, 140, 141, 142, 143, 144, 145, 146, 147, 148, 149, 150, 151, 152, 153, 154, 155, 156, 157, 158, 159, 160, 161, 162] rfl (by decide +kernel)
set_option maxRecDepth 20000 in
theorem gX9_cupsFor_X0_search : GoodIn wsX9_cupsFor (wsV RX9 254 RX0 yX0_search wsX0_search) := goodIn_app (goodIn_of _ (by decide +kernel)) ggX9_cupsFor_X0_search
theorem kX9_cupsFor_80 : Cond.fieldLink RX9 80 "EveningVow" "shares" "LEveningVow$CupShares;" ∈ wsX9_cupsFor := List.mem_of_getElem? (i := 1) rfl
theorem iX9_cupsFor_X9 : ∀ w ∈ u_ws RX9 TX9 15, w ∈ wsX9_cupsFor := fun w h => (List.mem_cons_of_mem _ (List.mem_append_left _ (List.mem_append_left _ (List.mem_append_left _ (List.mem_append_left _ (List.mem_append_right _ h))))))
theorem kX9_cupsFor_19 : Cond.fieldLink RX9 19 "EveningVow" "told" "LEveningVow$House;" ∈ wsX9_cupsFor := List.mem_of_getElem? (i := 2) rfl
theorem kX9_cupsFor_37 : Cond.fieldLink RX9 37 "EveningVow" "now" "LEveningVow$Night;" ∈ wsX9_cupsFor := List.mem_of_getElem? (i := 3) rfl
theorem kX9_cupsFor_49 : Cond.fieldLink RX9 49 "EveningVow" "asTold" "LEveningVow$Pace;" ∈ wsX9_cupsFor := List.mem_of_getElem? (i := 4) rfl
theorem kX9_cupsFor_256 : Cond.fieldLink RX9 256 "EveningVow$CupShares" "hoursBy" "[I" ∈ wsX9_cupsFor := List.mem_of_getElem? (i := 5) rfl
theorem iX9_cupsFor_X0 : ∀ w ∈ u_ws RX0 TX0 6, w ∈ wsX9_cupsFor := fun w h => (List.mem_cons_of_mem _ (List.mem_append_left _ (List.mem_append_left _ (List.mem_append_left _ (List.mem_append_right _ h)))))
set_option maxHeartbeats 4000000 in
set_option maxRecDepth 100000 in
theorem wX9_cupsFor_L41 {p : Program} {l : Launch} {e : Env} {s : State} {m : MethodId} {args : Array Value} {below : List Frame} {meth : Method} {c : Code} {g : GG} {A : Nat → Prop} (C0 : Cx p s m args meth c cX9_cupsFor 3 (some .int) RX9 wsX9_cupsFor g A) (a_t : Nat) (p_t : Nat → Nat) (p_t_1 : Nat → Nat) (p_t_5 : Nat → Nat) (p_t_7 : Nat → Nat) (p_t_13 : Nat → Nat) (p_t_13_5 : Nat → Nat) (n : Nat) (x1 : Int32) (o_t : Nat → Int32) (o_t_7 : Nat → Int32) (o_t_13 : Nat → Int32) (f_t_13_2 : Nat → Int32) (f_t_13_3 : Nat → Int32) (f_t_13_4 : Nat → Int32) (o_t_13_5 : Nat → Int32) (f_t_13_5_6 : Nat → Int32) (f_t_13_5_7 : Nat → Int32) (f_t_13_5_8 : Nat → Int32) (o_t_1 : Nat → Int32) (f_t_1_4 : Nat → Int32) (f_t_1_6 : Nat → Int32) (f_t_1_7 : Nat → Int32) (f_t_1_10 : Nat → Int32) (f_t_1_11 : Nat → Int32) (f_t_1_12 : Nat → Int32) (o_t_5 : Nat → Int32) (f_t_5_6 : Nat → Int32) (f_t_5_7 : Nat → Int32) (r : Int32) (o_t' : Nat → Int32) (o_t_7' : Nat → Int32) (o_t_13' : Nat → Int32) (f_t_13_2' : Nat → Int32) (f_t_13_3' : Nat → Int32) (f_t_13_4' : Nat → Int32) (o_t_13_5' : Nat → Int32) (f_t_13_5_6' : Nat → Int32) (f_t_13_5_7' : Nat → Int32) (f_t_13_5_8' : Nat → Int32) (K : Unit → Option (Int32 × (Nat → Int32) × (Nat → Int32) × (Nat → Int32) × (Nat → Int32) × (Nat → Int32) × (Nat → Int32) × (Nat → Int32) × (Nat → Int32) × (Nat → Int32) × (Nat → Int32))) (hKx : ∀  (H : Heap) (locs : List Loc) (ls : Array Slot), K () = some (r, o_t', o_t_7', o_t_13', f_t_13_2', f_t_13_3', f_t_13_4', o_t_13_5', f_t_13_5_6', f_t_13_5_7', f_t_13_5_8') → va_P g.1 vwCl [oX9 a_t p_t o_t, oX1 (p_t 1) p_t_1 o_t_1, aI g (p_t_1 4) 7 f_t_1_4, aI g (p_t_1 6) 7 f_t_1_6, aI g (p_t_1 7) 7 f_t_1_7, aI g (p_t_1 10) 8 f_t_1_10, aI g (p_t_1 11) 8 f_t_1_11, aI g (p_t_1 12) 8 f_t_1_12, oX2 (p_t 5) p_t_5 o_t_5, aI g (p_t_5 6) 7 f_t_5_6, aI g (p_t_5 7) 7 f_t_5_7, oX3 (p_t 7) p_t_7 o_t_7, oX0 (p_t 13) p_t_13 o_t_13, aI g (p_t_13 2) 7 f_t_13_2, aI g (p_t_13 3) 5 f_t_13_3, aI g (p_t_13 4) 7 f_t_13_4, oX2 (p_t_13 5) p_t_13_5 o_t_13_5, aI g (p_t_13_5 6) 7 f_t_13_5_6, aI g (p_t_13_5 7) 7 f_t_13_5_7, aI g (p_t_13_5 8) 7 f_t_13_5_8] H → va_D A [oX9 a_t p_t o_t, oX1 (p_t 1) p_t_1 o_t_1, aI g (p_t_1 4) 7 f_t_1_4, aI g (p_t_1 6) 7 f_t_1_6, aI g (p_t_1 7) 7 f_t_1_7, aI g (p_t_1 10) 8 f_t_1_10, aI g (p_t_1 11) 8 f_t_1_11, aI g (p_t_1 12) 8 f_t_1_12, oX2 (p_t 5) p_t_5 o_t_5, aI g (p_t_5 6) 7 f_t_5_6, aI g (p_t_5 7) 7 f_t_5_7, oX3 (p_t 7) p_t_7 o_t_7, oX0 (p_t 13) p_t_13 o_t_13, aI g (p_t_13 2) 7 f_t_13_2, aI g (p_t_13 3) 5 f_t_13_3, aI g (p_t_13 4) 7 f_t_13_4, oX2 (p_t_13 5) p_t_13_5 o_t_13_5, aI g (p_t_13_5 6) 7 f_t_13_5_6, aI g (p_t_13_5 7) 7 f_t_13_5_7, aI g (p_t_13_5 8) 7 f_t_13_5_8] → va_S A s.heap H locs → lv_has ls 3 [] → W p l e ({ frames := 17, cells := 0, slots := 0, locals := 452 } : Room) s m args below meth c H locs 0 0 (MQ below (EndI g r [oX9 a_t p_t o_t', oX1 (p_t 1) p_t_1 o_t_1, aI g (p_t_1 4) 7 f_t_1_4, aI g (p_t_1 6) 7 f_t_1_6, aI g (p_t_1 7) 7 f_t_1_7, aI g (p_t_1 10) 8 f_t_1_10, aI g (p_t_1 11) 8 f_t_1_11, aI g (p_t_1 12) 8 f_t_1_12, oX2 (p_t 5) p_t_5 o_t_5, aI g (p_t_5 6) 7 f_t_5_6, aI g (p_t_5 7) 7 f_t_5_7, oX3 (p_t 7) p_t_7 o_t_7', oX0 (p_t 13) p_t_13 o_t_13', aI g (p_t_13 2) 7 f_t_13_2', aI g (p_t_13 3) 5 f_t_13_3', aI g (p_t_13 4) 7 f_t_13_4', oX2 (p_t_13 5) p_t_13_5 o_t_13_5', aI g (p_t_13_5 6) 7 f_t_13_5_6', aI g (p_t_13_5 7) 7 f_t_13_5_7', aI g (p_t_13_5 8) 7 f_t_13_5_8'] A) args s 0 0 A) (F0 m 67 ls [])) : ∀ (k : Nat) (x2 : Int32), fX9_cupsFor_L41 n x1 o_t o_t_7 o_t_13 f_t_13_2 f_t_13_3 f_t_13_4 o_t_13_5 f_t_13_5_6 f_t_13_5_7 f_t_13_5_8 K k x2 = some (r, o_t', o_t_7', o_t_13', f_t_13_2', f_t_13_3', f_t_13_4', o_t_13_5', f_t_13_5_6', f_t_13_5_7', f_t_13_5_8') → ∀ (H : Heap) (locs : List Loc) (ls : Array Slot), va_P g.1 vwCl [oX9 a_t p_t o_t, oX1 (p_t 1) p_t_1 o_t_1, aI g (p_t_1 4) 7 f_t_1_4, aI g (p_t_1 6) 7 f_t_1_6, aI g (p_t_1 7) 7 f_t_1_7, aI g (p_t_1 10) 8 f_t_1_10, aI g (p_t_1 11) 8 f_t_1_11, aI g (p_t_1 12) 8 f_t_1_12, oX2 (p_t 5) p_t_5 o_t_5, aI g (p_t_5 6) 7 f_t_5_6, aI g (p_t_5 7) 7 f_t_5_7, oX3 (p_t 7) p_t_7 o_t_7, oX0 (p_t 13) p_t_13 o_t_13, aI g (p_t_13 2) 7 f_t_13_2, aI g (p_t_13 3) 5 f_t_13_3, aI g (p_t_13 4) 7 f_t_13_4, oX2 (p_t_13 5) p_t_13_5 o_t_13_5, aI g (p_t_13_5 6) 7 f_t_13_5_6, aI g (p_t_13_5 7) 7 f_t_13_5_7, aI g (p_t_13_5 8) 7 f_t_13_5_8] H → va_D A [oX9 a_t p_t o_t, oX1 (p_t 1) p_t_1 o_t_1, aI g (p_t_1 4) 7 f_t_1_4, aI g (p_t_1 6) 7 f_t_1_6, aI g (p_t_1 7) 7 f_t_1_7, aI g (p_t_1 10) 8 f_t_1_10, aI g (p_t_1 11) 8 f_t_1_11, aI g (p_t_1 12) 8 f_t_1_12, oX2 (p_t 5) p_t_5 o_t_5, aI g (p_t_5 6) 7 f_t_5_6, aI g (p_t_5 7) 7 f_t_5_7, oX3 (p_t 7) p_t_7 o_t_7, oX0 (p_t 13) p_t_13 o_t_13, aI g (p_t_13 2) 7 f_t_13_2, aI g (p_t_13 3) 5 f_t_13_3, aI g (p_t_13 4) 7 f_t_13_4, oX2 (p_t_13 5) p_t_13_5 o_t_13_5, aI g (p_t_13_5 6) 7 f_t_13_5_6, aI g (p_t_13_5 7) 7 f_t_13_5_7, aI g (p_t_13_5 8) 7 f_t_13_5_8] → va_S A s.heap H locs → lv_has ls 3 [(0, .ref a_t), (1, .int x1), (2, .int x2)] → W p l e ({ frames := 17, cells := 0, slots := 0, locals := 452 } : Room) s m args below meth c H locs 0 0 (MQ below (EndI g r [oX9 a_t p_t o_t', oX1 (p_t 1) p_t_1 o_t_1, aI g (p_t_1 4) 7 f_t_1_4, aI g (p_t_1 6) 7 f_t_1_6, aI g (p_t_1 7) 7 f_t_1_7, aI g (p_t_1 10) 8 f_t_1_10, aI g (p_t_1 11) 8 f_t_1_11, aI g (p_t_1 12) 8 f_t_1_12, oX2 (p_t 5) p_t_5 o_t_5, aI g (p_t_5 6) 7 f_t_5_6, aI g (p_t_5 7) 7 f_t_5_7, oX3 (p_t 7) p_t_7 o_t_7', oX0 (p_t 13) p_t_13 o_t_13', aI g (p_t_13 2) 7 f_t_13_2', aI g (p_t_13 3) 5 f_t_13_3', aI g (p_t_13 4) 7 f_t_13_4', oX2 (p_t_13 5) p_t_13_5 o_t_13_5', aI g (p_t_13_5 6) 7 f_t_13_5_6', aI g (p_t_13_5 7) 7 f_t_13_5_7', aI g (p_t_13_5 8) 7 f_t_13_5_8'] A) args s 0 0 A) (F0 m 41 ls []) := by
  obtain ⟨hx, hb, hml, hown, hts, hr, hlk, hK, hA, hSW⟩ := id C0
  intro k
  induction k with
  | zero =>
    intro x2 hF
    exact absurd hF (by simp [fX9_cupsFor_L41])
  | succ k ih =>
    intro x2 hF H locs ls hP hD hS hl
    rw [fX9_cupsFor_L41] at hF
    refine lv_iload_n hx hb dX9_cupsFor_41 rfl (lv_at hl 2 rfl) ?_
    refine lv_iconst (v := (4 : Int32)) hx hb dX9_cupsFor_42 (by decide) ?_
    refine lv_icmp_gt (tgt := 67) hx hb dX9_cupsFor_43 (by decide) (fun c_19 => ?_) (fun c_19 => ?_)
    · have hF := it_p c_19 hF
      exact hKx  _ _ _ hF (hP.sub [0, 1, 2, 3, 4, 5, 6, 7, 8, 9, 10, 11, 12, 13, 14, 15, 16, 17, 18, 19] rfl) (hD.sub [0, 1, 2, 3, 4, 5, 6, 7, 8, 9, 10, 11, 12, 13, 14, 15, 16, 17, 18, 19] rfl rfl) hS (lv_sub hl [] rfl)
    · have hF := it_n c_19 hF
      refine lv_aload_n hx hb dX9_cupsFor_46 rfl (lv_at hl 0 rfl) ?_
      refine va_get (D := g.1) (ci := 9) (v := .ref (p_t 13)) (C := RX9) (T := TX9) (N := 15) hx hb hts iX9_cupsFor_X9 hown hK.1 hP 0 rfl rfl 13 (by decide) (hts _ kX9_cupsFor_80) (fun _ h9 => h9) rfl dX9_cupsFor_47 ?_
      refine va_get (D := g.1) (ci := 0) (v := .ref (p_t_13 3)) (C := RX0) (T := TX0) (N := 6) hx hb hts iX9_cupsFor_X0 hown hK.1 hP 12 rfl rfl 3 (by decide) (hts _ kX9_cupsFor_256) (fun _ h9 => h9) rfl dX9_cupsFor_50 ?_
      refine lv_iload_n hx hb dX9_cupsFor_53 rfl (lv_at hl 2 rfl) ?_
      obtain ⟨h_20, hF⟩ := it_ck hF
      refine va_iald hx hb hK.1 hP 14 0 rfl rfl h_20 dX9_cupsFor_54 ?_
      refine lv_iload_n hx hb dX9_cupsFor_55 rfl (lv_at hl 1 rfl) ?_
      refine lv_icmp_lt (tgt := 61) hx hb dX9_cupsFor_56 (by decide) (fun c_21 => ?_) (fun c_21 => ?_)
      · have hF := it_p c_21 hF
        refine lv_iinc (v := (x2 + (1 : Int32))) (lv' := [(2, .int (x2 + (1 : Int32))), (0, .ref a_t), (1, .int x1)]) hx hb dX9_cupsFor_61 hl (k := 2) rfl rfl (by decide) rfl (fun ls hl => ?_)
        refine lv_goto (tgt := 41) hx hb dX9_cupsFor_64 (by decide) ?_
        exact ih (x2 + (1 : Int32)) hF _ _ _ (hP.sub [0, 1, 2, 3, 4, 5, 6, 7, 8, 9, 10, 11, 12, 13, 14, 15, 16, 17, 18, 19] rfl) (hD.sub [0, 1, 2, 3, 4, 5, 6, 7, 8, 9, 10, 11, 12, 13, 14, 15, 16, 17, 18, 19] rfl rfl) hS (lv_sub hl [1, 2, 0] rfl)
      · have hF := it_n c_21 hF
        refine lv_iload_n hx hb dX9_cupsFor_59 rfl (lv_at hl 2 rfl) ?_
        cases hF
        exact ret_i C0 hP hD hS [0, 1, 2, 3, 4, 5, 6, 7, 8, 9, 10, 11, 12, 13, 14, 15, 16, 17, 18, 19] rfl rfl rfl dX9_cupsFor_60 rfl
set_option maxHeartbeats 4000000 in
set_option maxRecDepth 100000 in
theorem mX9_cupsFor (l : Launch) (g : GG) (a_t : Nat) (p_t : Nat → Nat) (p_t_1 : Nat → Nat) (p_t_5 : Nat → Nat) (p_t_7 : Nat → Nat) (p_t_13 : Nat → Nat) (p_t_13_5 : Nat → Nat) (n : Nat) (x1 : Int32) (o_t : Nat → Int32) (o_t_1 : Nat → Int32) (f_t_1_4 : Nat → Int32) (f_t_1_6 : Nat → Int32) (f_t_1_7 : Nat → Int32) (f_t_1_10 : Nat → Int32) (f_t_1_11 : Nat → Int32) (f_t_1_12 : Nat → Int32) (o_t_5 : Nat → Int32) (f_t_5_6 : Nat → Int32) (f_t_5_7 : Nat → Int32) (o_t_7 : Nat → Int32) (o_t_13 : Nat → Int32) (f_t_13_2 : Nat → Int32) (f_t_13_3 : Nat → Int32) (f_t_13_4 : Nat → Int32) (o_t_13_5 : Nat → Int32) (f_t_13_5_6 : Nat → Int32) (f_t_13_5_7 : Nat → Int32) (f_t_13_5_8 : Nat → Int32) (r : Int32) (o_t' : Nat → Int32) (o_t_7' : Nat → Int32) (o_t_13' : Nat → Int32) (f_t_13_2' : Nat → Int32) (f_t_13_3' : Nat → Int32) (f_t_13_4' : Nat → Int32) (o_t_13_5' : Nat → Int32) (f_t_13_5_6' : Nat → Int32) (f_t_13_5_7' : Nat → Int32) (f_t_13_5_8' : Nat → Int32) (hF : fX9_cupsFor n x1 o_t o_t_1 f_t_1_4 f_t_1_6 f_t_1_7 f_t_1_10 f_t_1_11 f_t_1_12 o_t_5 f_t_5_6 f_t_5_7 o_t_7 o_t_13 f_t_13_2 f_t_13_3 f_t_13_4 o_t_13_5 f_t_13_5_6 f_t_13_5_7 f_t_13_5_8 = some (r, o_t', o_t_7', o_t_13', f_t_13_2', f_t_13_3', f_t_13_4', o_t_13_5', f_t_13_5_6', f_t_13_5_7', f_t_13_5_8')) : MI l g yX9_cupsFor wsX9_cupsFor ({ frames := 17, cells := 0, slots := 0, locals := 452 } : Room) [.ref a_t, .int x1] [oX9 a_t p_t o_t, oX1 (p_t 1) p_t_1 o_t_1, aI g (p_t_1 4) 7 f_t_1_4, aI g (p_t_1 6) 7 f_t_1_6, aI g (p_t_1 7) 7 f_t_1_7, aI g (p_t_1 10) 8 f_t_1_10, aI g (p_t_1 11) 8 f_t_1_11, aI g (p_t_1 12) 8 f_t_1_12, oX2 (p_t 5) p_t_5 o_t_5, aI g (p_t_5 6) 7 f_t_5_6, aI g (p_t_5 7) 7 f_t_5_7, oX3 (p_t 7) p_t_7 o_t_7, oX0 (p_t 13) p_t_13 o_t_13, aI g (p_t_13 2) 7 f_t_13_2, aI g (p_t_13 3) 5 f_t_13_3, aI g (p_t_13 4) 7 f_t_13_4, oX2 (p_t_13 5) p_t_13_5 o_t_13_5, aI g (p_t_13_5 6) 7 f_t_13_5_6, aI g (p_t_13_5 7) 7 f_t_13_5_7, aI g (p_t_13_5 8) 7 f_t_13_5_8] r [oX9 a_t p_t o_t', oX1 (p_t 1) p_t_1 o_t_1, aI g (p_t_1 4) 7 f_t_1_4, aI g (p_t_1 6) 7 f_t_1_6, aI g (p_t_1 7) 7 f_t_1_7, aI g (p_t_1 10) 8 f_t_1_10, aI g (p_t_1 11) 8 f_t_1_11, aI g (p_t_1 12) 8 f_t_1_12, oX2 (p_t 5) p_t_5 o_t_5, aI g (p_t_5 6) 7 f_t_5_6, aI g (p_t_5 7) 7 f_t_5_7, oX3 (p_t 7) p_t_7 o_t_7', oX0 (p_t 13) p_t_13 o_t_13', aI g (p_t_13 2) 7 f_t_13_2', aI g (p_t_13 3) 5 f_t_13_3', aI g (p_t_13 4) 7 f_t_13_4', oX2 (p_t_13 5) p_t_13_5 o_t_13_5', aI g (p_t_13_5 6) 7 f_t_13_5_6', aI g (p_t_13_5 7) 7 f_t_13_5_7', aI g (p_t_13_5 8) 7 f_t_13_5_8'] := by
  refine MI.of (cc := cX9_cupsFor) (maxL := 3) (rt := .int) (own := RX9) rfl rfl (by decide) (Nat.le_of_ble_eq_true rfl) ?_
  intro p e s m args below meth c A C0 hP hD hS ls hl
  obtain ⟨hx, hb, hml, hown, hts, hr, hlk, hK, hA, hSW⟩ := id C0
  have hl : lv_has ls 3 [(0, .ref a_t), (1, .int x1)] := hl
  rw [fX9_cupsFor] at hF
  refine lv_aload_n hx hb dX9_cupsFor_0 rfl (lv_at hl 0 rfl) ?_
  obtain ⟨u_1, u_2, hu_3, hF⟩ := ob2_some hF
  refine call_i (wr := [oX1 (p_t 1) p_t_1 o_t_1, aI g (p_t_1 4) 7 f_t_1_4, aI g (p_t_1 6) 7 f_t_1_6, aI g (p_t_1 7) 7 f_t_1_7, aI g (p_t_1 10) 8 f_t_1_10, aI g (p_t_1 11) 8 f_t_1_11, aI g (p_t_1 12) 8 f_t_1_12, oX2 (p_t 5) p_t_5 o_t_5, aI g (p_t_5 6) 7 f_t_5_6, aI g (p_t_5 7) 7 f_t_5_7, oX3 (p_t 7) p_t_7 o_t_7, oX0 (p_t 13) p_t_13 o_t_13, aI g (p_t_13 2) 7 f_t_13_2, aI g (p_t_13 3) 5 f_t_13_3, aI g (p_t_13 4) 7 f_t_13_4, oX2 (p_t_13 5) p_t_13_5 o_t_13_5, aI g (p_t_13_5 6) 7 f_t_13_5_6, aI g (p_t_13_5 7) 7 f_t_13_5_7, aI g (p_t_13_5 8) 7 f_t_13_5_8]) (As := []) (rest := []) (ci := 9) (q0 := 0) C0 (mX9_asked l g a_t p_t n o_t u_1 u_2 hu_3) (cwV 0 hts gX9_cupsFor_X9_asked rfl rfl rfl (by decide +kernel) ⟨Nat.le_of_ble_eq_true rfl, Nat.le_of_ble_eq_true rfl⟩) hP hD hS [0] [1, 2, 3, 4, 5, 6, 7, 8, 9, 10, 11, 12, 13, 14, 15, 16, 17, 18, 19] rfl rfl rfl rfl rfl (by decide) rfl rfl hl.1 rfl rfl (Nat.le_of_ble_eq_true rfl) ⟨Nat.zero_le _, Nat.zero_le _⟩ dX9_cupsFor_1 ?_
  intro H locs hP hD hS
  refine lv_if_eq (tgt := 18) hx hb dX9_cupsFor_4 (by decide) (fun c_4 => ?_) (fun c_4 => ?_)
  · have hF := it_p c_4 hF
    refine lv_iconst (v := (-1 : Int32)) hx hb dX9_cupsFor_18 (by decide) ?_
    cases hF
    exact ret_i C0 hP hD hS [19, 0, 1, 2, 3, 4, 5, 6, 7, 8, 9, 10, 11, 12, 13, 14, 15, 16, 17, 18] rfl rfl rfl dX9_cupsFor_19 rfl
  · have hF := it_n c_4 hF
    refine lv_aload_n hx hb dX9_cupsFor_7 rfl (lv_at hl 0 rfl) ?_
    refine lv_iload_n hx hb dX9_cupsFor_8 rfl (lv_at hl 1 rfl) ?_
    refine lv_iconst (v := (0 : Int32)) hx hb dX9_cupsFor_9 (by decide) ?_
    refine lv_bipush (v := (60 : Int32)) hx hb dX9_cupsFor_10 (by decide) ?_
    obtain ⟨u_5, u_6, hu_7, hF⟩ := ob2_some hF
    refine call_i (wr := [oX1 (p_t 1) p_t_1 o_t_1, aI g (p_t_1 4) 7 f_t_1_4, aI g (p_t_1 6) 7 f_t_1_6, aI g (p_t_1 7) 7 f_t_1_7, aI g (p_t_1 10) 8 f_t_1_10, aI g (p_t_1 11) 8 f_t_1_11, aI g (p_t_1 12) 8 f_t_1_12, oX2 (p_t 5) p_t_5 o_t_5, aI g (p_t_5 6) 7 f_t_5_6, aI g (p_t_5 7) 7 f_t_5_7, oX3 (p_t 7) p_t_7 o_t_7, oX0 (p_t 13) p_t_13 o_t_13, aI g (p_t_13 2) 7 f_t_13_2, aI g (p_t_13 3) 5 f_t_13_3, aI g (p_t_13 4) 7 f_t_13_4, oX2 (p_t_13 5) p_t_13_5 o_t_13_5, aI g (p_t_13_5 6) 7 f_t_13_5_6, aI g (p_t_13_5 7) 7 f_t_13_5_7, aI g (p_t_13_5 8) 7 f_t_13_5_8]) (As := [.int x1, .int (0 : Int32), .int (60 : Int32)]) (rest := []) (ci := 9) (q0 := 0) C0 (mX9_within l g a_t p_t n x1 (0 : Int32) (60 : Int32) u_2 u_5 u_6 hu_7) (cwV 3 hts gX9_cupsFor_X9_within rfl rfl rfl (by decide +kernel) ⟨Nat.le_of_ble_eq_true rfl, Nat.le_of_ble_eq_true rfl⟩) hP hD hS [19] [0, 1, 2, 3, 4, 5, 6, 7, 8, 9, 10, 11, 12, 13, 14, 15, 16, 17, 18] rfl rfl rfl rfl rfl (by decide) rfl rfl hl.1 rfl rfl (Nat.le_of_ble_eq_true rfl) ⟨Nat.zero_le _, Nat.zero_le _⟩ dX9_cupsFor_12 ?_
    intro H locs hP hD hS
    refine lv_if_ne (tgt := 20) hx hb dX9_cupsFor_15 (by decide) (fun c_8 => ?_) (fun c_8 => ?_)
    · have hF := it_n c_8 hF
      refine lv_aload_n hx hb dX9_cupsFor_20 rfl (lv_at hl 0 rfl) ?_
      refine va_get (D := g.1) (ci := 9) (v := .ref (p_t 13)) (C := RX9) (T := TX9) (N := 15) hx hb hts iX9_cupsFor_X9 hown hK.1 hP 19 rfl rfl 13 (by decide) (hts _ kX9_cupsFor_80) (fun _ h9 => h9) rfl dX9_cupsFor_21 ?_
      refine lv_aload_n hx hb dX9_cupsFor_24 rfl (lv_at hl 0 rfl) ?_
      refine va_get (D := g.1) (ci := 9) (v := .ref (p_t 1)) (C := RX9) (T := TX9) (N := 15) hx hb hts iX9_cupsFor_X9 hown hK.1 hP 19 rfl rfl 1 (by decide) (hts _ kX9_cupsFor_19) (fun _ h9 => h9) rfl dX9_cupsFor_25 ?_
      refine lv_aload_n hx hb dX9_cupsFor_28 rfl (lv_at hl 0 rfl) ?_
      refine va_get (D := g.1) (ci := 9) (v := .ref (p_t 5)) (C := RX9) (T := TX9) (N := 15) hx hb hts iX9_cupsFor_X9 hown hK.1 hP 19 rfl rfl 5 (by decide) (hts _ kX9_cupsFor_37) (fun _ h9 => h9) rfl dX9_cupsFor_29 ?_
      refine lv_aload_n hx hb dX9_cupsFor_32 rfl (lv_at hl 0 rfl) ?_
      refine va_get (D := g.1) (ci := 9) (v := .ref (p_t 7)) (C := RX9) (T := TX9) (N := 15) hx hb hts iX9_cupsFor_X9 hown hK.1 hP 19 rfl rfl 7 (by decide) (hts _ kX9_cupsFor_49) (fun _ h9 => h9) rfl dX9_cupsFor_33 ?_
      obtain ⟨u_9, u_10, u_11, u_12, u_13, u_14, u_15, u_16, u_17, hu_18, hF⟩ := ob9_some hF
      refine call_v (wr := [oX9 a_t p_t u_6]) (As := [.ref (p_t 1), .ref (p_t 5), .ref (p_t 7)]) (rest := []) (ci := 0) (q0 := 0) C0 (mX0_search l g (p_t 13) (p_t 1) (p_t 5) (p_t 7) p_t_13 p_t_13_5 p_t_1 p_t_5 p_t_7 n o_t_13 f_t_13_2 f_t_13_3 f_t_13_4 o_t_13_5 f_t_13_5_6 f_t_13_5_7 f_t_13_5_8 o_t_1 f_t_1_4 f_t_1_6 f_t_1_7 f_t_1_10 f_t_1_11 f_t_1_12 o_t_5 f_t_5_6 f_t_5_7 o_t_7 u_9 u_10 u_11 u_12 u_13 u_14 u_15 u_16 u_17 hu_18) (cwV 3 hts gX9_cupsFor_X0_search rfl rfl rfl (by decide +kernel) ⟨Nat.le_of_ble_eq_true rfl, Nat.le_of_ble_eq_true rfl⟩) hP hD hS [11, 12, 13, 14, 15, 16, 17, 18, 0, 1, 2, 3, 4, 5, 6, 7, 8, 9, 10] [19] rfl rfl rfl rfl rfl (by decide) rfl rfl hl.1 rfl rfl (Nat.le_of_ble_eq_true rfl) ⟨Nat.zero_le _, Nat.zero_le _⟩ dX9_cupsFor_36 ?_
      intro H locs hP hD hS
      refine lv_iconst (v := (0 : Int32)) hx hb dX9_cupsFor_39 (by decide) ?_
      refine lv_istore_n (lv' := [(2, .int (0 : Int32)), (0, .ref a_t), (1, .int x1)]) hx hb dX9_cupsFor_40 rfl hl (by decide) rfl (fun ls hl => ?_)
      refine wX9_cupsFor_L41 C0 a_t p_t p_t_1 p_t_5 p_t_7 p_t_13 p_t_13_5 n x1 u_6 u_17 u_9 u_10 u_11 u_12 u_13 u_14 u_15 u_16 o_t_1 f_t_1_4 f_t_1_6 f_t_1_7 f_t_1_10 f_t_1_11 f_t_1_12 o_t_5 f_t_5_6 f_t_5_7 r o_t' o_t_7' o_t_13' f_t_13_2' f_t_13_3' f_t_13_4' o_t_13_5' f_t_13_5_6' f_t_13_5_7' f_t_13_5_8' _ ?_ n (0 : Int32) hF _ _ _ (hP.sub [0, 9, 10, 11, 12, 13, 14, 15, 16, 17, 18, 19, 1, 2, 3, 4, 5, 6, 7, 8] rfl) (hD.sub [0, 9, 10, 11, 12, 13, 14, 15, 16, 17, 18, 19, 1, 2, 3, 4, 5, 6, 7, 8] rfl rfl) hS (lv_sub hl [1, 2, 0] rfl)
      · intro  H locs ls hF hP hD hS hl
        refine lv_bipush (v := (-2 : Int32)) hx hb dX9_cupsFor_67 (by decide) ?_
        cases hF
        exact ret_i C0 hP hD hS [0, 1, 2, 3, 4, 5, 6, 7, 8, 9, 10, 11, 12, 13, 14, 15, 16, 17, 18, 19] rfl rfl rfl dX9_cupsFor_69 rfl
    · have hF := it_p c_8 hF
      refine lv_iconst (v := (-1 : Int32)) hx hb dX9_cupsFor_18 (by decide) ?_
      cases hF
      exact ret_i C0 hP hD hS [19, 0, 1, 2, 3, 4, 5, 6, 7, 8, 9, 10, 11, 12, 13, 14, 15, 16, 17, 18] rfl rfl rfl dX9_cupsFor_19 rfl

theorem dAX9_cupsTo : ∀ q ∈ ([(0, (.aload_n 0, 1)), (1, (.iload_n 1, 1)), (2, (.invokevirtual 118, 3)), (5, (.ifCond .ne 5, 3)), (8, (.iconst (-1), 1)), (9, (.ireturn, 1)), (10, (.aload_n 0, 1)), (11, (.getfield 80, 3)), (14, (.aload_n 0, 1)), (15, (.getfield 19, 3)), (18, (.aload_n 0, 1)), (19, (.getfield 37, 3)), (22, (.aload_n 0, 1)), (23, (.getfield 49, 3)), (26, (.invokevirtual 254, 3)), (29, (.aload_n 0, 1)), (30, (.getfield 80, 3)), (33, (.getfield 255, 3)), (36, (.bipush 60, 2)), (38, (.if_icmp .le 10, 3)), (41, (.aload_n 0, 1)), (42, (.bipush 6, 2)), (44, (.invokevirtual 98, 3)), (47, (.ireturn, 1)), (48, (.aload_n 0, 1)), (49, (.getfield 80, 3)), (52, (.getfield 259, 3)), (55, (.iload_n 1, 1)), (56, (.iaload, 1)), (57, (.ireturn, 1))] : List (Nat × (Instr × Nat))), decode cX9_cupsTo q.1 = .ok q.2 := by decide +kernel
theorem dX9_cupsTo_0 : decode cX9_cupsTo 0 = .ok (.aload_n 0, 1) := dAX9_cupsTo (0, (.aload_n 0, 1)) (List.mem_of_getElem? (i := 0) rfl)
theorem dX9_cupsTo_1 : decode cX9_cupsTo 1 = .ok (.iload_n 1, 1) := dAX9_cupsTo (1, (.iload_n 1, 1)) (List.mem_of_getElem? (i := 1) rfl)
theorem dX9_cupsTo_2 : decode cX9_cupsTo 2 = .ok (.invokevirtual 118, 3) := dAX9_cupsTo (2, (.invokevirtual 118, 3)) (List.mem_of_getElem? (i := 2) rfl)
theorem dX9_cupsTo_5 : decode cX9_cupsTo 5 = .ok (.ifCond .ne 5, 3) := dAX9_cupsTo (5, (.ifCond .ne 5, 3)) (List.mem_of_getElem? (i := 3) rfl)
theorem dX9_cupsTo_8 : decode cX9_cupsTo 8 = .ok (.iconst (-1), 1) := dAX9_cupsTo (8, (.iconst (-1), 1)) (List.mem_of_getElem? (i := 4) rfl)
theorem dX9_cupsTo_9 : decode cX9_cupsTo 9 = .ok (.ireturn, 1) := dAX9_cupsTo (9, (.ireturn, 1)) (List.mem_of_getElem? (i := 5) rfl)
theorem dX9_cupsTo_10 : decode cX9_cupsTo 10 = .ok (.aload_n 0, 1) := dAX9_cupsTo (10, (.aload_n 0, 1)) (List.mem_of_getElem? (i := 6) rfl)
theorem dX9_cupsTo_11 : decode cX9_cupsTo 11 = .ok (.getfield 80, 3) := dAX9_cupsTo (11, (.getfield 80, 3)) (List.mem_of_getElem? (i := 7) rfl)
theorem dX9_cupsTo_14 : decode cX9_cupsTo 14 = .ok (.aload_n 0, 1) := dAX9_cupsTo (14, (.aload_n 0, 1)) (List.mem_of_getElem? (i := 8) rfl)
theorem dX9_cupsTo_15 : decode cX9_cupsTo 15 = .ok (.getfield 19, 3) := dAX9_cupsTo (15, (.getfield 19, 3)) (List.mem_of_getElem? (i := 9) rfl)
theorem dX9_cupsTo_18 : decode cX9_cupsTo 18 = .ok (.aload_n 0, 1) := dAX9_cupsTo (18, (.aload_n 0, 1)) (List.mem_of_getElem? (i := 10) rfl)
theorem dX9_cupsTo_19 : decode cX9_cupsTo 19 = .ok (.getfield 37, 3) := dAX9_cupsTo (19, (.getfield 37, 3)) (List.mem_of_getElem? (i := 11) rfl)
theorem dX9_cupsTo_22 : decode cX9_cupsTo 22 = .ok (.aload_n 0, 1) := dAX9_cupsTo (22, (.aload_n 0, 1)) (List.mem_of_getElem? (i := 12) rfl)
theorem dX9_cupsTo_23 : decode cX9_cupsTo 23 = .ok (.getfield 49, 3) := dAX9_cupsTo (23, (.getfield 49, 3)) (List.mem_of_getElem? (i := 13) rfl)
theorem dX9_cupsTo_26 : decode cX9_cupsTo 26 = .ok (.invokevirtual 254, 3) := dAX9_cupsTo (26, (.invokevirtual 254, 3)) (List.mem_of_getElem? (i := 14) rfl)
theorem dX9_cupsTo_29 : decode cX9_cupsTo 29 = .ok (.aload_n 0, 1) := dAX9_cupsTo (29, (.aload_n 0, 1)) (List.mem_of_getElem? (i := 15) rfl)
theorem dX9_cupsTo_30 : decode cX9_cupsTo 30 = .ok (.getfield 80, 3) := dAX9_cupsTo (30, (.getfield 80, 3)) (List.mem_of_getElem? (i := 16) rfl)
theorem dX9_cupsTo_33 : decode cX9_cupsTo 33 = .ok (.getfield 255, 3) := dAX9_cupsTo (33, (.getfield 255, 3)) (List.mem_of_getElem? (i := 17) rfl)
theorem dX9_cupsTo_36 : decode cX9_cupsTo 36 = .ok (.bipush 60, 2) := dAX9_cupsTo (36, (.bipush 60, 2)) (List.mem_of_getElem? (i := 18) rfl)
theorem dX9_cupsTo_38 : decode cX9_cupsTo 38 = .ok (.if_icmp .le 10, 3) := dAX9_cupsTo (38, (.if_icmp .le 10, 3)) (List.mem_of_getElem? (i := 19) rfl)
theorem dX9_cupsTo_41 : decode cX9_cupsTo 41 = .ok (.aload_n 0, 1) := dAX9_cupsTo (41, (.aload_n 0, 1)) (List.mem_of_getElem? (i := 20) rfl)
theorem dX9_cupsTo_42 : decode cX9_cupsTo 42 = .ok (.bipush 6, 2) := dAX9_cupsTo (42, (.bipush 6, 2)) (List.mem_of_getElem? (i := 21) rfl)
theorem dX9_cupsTo_44 : decode cX9_cupsTo 44 = .ok (.invokevirtual 98, 3) := dAX9_cupsTo (44, (.invokevirtual 98, 3)) (List.mem_of_getElem? (i := 22) rfl)
theorem dX9_cupsTo_47 : decode cX9_cupsTo 47 = .ok (.ireturn, 1) := dAX9_cupsTo (47, (.ireturn, 1)) (List.mem_of_getElem? (i := 23) rfl)
theorem dX9_cupsTo_48 : decode cX9_cupsTo 48 = .ok (.aload_n 0, 1) := dAX9_cupsTo (48, (.aload_n 0, 1)) (List.mem_of_getElem? (i := 24) rfl)
theorem dX9_cupsTo_49 : decode cX9_cupsTo 49 = .ok (.getfield 80, 3) := dAX9_cupsTo (49, (.getfield 80, 3)) (List.mem_of_getElem? (i := 25) rfl)
theorem dX9_cupsTo_52 : decode cX9_cupsTo 52 = .ok (.getfield 259, 3) := dAX9_cupsTo (52, (.getfield 259, 3)) (List.mem_of_getElem? (i := 26) rfl)
theorem dX9_cupsTo_55 : decode cX9_cupsTo 55 = .ok (.iload_n 1, 1) := dAX9_cupsTo (55, (.iload_n 1, 1)) (List.mem_of_getElem? (i := 27) rfl)
theorem dX9_cupsTo_56 : decode cX9_cupsTo 56 = .ok (.iaload, 1) := dAX9_cupsTo (56, (.iaload, 1)) (List.mem_of_getElem? (i := 28) rfl)
theorem dX9_cupsTo_57 : decode cX9_cupsTo 57 = .ok (.ireturn, 1) := dAX9_cupsTo (57, (.ireturn, 1)) (List.mem_of_getElem? (i := 29) rfl)
set_option maxRecDepth 20000 in
theorem ggX9_cupsTo_X9_guestAsked : GoodIn wsX9_cupsTo wsX9_guestAsked := goodIn_r _ [11, 2, 12, 13, 115, 116, 117, 118, 119, 120, 121, 122, 123, 124, 125, 126, 127, 128, 129, 136, 137, 138, 139, 140, 141, 142, 143, 144, 145, 146, 147, 148, 149, 150, 151, 152] rfl (by decide +kernel)
set_option maxRecDepth 20000 in
theorem gX9_cupsTo_X9_guestAsked : GoodIn wsX9_cupsTo (wsV RX9 118 RX9 yX9_guestAsked wsX9_guestAsked) := goodIn_app (goodIn_of _ (by decide +kernel)) ggX9_cupsTo_X9_guestAsked
set_option maxRecDepth 20000 in
theorem ggX9_cupsTo_X0_search : GoodIn wsX9_cupsTo wsX0_search := goodIn_r _ [18, 19, 20, 21, 22, 23, 24, 25, 17, 26, 27, 28, 29, 30, 31, 32, 33, 34, 35, 36, 37, 38, 39, 40, 41, 42, 43, 44, 45, 46, 47, 48, 49, 50, 51, 52, 53, 54, 55, 56, 57, 58, 59, 60, 61, 62, 63, 64, 65, 66, 67, 68, 69, 70, 71, 72, 73, 74, 75, 76, 77, 78, 79, 80, 81, 82, 83, 84, 85, 86, 87, 88, 89, 90, 91, 92, 93, 94, 95, 96, 97, 98, 99, 100, 101, 102, 103, 104, 105, 106, 107, 108, 109, 10, 110, 130, 131, 132, 133, 134, 135, 153, 154, 155, 156, 157, 158, 159, 160, 161, 136, 137, 138, 139, 140, 141, 142, 143, 144, 145, 146, 147, 148, 149, 150, 151, 152, 162, 163] rfl (by decide +kernel)
set_option maxRecDepth 20000 in
theorem gX9_cupsTo_X0_search : GoodIn wsX9_cupsTo (wsV RX9 254 RX0 yX0_search wsX0_search) := goodIn_app (goodIn_of _ (by decide +kernel)) ggX9_cupsTo_X0_search
set_option maxRecDepth 20000 in
theorem ggX9_cupsTo_X9_refuse : GoodIn wsX9_cupsTo wsX9_refuse := goodIn_r _ [114, 13, 115, 116, 117, 118, 119, 120, 121, 122, 123, 124, 125, 126, 127, 128, 129] rfl (by decide +kernel)
set_option maxRecDepth 20000 in
theorem gX9_cupsTo_X9_refuse : GoodIn wsX9_cupsTo (wsV RX9 98 RX9 yX9_refuse wsX9_refuse) := goodIn_app (goodIn_of _ (by decide +kernel)) ggX9_cupsTo_X9_refuse
theorem kX9_cupsTo_80 : Cond.fieldLink RX9 80 "EveningVow" "shares" "LEveningVow$CupShares;" ∈ wsX9_cupsTo := List.mem_of_getElem? (i := 1) rfl
theorem iX9_cupsTo_X9 : ∀ w ∈ u_ws RX9 TX9 15, w ∈ wsX9_cupsTo := fun w h => (List.mem_cons_of_mem _ (List.mem_append_left _ (List.mem_append_left _ (List.mem_append_left _ (List.mem_append_left _ (List.mem_append_right _ h))))))
theorem kX9_cupsTo_19 : Cond.fieldLink RX9 19 "EveningVow" "told" "LEveningVow$House;" ∈ wsX9_cupsTo := List.mem_of_getElem? (i := 2) rfl
theorem kX9_cupsTo_37 : Cond.fieldLink RX9 37 "EveningVow" "now" "LEveningVow$Night;" ∈ wsX9_cupsTo := List.mem_of_getElem? (i := 3) rfl
theorem kX9_cupsTo_49 : Cond.fieldLink RX9 49 "EveningVow" "asTold" "LEveningVow$Pace;" ∈ wsX9_cupsTo := List.mem_of_getElem? (i := 4) rfl
theorem kX9_cupsTo_255 : Cond.fieldLink RX9 255 "EveningVow$CupShares" "bestHours" "I" ∈ wsX9_cupsTo := List.mem_of_getElem? (i := 5) rfl
theorem iX9_cupsTo_X0 : ∀ w ∈ u_ws RX0 TX0 6, w ∈ wsX9_cupsTo := fun w h => (List.mem_cons_of_mem _ (List.mem_append_left _ (List.mem_append_left _ (List.mem_append_left _ (List.mem_append_right _ h)))))
theorem kX9_cupsTo_259 : Cond.fieldLink RX9 259 "EveningVow$CupShares" "bestRow" "[I" ∈ wsX9_cupsTo := List.mem_of_getElem? (i := 6) rfl
set_option maxHeartbeats 4000000 in
set_option maxRecDepth 100000 in
theorem mX9_cupsTo (l : Launch) (g : GG) (a_t : Nat) (p_t : Nat → Nat) (p_t_1 : Nat → Nat) (p_t_5 : Nat → Nat) (p_t_7 : Nat → Nat) (p_t_13 : Nat → Nat) (p_t_13_5 : Nat → Nat) (n : Nat) (x1 : Int32) (o_t : Nat → Int32) (o_t_1 : Nat → Int32) (f_t_1_4 : Nat → Int32) (f_t_1_6 : Nat → Int32) (f_t_1_7 : Nat → Int32) (f_t_1_10 : Nat → Int32) (f_t_1_11 : Nat → Int32) (f_t_1_12 : Nat → Int32) (o_t_5 : Nat → Int32) (f_t_5_6 : Nat → Int32) (f_t_5_7 : Nat → Int32) (o_t_7 : Nat → Int32) (o_t_13 : Nat → Int32) (f_t_13_2 : Nat → Int32) (f_t_13_3 : Nat → Int32) (f_t_13_4 : Nat → Int32) (o_t_13_5 : Nat → Int32) (f_t_13_5_6 : Nat → Int32) (f_t_13_5_7 : Nat → Int32) (f_t_13_5_8 : Nat → Int32) (r : Int32) (o_t' : Nat → Int32) (o_t_7' : Nat → Int32) (o_t_13' : Nat → Int32) (f_t_13_2' : Nat → Int32) (f_t_13_3' : Nat → Int32) (f_t_13_4' : Nat → Int32) (o_t_13_5' : Nat → Int32) (f_t_13_5_6' : Nat → Int32) (f_t_13_5_7' : Nat → Int32) (f_t_13_5_8' : Nat → Int32) (hF : fX9_cupsTo n x1 o_t o_t_1 f_t_1_4 f_t_1_6 f_t_1_7 f_t_1_10 f_t_1_11 f_t_1_12 o_t_5 f_t_5_6 f_t_5_7 o_t_7 o_t_13 f_t_13_2 f_t_13_3 f_t_13_4 o_t_13_5 f_t_13_5_6 f_t_13_5_7 f_t_13_5_8 = some (r, o_t', o_t_7', o_t_13', f_t_13_2', f_t_13_3', f_t_13_4', o_t_13_5', f_t_13_5_6', f_t_13_5_7', f_t_13_5_8')) : MI l g yX9_cupsTo wsX9_cupsTo ({ frames := 17, cells := 0, slots := 0, locals := 452 } : Room) [.ref a_t, .int x1] [oX9 a_t p_t o_t, oX1 (p_t 1) p_t_1 o_t_1, aI g (p_t_1 4) 7 f_t_1_4, aI g (p_t_1 6) 7 f_t_1_6, aI g (p_t_1 7) 7 f_t_1_7, aI g (p_t_1 10) 8 f_t_1_10, aI g (p_t_1 11) 8 f_t_1_11, aI g (p_t_1 12) 8 f_t_1_12, oX2 (p_t 5) p_t_5 o_t_5, aI g (p_t_5 6) 7 f_t_5_6, aI g (p_t_5 7) 7 f_t_5_7, oX3 (p_t 7) p_t_7 o_t_7, oX0 (p_t 13) p_t_13 o_t_13, aI g (p_t_13 2) 7 f_t_13_2, aI g (p_t_13 3) 5 f_t_13_3, aI g (p_t_13 4) 7 f_t_13_4, oX2 (p_t_13 5) p_t_13_5 o_t_13_5, aI g (p_t_13_5 6) 7 f_t_13_5_6, aI g (p_t_13_5 7) 7 f_t_13_5_7, aI g (p_t_13_5 8) 7 f_t_13_5_8] r [oX9 a_t p_t o_t', oX1 (p_t 1) p_t_1 o_t_1, aI g (p_t_1 4) 7 f_t_1_4, aI g (p_t_1 6) 7 f_t_1_6, aI g (p_t_1 7) 7 f_t_1_7, aI g (p_t_1 10) 8 f_t_1_10, aI g (p_t_1 11) 8 f_t_1_11, aI g (p_t_1 12) 8 f_t_1_12, oX2 (p_t 5) p_t_5 o_t_5, aI g (p_t_5 6) 7 f_t_5_6, aI g (p_t_5 7) 7 f_t_5_7, oX3 (p_t 7) p_t_7 o_t_7', oX0 (p_t 13) p_t_13 o_t_13', aI g (p_t_13 2) 7 f_t_13_2', aI g (p_t_13 3) 5 f_t_13_3', aI g (p_t_13 4) 7 f_t_13_4', oX2 (p_t_13 5) p_t_13_5 o_t_13_5', aI g (p_t_13_5 6) 7 f_t_13_5_6', aI g (p_t_13_5 7) 7 f_t_13_5_7', aI g (p_t_13_5 8) 7 f_t_13_5_8'] := by
  refine MI.of (cc := cX9_cupsTo) (maxL := 2) (rt := .int) (own := RX9) rfl rfl (by decide) (Nat.le_of_ble_eq_true rfl) ?_
  intro p e s m args below meth c A C0 hP hD hS ls hl
  obtain ⟨hx, hb, hml, hown, hts, hr, hlk, hK, hA, hSW⟩ := id C0
  have hl : lv_has ls 2 [(0, .ref a_t), (1, .int x1)] := hl
  rw [fX9_cupsTo] at hF
  refine lv_aload_n hx hb dX9_cupsTo_0 rfl (lv_at hl 0 rfl) ?_
  refine lv_iload_n hx hb dX9_cupsTo_1 rfl (lv_at hl 1 rfl) ?_
  obtain ⟨u_1, u_2, hu_3, hF⟩ := ob2_some hF
  refine call_i (wr := [aI g (p_t_1 4) 7 f_t_1_4, aI g (p_t_1 6) 7 f_t_1_6, aI g (p_t_1 7) 7 f_t_1_7, aI g (p_t_1 10) 8 f_t_1_10, aI g (p_t_1 11) 8 f_t_1_11, aI g (p_t_1 12) 8 f_t_1_12, oX2 (p_t 5) p_t_5 o_t_5, aI g (p_t_5 6) 7 f_t_5_6, aI g (p_t_5 7) 7 f_t_5_7, oX3 (p_t 7) p_t_7 o_t_7, oX0 (p_t 13) p_t_13 o_t_13, aI g (p_t_13 2) 7 f_t_13_2, aI g (p_t_13 3) 5 f_t_13_3, aI g (p_t_13 4) 7 f_t_13_4, oX2 (p_t_13 5) p_t_13_5 o_t_13_5, aI g (p_t_13_5 6) 7 f_t_13_5_6, aI g (p_t_13_5 7) 7 f_t_13_5_7, aI g (p_t_13_5 8) 7 f_t_13_5_8]) (As := [.int x1]) (rest := []) (ci := 9) (q0 := 0) C0 (mX9_guestAsked l g a_t p_t p_t_1 n x1 o_t o_t_1 u_1 u_2 hu_3) (cwV 1 hts gX9_cupsTo_X9_guestAsked rfl rfl rfl (by decide +kernel) ⟨Nat.le_of_ble_eq_true rfl, Nat.le_of_ble_eq_true rfl⟩) hP hD hS [0, 1] [2, 3, 4, 5, 6, 7, 8, 9, 10, 11, 12, 13, 14, 15, 16, 17, 18, 19] rfl rfl rfl rfl rfl (by decide) rfl rfl hl.1 rfl rfl (Nat.le_of_ble_eq_true rfl) ⟨Nat.zero_le _, Nat.zero_le _⟩ dX9_cupsTo_2 ?_
  intro H locs hP hD hS
  refine lv_if_ne (tgt := 10) hx hb dX9_cupsTo_5 (by decide) (fun c_4 => ?_) (fun c_4 => ?_)
  · have hF := it_n c_4 hF
    refine lv_aload_n hx hb dX9_cupsTo_10 rfl (lv_at hl 0 rfl) ?_
    refine va_get (D := g.1) (ci := 9) (v := .ref (p_t 13)) (C := RX9) (T := TX9) (N := 15) hx hb hts iX9_cupsTo_X9 hown hK.1 hP 18 rfl rfl 13 (by decide) (hts _ kX9_cupsTo_80) (fun _ h9 => h9) rfl dX9_cupsTo_11 ?_
    refine lv_aload_n hx hb dX9_cupsTo_14 rfl (lv_at hl 0 rfl) ?_
    refine va_get (D := g.1) (ci := 9) (v := .ref (p_t 1)) (C := RX9) (T := TX9) (N := 15) hx hb hts iX9_cupsTo_X9 hown hK.1 hP 18 rfl rfl 1 (by decide) (hts _ kX9_cupsTo_19) (fun _ h9 => h9) rfl dX9_cupsTo_15 ?_
    refine lv_aload_n hx hb dX9_cupsTo_18 rfl (lv_at hl 0 rfl) ?_
    refine va_get (D := g.1) (ci := 9) (v := .ref (p_t 5)) (C := RX9) (T := TX9) (N := 15) hx hb hts iX9_cupsTo_X9 hown hK.1 hP 18 rfl rfl 5 (by decide) (hts _ kX9_cupsTo_37) (fun _ h9 => h9) rfl dX9_cupsTo_19 ?_
    refine lv_aload_n hx hb dX9_cupsTo_22 rfl (lv_at hl 0 rfl) ?_
    refine va_get (D := g.1) (ci := 9) (v := .ref (p_t 7)) (C := RX9) (T := TX9) (N := 15) hx hb hts iX9_cupsTo_X9 hown hK.1 hP 18 rfl rfl 7 (by decide) (hts _ kX9_cupsTo_49) (fun _ h9 => h9) rfl dX9_cupsTo_23 ?_
    obtain ⟨u_5, u_6, u_7, u_8, u_9, u_10, u_11, u_12, u_13, hu_14, hF⟩ := ob9_some hF
    refine call_v (wr := [oX9 a_t p_t u_2]) (As := [.ref (p_t 1), .ref (p_t 5), .ref (p_t 7)]) (rest := []) (ci := 0) (q0 := 0) C0 (mX0_search l g (p_t 13) (p_t 1) (p_t 5) (p_t 7) p_t_13 p_t_13_5 p_t_1 p_t_5 p_t_7 n o_t_13 f_t_13_2 f_t_13_3 f_t_13_4 o_t_13_5 f_t_13_5_6 f_t_13_5_7 f_t_13_5_8 o_t_1 f_t_1_4 f_t_1_6 f_t_1_7 f_t_1_10 f_t_1_11 f_t_1_12 o_t_5 f_t_5_6 f_t_5_7 o_t_7 u_5 u_6 u_7 u_8 u_9 u_10 u_11 u_12 u_13 hu_14) (cwV 3 hts gX9_cupsTo_X0_search rfl rfl rfl (by decide +kernel) ⟨Nat.le_of_ble_eq_true rfl, Nat.le_of_ble_eq_true rfl⟩) hP hD hS [10, 11, 12, 13, 14, 15, 16, 17, 19, 0, 1, 2, 3, 4, 5, 6, 7, 8, 9] [18] rfl rfl rfl rfl rfl (by decide) rfl rfl hl.1 rfl rfl (Nat.le_of_ble_eq_true rfl) ⟨Nat.zero_le _, Nat.zero_le _⟩ dX9_cupsTo_26 ?_
    intro H locs hP hD hS
    refine lv_aload_n hx hb dX9_cupsTo_29 rfl (lv_at hl 0 rfl) ?_
    refine va_get (D := g.1) (ci := 9) (v := .ref (p_t 13)) (C := RX9) (T := TX9) (N := 15) hx hb hts iX9_cupsTo_X9 hown hK.1 hP 0 rfl rfl 13 (by decide) (hts _ kX9_cupsTo_80) (fun _ h9 => h9) rfl dX9_cupsTo_30 ?_
    refine va_get (D := g.1) (ci := 0) (v := .int (u_5 1)) (C := RX0) (T := TX0) (N := 6) hx hb hts iX9_cupsTo_X0 hown hK.1 hP 1 rfl rfl 1 (by decide) (hts _ kX9_cupsTo_255) (fun _ h9 => h9) rfl dX9_cupsTo_33 ?_
    refine lv_bipush (v := (60 : Int32)) hx hb dX9_cupsTo_36 (by decide) ?_
    refine lv_icmp_le (tgt := 48) hx hb dX9_cupsTo_38 (by decide) (fun c_15 => ?_) (fun c_15 => ?_)
    · have hF := it_p c_15 hF
      refine lv_aload_n hx hb dX9_cupsTo_48 rfl (lv_at hl 0 rfl) ?_
      refine va_get (D := g.1) (ci := 9) (v := .ref (p_t 13)) (C := RX9) (T := TX9) (N := 15) hx hb hts iX9_cupsTo_X9 hown hK.1 hP 0 rfl rfl 13 (by decide) (hts _ kX9_cupsTo_80) (fun _ h9 => h9) rfl dX9_cupsTo_49 ?_
      refine va_get (D := g.1) (ci := 0) (v := .ref (p_t_13 2)) (C := RX0) (T := TX0) (N := 6) hx hb hts iX9_cupsTo_X0 hown hK.1 hP 1 rfl rfl 2 (by decide) (hts _ kX9_cupsTo_259) (fun _ h9 => h9) rfl dX9_cupsTo_52 ?_
      refine lv_iload_n hx hb dX9_cupsTo_55 rfl (lv_at hl 1 rfl) ?_
      obtain ⟨h_16, hF⟩ := it_ck hF
      refine va_iald hx hb hK.1 hP 2 0 rfl rfl h_16 dX9_cupsTo_56 ?_
      cases hF
      exact ret_i C0 hP hD hS [0, 9, 10, 11, 12, 13, 14, 15, 16, 17, 18, 19, 1, 2, 3, 4, 5, 6, 7, 8] rfl rfl rfl dX9_cupsTo_57 rfl
    · have hF := it_n c_15 hF
      refine lv_aload_n hx hb dX9_cupsTo_41 rfl (lv_at hl 0 rfl) ?_
      refine lv_bipush (v := (6 : Int32)) hx hb dX9_cupsTo_42 (by decide) ?_
      obtain ⟨u_17, u_18, hu_19, hF⟩ := ob2_some hF
      refine call_i (wr := [oX0 (p_t 13) p_t_13 u_5, aI g (p_t_13 2) 7 u_6, aI g (p_t_13 3) 5 u_7, aI g (p_t_13 4) 7 u_8, oX2 (p_t_13 5) p_t_13_5 u_9, aI g (p_t_13_5 6) 7 u_10, aI g (p_t_13_5 7) 7 u_11, aI g (p_t_13_5 8) 7 u_12, oX1 (p_t 1) p_t_1 o_t_1, aI g (p_t_1 4) 7 f_t_1_4, aI g (p_t_1 6) 7 f_t_1_6, aI g (p_t_1 7) 7 f_t_1_7, aI g (p_t_1 10) 8 f_t_1_10, aI g (p_t_1 11) 8 f_t_1_11, aI g (p_t_1 12) 8 f_t_1_12, oX2 (p_t 5) p_t_5 o_t_5, aI g (p_t_5 6) 7 f_t_5_6, aI g (p_t_5 7) 7 f_t_5_7, oX3 (p_t 7) p_t_7 u_13]) (As := [.int (6 : Int32)]) (rest := []) (ci := 9) (q0 := 0) C0 (mX9_refuse l g a_t p_t n (6 : Int32) u_2 u_17 u_18 hu_19) (cwV 1 hts gX9_cupsTo_X9_refuse rfl rfl rfl (by decide +kernel) ⟨Nat.le_of_ble_eq_true rfl, Nat.le_of_ble_eq_true rfl⟩) hP hD hS [0] [1, 2, 3, 4, 5, 6, 7, 8, 9, 10, 11, 12, 13, 14, 15, 16, 17, 18, 19] rfl rfl rfl rfl rfl (by decide) rfl rfl hl.1 rfl rfl (Nat.le_of_ble_eq_true rfl) ⟨Nat.zero_le _, Nat.zero_le _⟩ dX9_cupsTo_44 ?_
      intro H locs hP hD hS
      cases hF
      exact ret_i C0 hP hD hS [19, 8, 9, 10, 11, 12, 13, 14, 15, 16, 17, 18, 0, 1, 2, 3, 4, 5, 6, 7] rfl rfl rfl dX9_cupsTo_47 rfl
  · have hF := it_p c_4 hF
    refine lv_iconst (v := (-1 : Int32)) hx hb dX9_cupsTo_8 (by decide) ?_
    cases hF
    exact ret_i C0 hP hD hS [18, 19, 0, 1, 2, 3, 4, 5, 6, 7, 8, 9, 10, 11, 12, 13, 14, 15, 16, 17] rfl rfl rfl dX9_cupsTo_9 rfl

theorem dAX9_ways : ∀ q ∈ ([(0, (.aload_n 0, 1)), (1, (.invokevirtual 153, 3)), (4, (.ifCond .ne 5, 3)), (7, (.iconst (-1), 1)), (8, (.ireturn, 1)), (9, (.aload_n 0, 1)), (10, (.getfield 87, 3)), (13, (.aload_n 0, 1)), (14, (.getfield 19, 3)), (17, (.aload_n 0, 1)), (18, (.getfield 49, 3)), (21, (.invokevirtual 260, 3)), (24, (.aload_n 0, 1)), (25, (.getfield 87, 3)), (28, (.getfield 263, 3)), (31, (.ireturn, 1))] : List (Nat × (Instr × Nat))), decode cX9_ways q.1 = .ok q.2 := by decide +kernel
theorem dX9_ways_0 : decode cX9_ways 0 = .ok (.aload_n 0, 1) := dAX9_ways (0, (.aload_n 0, 1)) (List.mem_of_getElem? (i := 0) rfl)
theorem dX9_ways_1 : decode cX9_ways 1 = .ok (.invokevirtual 153, 3) := dAX9_ways (1, (.invokevirtual 153, 3)) (List.mem_of_getElem? (i := 1) rfl)
theorem dX9_ways_4 : decode cX9_ways 4 = .ok (.ifCond .ne 5, 3) := dAX9_ways (4, (.ifCond .ne 5, 3)) (List.mem_of_getElem? (i := 2) rfl)
theorem dX9_ways_7 : decode cX9_ways 7 = .ok (.iconst (-1), 1) := dAX9_ways (7, (.iconst (-1), 1)) (List.mem_of_getElem? (i := 3) rfl)
theorem dX9_ways_8 : decode cX9_ways 8 = .ok (.ireturn, 1) := dAX9_ways (8, (.ireturn, 1)) (List.mem_of_getElem? (i := 4) rfl)
theorem dX9_ways_9 : decode cX9_ways 9 = .ok (.aload_n 0, 1) := dAX9_ways (9, (.aload_n 0, 1)) (List.mem_of_getElem? (i := 5) rfl)
theorem dX9_ways_10 : decode cX9_ways 10 = .ok (.getfield 87, 3) := dAX9_ways (10, (.getfield 87, 3)) (List.mem_of_getElem? (i := 6) rfl)
theorem dX9_ways_13 : decode cX9_ways 13 = .ok (.aload_n 0, 1) := dAX9_ways (13, (.aload_n 0, 1)) (List.mem_of_getElem? (i := 7) rfl)
theorem dX9_ways_14 : decode cX9_ways 14 = .ok (.getfield 19, 3) := dAX9_ways (14, (.getfield 19, 3)) (List.mem_of_getElem? (i := 8) rfl)
theorem dX9_ways_17 : decode cX9_ways 17 = .ok (.aload_n 0, 1) := dAX9_ways (17, (.aload_n 0, 1)) (List.mem_of_getElem? (i := 9) rfl)
theorem dX9_ways_18 : decode cX9_ways 18 = .ok (.getfield 49, 3) := dAX9_ways (18, (.getfield 49, 3)) (List.mem_of_getElem? (i := 10) rfl)
theorem dX9_ways_21 : decode cX9_ways 21 = .ok (.invokevirtual 260, 3) := dAX9_ways (21, (.invokevirtual 260, 3)) (List.mem_of_getElem? (i := 11) rfl)
theorem dX9_ways_24 : decode cX9_ways 24 = .ok (.aload_n 0, 1) := dAX9_ways (24, (.aload_n 0, 1)) (List.mem_of_getElem? (i := 12) rfl)
theorem dX9_ways_25 : decode cX9_ways 25 = .ok (.getfield 87, 3) := dAX9_ways (25, (.getfield 87, 3)) (List.mem_of_getElem? (i := 13) rfl)
theorem dX9_ways_28 : decode cX9_ways 28 = .ok (.getfield 263, 3) := dAX9_ways (28, (.getfield 263, 3)) (List.mem_of_getElem? (i := 14) rfl)
theorem dX9_ways_31 : decode cX9_ways 31 = .ok (.ireturn, 1) := dAX9_ways (31, (.ireturn, 1)) (List.mem_of_getElem? (i := 15) rfl)
set_option maxRecDepth 20000 in
theorem ggX9_ways_X9_asked : GoodIn wsX9_ways wsX9_asked := goodIn_r _ [9, 10, 11, 120, 121, 122, 123, 124, 125, 126, 127, 128, 129, 130, 131, 132, 133, 134] rfl (by decide +kernel)
set_option maxRecDepth 20000 in
theorem gX9_ways_X9_asked : GoodIn wsX9_ways (wsV RX9 153 RX9 yX9_asked wsX9_asked) := goodIn_app (goodIn_of _ (by decide +kernel)) ggX9_ways_X9_asked
set_option maxRecDepth 20000 in
theorem ggX9_ways_X8_search : GoodIn wsX9_ways wsX8_search := goodIn_r _ [16, 17, 18, 19, 20, 21, 22, 23, 24, 25, 26, 27, 28, 29, 30, 31, 32, 33, 34, 35, 36, 37, 38, 39, 40, 41, 42, 43, 44, 45, 46, 47, 48, 49, 15, 50, 51, 52, 53, 54, 55, 56, 57, 58, 59, 60, 61, 62, 63, 64, 65, 66, 67, 68, 69, 70, 71, 72, 73, 74, 75, 76, 77, 78, 79, 80, 81, 82, 83, 84, 85, 86, 87, 88, 89, 90, 91, 92, 93, 94, 95, 96, 97, 98, 99, 100, 101, 102, 103, 104, 105, 106, 107, 108, 109, 110, 111, 112, 113, 114, 115, 116, 117, 118, 8, 119, 135, 136, 137, 138, 139, 140, 141, 142, 143, 144, 145, 146, 147, 148, 149, 150, 151, 152, 153, 154, 155, 156, 157, 158, 159, 160, 161, 162, 163, 164, 165, 166, 167, 168, 169, 170, 171, 172, 173, 174, 175, 176] rfl (by decide +kernel)
set_option maxRecDepth 20000 in
theorem gX9_ways_X8_search : GoodIn wsX9_ways (wsV RX9 260 RX8 yX8_search wsX8_search) := goodIn_app (goodIn_of _ (by decide +kernel)) ggX9_ways_X8_search
theorem kX9_ways_87 : Cond.fieldLink RX9 87 "EveningVow" "unseen" "LEveningVow$Unseen;" ∈ wsX9_ways := List.mem_of_getElem? (i := 1) rfl
theorem iX9_ways_X9 : ∀ w ∈ u_ws RX9 TX9 15, w ∈ wsX9_ways := fun w h => (List.mem_cons_of_mem _ (List.mem_append_left _ (List.mem_append_left _ (List.mem_append_left _ (List.mem_append_left _ (List.mem_append_left _ (List.mem_append_right _ h)))))))
theorem kX9_ways_19 : Cond.fieldLink RX9 19 "EveningVow" "told" "LEveningVow$House;" ∈ wsX9_ways := List.mem_of_getElem? (i := 2) rfl
theorem kX9_ways_49 : Cond.fieldLink RX9 49 "EveningVow" "asTold" "LEveningVow$Pace;" ∈ wsX9_ways := List.mem_of_getElem? (i := 3) rfl
theorem kX9_ways_263 : Cond.fieldLink RX9 263 "EveningVow$Unseen" "ways" "I" ∈ wsX9_ways := List.mem_of_getElem? (i := 4) rfl
theorem iX9_ways_X8 : ∀ w ∈ u_ws RX8 TX8 7, w ∈ wsX9_ways := fun w h => (List.mem_cons_of_mem _ (List.mem_append_left _ (List.mem_append_left _ (List.mem_append_left _ (List.mem_append_left _ (List.mem_append_right _ h))))))
set_option maxHeartbeats 4000000 in
set_option maxRecDepth 100000 in
theorem mX9_ways (l : Launch) (g : GG) (a_t : Nat) (p_t : Nat → Nat) (p_t_1 : Nat → Nat) (p_t_1_16 : Nat → Nat) (p_t_7 : Nat → Nat) (p_t_14 : Nat → Nat) (p_t_14_5 : Nat → Nat) (p_t_14_6 : Nat → Nat) (n : Nat) (o_t : Nat → Int32) (o_t_1 : Nat → Int32) (f_t_1_4 : Nat → Int32) (f_t_1_5 : Nat → Int32) (f_t_1_6 : Nat → Int32) (f_t_1_7 : Nat → Int32) (f_t_1_10 : Nat → Int32) (f_t_1_11 : Nat → Int32) (f_t_1_12 : Nat → Int32) (o_t_1_16 : Nat → Int32) (f_t_1_16_4 : Nat → Int32) (f_t_1_16_5 : Nat → Int32) (f_t_1_16_6 : Nat → Int32) (o_t_7 : Nat → Int32) (o_t_14 : Nat → Int32) (f_t_14_3 : Nat → Int32) (f_t_14_4 : Nat → Int32) (o_t_14_5 : Nat → Int32) (f_t_14_5_6 : Nat → Int32) (f_t_14_5_7 : Nat → Int32) (f_t_14_5_8 : Nat → Int32) (o_t_14_6 : Nat → Int32) (f_t_14_6_6 : Nat → Int32) (f_t_14_6_7 : Nat → Int32) (f_t_14_6_8 : Nat → Int32) (r : Int32) (o_t' : Nat → Int32) (o_t_7' : Nat → Int32) (o_t_14' : Nat → Int32) (f_t_14_3' : Nat → Int32) (f_t_14_4' : Nat → Int32) (o_t_14_5' : Nat → Int32) (f_t_14_5_6' : Nat → Int32) (f_t_14_5_7' : Nat → Int32) (f_t_14_5_8' : Nat → Int32) (o_t_14_6' : Nat → Int32) (f_t_14_6_6' : Nat → Int32) (f_t_14_6_7' : Nat → Int32) (f_t_14_6_8' : Nat → Int32) (hF : fX9_ways n o_t o_t_1 f_t_1_4 f_t_1_5 f_t_1_6 f_t_1_7 f_t_1_10 f_t_1_11 f_t_1_12 o_t_1_16 f_t_1_16_4 f_t_1_16_5 f_t_1_16_6 o_t_7 o_t_14 f_t_14_3 f_t_14_4 o_t_14_5 f_t_14_5_6 f_t_14_5_7 f_t_14_5_8 o_t_14_6 f_t_14_6_6 f_t_14_6_7 f_t_14_6_8 = some (r, o_t', o_t_7', o_t_14', f_t_14_3', f_t_14_4', o_t_14_5', f_t_14_5_6', f_t_14_5_7', f_t_14_5_8', o_t_14_6', f_t_14_6_6', f_t_14_6_7', f_t_14_6_8')) : MI l g yX9_ways wsX9_ways ({ frames := 6, cells := 0, slots := 0, locals := 141 } : Room) [.ref a_t] [oX9 a_t p_t o_t, oX1 (p_t 1) p_t_1 o_t_1, aI g (p_t_1 4) 7 f_t_1_4, aI g (p_t_1 5) 7 f_t_1_5, aI g (p_t_1 6) 7 f_t_1_6, aI g (p_t_1 7) 7 f_t_1_7, aI g (p_t_1 10) 8 f_t_1_10, aI g (p_t_1 11) 8 f_t_1_11, aI g (p_t_1 12) 8 f_t_1_12, oX7 (p_t_1 16) p_t_1_16 o_t_1_16, aI g (p_t_1_16 4) 6 f_t_1_16_4, aI g (p_t_1_16 5) 6 f_t_1_16_5, aI g (p_t_1_16 6) 6 f_t_1_16_6, oX3 (p_t 7) p_t_7 o_t_7, oX8 (p_t 14) p_t_14 o_t_14, aI g (p_t_14 3) 218 f_t_14_3, aI g (p_t_14 4) 31 f_t_14_4, oX2 (p_t_14 5) p_t_14_5 o_t_14_5, aI g (p_t_14_5 6) 7 f_t_14_5_6, aI g (p_t_14_5 7) 7 f_t_14_5_7, aI g (p_t_14_5 8) 7 f_t_14_5_8, oX2 (p_t_14 6) p_t_14_6 o_t_14_6, aI g (p_t_14_6 6) 7 f_t_14_6_6, aI g (p_t_14_6 7) 7 f_t_14_6_7, aI g (p_t_14_6 8) 7 f_t_14_6_8] r [oX9 a_t p_t o_t', oX1 (p_t 1) p_t_1 o_t_1, aI g (p_t_1 4) 7 f_t_1_4, aI g (p_t_1 5) 7 f_t_1_5, aI g (p_t_1 6) 7 f_t_1_6, aI g (p_t_1 7) 7 f_t_1_7, aI g (p_t_1 10) 8 f_t_1_10, aI g (p_t_1 11) 8 f_t_1_11, aI g (p_t_1 12) 8 f_t_1_12, oX7 (p_t_1 16) p_t_1_16 o_t_1_16, aI g (p_t_1_16 4) 6 f_t_1_16_4, aI g (p_t_1_16 5) 6 f_t_1_16_5, aI g (p_t_1_16 6) 6 f_t_1_16_6, oX3 (p_t 7) p_t_7 o_t_7', oX8 (p_t 14) p_t_14 o_t_14', aI g (p_t_14 3) 218 f_t_14_3', aI g (p_t_14 4) 31 f_t_14_4', oX2 (p_t_14 5) p_t_14_5 o_t_14_5', aI g (p_t_14_5 6) 7 f_t_14_5_6', aI g (p_t_14_5 7) 7 f_t_14_5_7', aI g (p_t_14_5 8) 7 f_t_14_5_8', oX2 (p_t_14 6) p_t_14_6 o_t_14_6', aI g (p_t_14_6 6) 7 f_t_14_6_6', aI g (p_t_14_6 7) 7 f_t_14_6_7', aI g (p_t_14_6 8) 7 f_t_14_6_8'] := by
  refine MI.of (cc := cX9_ways) (maxL := 1) (rt := .int) (own := RX9) rfl rfl (by decide) (Nat.le_of_ble_eq_true rfl) ?_
  intro p e s m args below meth c A C0 hP hD hS ls hl
  obtain ⟨hx, hb, hml, hown, hts, hr, hlk, hK, hA, hSW⟩ := id C0
  have hl : lv_has ls 1 [(0, .ref a_t)] := hl
  rw [fX9_ways] at hF
  refine lv_aload_n hx hb dX9_ways_0 rfl (lv_at hl 0 rfl) ?_
  obtain ⟨u_1, u_2, hu_3, hF⟩ := ob2_some hF
  refine call_i (wr := [oX1 (p_t 1) p_t_1 o_t_1, aI g (p_t_1 4) 7 f_t_1_4, aI g (p_t_1 5) 7 f_t_1_5, aI g (p_t_1 6) 7 f_t_1_6, aI g (p_t_1 7) 7 f_t_1_7, aI g (p_t_1 10) 8 f_t_1_10, aI g (p_t_1 11) 8 f_t_1_11, aI g (p_t_1 12) 8 f_t_1_12, oX7 (p_t_1 16) p_t_1_16 o_t_1_16, aI g (p_t_1_16 4) 6 f_t_1_16_4, aI g (p_t_1_16 5) 6 f_t_1_16_5, aI g (p_t_1_16 6) 6 f_t_1_16_6, oX3 (p_t 7) p_t_7 o_t_7, oX8 (p_t 14) p_t_14 o_t_14, aI g (p_t_14 3) 218 f_t_14_3, aI g (p_t_14 4) 31 f_t_14_4, oX2 (p_t_14 5) p_t_14_5 o_t_14_5, aI g (p_t_14_5 6) 7 f_t_14_5_6, aI g (p_t_14_5 7) 7 f_t_14_5_7, aI g (p_t_14_5 8) 7 f_t_14_5_8, oX2 (p_t_14 6) p_t_14_6 o_t_14_6, aI g (p_t_14_6 6) 7 f_t_14_6_6, aI g (p_t_14_6 7) 7 f_t_14_6_7, aI g (p_t_14_6 8) 7 f_t_14_6_8]) (As := []) (rest := []) (ci := 9) (q0 := 0) C0 (mX9_asked l g a_t p_t n o_t u_1 u_2 hu_3) (cwV 0 hts gX9_ways_X9_asked rfl rfl rfl (by decide +kernel) ⟨Nat.le_of_ble_eq_true rfl, Nat.le_of_ble_eq_true rfl⟩) hP hD hS [0] [1, 2, 3, 4, 5, 6, 7, 8, 9, 10, 11, 12, 13, 14, 15, 16, 17, 18, 19, 20, 21, 22, 23, 24] rfl rfl rfl rfl rfl (by decide) rfl rfl hl.1 rfl rfl (Nat.le_of_ble_eq_true rfl) ⟨Nat.zero_le _, Nat.zero_le _⟩ dX9_ways_1 ?_
  intro H locs hP hD hS
  refine lv_if_ne (tgt := 9) hx hb dX9_ways_4 (by decide) (fun c_4 => ?_) (fun c_4 => ?_)
  · have hF := it_n c_4 hF
    refine lv_aload_n hx hb dX9_ways_9 rfl (lv_at hl 0 rfl) ?_
    refine va_get (D := g.1) (ci := 9) (v := .ref (p_t 14)) (C := RX9) (T := TX9) (N := 15) hx hb hts iX9_ways_X9 hown hK.1 hP 24 rfl rfl 14 (by decide) (hts _ kX9_ways_87) (fun _ h9 => h9) rfl dX9_ways_10 ?_
    refine lv_aload_n hx hb dX9_ways_13 rfl (lv_at hl 0 rfl) ?_
    refine va_get (D := g.1) (ci := 9) (v := .ref (p_t 1)) (C := RX9) (T := TX9) (N := 15) hx hb hts iX9_ways_X9 hown hK.1 hP 24 rfl rfl 1 (by decide) (hts _ kX9_ways_19) (fun _ h9 => h9) rfl dX9_ways_14 ?_
    refine lv_aload_n hx hb dX9_ways_17 rfl (lv_at hl 0 rfl) ?_
    refine va_get (D := g.1) (ci := 9) (v := .ref (p_t 7)) (C := RX9) (T := TX9) (N := 15) hx hb hts iX9_ways_X9 hown hK.1 hP 24 rfl rfl 7 (by decide) (hts _ kX9_ways_49) (fun _ h9 => h9) rfl dX9_ways_18 ?_
    obtain ⟨u_5, u_6, u_7, u_8, u_9, u_10, u_11, u_12, u_13, u_14, u_15, u_16, hu_17, hF⟩ := ob12_some hF
    refine call_v (wr := [oX9 a_t p_t u_2]) (As := [.ref (p_t 1), .ref (p_t 7)]) (rest := []) (ci := 8) (q0 := 0) C0 (mX8_search l g (p_t 14) (p_t 1) (p_t 7) p_t_14 p_t_14_5 p_t_14_6 p_t_1 p_t_1_16 p_t_7 n o_t_14 f_t_14_3 f_t_14_4 o_t_14_5 f_t_14_5_6 f_t_14_5_7 f_t_14_5_8 o_t_14_6 f_t_14_6_6 f_t_14_6_7 f_t_14_6_8 o_t_1 f_t_1_4 f_t_1_5 f_t_1_6 f_t_1_7 f_t_1_10 f_t_1_11 f_t_1_12 o_t_1_16 f_t_1_16_4 f_t_1_16_5 f_t_1_16_6 o_t_7 u_5 u_6 u_7 u_8 u_9 u_10 u_11 u_12 u_13 u_14 u_15 u_16 hu_17) (cwV 2 hts gX9_ways_X8_search rfl rfl rfl (by decide +kernel) ⟨Nat.le_of_ble_eq_true rfl, Nat.le_of_ble_eq_true rfl⟩) hP hD hS [13, 14, 15, 16, 17, 18, 19, 20, 21, 22, 23, 0, 1, 2, 3, 4, 5, 6, 7, 8, 9, 10, 11, 12] [24] rfl rfl rfl rfl rfl (by decide) rfl rfl hl.1 rfl rfl (Nat.le_of_ble_eq_true rfl) ⟨Nat.zero_le _, Nat.zero_le _⟩ dX9_ways_21 ?_
    intro H locs hP hD hS
    refine lv_aload_n hx hb dX9_ways_24 rfl (lv_at hl 0 rfl) ?_
    refine va_get (D := g.1) (ci := 9) (v := .ref (p_t 14)) (C := RX9) (T := TX9) (N := 15) hx hb hts iX9_ways_X9 hown hK.1 hP 0 rfl rfl 14 (by decide) (hts _ kX9_ways_87) (fun _ h9 => h9) rfl dX9_ways_25 ?_
    refine va_get (D := g.1) (ci := 8) (v := .int (u_5 1)) (C := RX8) (T := TX8) (N := 7) hx hb hts iX9_ways_X8 hown hK.1 hP 1 rfl rfl 1 (by decide) (hts _ kX9_ways_263) (fun _ h9 => h9) rfl dX9_ways_28 ?_
    cases hF
    exact ret_i C0 hP hD hS [0, 12, 13, 14, 15, 16, 17, 18, 19, 20, 21, 22, 23, 24, 1, 2, 3, 4, 5, 6, 7, 8, 9, 10, 11] rfl rfl rfl dX9_ways_31 rfl
  · have hF := it_p c_4 hF
    refine lv_iconst (v := (-1 : Int32)) hx hb dX9_ways_7 (by decide) ?_
    cases hF
    exact ret_i C0 hP hD hS [24, 0, 1, 2, 3, 4, 5, 6, 7, 8, 9, 10, 11, 12, 13, 14, 15, 16, 17, 18, 19, 20, 21, 22, 23] rfl rfl rfl dX9_ways_8 rfl

theorem dAX9_wayAt : ∀ q ∈ ([(0, (.aload_n 0, 1)), (1, (.invokevirtual 153, 3)), (4, (.ifCond .ne 5, 3)), (7, (.iconst (-1), 1)), (8, (.ireturn, 1)), (9, (.aload_n 0, 1)), (10, (.getfield 87, 3)), (13, (.aload_n 0, 1)), (14, (.getfield 19, 3)), (17, (.aload_n 0, 1)), (18, (.getfield 49, 3)), (21, (.invokevirtual 260, 3)), (24, (.iload_n 1, 1)), (25, (.ifCond .lt 14, 3)), (28, (.iload_n 1, 1)), (29, (.aload_n 0, 1)), (30, (.getfield 87, 3)), (33, (.getfield 263, 3)), (36, (.if_icmp .lt 9, 3)), (39, (.aload_n 0, 1)), (40, (.iconst 1, 1)), (41, (.invokevirtual 98, 3)), (44, (.ireturn, 1)), (45, (.aload_n 0, 1)), (46, (.getfield 87, 3)), (49, (.getfield 266, 3)), (52, (.iload_n 1, 1)), (53, (.iaload, 1)), (54, (.ireturn, 1))] : List (Nat × (Instr × Nat))), decode cX9_wayAt q.1 = .ok q.2 := by decide +kernel
theorem dX9_wayAt_0 : decode cX9_wayAt 0 = .ok (.aload_n 0, 1) := dAX9_wayAt (0, (.aload_n 0, 1)) (List.mem_of_getElem? (i := 0) rfl)
theorem dX9_wayAt_1 : decode cX9_wayAt 1 = .ok (.invokevirtual 153, 3) := dAX9_wayAt (1, (.invokevirtual 153, 3)) (List.mem_of_getElem? (i := 1) rfl)
theorem dX9_wayAt_4 : decode cX9_wayAt 4 = .ok (.ifCond .ne 5, 3) := dAX9_wayAt (4, (.ifCond .ne 5, 3)) (List.mem_of_getElem? (i := 2) rfl)
theorem dX9_wayAt_7 : decode cX9_wayAt 7 = .ok (.iconst (-1), 1) := dAX9_wayAt (7, (.iconst (-1), 1)) (List.mem_of_getElem? (i := 3) rfl)
theorem dX9_wayAt_8 : decode cX9_wayAt 8 = .ok (.ireturn, 1) := dAX9_wayAt (8, (.ireturn, 1)) (List.mem_of_getElem? (i := 4) rfl)
theorem dX9_wayAt_9 : decode cX9_wayAt 9 = .ok (.aload_n 0, 1) := dAX9_wayAt (9, (.aload_n 0, 1)) (List.mem_of_getElem? (i := 5) rfl)
theorem dX9_wayAt_10 : decode cX9_wayAt 10 = .ok (.getfield 87, 3) := dAX9_wayAt (10, (.getfield 87, 3)) (List.mem_of_getElem? (i := 6) rfl)
theorem dX9_wayAt_13 : decode cX9_wayAt 13 = .ok (.aload_n 0, 1) := dAX9_wayAt (13, (.aload_n 0, 1)) (List.mem_of_getElem? (i := 7) rfl)
theorem dX9_wayAt_14 : decode cX9_wayAt 14 = .ok (.getfield 19, 3) := dAX9_wayAt (14, (.getfield 19, 3)) (List.mem_of_getElem? (i := 8) rfl)
theorem dX9_wayAt_17 : decode cX9_wayAt 17 = .ok (.aload_n 0, 1) := dAX9_wayAt (17, (.aload_n 0, 1)) (List.mem_of_getElem? (i := 9) rfl)
theorem dX9_wayAt_18 : decode cX9_wayAt 18 = .ok (.getfield 49, 3) := dAX9_wayAt (18, (.getfield 49, 3)) (List.mem_of_getElem? (i := 10) rfl)
theorem dX9_wayAt_21 : decode cX9_wayAt 21 = .ok (.invokevirtual 260, 3) := dAX9_wayAt (21, (.invokevirtual 260, 3)) (List.mem_of_getElem? (i := 11) rfl)
theorem dX9_wayAt_24 : decode cX9_wayAt 24 = .ok (.iload_n 1, 1) := dAX9_wayAt (24, (.iload_n 1, 1)) (List.mem_of_getElem? (i := 12) rfl)
theorem dX9_wayAt_25 : decode cX9_wayAt 25 = .ok (.ifCond .lt 14, 3) := dAX9_wayAt (25, (.ifCond .lt 14, 3)) (List.mem_of_getElem? (i := 13) rfl)
theorem dX9_wayAt_28 : decode cX9_wayAt 28 = .ok (.iload_n 1, 1) := dAX9_wayAt (28, (.iload_n 1, 1)) (List.mem_of_getElem? (i := 14) rfl)
theorem dX9_wayAt_29 : decode cX9_wayAt 29 = .ok (.aload_n 0, 1) := dAX9_wayAt (29, (.aload_n 0, 1)) (List.mem_of_getElem? (i := 15) rfl)
theorem dX9_wayAt_30 : decode cX9_wayAt 30 = .ok (.getfield 87, 3) := dAX9_wayAt (30, (.getfield 87, 3)) (List.mem_of_getElem? (i := 16) rfl)
theorem dX9_wayAt_33 : decode cX9_wayAt 33 = .ok (.getfield 263, 3) := dAX9_wayAt (33, (.getfield 263, 3)) (List.mem_of_getElem? (i := 17) rfl)
theorem dX9_wayAt_36 : decode cX9_wayAt 36 = .ok (.if_icmp .lt 9, 3) := dAX9_wayAt (36, (.if_icmp .lt 9, 3)) (List.mem_of_getElem? (i := 18) rfl)
theorem dX9_wayAt_39 : decode cX9_wayAt 39 = .ok (.aload_n 0, 1) := dAX9_wayAt (39, (.aload_n 0, 1)) (List.mem_of_getElem? (i := 19) rfl)
theorem dX9_wayAt_40 : decode cX9_wayAt 40 = .ok (.iconst 1, 1) := dAX9_wayAt (40, (.iconst 1, 1)) (List.mem_of_getElem? (i := 20) rfl)
theorem dX9_wayAt_41 : decode cX9_wayAt 41 = .ok (.invokevirtual 98, 3) := dAX9_wayAt (41, (.invokevirtual 98, 3)) (List.mem_of_getElem? (i := 21) rfl)
theorem dX9_wayAt_44 : decode cX9_wayAt 44 = .ok (.ireturn, 1) := dAX9_wayAt (44, (.ireturn, 1)) (List.mem_of_getElem? (i := 22) rfl)
theorem dX9_wayAt_45 : decode cX9_wayAt 45 = .ok (.aload_n 0, 1) := dAX9_wayAt (45, (.aload_n 0, 1)) (List.mem_of_getElem? (i := 23) rfl)
theorem dX9_wayAt_46 : decode cX9_wayAt 46 = .ok (.getfield 87, 3) := dAX9_wayAt (46, (.getfield 87, 3)) (List.mem_of_getElem? (i := 24) rfl)
theorem dX9_wayAt_49 : decode cX9_wayAt 49 = .ok (.getfield 266, 3) := dAX9_wayAt (49, (.getfield 266, 3)) (List.mem_of_getElem? (i := 25) rfl)
theorem dX9_wayAt_52 : decode cX9_wayAt 52 = .ok (.iload_n 1, 1) := dAX9_wayAt (52, (.iload_n 1, 1)) (List.mem_of_getElem? (i := 26) rfl)
theorem dX9_wayAt_53 : decode cX9_wayAt 53 = .ok (.iaload, 1) := dAX9_wayAt (53, (.iaload, 1)) (List.mem_of_getElem? (i := 27) rfl)
theorem dX9_wayAt_54 : decode cX9_wayAt 54 = .ok (.ireturn, 1) := dAX9_wayAt (54, (.ireturn, 1)) (List.mem_of_getElem? (i := 28) rfl)
set_option maxRecDepth 20000 in
theorem ggX9_wayAt_X9_asked : GoodIn wsX9_wayAt wsX9_asked := goodIn_r _ [10, 11, 12, 125, 126, 127, 128, 129, 130, 131, 132, 133, 134, 135, 136, 137, 138, 139] rfl (by decide +kernel)
set_option maxRecDepth 20000 in
theorem gX9_wayAt_X9_asked : GoodIn wsX9_wayAt (wsV RX9 153 RX9 yX9_asked wsX9_asked) := goodIn_app (goodIn_of _ (by decide +kernel)) ggX9_wayAt_X9_asked
set_option maxRecDepth 20000 in
theorem ggX9_wayAt_X8_search : GoodIn wsX9_wayAt wsX8_search := goodIn_r _ [17, 18, 19, 20, 21, 22, 23, 24, 25, 26, 27, 28, 29, 30, 31, 32, 33, 34, 35, 36, 37, 38, 39, 40, 41, 42, 43, 44, 45, 46, 47, 48, 49, 50, 16, 51, 52, 53, 54, 55, 56, 57, 58, 59, 60, 61, 62, 63, 64, 65, 66, 67, 68, 69, 70, 71, 72, 73, 74, 75, 76, 77, 78, 79, 80, 81, 82, 83, 84, 85, 86, 87, 88, 89, 90, 91, 92, 93, 94, 95, 96, 97, 98, 99, 100, 101, 102, 103, 104, 105, 106, 107, 108, 109, 110, 111, 112, 113, 114, 115, 116, 117, 118, 119, 9, 120, 140, 141, 142, 143, 144, 145, 146, 147, 148, 149, 150, 151, 152, 153, 154, 155, 156, 157, 158, 159, 160, 161, 162, 163, 164, 165, 166, 167, 168, 169, 170, 171, 172, 173, 174, 175, 176, 177, 178, 179, 180, 181] rfl (by decide +kernel)
set_option maxRecDepth 20000 in
theorem gX9_wayAt_X8_search : GoodIn wsX9_wayAt (wsV RX9 260 RX8 yX8_search wsX8_search) := goodIn_app (goodIn_of _ (by decide +kernel)) ggX9_wayAt_X8_search
set_option maxRecDepth 20000 in
theorem ggX9_wayAt_X9_refuse : GoodIn wsX9_wayAt wsX9_refuse := goodIn_r _ [124, 12, 125, 126, 127, 128, 129, 130, 131, 132, 133, 134, 135, 136, 137, 138, 139] rfl (by decide +kernel)
set_option maxRecDepth 20000 in
theorem gX9_wayAt_X9_refuse : GoodIn wsX9_wayAt (wsV RX9 98 RX9 yX9_refuse wsX9_refuse) := goodIn_app (goodIn_of _ (by decide +kernel)) ggX9_wayAt_X9_refuse
theorem kX9_wayAt_87 : Cond.fieldLink RX9 87 "EveningVow" "unseen" "LEveningVow$Unseen;" ∈ wsX9_wayAt := List.mem_of_getElem? (i := 1) rfl
theorem iX9_wayAt_X9 : ∀ w ∈ u_ws RX9 TX9 15, w ∈ wsX9_wayAt := fun w h => (List.mem_cons_of_mem _ (List.mem_append_left _ (List.mem_append_left _ (List.mem_append_left _ (List.mem_append_left _ (List.mem_append_left _ (List.mem_append_right _ h)))))))
theorem kX9_wayAt_19 : Cond.fieldLink RX9 19 "EveningVow" "told" "LEveningVow$House;" ∈ wsX9_wayAt := List.mem_of_getElem? (i := 2) rfl
theorem kX9_wayAt_49 : Cond.fieldLink RX9 49 "EveningVow" "asTold" "LEveningVow$Pace;" ∈ wsX9_wayAt := List.mem_of_getElem? (i := 3) rfl
theorem kX9_wayAt_263 : Cond.fieldLink RX9 263 "EveningVow$Unseen" "ways" "I" ∈ wsX9_wayAt := List.mem_of_getElem? (i := 4) rfl
theorem iX9_wayAt_X8 : ∀ w ∈ u_ws RX8 TX8 7, w ∈ wsX9_wayAt := fun w h => (List.mem_cons_of_mem _ (List.mem_append_left _ (List.mem_append_left _ (List.mem_append_left _ (List.mem_append_left _ (List.mem_append_right _ h))))))
theorem kX9_wayAt_266 : Cond.fieldLink RX9 266 "EveningVow$Unseen" "way" "[I" ∈ wsX9_wayAt := List.mem_of_getElem? (i := 5) rfl
set_option maxHeartbeats 4000000 in
set_option maxRecDepth 100000 in
theorem mX9_wayAt (l : Launch) (g : GG) (a_t : Nat) (p_t : Nat → Nat) (p_t_1 : Nat → Nat) (p_t_1_16 : Nat → Nat) (p_t_7 : Nat → Nat) (p_t_14 : Nat → Nat) (p_t_14_5 : Nat → Nat) (p_t_14_6 : Nat → Nat) (n : Nat) (x1 : Int32) (o_t : Nat → Int32) (o_t_1 : Nat → Int32) (f_t_1_4 : Nat → Int32) (f_t_1_5 : Nat → Int32) (f_t_1_6 : Nat → Int32) (f_t_1_7 : Nat → Int32) (f_t_1_10 : Nat → Int32) (f_t_1_11 : Nat → Int32) (f_t_1_12 : Nat → Int32) (o_t_1_16 : Nat → Int32) (f_t_1_16_4 : Nat → Int32) (f_t_1_16_5 : Nat → Int32) (f_t_1_16_6 : Nat → Int32) (o_t_7 : Nat → Int32) (o_t_14 : Nat → Int32) (f_t_14_3 : Nat → Int32) (f_t_14_4 : Nat → Int32) (o_t_14_5 : Nat → Int32) (f_t_14_5_6 : Nat → Int32) (f_t_14_5_7 : Nat → Int32) (f_t_14_5_8 : Nat → Int32) (o_t_14_6 : Nat → Int32) (f_t_14_6_6 : Nat → Int32) (f_t_14_6_7 : Nat → Int32) (f_t_14_6_8 : Nat → Int32) (r : Int32) (o_t' : Nat → Int32) (o_t_7' : Nat → Int32) (o_t_14' : Nat → Int32) (f_t_14_3' : Nat → Int32) (f_t_14_4' : Nat → Int32) (o_t_14_5' : Nat → Int32) (f_t_14_5_6' : Nat → Int32) (f_t_14_5_7' : Nat → Int32) (f_t_14_5_8' : Nat → Int32) (o_t_14_6' : Nat → Int32) (f_t_14_6_6' : Nat → Int32) (f_t_14_6_7' : Nat → Int32) (f_t_14_6_8' : Nat → Int32) (hF : fX9_wayAt n x1 o_t o_t_1 f_t_1_4 f_t_1_5 f_t_1_6 f_t_1_7 f_t_1_10 f_t_1_11 f_t_1_12 o_t_1_16 f_t_1_16_4 f_t_1_16_5 f_t_1_16_6 o_t_7 o_t_14 f_t_14_3 f_t_14_4 o_t_14_5 f_t_14_5_6 f_t_14_5_7 f_t_14_5_8 o_t_14_6 f_t_14_6_6 f_t_14_6_7 f_t_14_6_8 = some (r, o_t', o_t_7', o_t_14', f_t_14_3', f_t_14_4', o_t_14_5', f_t_14_5_6', f_t_14_5_7', f_t_14_5_8', o_t_14_6', f_t_14_6_6', f_t_14_6_7', f_t_14_6_8')) : MI l g yX9_wayAt wsX9_wayAt ({ frames := 6, cells := 0, slots := 0, locals := 141 } : Room) [.ref a_t, .int x1] [oX9 a_t p_t o_t, oX1 (p_t 1) p_t_1 o_t_1, aI g (p_t_1 4) 7 f_t_1_4, aI g (p_t_1 5) 7 f_t_1_5, aI g (p_t_1 6) 7 f_t_1_6, aI g (p_t_1 7) 7 f_t_1_7, aI g (p_t_1 10) 8 f_t_1_10, aI g (p_t_1 11) 8 f_t_1_11, aI g (p_t_1 12) 8 f_t_1_12, oX7 (p_t_1 16) p_t_1_16 o_t_1_16, aI g (p_t_1_16 4) 6 f_t_1_16_4, aI g (p_t_1_16 5) 6 f_t_1_16_5, aI g (p_t_1_16 6) 6 f_t_1_16_6, oX3 (p_t 7) p_t_7 o_t_7, oX8 (p_t 14) p_t_14 o_t_14, aI g (p_t_14 3) 218 f_t_14_3, aI g (p_t_14 4) 31 f_t_14_4, oX2 (p_t_14 5) p_t_14_5 o_t_14_5, aI g (p_t_14_5 6) 7 f_t_14_5_6, aI g (p_t_14_5 7) 7 f_t_14_5_7, aI g (p_t_14_5 8) 7 f_t_14_5_8, oX2 (p_t_14 6) p_t_14_6 o_t_14_6, aI g (p_t_14_6 6) 7 f_t_14_6_6, aI g (p_t_14_6 7) 7 f_t_14_6_7, aI g (p_t_14_6 8) 7 f_t_14_6_8] r [oX9 a_t p_t o_t', oX1 (p_t 1) p_t_1 o_t_1, aI g (p_t_1 4) 7 f_t_1_4, aI g (p_t_1 5) 7 f_t_1_5, aI g (p_t_1 6) 7 f_t_1_6, aI g (p_t_1 7) 7 f_t_1_7, aI g (p_t_1 10) 8 f_t_1_10, aI g (p_t_1 11) 8 f_t_1_11, aI g (p_t_1 12) 8 f_t_1_12, oX7 (p_t_1 16) p_t_1_16 o_t_1_16, aI g (p_t_1_16 4) 6 f_t_1_16_4, aI g (p_t_1_16 5) 6 f_t_1_16_5, aI g (p_t_1_16 6) 6 f_t_1_16_6, oX3 (p_t 7) p_t_7 o_t_7', oX8 (p_t 14) p_t_14 o_t_14', aI g (p_t_14 3) 218 f_t_14_3', aI g (p_t_14 4) 31 f_t_14_4', oX2 (p_t_14 5) p_t_14_5 o_t_14_5', aI g (p_t_14_5 6) 7 f_t_14_5_6', aI g (p_t_14_5 7) 7 f_t_14_5_7', aI g (p_t_14_5 8) 7 f_t_14_5_8', oX2 (p_t_14 6) p_t_14_6 o_t_14_6', aI g (p_t_14_6 6) 7 f_t_14_6_6', aI g (p_t_14_6 7) 7 f_t_14_6_7', aI g (p_t_14_6 8) 7 f_t_14_6_8'] := by
  refine MI.of (cc := cX9_wayAt) (maxL := 2) (rt := .int) (own := RX9) rfl rfl (by decide) (Nat.le_of_ble_eq_true rfl) ?_
  intro p e s m args below meth c A C0 hP hD hS ls hl
  obtain ⟨hx, hb, hml, hown, hts, hr, hlk, hK, hA, hSW⟩ := id C0
  have hl : lv_has ls 2 [(0, .ref a_t), (1, .int x1)] := hl
  rw [fX9_wayAt] at hF
  refine lv_aload_n hx hb dX9_wayAt_0 rfl (lv_at hl 0 rfl) ?_
  obtain ⟨u_1, u_2, hu_3, hF⟩ := ob2_some hF
  refine call_i (wr := [oX1 (p_t 1) p_t_1 o_t_1, aI g (p_t_1 4) 7 f_t_1_4, aI g (p_t_1 5) 7 f_t_1_5, aI g (p_t_1 6) 7 f_t_1_6, aI g (p_t_1 7) 7 f_t_1_7, aI g (p_t_1 10) 8 f_t_1_10, aI g (p_t_1 11) 8 f_t_1_11, aI g (p_t_1 12) 8 f_t_1_12, oX7 (p_t_1 16) p_t_1_16 o_t_1_16, aI g (p_t_1_16 4) 6 f_t_1_16_4, aI g (p_t_1_16 5) 6 f_t_1_16_5, aI g (p_t_1_16 6) 6 f_t_1_16_6, oX3 (p_t 7) p_t_7 o_t_7, oX8 (p_t 14) p_t_14 o_t_14, aI g (p_t_14 3) 218 f_t_14_3, aI g (p_t_14 4) 31 f_t_14_4, oX2 (p_t_14 5) p_t_14_5 o_t_14_5, aI g (p_t_14_5 6) 7 f_t_14_5_6, aI g (p_t_14_5 7) 7 f_t_14_5_7, aI g (p_t_14_5 8) 7 f_t_14_5_8, oX2 (p_t_14 6) p_t_14_6 o_t_14_6, aI g (p_t_14_6 6) 7 f_t_14_6_6, aI g (p_t_14_6 7) 7 f_t_14_6_7, aI g (p_t_14_6 8) 7 f_t_14_6_8]) (As := []) (rest := []) (ci := 9) (q0 := 0) C0 (mX9_asked l g a_t p_t n o_t u_1 u_2 hu_3) (cwV 0 hts gX9_wayAt_X9_asked rfl rfl rfl (by decide +kernel) ⟨Nat.le_of_ble_eq_true rfl, Nat.le_of_ble_eq_true rfl⟩) hP hD hS [0] [1, 2, 3, 4, 5, 6, 7, 8, 9, 10, 11, 12, 13, 14, 15, 16, 17, 18, 19, 20, 21, 22, 23, 24] rfl rfl rfl rfl rfl (by decide) rfl rfl hl.1 rfl rfl (Nat.le_of_ble_eq_true rfl) ⟨Nat.zero_le _, Nat.zero_le _⟩ dX9_wayAt_1 ?_
  intro H locs hP hD hS
  refine lv_if_ne (tgt := 9) hx hb dX9_wayAt_4 (by decide) (fun c_4 => ?_) (fun c_4 => ?_)
  · have hF := it_n c_4 hF
    refine lv_aload_n hx hb dX9_wayAt_9 rfl (lv_at hl 0 rfl) ?_
    refine va_get (D := g.1) (ci := 9) (v := .ref (p_t 14)) (C := RX9) (T := TX9) (N := 15) hx hb hts iX9_wayAt_X9 hown hK.1 hP 24 rfl rfl 14 (by decide) (hts _ kX9_wayAt_87) (fun _ h9 => h9) rfl dX9_wayAt_10 ?_
    refine lv_aload_n hx hb dX9_wayAt_13 rfl (lv_at hl 0 rfl) ?_
    refine va_get (D := g.1) (ci := 9) (v := .ref (p_t 1)) (C := RX9) (T := TX9) (N := 15) hx hb hts iX9_wayAt_X9 hown hK.1 hP 24 rfl rfl 1 (by decide) (hts _ kX9_wayAt_19) (fun _ h9 => h9) rfl dX9_wayAt_14 ?_
    refine lv_aload_n hx hb dX9_wayAt_17 rfl (lv_at hl 0 rfl) ?_
    refine va_get (D := g.1) (ci := 9) (v := .ref (p_t 7)) (C := RX9) (T := TX9) (N := 15) hx hb hts iX9_wayAt_X9 hown hK.1 hP 24 rfl rfl 7 (by decide) (hts _ kX9_wayAt_49) (fun _ h9 => h9) rfl dX9_wayAt_18 ?_
    obtain ⟨u_5, u_6, u_7, u_8, u_9, u_10, u_11, u_12, u_13, u_14, u_15, u_16, hu_17, hF⟩ := ob12_some hF
    refine call_v (wr := [oX9 a_t p_t u_2]) (As := [.ref (p_t 1), .ref (p_t 7)]) (rest := []) (ci := 8) (q0 := 0) C0 (mX8_search l g (p_t 14) (p_t 1) (p_t 7) p_t_14 p_t_14_5 p_t_14_6 p_t_1 p_t_1_16 p_t_7 n o_t_14 f_t_14_3 f_t_14_4 o_t_14_5 f_t_14_5_6 f_t_14_5_7 f_t_14_5_8 o_t_14_6 f_t_14_6_6 f_t_14_6_7 f_t_14_6_8 o_t_1 f_t_1_4 f_t_1_5 f_t_1_6 f_t_1_7 f_t_1_10 f_t_1_11 f_t_1_12 o_t_1_16 f_t_1_16_4 f_t_1_16_5 f_t_1_16_6 o_t_7 u_5 u_6 u_7 u_8 u_9 u_10 u_11 u_12 u_13 u_14 u_15 u_16 hu_17) (cwV 2 hts gX9_wayAt_X8_search rfl rfl rfl (by decide +kernel) ⟨Nat.le_of_ble_eq_true rfl, Nat.le_of_ble_eq_true rfl⟩) hP hD hS [13, 14, 15, 16, 17, 18, 19, 20, 21, 22, 23, 0, 1, 2, 3, 4, 5, 6, 7, 8, 9, 10, 11, 12] [24] rfl rfl rfl rfl rfl (by decide) rfl rfl hl.1 rfl rfl (Nat.le_of_ble_eq_true rfl) ⟨Nat.zero_le _, Nat.zero_le _⟩ dX9_wayAt_21 ?_
    intro H locs hP hD hS
    refine lv_iload_n hx hb dX9_wayAt_24 rfl (lv_at hl 1 rfl) ?_
    refine lv_if_lt (tgt := 39) hx hb dX9_wayAt_25 (by decide) (fun c_18 => ?_) (fun c_18 => ?_)
    · have hF := it_p c_18 hF
      refine lv_aload_n hx hb dX9_wayAt_39 rfl (lv_at hl 0 rfl) ?_
      refine lv_iconst (v := (1 : Int32)) hx hb dX9_wayAt_40 (by decide) ?_
      obtain ⟨u_19, u_20, hu_21, hF⟩ := ob2_some hF
      refine call_i (wr := [oX8 (p_t 14) p_t_14 u_5, aI g (p_t_14 3) 218 u_6, aI g (p_t_14 4) 31 u_7, oX2 (p_t_14 5) p_t_14_5 u_8, aI g (p_t_14_5 6) 7 u_9, aI g (p_t_14_5 7) 7 u_10, aI g (p_t_14_5 8) 7 u_11, oX2 (p_t_14 6) p_t_14_6 u_12, aI g (p_t_14_6 6) 7 u_13, aI g (p_t_14_6 7) 7 u_14, aI g (p_t_14_6 8) 7 u_15, oX1 (p_t 1) p_t_1 o_t_1, aI g (p_t_1 4) 7 f_t_1_4, aI g (p_t_1 5) 7 f_t_1_5, aI g (p_t_1 6) 7 f_t_1_6, aI g (p_t_1 7) 7 f_t_1_7, aI g (p_t_1 10) 8 f_t_1_10, aI g (p_t_1 11) 8 f_t_1_11, aI g (p_t_1 12) 8 f_t_1_12, oX7 (p_t_1 16) p_t_1_16 o_t_1_16, aI g (p_t_1_16 4) 6 f_t_1_16_4, aI g (p_t_1_16 5) 6 f_t_1_16_5, aI g (p_t_1_16 6) 6 f_t_1_16_6, oX3 (p_t 7) p_t_7 u_16]) (As := [.int (1 : Int32)]) (rest := []) (ci := 9) (q0 := 0) C0 (mX9_refuse l g a_t p_t n (1 : Int32) u_2 u_19 u_20 hu_21) (cwV 1 hts gX9_wayAt_X9_refuse rfl rfl rfl (by decide +kernel) ⟨Nat.le_of_ble_eq_true rfl, Nat.le_of_ble_eq_true rfl⟩) hP hD hS [0] [1, 2, 3, 4, 5, 6, 7, 8, 9, 10, 11, 12, 13, 14, 15, 16, 17, 18, 19, 20, 21, 22, 23, 24] rfl rfl rfl rfl rfl (by decide) rfl rfl hl.1 rfl rfl (Nat.le_of_ble_eq_true rfl) ⟨Nat.zero_le _, Nat.zero_le _⟩ dX9_wayAt_41 ?_
      intro H locs hP hD hS
      cases hF
      exact ret_i C0 hP hD hS [24, 11, 12, 13, 14, 15, 16, 17, 18, 19, 20, 21, 22, 23, 0, 1, 2, 3, 4, 5, 6, 7, 8, 9, 10] rfl rfl rfl dX9_wayAt_44 rfl
    · have hF := it_n c_18 hF
      refine lv_iload_n hx hb dX9_wayAt_28 rfl (lv_at hl 1 rfl) ?_
      refine lv_aload_n hx hb dX9_wayAt_29 rfl (lv_at hl 0 rfl) ?_
      refine va_get (D := g.1) (ci := 9) (v := .ref (p_t 14)) (C := RX9) (T := TX9) (N := 15) hx hb hts iX9_wayAt_X9 hown hK.1 hP 0 rfl rfl 14 (by decide) (hts _ kX9_wayAt_87) (fun _ h9 => h9) rfl dX9_wayAt_30 ?_
      refine va_get (D := g.1) (ci := 8) (v := .int (u_5 1)) (C := RX8) (T := TX8) (N := 7) hx hb hts iX9_wayAt_X8 hown hK.1 hP 1 rfl rfl 1 (by decide) (hts _ kX9_wayAt_263) (fun _ h9 => h9) rfl dX9_wayAt_33 ?_
      refine lv_icmp_lt (tgt := 45) hx hb dX9_wayAt_36 (by decide) (fun c_22 => ?_) (fun c_22 => ?_)
      · have hF := it_p c_22 hF
        refine lv_aload_n hx hb dX9_wayAt_45 rfl (lv_at hl 0 rfl) ?_
        refine va_get (D := g.1) (ci := 9) (v := .ref (p_t 14)) (C := RX9) (T := TX9) (N := 15) hx hb hts iX9_wayAt_X9 hown hK.1 hP 0 rfl rfl 14 (by decide) (hts _ kX9_wayAt_87) (fun _ h9 => h9) rfl dX9_wayAt_46 ?_
        refine va_get (D := g.1) (ci := 8) (v := .ref (p_t_14 3)) (C := RX8) (T := TX8) (N := 7) hx hb hts iX9_wayAt_X8 hown hK.1 hP 1 rfl rfl 3 (by decide) (hts _ kX9_wayAt_266) (fun _ h9 => h9) rfl dX9_wayAt_49 ?_
        refine lv_iload_n hx hb dX9_wayAt_52 rfl (lv_at hl 1 rfl) ?_
        obtain ⟨h_23, hF⟩ := it_ck hF
        refine va_iald hx hb hK.1 hP 2 0 rfl rfl h_23 dX9_wayAt_53 ?_
        cases hF
        exact ret_i C0 hP hD hS [0, 12, 13, 14, 15, 16, 17, 18, 19, 20, 21, 22, 23, 24, 1, 2, 3, 4, 5, 6, 7, 8, 9, 10, 11] rfl rfl rfl dX9_wayAt_54 rfl
      · have hF := it_n c_22 hF
        refine lv_aload_n hx hb dX9_wayAt_39 rfl (lv_at hl 0 rfl) ?_
        refine lv_iconst (v := (1 : Int32)) hx hb dX9_wayAt_40 (by decide) ?_
        obtain ⟨u_24, u_25, hu_26, hF⟩ := ob2_some hF
        refine call_i (wr := [oX8 (p_t 14) p_t_14 u_5, aI g (p_t_14 3) 218 u_6, aI g (p_t_14 4) 31 u_7, oX2 (p_t_14 5) p_t_14_5 u_8, aI g (p_t_14_5 6) 7 u_9, aI g (p_t_14_5 7) 7 u_10, aI g (p_t_14_5 8) 7 u_11, oX2 (p_t_14 6) p_t_14_6 u_12, aI g (p_t_14_6 6) 7 u_13, aI g (p_t_14_6 7) 7 u_14, aI g (p_t_14_6 8) 7 u_15, oX1 (p_t 1) p_t_1 o_t_1, aI g (p_t_1 4) 7 f_t_1_4, aI g (p_t_1 5) 7 f_t_1_5, aI g (p_t_1 6) 7 f_t_1_6, aI g (p_t_1 7) 7 f_t_1_7, aI g (p_t_1 10) 8 f_t_1_10, aI g (p_t_1 11) 8 f_t_1_11, aI g (p_t_1 12) 8 f_t_1_12, oX7 (p_t_1 16) p_t_1_16 o_t_1_16, aI g (p_t_1_16 4) 6 f_t_1_16_4, aI g (p_t_1_16 5) 6 f_t_1_16_5, aI g (p_t_1_16 6) 6 f_t_1_16_6, oX3 (p_t 7) p_t_7 u_16]) (As := [.int (1 : Int32)]) (rest := []) (ci := 9) (q0 := 0) C0 (mX9_refuse l g a_t p_t n (1 : Int32) u_2 u_24 u_25 hu_26) (cwV 1 hts gX9_wayAt_X9_refuse rfl rfl rfl (by decide +kernel) ⟨Nat.le_of_ble_eq_true rfl, Nat.le_of_ble_eq_true rfl⟩) hP hD hS [0] [1, 2, 3, 4, 5, 6, 7, 8, 9, 10, 11, 12, 13, 14, 15, 16, 17, 18, 19, 20, 21, 22, 23, 24] rfl rfl rfl rfl rfl (by decide) rfl rfl hl.1 rfl rfl (Nat.le_of_ble_eq_true rfl) ⟨Nat.zero_le _, Nat.zero_le _⟩ dX9_wayAt_41 ?_
        intro H locs hP hD hS
        cases hF
        exact ret_i C0 hP hD hS [24, 11, 12, 13, 14, 15, 16, 17, 18, 19, 20, 21, 22, 23, 0, 1, 2, 3, 4, 5, 6, 7, 8, 9, 10] rfl rfl rfl dX9_wayAt_44 rfl
  · have hF := it_p c_4 hF
    refine lv_iconst (v := (-1 : Int32)) hx hb dX9_wayAt_7 (by decide) ?_
    cases hF
    exact ret_i C0 hP hD hS [24, 0, 1, 2, 3, 4, 5, 6, 7, 8, 9, 10, 11, 12, 13, 14, 15, 16, 17, 18, 19, 20, 21, 22, 23] rfl rfl rfl dX9_wayAt_8 rfl

theorem dAX9_judge : ∀ q ∈ ([(0, (.aload_n 0, 1)), (1, (.invokevirtual 153, 3)), (4, (.ifCond .ne 5, 3)), (7, (.iconst (-1), 1)), (8, (.ireturn, 1)), (9, (.aload_n 0, 1)), (10, (.getfield 87, 3)), (13, (.aload_n 0, 1)), (14, (.getfield 19, 3)), (17, (.aload_n 0, 1)), (18, (.getfield 49, 3)), (21, (.invokevirtual 260, 3)), (24, (.aload_n 0, 1)), (25, (.getfield 87, 3)), (28, (.getfield 269, 3)), (31, (.ireturn, 1))] : List (Nat × (Instr × Nat))), decode cX9_judge q.1 = .ok q.2 := by decide +kernel
theorem dX9_judge_0 : decode cX9_judge 0 = .ok (.aload_n 0, 1) := dAX9_judge (0, (.aload_n 0, 1)) (List.mem_of_getElem? (i := 0) rfl)
theorem dX9_judge_1 : decode cX9_judge 1 = .ok (.invokevirtual 153, 3) := dAX9_judge (1, (.invokevirtual 153, 3)) (List.mem_of_getElem? (i := 1) rfl)
theorem dX9_judge_4 : decode cX9_judge 4 = .ok (.ifCond .ne 5, 3) := dAX9_judge (4, (.ifCond .ne 5, 3)) (List.mem_of_getElem? (i := 2) rfl)
theorem dX9_judge_7 : decode cX9_judge 7 = .ok (.iconst (-1), 1) := dAX9_judge (7, (.iconst (-1), 1)) (List.mem_of_getElem? (i := 3) rfl)
theorem dX9_judge_8 : decode cX9_judge 8 = .ok (.ireturn, 1) := dAX9_judge (8, (.ireturn, 1)) (List.mem_of_getElem? (i := 4) rfl)
theorem dX9_judge_9 : decode cX9_judge 9 = .ok (.aload_n 0, 1) := dAX9_judge (9, (.aload_n 0, 1)) (List.mem_of_getElem? (i := 5) rfl)
theorem dX9_judge_10 : decode cX9_judge 10 = .ok (.getfield 87, 3) := dAX9_judge (10, (.getfield 87, 3)) (List.mem_of_getElem? (i := 6) rfl)
theorem dX9_judge_13 : decode cX9_judge 13 = .ok (.aload_n 0, 1) := dAX9_judge (13, (.aload_n 0, 1)) (List.mem_of_getElem? (i := 7) rfl)
theorem dX9_judge_14 : decode cX9_judge 14 = .ok (.getfield 19, 3) := dAX9_judge (14, (.getfield 19, 3)) (List.mem_of_getElem? (i := 8) rfl)
theorem dX9_judge_17 : decode cX9_judge 17 = .ok (.aload_n 0, 1) := dAX9_judge (17, (.aload_n 0, 1)) (List.mem_of_getElem? (i := 9) rfl)
theorem dX9_judge_18 : decode cX9_judge 18 = .ok (.getfield 49, 3) := dAX9_judge (18, (.getfield 49, 3)) (List.mem_of_getElem? (i := 10) rfl)
theorem dX9_judge_21 : decode cX9_judge 21 = .ok (.invokevirtual 260, 3) := dAX9_judge (21, (.invokevirtual 260, 3)) (List.mem_of_getElem? (i := 11) rfl)
theorem dX9_judge_24 : decode cX9_judge 24 = .ok (.aload_n 0, 1) := dAX9_judge (24, (.aload_n 0, 1)) (List.mem_of_getElem? (i := 12) rfl)
theorem dX9_judge_25 : decode cX9_judge 25 = .ok (.getfield 87, 3) := dAX9_judge (25, (.getfield 87, 3)) (List.mem_of_getElem? (i := 13) rfl)
theorem dX9_judge_28 : decode cX9_judge 28 = .ok (.getfield 269, 3) := dAX9_judge (28, (.getfield 269, 3)) (List.mem_of_getElem? (i := 14) rfl)
theorem dX9_judge_31 : decode cX9_judge 31 = .ok (.ireturn, 1) := dAX9_judge (31, (.ireturn, 1)) (List.mem_of_getElem? (i := 15) rfl)
set_option maxRecDepth 20000 in
theorem ggX9_judge_X9_asked : GoodIn wsX9_judge wsX9_asked := goodIn_r _ [9, 10, 11, 120, 121, 122, 123, 124, 125, 126, 127, 128, 129, 130, 131, 132, 133, 134] rfl (by decide +kernel)
set_option maxRecDepth 20000 in
theorem gX9_judge_X9_asked : GoodIn wsX9_judge (wsV RX9 153 RX9 yX9_asked wsX9_asked) := goodIn_app (goodIn_of _ (by decide +kernel)) ggX9_judge_X9_asked
set_option maxRecDepth 20000 in
theorem ggX9_judge_X8_search : GoodIn wsX9_judge wsX8_search := goodIn_r _ [16, 17, 18, 19, 20, 21, 22, 23, 24, 25, 26, 27, 28, 29, 30, 31, 32, 33, 34, 35, 36, 37, 38, 39, 40, 41, 42, 43, 44, 45, 46, 47, 48, 49, 15, 50, 51, 52, 53, 54, 55, 56, 57, 58, 59, 60, 61, 62, 63, 64, 65, 66, 67, 68, 69, 70, 71, 72, 73, 74, 75, 76, 77, 78, 79, 80, 81, 82, 83, 84, 85, 86, 87, 88, 89, 90, 91, 92, 93, 94, 95, 96, 97, 98, 99, 100, 101, 102, 103, 104, 105, 106, 107, 108, 109, 110, 111, 112, 113, 114, 115, 116, 117, 118, 8, 119, 135, 136, 137, 138, 139, 140, 141, 142, 143, 144, 145, 146, 147, 148, 149, 150, 151, 152, 153, 154, 155, 156, 157, 158, 159, 160, 161, 162, 163, 164, 165, 166, 167, 168, 169, 170, 171, 172, 173, 174, 175, 176] rfl (by decide +kernel)
set_option maxRecDepth 20000 in
theorem gX9_judge_X8_search : GoodIn wsX9_judge (wsV RX9 260 RX8 yX8_search wsX8_search) := goodIn_app (goodIn_of _ (by decide +kernel)) ggX9_judge_X8_search
theorem kX9_judge_87 : Cond.fieldLink RX9 87 "EveningVow" "unseen" "LEveningVow$Unseen;" ∈ wsX9_judge := List.mem_of_getElem? (i := 1) rfl
theorem iX9_judge_X9 : ∀ w ∈ u_ws RX9 TX9 15, w ∈ wsX9_judge := fun w h => (List.mem_cons_of_mem _ (List.mem_append_left _ (List.mem_append_left _ (List.mem_append_left _ (List.mem_append_left _ (List.mem_append_left _ (List.mem_append_right _ h)))))))
theorem kX9_judge_19 : Cond.fieldLink RX9 19 "EveningVow" "told" "LEveningVow$House;" ∈ wsX9_judge := List.mem_of_getElem? (i := 2) rfl
theorem kX9_judge_49 : Cond.fieldLink RX9 49 "EveningVow" "asTold" "LEveningVow$Pace;" ∈ wsX9_judge := List.mem_of_getElem? (i := 3) rfl
theorem kX9_judge_269 : Cond.fieldLink RX9 269 "EveningVow$Unseen" "wrongSight" "I" ∈ wsX9_judge := List.mem_of_getElem? (i := 4) rfl
theorem iX9_judge_X8 : ∀ w ∈ u_ws RX8 TX8 7, w ∈ wsX9_judge := fun w h => (List.mem_cons_of_mem _ (List.mem_append_left _ (List.mem_append_left _ (List.mem_append_left _ (List.mem_append_left _ (List.mem_append_right _ h))))))
set_option maxHeartbeats 4000000 in
set_option maxRecDepth 100000 in
theorem mX9_judge (l : Launch) (g : GG) (a_t : Nat) (p_t : Nat → Nat) (p_t_1 : Nat → Nat) (p_t_1_16 : Nat → Nat) (p_t_7 : Nat → Nat) (p_t_14 : Nat → Nat) (p_t_14_5 : Nat → Nat) (p_t_14_6 : Nat → Nat) (n : Nat) (o_t : Nat → Int32) (o_t_1 : Nat → Int32) (f_t_1_4 : Nat → Int32) (f_t_1_5 : Nat → Int32) (f_t_1_6 : Nat → Int32) (f_t_1_7 : Nat → Int32) (f_t_1_10 : Nat → Int32) (f_t_1_11 : Nat → Int32) (f_t_1_12 : Nat → Int32) (o_t_1_16 : Nat → Int32) (f_t_1_16_4 : Nat → Int32) (f_t_1_16_5 : Nat → Int32) (f_t_1_16_6 : Nat → Int32) (o_t_7 : Nat → Int32) (o_t_14 : Nat → Int32) (f_t_14_3 : Nat → Int32) (f_t_14_4 : Nat → Int32) (o_t_14_5 : Nat → Int32) (f_t_14_5_6 : Nat → Int32) (f_t_14_5_7 : Nat → Int32) (f_t_14_5_8 : Nat → Int32) (o_t_14_6 : Nat → Int32) (f_t_14_6_6 : Nat → Int32) (f_t_14_6_7 : Nat → Int32) (f_t_14_6_8 : Nat → Int32) (r : Int32) (o_t' : Nat → Int32) (o_t_7' : Nat → Int32) (o_t_14' : Nat → Int32) (f_t_14_3' : Nat → Int32) (f_t_14_4' : Nat → Int32) (o_t_14_5' : Nat → Int32) (f_t_14_5_6' : Nat → Int32) (f_t_14_5_7' : Nat → Int32) (f_t_14_5_8' : Nat → Int32) (o_t_14_6' : Nat → Int32) (f_t_14_6_6' : Nat → Int32) (f_t_14_6_7' : Nat → Int32) (f_t_14_6_8' : Nat → Int32) (hF : fX9_judge n o_t o_t_1 f_t_1_4 f_t_1_5 f_t_1_6 f_t_1_7 f_t_1_10 f_t_1_11 f_t_1_12 o_t_1_16 f_t_1_16_4 f_t_1_16_5 f_t_1_16_6 o_t_7 o_t_14 f_t_14_3 f_t_14_4 o_t_14_5 f_t_14_5_6 f_t_14_5_7 f_t_14_5_8 o_t_14_6 f_t_14_6_6 f_t_14_6_7 f_t_14_6_8 = some (r, o_t', o_t_7', o_t_14', f_t_14_3', f_t_14_4', o_t_14_5', f_t_14_5_6', f_t_14_5_7', f_t_14_5_8', o_t_14_6', f_t_14_6_6', f_t_14_6_7', f_t_14_6_8')) : MI l g yX9_judge wsX9_judge ({ frames := 6, cells := 0, slots := 0, locals := 141 } : Room) [.ref a_t] [oX9 a_t p_t o_t, oX1 (p_t 1) p_t_1 o_t_1, aI g (p_t_1 4) 7 f_t_1_4, aI g (p_t_1 5) 7 f_t_1_5, aI g (p_t_1 6) 7 f_t_1_6, aI g (p_t_1 7) 7 f_t_1_7, aI g (p_t_1 10) 8 f_t_1_10, aI g (p_t_1 11) 8 f_t_1_11, aI g (p_t_1 12) 8 f_t_1_12, oX7 (p_t_1 16) p_t_1_16 o_t_1_16, aI g (p_t_1_16 4) 6 f_t_1_16_4, aI g (p_t_1_16 5) 6 f_t_1_16_5, aI g (p_t_1_16 6) 6 f_t_1_16_6, oX3 (p_t 7) p_t_7 o_t_7, oX8 (p_t 14) p_t_14 o_t_14, aI g (p_t_14 3) 218 f_t_14_3, aI g (p_t_14 4) 31 f_t_14_4, oX2 (p_t_14 5) p_t_14_5 o_t_14_5, aI g (p_t_14_5 6) 7 f_t_14_5_6, aI g (p_t_14_5 7) 7 f_t_14_5_7, aI g (p_t_14_5 8) 7 f_t_14_5_8, oX2 (p_t_14 6) p_t_14_6 o_t_14_6, aI g (p_t_14_6 6) 7 f_t_14_6_6, aI g (p_t_14_6 7) 7 f_t_14_6_7, aI g (p_t_14_6 8) 7 f_t_14_6_8] r [oX9 a_t p_t o_t', oX1 (p_t 1) p_t_1 o_t_1, aI g (p_t_1 4) 7 f_t_1_4, aI g (p_t_1 5) 7 f_t_1_5, aI g (p_t_1 6) 7 f_t_1_6, aI g (p_t_1 7) 7 f_t_1_7, aI g (p_t_1 10) 8 f_t_1_10, aI g (p_t_1 11) 8 f_t_1_11, aI g (p_t_1 12) 8 f_t_1_12, oX7 (p_t_1 16) p_t_1_16 o_t_1_16, aI g (p_t_1_16 4) 6 f_t_1_16_4, aI g (p_t_1_16 5) 6 f_t_1_16_5, aI g (p_t_1_16 6) 6 f_t_1_16_6, oX3 (p_t 7) p_t_7 o_t_7', oX8 (p_t 14) p_t_14 o_t_14', aI g (p_t_14 3) 218 f_t_14_3', aI g (p_t_14 4) 31 f_t_14_4', oX2 (p_t_14 5) p_t_14_5 o_t_14_5', aI g (p_t_14_5 6) 7 f_t_14_5_6', aI g (p_t_14_5 7) 7 f_t_14_5_7', aI g (p_t_14_5 8) 7 f_t_14_5_8', oX2 (p_t_14 6) p_t_14_6 o_t_14_6', aI g (p_t_14_6 6) 7 f_t_14_6_6', aI g (p_t_14_6 7) 7 f_t_14_6_7', aI g (p_t_14_6 8) 7 f_t_14_6_8'] := by
  refine MI.of (cc := cX9_judge) (maxL := 1) (rt := .int) (own := RX9) rfl rfl (by decide) (Nat.le_of_ble_eq_true rfl) ?_
  intro p e s m args below meth c A C0 hP hD hS ls hl
  obtain ⟨hx, hb, hml, hown, hts, hr, hlk, hK, hA, hSW⟩ := id C0
  have hl : lv_has ls 1 [(0, .ref a_t)] := hl
  rw [fX9_judge] at hF
  refine lv_aload_n hx hb dX9_judge_0 rfl (lv_at hl 0 rfl) ?_
  obtain ⟨u_1, u_2, hu_3, hF⟩ := ob2_some hF
  refine call_i (wr := [oX1 (p_t 1) p_t_1 o_t_1, aI g (p_t_1 4) 7 f_t_1_4, aI g (p_t_1 5) 7 f_t_1_5, aI g (p_t_1 6) 7 f_t_1_6, aI g (p_t_1 7) 7 f_t_1_7, aI g (p_t_1 10) 8 f_t_1_10, aI g (p_t_1 11) 8 f_t_1_11, aI g (p_t_1 12) 8 f_t_1_12, oX7 (p_t_1 16) p_t_1_16 o_t_1_16, aI g (p_t_1_16 4) 6 f_t_1_16_4, aI g (p_t_1_16 5) 6 f_t_1_16_5, aI g (p_t_1_16 6) 6 f_t_1_16_6, oX3 (p_t 7) p_t_7 o_t_7, oX8 (p_t 14) p_t_14 o_t_14, aI g (p_t_14 3) 218 f_t_14_3, aI g (p_t_14 4) 31 f_t_14_4, oX2 (p_t_14 5) p_t_14_5 o_t_14_5, aI g (p_t_14_5 6) 7 f_t_14_5_6, aI g (p_t_14_5 7) 7 f_t_14_5_7, aI g (p_t_14_5 8) 7 f_t_14_5_8, oX2 (p_t_14 6) p_t_14_6 o_t_14_6, aI g (p_t_14_6 6) 7 f_t_14_6_6, aI g (p_t_14_6 7) 7 f_t_14_6_7, aI g (p_t_14_6 8) 7 f_t_14_6_8]) (As := []) (rest := []) (ci := 9) (q0 := 0) C0 (mX9_asked l g a_t p_t n o_t u_1 u_2 hu_3) (cwV 0 hts gX9_judge_X9_asked rfl rfl rfl (by decide +kernel) ⟨Nat.le_of_ble_eq_true rfl, Nat.le_of_ble_eq_true rfl⟩) hP hD hS [0] [1, 2, 3, 4, 5, 6, 7, 8, 9, 10, 11, 12, 13, 14, 15, 16, 17, 18, 19, 20, 21, 22, 23, 24] rfl rfl rfl rfl rfl (by decide) rfl rfl hl.1 rfl rfl (Nat.le_of_ble_eq_true rfl) ⟨Nat.zero_le _, Nat.zero_le _⟩ dX9_judge_1 ?_
  intro H locs hP hD hS
  refine lv_if_ne (tgt := 9) hx hb dX9_judge_4 (by decide) (fun c_4 => ?_) (fun c_4 => ?_)
  · have hF := it_n c_4 hF
    refine lv_aload_n hx hb dX9_judge_9 rfl (lv_at hl 0 rfl) ?_
    refine va_get (D := g.1) (ci := 9) (v := .ref (p_t 14)) (C := RX9) (T := TX9) (N := 15) hx hb hts iX9_judge_X9 hown hK.1 hP 24 rfl rfl 14 (by decide) (hts _ kX9_judge_87) (fun _ h9 => h9) rfl dX9_judge_10 ?_
    refine lv_aload_n hx hb dX9_judge_13 rfl (lv_at hl 0 rfl) ?_
    refine va_get (D := g.1) (ci := 9) (v := .ref (p_t 1)) (C := RX9) (T := TX9) (N := 15) hx hb hts iX9_judge_X9 hown hK.1 hP 24 rfl rfl 1 (by decide) (hts _ kX9_judge_19) (fun _ h9 => h9) rfl dX9_judge_14 ?_
    refine lv_aload_n hx hb dX9_judge_17 rfl (lv_at hl 0 rfl) ?_
    refine va_get (D := g.1) (ci := 9) (v := .ref (p_t 7)) (C := RX9) (T := TX9) (N := 15) hx hb hts iX9_judge_X9 hown hK.1 hP 24 rfl rfl 7 (by decide) (hts _ kX9_judge_49) (fun _ h9 => h9) rfl dX9_judge_18 ?_
    obtain ⟨u_5, u_6, u_7, u_8, u_9, u_10, u_11, u_12, u_13, u_14, u_15, u_16, hu_17, hF⟩ := ob12_some hF
    refine call_v (wr := [oX9 a_t p_t u_2]) (As := [.ref (p_t 1), .ref (p_t 7)]) (rest := []) (ci := 8) (q0 := 0) C0 (mX8_search l g (p_t 14) (p_t 1) (p_t 7) p_t_14 p_t_14_5 p_t_14_6 p_t_1 p_t_1_16 p_t_7 n o_t_14 f_t_14_3 f_t_14_4 o_t_14_5 f_t_14_5_6 f_t_14_5_7 f_t_14_5_8 o_t_14_6 f_t_14_6_6 f_t_14_6_7 f_t_14_6_8 o_t_1 f_t_1_4 f_t_1_5 f_t_1_6 f_t_1_7 f_t_1_10 f_t_1_11 f_t_1_12 o_t_1_16 f_t_1_16_4 f_t_1_16_5 f_t_1_16_6 o_t_7 u_5 u_6 u_7 u_8 u_9 u_10 u_11 u_12 u_13 u_14 u_15 u_16 hu_17) (cwV 2 hts gX9_judge_X8_search rfl rfl rfl (by decide +kernel) ⟨Nat.le_of_ble_eq_true rfl, Nat.le_of_ble_eq_true rfl⟩) hP hD hS [13, 14, 15, 16, 17, 18, 19, 20, 21, 22, 23, 0, 1, 2, 3, 4, 5, 6, 7, 8, 9, 10, 11, 12] [24] rfl rfl rfl rfl rfl (by decide) rfl rfl hl.1 rfl rfl (Nat.le_of_ble_eq_true rfl) ⟨Nat.zero_le _, Nat.zero_le _⟩ dX9_judge_21 ?_
    intro H locs hP hD hS
    refine lv_aload_n hx hb dX9_judge_24 rfl (lv_at hl 0 rfl) ?_
    refine va_get (D := g.1) (ci := 9) (v := .ref (p_t 14)) (C := RX9) (T := TX9) (N := 15) hx hb hts iX9_judge_X9 hown hK.1 hP 0 rfl rfl 14 (by decide) (hts _ kX9_judge_87) (fun _ h9 => h9) rfl dX9_judge_25 ?_
    refine va_get (D := g.1) (ci := 8) (v := .int (u_5 2)) (C := RX8) (T := TX8) (N := 7) hx hb hts iX9_judge_X8 hown hK.1 hP 1 rfl rfl 2 (by decide) (hts _ kX9_judge_269) (fun _ h9 => h9) rfl dX9_judge_28 ?_
    cases hF
    exact ret_i C0 hP hD hS [0, 12, 13, 14, 15, 16, 17, 18, 19, 20, 21, 22, 23, 24, 1, 2, 3, 4, 5, 6, 7, 8, 9, 10, 11] rfl rfl rfl dX9_judge_31 rfl
  · have hF := it_p c_4 hF
    refine lv_iconst (v := (-1 : Int32)) hx hb dX9_judge_7 (by decide) ?_
    cases hF
    exact ret_i C0 hP hD hS [24, 0, 1, 2, 3, 4, 5, 6, 7, 8, 9, 10, 11, 12, 13, 14, 15, 16, 17, 18, 19, 20, 21, 22, 23] rfl rfl rfl dX9_judge_8 rfl

theorem dAX9_pays : ∀ q ∈ ([(0, (.aload_n 0, 1)), (1, (.invokevirtual 153, 3)), (4, (.ifCond .eq 14, 3)), (7, (.aload_n 0, 1)), (8, (.iload_n 1, 1)), (9, (.iconst 0, 1)), (10, (.bipush 99, 2)), (12, (.invokevirtual 168, 3)), (15, (.ifCond .ne 5, 3)), (18, (.iconst (-1), 1)), (19, (.ireturn, 1)), (20, (.aload_n 0, 1)), (21, (.getfield 19, 3)), (24, (.getfield 272, 3)), (27, (.iload_n 1, 1)), (28, (.invokevirtual 276, 3)), (31, (.ireturn, 1))] : List (Nat × (Instr × Nat))), decode cX9_pays q.1 = .ok q.2 := by decide +kernel
theorem dX9_pays_0 : decode cX9_pays 0 = .ok (.aload_n 0, 1) := dAX9_pays (0, (.aload_n 0, 1)) (List.mem_of_getElem? (i := 0) rfl)
theorem dX9_pays_1 : decode cX9_pays 1 = .ok (.invokevirtual 153, 3) := dAX9_pays (1, (.invokevirtual 153, 3)) (List.mem_of_getElem? (i := 1) rfl)
theorem dX9_pays_4 : decode cX9_pays 4 = .ok (.ifCond .eq 14, 3) := dAX9_pays (4, (.ifCond .eq 14, 3)) (List.mem_of_getElem? (i := 2) rfl)
theorem dX9_pays_7 : decode cX9_pays 7 = .ok (.aload_n 0, 1) := dAX9_pays (7, (.aload_n 0, 1)) (List.mem_of_getElem? (i := 3) rfl)
theorem dX9_pays_8 : decode cX9_pays 8 = .ok (.iload_n 1, 1) := dAX9_pays (8, (.iload_n 1, 1)) (List.mem_of_getElem? (i := 4) rfl)
theorem dX9_pays_9 : decode cX9_pays 9 = .ok (.iconst 0, 1) := dAX9_pays (9, (.iconst 0, 1)) (List.mem_of_getElem? (i := 5) rfl)
theorem dX9_pays_10 : decode cX9_pays 10 = .ok (.bipush 99, 2) := dAX9_pays (10, (.bipush 99, 2)) (List.mem_of_getElem? (i := 6) rfl)
theorem dX9_pays_12 : decode cX9_pays 12 = .ok (.invokevirtual 168, 3) := dAX9_pays (12, (.invokevirtual 168, 3)) (List.mem_of_getElem? (i := 7) rfl)
theorem dX9_pays_15 : decode cX9_pays 15 = .ok (.ifCond .ne 5, 3) := dAX9_pays (15, (.ifCond .ne 5, 3)) (List.mem_of_getElem? (i := 8) rfl)
theorem dX9_pays_18 : decode cX9_pays 18 = .ok (.iconst (-1), 1) := dAX9_pays (18, (.iconst (-1), 1)) (List.mem_of_getElem? (i := 9) rfl)
theorem dX9_pays_19 : decode cX9_pays 19 = .ok (.ireturn, 1) := dAX9_pays (19, (.ireturn, 1)) (List.mem_of_getElem? (i := 10) rfl)
theorem dX9_pays_20 : decode cX9_pays 20 = .ok (.aload_n 0, 1) := dAX9_pays (20, (.aload_n 0, 1)) (List.mem_of_getElem? (i := 11) rfl)
theorem dX9_pays_21 : decode cX9_pays 21 = .ok (.getfield 19, 3) := dAX9_pays (21, (.getfield 19, 3)) (List.mem_of_getElem? (i := 12) rfl)
theorem dX9_pays_24 : decode cX9_pays 24 = .ok (.getfield 272, 3) := dAX9_pays (24, (.getfield 272, 3)) (List.mem_of_getElem? (i := 13) rfl)
theorem dX9_pays_27 : decode cX9_pays 27 = .ok (.iload_n 1, 1) := dAX9_pays (27, (.iload_n 1, 1)) (List.mem_of_getElem? (i := 14) rfl)
theorem dX9_pays_28 : decode cX9_pays 28 = .ok (.invokevirtual 276, 3) := dAX9_pays (28, (.invokevirtual 276, 3)) (List.mem_of_getElem? (i := 15) rfl)
theorem dX9_pays_31 : decode cX9_pays 31 = .ok (.ireturn, 1) := dAX9_pays (31, (.ireturn, 1)) (List.mem_of_getElem? (i := 16) rfl)
set_option maxRecDepth 20000 in
theorem ggX9_pays_X9_asked : GoodIn wsX9_pays wsX9_asked := goodIn_r _ [7, 8, 9, 22, 23, 24, 25, 26, 27, 28, 29, 30, 31, 32, 33, 34, 35, 36] rfl (by decide +kernel)
set_option maxRecDepth 20000 in
theorem gX9_pays_X9_asked : GoodIn wsX9_pays (wsV RX9 153 RX9 yX9_asked wsX9_asked) := goodIn_app (goodIn_of _ (by decide +kernel)) ggX9_pays_X9_asked
set_option maxRecDepth 20000 in
theorem ggX9_pays_X9_within : GoodIn wsX9_pays wsX9_within := goodIn_r _ [13, 9, 22, 23, 24, 25, 26, 27, 28, 29, 30, 31, 32, 33, 34, 35, 36] rfl (by decide +kernel)
set_option maxRecDepth 20000 in
theorem gX9_pays_X9_within : GoodIn wsX9_pays (wsV RX9 168 RX9 yX9_within wsX9_within) := goodIn_app (goodIn_of _ (by decide +kernel)) ggX9_pays_X9_within
set_option maxRecDepth 20000 in
theorem ggX9_pays_X7_payAt : GoodIn wsX9_pays wsX7_payAt := goodIn_r _ [18, 19, 20, 21, 54, 55, 56, 57, 58, 59, 60] rfl (by decide +kernel)
set_option maxRecDepth 20000 in
theorem gX9_pays_X7_payAt : GoodIn wsX9_pays (wsV RX9 276 RX7 yX7_payAt wsX7_payAt) := goodIn_app (goodIn_of _ (by decide +kernel)) ggX9_pays_X7_payAt
theorem kX9_pays_19 : Cond.fieldLink RX9 19 "EveningVow" "told" "LEveningVow$House;" ∈ wsX9_pays := List.mem_of_getElem? (i := 1) rfl
theorem iX9_pays_X9 : ∀ w ∈ u_ws RX9 TX9 15, w ∈ wsX9_pays := fun w h => (List.mem_cons_of_mem _ (List.mem_append_left _ (List.mem_append_left _ (List.mem_append_right _ h))))
theorem kX9_pays_272 : Cond.fieldLink RX9 272 "EveningVow$House" "town" "LEveningVow$Town;" ∈ wsX9_pays := List.mem_of_getElem? (i := 2) rfl
theorem iX9_pays_X1 : ∀ w ∈ u_ws RX1 TX1 17, w ∈ wsX9_pays := fun w h => (List.mem_cons_of_mem _ (List.mem_append_left _ (List.mem_append_right _ h)))
set_option maxHeartbeats 4000000 in
set_option maxRecDepth 100000 in
theorem mX9_pays (l : Launch) (g : GG) (a_t : Nat) (p_t : Nat → Nat) (p_t_1 : Nat → Nat) (p_t_1_16 : Nat → Nat) (n : Nat) (x1 : Int32) (o_t : Nat → Int32) (o_t_1 : Nat → Int32) (o_t_1_16 : Nat → Int32) (f_t_1_16_1 : Nat → Int32) (f_t_1_16_2 : Nat → Int32) (r : Int32) (o_t' : Nat → Int32) (hF : fX9_pays n x1 o_t o_t_1 o_t_1_16 f_t_1_16_1 f_t_1_16_2 = some (r, o_t')) : MI l g yX9_pays wsX9_pays ({ frames := 1, cells := 0, slots := 0, locals := 24 } : Room) [.ref a_t, .int x1] [oX9 a_t p_t o_t, oX1 (p_t 1) p_t_1 o_t_1, oX7 (p_t_1 16) p_t_1_16 o_t_1_16, aI g (p_t_1_16 1) 5 f_t_1_16_1, aI g (p_t_1_16 2) 5 f_t_1_16_2] r [oX9 a_t p_t o_t', oX1 (p_t 1) p_t_1 o_t_1, oX7 (p_t_1 16) p_t_1_16 o_t_1_16, aI g (p_t_1_16 1) 5 f_t_1_16_1, aI g (p_t_1_16 2) 5 f_t_1_16_2] := by
  refine MI.of (cc := cX9_pays) (maxL := 2) (rt := .int) (own := RX9) rfl rfl (by decide) (Nat.le_of_ble_eq_true rfl) ?_
  intro p e s m args below meth c A C0 hP hD hS ls hl
  obtain ⟨hx, hb, hml, hown, hts, hr, hlk, hK, hA, hSW⟩ := id C0
  have hl : lv_has ls 2 [(0, .ref a_t), (1, .int x1)] := hl
  rw [fX9_pays] at hF
  refine lv_aload_n hx hb dX9_pays_0 rfl (lv_at hl 0 rfl) ?_
  obtain ⟨u_1, u_2, hu_3, hF⟩ := ob2_some hF
  refine call_i (wr := [oX1 (p_t 1) p_t_1 o_t_1, oX7 (p_t_1 16) p_t_1_16 o_t_1_16, aI g (p_t_1_16 1) 5 f_t_1_16_1, aI g (p_t_1_16 2) 5 f_t_1_16_2]) (As := []) (rest := []) (ci := 9) (q0 := 0) C0 (mX9_asked l g a_t p_t n o_t u_1 u_2 hu_3) (cwV 0 hts gX9_pays_X9_asked rfl rfl rfl (by decide +kernel) ⟨Nat.le_of_ble_eq_true rfl, Nat.le_of_ble_eq_true rfl⟩) hP hD hS [0] [1, 2, 3, 4] rfl rfl rfl rfl rfl (by decide) rfl rfl hl.1 rfl rfl (Nat.le_of_ble_eq_true rfl) ⟨Nat.zero_le _, Nat.zero_le _⟩ dX9_pays_1 ?_
  intro H locs hP hD hS
  refine lv_if_eq (tgt := 18) hx hb dX9_pays_4 (by decide) (fun c_4 => ?_) (fun c_4 => ?_)
  · have hF := it_p c_4 hF
    refine lv_iconst (v := (-1 : Int32)) hx hb dX9_pays_18 (by decide) ?_
    cases hF
    exact ret_i C0 hP hD hS [4, 0, 1, 2, 3] rfl rfl rfl dX9_pays_19 rfl
  · have hF := it_n c_4 hF
    refine lv_aload_n hx hb dX9_pays_7 rfl (lv_at hl 0 rfl) ?_
    refine lv_iload_n hx hb dX9_pays_8 rfl (lv_at hl 1 rfl) ?_
    refine lv_iconst (v := (0 : Int32)) hx hb dX9_pays_9 (by decide) ?_
    refine lv_bipush (v := (99 : Int32)) hx hb dX9_pays_10 (by decide) ?_
    obtain ⟨u_5, u_6, hu_7, hF⟩ := ob2_some hF
    refine call_i (wr := [oX1 (p_t 1) p_t_1 o_t_1, oX7 (p_t_1 16) p_t_1_16 o_t_1_16, aI g (p_t_1_16 1) 5 f_t_1_16_1, aI g (p_t_1_16 2) 5 f_t_1_16_2]) (As := [.int x1, .int (0 : Int32), .int (99 : Int32)]) (rest := []) (ci := 9) (q0 := 0) C0 (mX9_within l g a_t p_t n x1 (0 : Int32) (99 : Int32) u_2 u_5 u_6 hu_7) (cwV 3 hts gX9_pays_X9_within rfl rfl rfl (by decide +kernel) ⟨Nat.le_of_ble_eq_true rfl, Nat.le_of_ble_eq_true rfl⟩) hP hD hS [4] [0, 1, 2, 3] rfl rfl rfl rfl rfl (by decide) rfl rfl hl.1 rfl rfl (Nat.le_of_ble_eq_true rfl) ⟨Nat.zero_le _, Nat.zero_le _⟩ dX9_pays_12 ?_
    intro H locs hP hD hS
    refine lv_if_ne (tgt := 20) hx hb dX9_pays_15 (by decide) (fun c_8 => ?_) (fun c_8 => ?_)
    · have hF := it_n c_8 hF
      refine lv_aload_n hx hb dX9_pays_20 rfl (lv_at hl 0 rfl) ?_
      refine va_get (D := g.1) (ci := 9) (v := .ref (p_t 1)) (C := RX9) (T := TX9) (N := 15) hx hb hts iX9_pays_X9 hown hK.1 hP 4 rfl rfl 1 (by decide) (hts _ kX9_pays_19) (fun _ h9 => h9) rfl dX9_pays_21 ?_
      refine va_get (D := g.1) (ci := 1) (v := .ref (p_t_1 16)) (C := RX1) (T := TX1) (N := 17) hx hb hts iX9_pays_X1 hown hK.1 hP 0 rfl rfl 16 (by decide) (hts _ kX9_pays_272) (fun _ h9 => h9) rfl dX9_pays_24 ?_
      refine lv_iload_n hx hb dX9_pays_27 rfl (lv_at hl 1 rfl) ?_
      obtain ⟨u_9, hu_10, hF⟩ := ob1_some hF
      refine call_i (wr := [oX1 (p_t 1) p_t_1 o_t_1, oX9 a_t p_t u_6]) (As := [.int x1]) (rest := []) (ci := 7) (q0 := 0) C0 (mX7_payAt l g (p_t_1 16) p_t_1_16 n x1 o_t_1_16 f_t_1_16_1 f_t_1_16_2 u_9 hu_10) (cwV 1 hts gX9_pays_X7_payAt rfl rfl rfl (by decide +kernel) ⟨Nat.le_of_ble_eq_true rfl, Nat.le_of_ble_eq_true rfl⟩) hP hD hS [1, 2, 3] [0, 4] rfl rfl rfl rfl rfl (by decide) rfl rfl hl.1 rfl rfl (Nat.le_of_ble_eq_true rfl) ⟨Nat.zero_le _, Nat.zero_le _⟩ dX9_pays_28 ?_
      intro H locs hP hD hS
      cases hF
      exact ret_i C0 hP hD hS [1, 0, 2, 3, 4] rfl rfl rfl dX9_pays_31 rfl
    · have hF := it_p c_8 hF
      refine lv_iconst (v := (-1 : Int32)) hx hb dX9_pays_18 (by decide) ?_
      cases hF
      exact ret_i C0 hP hD hS [4, 0, 1, 2, 3] rfl rfl rfl dX9_pays_19 rfl

theorem dAX9_paid : ∀ q ∈ ([(0, (.aload_n 0, 1)), (1, (.invokevirtual 153, 3)), (4, (.ifCond .ne 5, 3)), (7, (.iconst (-1), 1)), (8, (.ireturn, 1)), (9, (.aload_n 0, 1)), (10, (.invokevirtual 193, 3)), (13, (.istore_n 1, 1)), (14, (.iload_n 1, 1)), (15, (.bipush 60, 2)), (17, (.if_icmp .le 7, 3)), (20, (.iconst 0, 1)), (21, (.goto 22, 3)), (24, (.aload_n 0, 1)), (25, (.getfield 19, 3)), (28, (.getfield 272, 3)), (31, (.aload_n 0, 1)), (32, (.getfield 37, 3)), (35, (.getfield 281, 3)), (38, (.iload_n 1, 1)), (39, (.iadd, 1)), (40, (.invokevirtual 276, 3)), (43, (.ireturn, 1))] : List (Nat × (Instr × Nat))), decode cX9_paid q.1 = .ok q.2 := by decide +kernel
theorem dX9_paid_0 : decode cX9_paid 0 = .ok (.aload_n 0, 1) := dAX9_paid (0, (.aload_n 0, 1)) (List.mem_of_getElem? (i := 0) rfl)
theorem dX9_paid_1 : decode cX9_paid 1 = .ok (.invokevirtual 153, 3) := dAX9_paid (1, (.invokevirtual 153, 3)) (List.mem_of_getElem? (i := 1) rfl)
theorem dX9_paid_4 : decode cX9_paid 4 = .ok (.ifCond .ne 5, 3) := dAX9_paid (4, (.ifCond .ne 5, 3)) (List.mem_of_getElem? (i := 2) rfl)
theorem dX9_paid_7 : decode cX9_paid 7 = .ok (.iconst (-1), 1) := dAX9_paid (7, (.iconst (-1), 1)) (List.mem_of_getElem? (i := 3) rfl)
theorem dX9_paid_8 : decode cX9_paid 8 = .ok (.ireturn, 1) := dAX9_paid (8, (.ireturn, 1)) (List.mem_of_getElem? (i := 4) rfl)
theorem dX9_paid_9 : decode cX9_paid 9 = .ok (.aload_n 0, 1) := dAX9_paid (9, (.aload_n 0, 1)) (List.mem_of_getElem? (i := 5) rfl)
theorem dX9_paid_10 : decode cX9_paid 10 = .ok (.invokevirtual 193, 3) := dAX9_paid (10, (.invokevirtual 193, 3)) (List.mem_of_getElem? (i := 6) rfl)
theorem dX9_paid_13 : decode cX9_paid 13 = .ok (.istore_n 1, 1) := dAX9_paid (13, (.istore_n 1, 1)) (List.mem_of_getElem? (i := 7) rfl)
theorem dX9_paid_14 : decode cX9_paid 14 = .ok (.iload_n 1, 1) := dAX9_paid (14, (.iload_n 1, 1)) (List.mem_of_getElem? (i := 8) rfl)
theorem dX9_paid_15 : decode cX9_paid 15 = .ok (.bipush 60, 2) := dAX9_paid (15, (.bipush 60, 2)) (List.mem_of_getElem? (i := 9) rfl)
theorem dX9_paid_17 : decode cX9_paid 17 = .ok (.if_icmp .le 7, 3) := dAX9_paid (17, (.if_icmp .le 7, 3)) (List.mem_of_getElem? (i := 10) rfl)
theorem dX9_paid_20 : decode cX9_paid 20 = .ok (.iconst 0, 1) := dAX9_paid (20, (.iconst 0, 1)) (List.mem_of_getElem? (i := 11) rfl)
theorem dX9_paid_21 : decode cX9_paid 21 = .ok (.goto 22, 3) := dAX9_paid (21, (.goto 22, 3)) (List.mem_of_getElem? (i := 12) rfl)
theorem dX9_paid_24 : decode cX9_paid 24 = .ok (.aload_n 0, 1) := dAX9_paid (24, (.aload_n 0, 1)) (List.mem_of_getElem? (i := 13) rfl)
theorem dX9_paid_25 : decode cX9_paid 25 = .ok (.getfield 19, 3) := dAX9_paid (25, (.getfield 19, 3)) (List.mem_of_getElem? (i := 14) rfl)
theorem dX9_paid_28 : decode cX9_paid 28 = .ok (.getfield 272, 3) := dAX9_paid (28, (.getfield 272, 3)) (List.mem_of_getElem? (i := 15) rfl)
theorem dX9_paid_31 : decode cX9_paid 31 = .ok (.aload_n 0, 1) := dAX9_paid (31, (.aload_n 0, 1)) (List.mem_of_getElem? (i := 16) rfl)
theorem dX9_paid_32 : decode cX9_paid 32 = .ok (.getfield 37, 3) := dAX9_paid (32, (.getfield 37, 3)) (List.mem_of_getElem? (i := 17) rfl)
theorem dX9_paid_35 : decode cX9_paid 35 = .ok (.getfield 281, 3) := dAX9_paid (35, (.getfield 281, 3)) (List.mem_of_getElem? (i := 18) rfl)
theorem dX9_paid_38 : decode cX9_paid 38 = .ok (.iload_n 1, 1) := dAX9_paid (38, (.iload_n 1, 1)) (List.mem_of_getElem? (i := 19) rfl)
theorem dX9_paid_39 : decode cX9_paid 39 = .ok (.iadd, 1) := dAX9_paid (39, (.iadd, 1)) (List.mem_of_getElem? (i := 20) rfl)
theorem dX9_paid_40 : decode cX9_paid 40 = .ok (.invokevirtual 276, 3) := dAX9_paid (40, (.invokevirtual 276, 3)) (List.mem_of_getElem? (i := 21) rfl)
theorem dX9_paid_43 : decode cX9_paid 43 = .ok (.ireturn, 1) := dAX9_paid (43, (.ireturn, 1)) (List.mem_of_getElem? (i := 22) rfl)
set_option maxRecDepth 20000 in
theorem ggX9_paid_X9_asked : GoodIn wsX9_paid wsX9_asked := goodIn_r _ [9, 10, 11, 89, 90, 91, 92, 93, 94, 95, 96, 97, 98, 99, 100, 101, 102, 103] rfl (by decide +kernel)
set_option maxRecDepth 20000 in
theorem gX9_paid_X9_asked : GoodIn wsX9_paid (wsV RX9 153 RX9 yX9_asked wsX9_asked) := goodIn_app (goodIn_of _ (by decide +kernel)) ggX9_paid_X9_asked
set_option maxRecDepth 20000 in
theorem ggX9_paid_X9_endsAsIs : GoodIn wsX9_paid wsX9_endsAsIs := goodIn_r _ [15, 16, 3, 1, 17, 18, 19, 20, 21, 22, 23, 24, 25, 26, 27, 28, 29, 30, 31, 32, 33, 34, 35, 36, 37, 38, 39, 40, 41, 42, 43, 44, 45, 46, 47, 48, 49, 50, 51, 52, 53, 54, 55, 56, 57, 58, 59, 60, 61, 62, 63, 64, 65, 66, 67, 68, 69, 70, 71, 72, 73, 74, 75, 76, 77, 78, 79, 80, 89, 90, 91, 92, 93, 94, 95, 96, 97, 98, 99, 100, 101, 102, 103, 121, 122, 123, 124, 125, 126, 127, 128, 129, 104, 105, 106, 107, 108, 109, 110, 111, 112, 113, 114, 115, 116, 117, 118, 119, 120, 130, 131] rfl (by decide +kernel)
set_option maxRecDepth 20000 in
theorem gX9_paid_X9_endsAsIs : GoodIn wsX9_paid (wsV RX9 193 RX9 yX9_endsAsIs wsX9_endsAsIs) := goodIn_app (goodIn_of _ (by decide +kernel)) ggX9_paid_X9_endsAsIs
set_option maxRecDepth 20000 in
theorem ggX9_paid_X7_payAt : GoodIn wsX9_paid wsX7_payAt := goodIn_r _ [85, 86, 87, 88, 132, 133, 134, 135, 136, 137, 138] rfl (by decide +kernel)
set_option maxRecDepth 20000 in
theorem gX9_paid_X7_payAt : GoodIn wsX9_paid (wsV RX9 276 RX7 yX7_payAt wsX7_payAt) := goodIn_app (goodIn_of _ (by decide +kernel)) ggX9_paid_X7_payAt
theorem kX9_paid_19 : Cond.fieldLink RX9 19 "EveningVow" "told" "LEveningVow$House;" ∈ wsX9_paid := List.mem_of_getElem? (i := 1) rfl
theorem iX9_paid_X9 : ∀ w ∈ u_ws RX9 TX9 15, w ∈ wsX9_paid := fun w h => (List.mem_cons_of_mem _ (List.mem_append_left _ (List.mem_append_left _ (List.mem_append_left _ (List.mem_append_left _ (List.mem_append_right _ h))))))
theorem kX9_paid_272 : Cond.fieldLink RX9 272 "EveningVow$House" "town" "LEveningVow$Town;" ∈ wsX9_paid := List.mem_of_getElem? (i := 2) rfl
theorem iX9_paid_X1 : ∀ w ∈ u_ws RX1 TX1 17, w ∈ wsX9_paid := fun w h => (List.mem_cons_of_mem _ (List.mem_append_left _ (List.mem_append_left _ (List.mem_append_left _ (List.mem_append_right _ h)))))
theorem kX9_paid_37 : Cond.fieldLink RX9 37 "EveningVow" "now" "LEveningVow$Night;" ∈ wsX9_paid := List.mem_of_getElem? (i := 3) rfl
theorem kX9_paid_281 : Cond.fieldLink RX9 281 "EveningVow$Night" "clock" "I" ∈ wsX9_paid := List.mem_of_getElem? (i := 4) rfl
theorem iX9_paid_X2 : ∀ w ∈ u_ws RX2 TX2 9, w ∈ wsX9_paid := fun w h => (List.mem_cons_of_mem _ (List.mem_append_left _ (List.mem_append_left _ (List.mem_append_right _ h))))
set_option maxHeartbeats 4000000 in
set_option maxRecDepth 100000 in
theorem mX9_paid (l : Launch) (g : GG) (a_t : Nat) (p_t : Nat → Nat) (p_t_1 : Nat → Nat) (p_t_1_16 : Nat → Nat) (p_t_5 : Nat → Nat) (p_t_6 : Nat → Nat) (p_t_7 : Nat → Nat) (n : Nat) (o_t : Nat → Int32) (o_t_1 : Nat → Int32) (f_t_1_4 : Nat → Int32) (f_t_1_6 : Nat → Int32) (f_t_1_7 : Nat → Int32) (f_t_1_10 : Nat → Int32) (f_t_1_11 : Nat → Int32) (f_t_1_12 : Nat → Int32) (o_t_1_16 : Nat → Int32) (f_t_1_16_1 : Nat → Int32) (f_t_1_16_2 : Nat → Int32) (o_t_5 : Nat → Int32) (f_t_5_6 : Nat → Int32) (f_t_5_7 : Nat → Int32) (o_t_6 : Nat → Int32) (f_t_6_6 : Nat → Int32) (f_t_6_7 : Nat → Int32) (f_t_6_8 : Nat → Int32) (o_t_7 : Nat → Int32) (r : Int32) (o_t' : Nat → Int32) (o_t_6' : Nat → Int32) (f_t_6_6' : Nat → Int32) (f_t_6_7' : Nat → Int32) (f_t_6_8' : Nat → Int32) (o_t_7' : Nat → Int32) (hF : fX9_paid n o_t o_t_1 f_t_1_4 f_t_1_6 f_t_1_7 f_t_1_10 f_t_1_11 f_t_1_12 o_t_1_16 f_t_1_16_1 f_t_1_16_2 o_t_5 f_t_5_6 f_t_5_7 o_t_6 f_t_6_6 f_t_6_7 f_t_6_8 o_t_7 = some (r, o_t', o_t_6', f_t_6_6', f_t_6_7', f_t_6_8', o_t_7')) : MI l g yX9_paid wsX9_paid ({ frames := 5, cells := 0, slots := 0, locals := 115 } : Room) [.ref a_t] [oX9 a_t p_t o_t, oX1 (p_t 1) p_t_1 o_t_1, aI g (p_t_1 4) 7 f_t_1_4, aI g (p_t_1 6) 7 f_t_1_6, aI g (p_t_1 7) 7 f_t_1_7, aI g (p_t_1 10) 8 f_t_1_10, aI g (p_t_1 11) 8 f_t_1_11, aI g (p_t_1 12) 8 f_t_1_12, oX7 (p_t_1 16) p_t_1_16 o_t_1_16, aI g (p_t_1_16 1) 5 f_t_1_16_1, aI g (p_t_1_16 2) 5 f_t_1_16_2, oX2 (p_t 5) p_t_5 o_t_5, aI g (p_t_5 6) 7 f_t_5_6, aI g (p_t_5 7) 7 f_t_5_7, oX2 (p_t 6) p_t_6 o_t_6, aI g (p_t_6 6) 7 f_t_6_6, aI g (p_t_6 7) 7 f_t_6_7, aI g (p_t_6 8) 7 f_t_6_8, oX3 (p_t 7) p_t_7 o_t_7] r [oX9 a_t p_t o_t', oX1 (p_t 1) p_t_1 o_t_1, aI g (p_t_1 4) 7 f_t_1_4, aI g (p_t_1 6) 7 f_t_1_6, aI g (p_t_1 7) 7 f_t_1_7, aI g (p_t_1 10) 8 f_t_1_10, aI g (p_t_1 11) 8 f_t_1_11, aI g (p_t_1 12) 8 f_t_1_12, oX7 (p_t_1 16) p_t_1_16 o_t_1_16, aI g (p_t_1_16 1) 5 f_t_1_16_1, aI g (p_t_1_16 2) 5 f_t_1_16_2, oX2 (p_t 5) p_t_5 o_t_5, aI g (p_t_5 6) 7 f_t_5_6, aI g (p_t_5 7) 7 f_t_5_7, oX2 (p_t 6) p_t_6 o_t_6', aI g (p_t_6 6) 7 f_t_6_6', aI g (p_t_6 7) 7 f_t_6_7', aI g (p_t_6 8) 7 f_t_6_8', oX3 (p_t 7) p_t_7 o_t_7'] := by
  refine MI.of (cc := cX9_paid) (maxL := 2) (rt := .int) (own := RX9) rfl rfl (by decide) (Nat.le_of_ble_eq_true rfl) ?_
  intro p e s m args below meth c A C0 hP hD hS ls hl
  obtain ⟨hx, hb, hml, hown, hts, hr, hlk, hK, hA, hSW⟩ := id C0
  have hl : lv_has ls 2 [(0, .ref a_t)] := hl
  rw [fX9_paid] at hF
  refine lv_aload_n hx hb dX9_paid_0 rfl (lv_at hl 0 rfl) ?_
  obtain ⟨u_1, u_2, hu_3, hF⟩ := ob2_some hF
  refine call_i (wr := [oX1 (p_t 1) p_t_1 o_t_1, aI g (p_t_1 4) 7 f_t_1_4, aI g (p_t_1 6) 7 f_t_1_6, aI g (p_t_1 7) 7 f_t_1_7, aI g (p_t_1 10) 8 f_t_1_10, aI g (p_t_1 11) 8 f_t_1_11, aI g (p_t_1 12) 8 f_t_1_12, oX7 (p_t_1 16) p_t_1_16 o_t_1_16, aI g (p_t_1_16 1) 5 f_t_1_16_1, aI g (p_t_1_16 2) 5 f_t_1_16_2, oX2 (p_t 5) p_t_5 o_t_5, aI g (p_t_5 6) 7 f_t_5_6, aI g (p_t_5 7) 7 f_t_5_7, oX2 (p_t 6) p_t_6 o_t_6, aI g (p_t_6 6) 7 f_t_6_6, aI g (p_t_6 7) 7 f_t_6_7, aI g (p_t_6 8) 7 f_t_6_8, oX3 (p_t 7) p_t_7 o_t_7]) (As := []) (rest := []) (ci := 9) (q0 := 0) C0 (mX9_asked l g a_t p_t n o_t u_1 u_2 hu_3) (cwV 0 hts gX9_paid_X9_asked rfl rfl rfl (by decide +kernel) ⟨Nat.le_of_ble_eq_true rfl, Nat.le_of_ble_eq_true rfl⟩) hP hD hS [0] [1, 2, 3, 4, 5, 6, 7, 8, 9, 10, 11, 12, 13, 14, 15, 16, 17, 18] rfl rfl rfl rfl rfl (by decide) rfl rfl hl.1 rfl rfl (Nat.le_of_ble_eq_true rfl) ⟨Nat.zero_le _, Nat.zero_le _⟩ dX9_paid_1 ?_
  intro H locs hP hD hS
  refine lv_if_ne (tgt := 9) hx hb dX9_paid_4 (by decide) (fun c_4 => ?_) (fun c_4 => ?_)
  · have hF := it_n c_4 hF
    refine lv_aload_n hx hb dX9_paid_9 rfl (lv_at hl 0 rfl) ?_
    obtain ⟨u_5, u_6, u_7, u_8, u_9, u_10, hu_11, hF⟩ := ob6_some hF
    refine call_i (wr := [oX7 (p_t_1 16) p_t_1_16 o_t_1_16, aI g (p_t_1_16 1) 5 f_t_1_16_1, aI g (p_t_1_16 2) 5 f_t_1_16_2]) (As := []) (rest := []) (ci := 9) (q0 := 0) C0 (mX9_endsAsIs l g a_t p_t p_t_1 p_t_5 p_t_6 p_t_7 n u_2 o_t_1 f_t_1_4 f_t_1_6 f_t_1_7 f_t_1_10 f_t_1_11 f_t_1_12 o_t_5 f_t_5_6 f_t_5_7 o_t_6 f_t_6_6 f_t_6_7 f_t_6_8 o_t_7 u_5 u_6 u_7 u_8 u_9 u_10 hu_11) (cwV 0 hts gX9_paid_X9_endsAsIs rfl rfl rfl (by decide +kernel) ⟨Nat.le_of_ble_eq_true rfl, Nat.le_of_ble_eq_true rfl⟩) hP hD hS [18, 0, 1, 2, 3, 4, 5, 6, 10, 11, 12, 13, 14, 15, 16, 17] [7, 8, 9] rfl rfl rfl rfl rfl (by decide) rfl rfl hl.1 rfl rfl (Nat.le_of_ble_eq_true rfl) ⟨Nat.zero_le _, Nat.zero_le _⟩ dX9_paid_10 ?_
    intro H locs hP hD hS
    refine lv_istore_n (lv' := [(1, .int u_5), (0, .ref a_t)]) hx hb dX9_paid_13 rfl hl (by decide) rfl (fun ls hl => ?_)
    refine lv_iload_n hx hb dX9_paid_14 rfl (lv_at hl 0 rfl) ?_
    refine lv_bipush (v := (60 : Int32)) hx hb dX9_paid_15 (by decide) ?_
    refine lv_icmp_le (tgt := 24) hx hb dX9_paid_17 (by decide) (fun c_12 => ?_) (fun c_12 => ?_)
    · have hF := it_p c_12 hF
      refine lv_aload_n hx hb dX9_paid_24 rfl (lv_at hl 1 rfl) ?_
      refine va_get (D := g.1) (ci := 9) (v := .ref (p_t 1)) (C := RX9) (T := TX9) (N := 15) hx hb hts iX9_paid_X9 hown hK.1 hP 3 rfl rfl 1 (by decide) (hts _ kX9_paid_19) (fun _ h9 => h9) rfl dX9_paid_25 ?_
      refine va_get (D := g.1) (ci := 1) (v := .ref (p_t_1 16)) (C := RX1) (T := TX1) (N := 17) hx hb hts iX9_paid_X1 hown hK.1 hP 4 rfl rfl 16 (by decide) (hts _ kX9_paid_272) (fun _ h9 => h9) rfl dX9_paid_28 ?_
      refine lv_aload_n hx hb dX9_paid_31 rfl (lv_at hl 1 rfl) ?_
      refine va_get (D := g.1) (ci := 9) (v := .ref (p_t 5)) (C := RX9) (T := TX9) (N := 15) hx hb hts iX9_paid_X9 hown hK.1 hP 3 rfl rfl 5 (by decide) (hts _ kX9_paid_37) (fun _ h9 => h9) rfl dX9_paid_32 ?_
      refine va_get (D := g.1) (ci := 2) (v := .int (o_t_5 0)) (C := RX2) (T := TX2) (N := 9) hx hb hts iX9_paid_X2 hown hK.1 hP 11 rfl rfl 0 (by decide) (hts _ kX9_paid_281) (fun _ h9 => h9) rfl dX9_paid_35 ?_
      refine lv_iload_n hx hb dX9_paid_38 rfl (lv_at hl 0 rfl) ?_
      refine lv_iadd hx hb dX9_paid_39 ?_
      obtain ⟨u_13, hu_14, hF⟩ := ob1_some hF
      refine call_i (wr := [oX9 a_t p_t u_2, oX1 (p_t 1) p_t_1 o_t_1, aI g (p_t_1 4) 7 f_t_1_4, aI g (p_t_1 6) 7 f_t_1_6, aI g (p_t_1 7) 7 f_t_1_7, aI g (p_t_1 10) 8 f_t_1_10, aI g (p_t_1 11) 8 f_t_1_11, aI g (p_t_1 12) 8 f_t_1_12, oX2 (p_t 5) p_t_5 o_t_5, aI g (p_t_5 6) 7 f_t_5_6, aI g (p_t_5 7) 7 f_t_5_7, oX2 (p_t 6) p_t_6 u_6, aI g (p_t_6 6) 7 u_7, aI g (p_t_6 7) 7 u_8, aI g (p_t_6 8) 7 u_9, oX3 (p_t 7) p_t_7 u_10]) (As := [.int ((o_t_5 0) + u_5)]) (rest := []) (ci := 7) (q0 := 0) C0 (mX7_payAt l g (p_t_1 16) p_t_1_16 n ((o_t_5 0) + u_5) o_t_1_16 f_t_1_16_1 f_t_1_16_2 u_13 hu_14) (cwV 1 hts gX9_paid_X7_payAt rfl rfl rfl (by decide +kernel) ⟨Nat.le_of_ble_eq_true rfl, Nat.le_of_ble_eq_true rfl⟩) hP hD hS [0, 1, 2] [3, 4, 5, 6, 7, 8, 9, 10, 11, 12, 13, 14, 15, 16, 17, 18] rfl rfl rfl rfl rfl (by decide) rfl rfl hl.1 rfl rfl (Nat.le_of_ble_eq_true rfl) ⟨Nat.zero_le _, Nat.zero_le _⟩ dX9_paid_40 ?_
      intro H locs hP hD hS
      cases hF
      exact ret_i C0 hP hD hS [0, 1, 2, 3, 4, 5, 6, 7, 16, 17, 18, 8, 9, 10, 11, 12, 13, 14, 15] rfl rfl rfl dX9_paid_43 rfl
    · have hF := it_n c_12 hF
      refine lv_iconst (v := (0 : Int32)) hx hb dX9_paid_20 (by decide) ?_
      refine lv_goto (tgt := 43) hx hb dX9_paid_21 (by decide) ?_
      cases hF
      exact ret_i C0 hP hD hS [3, 4, 5, 6, 7, 8, 9, 10, 0, 1, 2, 11, 12, 13, 14, 15, 16, 17, 18] rfl rfl rfl dX9_paid_43 rfl
  · have hF := it_p c_4 hF
    refine lv_iconst (v := (-1 : Int32)) hx hb dX9_paid_7 (by decide) ?_
    cases hF
    exact ret_i C0 hP hD hS [18, 0, 1, 2, 3, 4, 5, 6, 7, 8, 9, 10, 11, 12, 13, 14, 15, 16, 17] rfl rfl rfl dX9_paid_8 rfl

theorem dAX9_shareOf : ∀ q ∈ ([(0, (.iload_n 0, 1)), (1, (.iload_n 1, 1)), (2, (.if_icmp .le 9, 3)), (5, (.iconst 3, 1)), (6, (.iload_n 1, 1)), (7, (.imul, 1)), (8, (.iload_n 0, 1)), (9, (.isub, 1)), (10, (.ireturn, 1)), (11, (.iload_n 0, 1)), (12, (.iload_n 1, 1)), (13, (.if_icmp .ge 12, 3)), (16, (.bipush (-3), 2)), (18, (.iload_n 0, 1)), (19, (.imul, 1)), (20, (.iload_n 0, 1)), (21, (.isub, 1)), (22, (.goto 5, 3)), (25, (.iload_n 0, 1)), (26, (.ineg, 1)), (27, (.ireturn, 1))] : List (Nat × (Instr × Nat))), decode cX9_shareOf q.1 = .ok q.2 := by decide +kernel
theorem dX9_shareOf_0 : decode cX9_shareOf 0 = .ok (.iload_n 0, 1) := dAX9_shareOf (0, (.iload_n 0, 1)) (List.mem_of_getElem? (i := 0) rfl)
theorem dX9_shareOf_1 : decode cX9_shareOf 1 = .ok (.iload_n 1, 1) := dAX9_shareOf (1, (.iload_n 1, 1)) (List.mem_of_getElem? (i := 1) rfl)
theorem dX9_shareOf_2 : decode cX9_shareOf 2 = .ok (.if_icmp .le 9, 3) := dAX9_shareOf (2, (.if_icmp .le 9, 3)) (List.mem_of_getElem? (i := 2) rfl)
theorem dX9_shareOf_5 : decode cX9_shareOf 5 = .ok (.iconst 3, 1) := dAX9_shareOf (5, (.iconst 3, 1)) (List.mem_of_getElem? (i := 3) rfl)
theorem dX9_shareOf_6 : decode cX9_shareOf 6 = .ok (.iload_n 1, 1) := dAX9_shareOf (6, (.iload_n 1, 1)) (List.mem_of_getElem? (i := 4) rfl)
theorem dX9_shareOf_7 : decode cX9_shareOf 7 = .ok (.imul, 1) := dAX9_shareOf (7, (.imul, 1)) (List.mem_of_getElem? (i := 5) rfl)
theorem dX9_shareOf_8 : decode cX9_shareOf 8 = .ok (.iload_n 0, 1) := dAX9_shareOf (8, (.iload_n 0, 1)) (List.mem_of_getElem? (i := 6) rfl)
theorem dX9_shareOf_9 : decode cX9_shareOf 9 = .ok (.isub, 1) := dAX9_shareOf (9, (.isub, 1)) (List.mem_of_getElem? (i := 7) rfl)
theorem dX9_shareOf_10 : decode cX9_shareOf 10 = .ok (.ireturn, 1) := dAX9_shareOf (10, (.ireturn, 1)) (List.mem_of_getElem? (i := 8) rfl)
theorem dX9_shareOf_11 : decode cX9_shareOf 11 = .ok (.iload_n 0, 1) := dAX9_shareOf (11, (.iload_n 0, 1)) (List.mem_of_getElem? (i := 9) rfl)
theorem dX9_shareOf_12 : decode cX9_shareOf 12 = .ok (.iload_n 1, 1) := dAX9_shareOf (12, (.iload_n 1, 1)) (List.mem_of_getElem? (i := 10) rfl)
theorem dX9_shareOf_13 : decode cX9_shareOf 13 = .ok (.if_icmp .ge 12, 3) := dAX9_shareOf (13, (.if_icmp .ge 12, 3)) (List.mem_of_getElem? (i := 11) rfl)
theorem dX9_shareOf_16 : decode cX9_shareOf 16 = .ok (.bipush (-3), 2) := dAX9_shareOf (16, (.bipush (-3), 2)) (List.mem_of_getElem? (i := 12) rfl)
theorem dX9_shareOf_18 : decode cX9_shareOf 18 = .ok (.iload_n 0, 1) := dAX9_shareOf (18, (.iload_n 0, 1)) (List.mem_of_getElem? (i := 13) rfl)
theorem dX9_shareOf_19 : decode cX9_shareOf 19 = .ok (.imul, 1) := dAX9_shareOf (19, (.imul, 1)) (List.mem_of_getElem? (i := 14) rfl)
theorem dX9_shareOf_20 : decode cX9_shareOf 20 = .ok (.iload_n 0, 1) := dAX9_shareOf (20, (.iload_n 0, 1)) (List.mem_of_getElem? (i := 15) rfl)
theorem dX9_shareOf_21 : decode cX9_shareOf 21 = .ok (.isub, 1) := dAX9_shareOf (21, (.isub, 1)) (List.mem_of_getElem? (i := 16) rfl)
theorem dX9_shareOf_22 : decode cX9_shareOf 22 = .ok (.goto 5, 3) := dAX9_shareOf (22, (.goto 5, 3)) (List.mem_of_getElem? (i := 17) rfl)
theorem dX9_shareOf_25 : decode cX9_shareOf 25 = .ok (.iload_n 0, 1) := dAX9_shareOf (25, (.iload_n 0, 1)) (List.mem_of_getElem? (i := 18) rfl)
theorem dX9_shareOf_26 : decode cX9_shareOf 26 = .ok (.ineg, 1) := dAX9_shareOf (26, (.ineg, 1)) (List.mem_of_getElem? (i := 19) rfl)
theorem dX9_shareOf_27 : decode cX9_shareOf 27 = .ok (.ireturn, 1) := dAX9_shareOf (27, (.ireturn, 1)) (List.mem_of_getElem? (i := 20) rfl)
set_option maxHeartbeats 4000000 in
set_option maxRecDepth 100000 in
theorem mX9_shareOf (l : Launch) (g : GG)   (n : Nat) (x0 : Int32) (x1 : Int32) (r : Int32) (hF : fX9_shareOf n x0 x1 = some (r)) : MI l g yX9_shareOf wsX9_shareOf ({ frames := 0, cells := 0, slots := 0, locals := 0 } : Room) [.int x0, .int x1] [] r [] := by
  refine MI.of (cc := cX9_shareOf) (maxL := 2) (rt := .int) (own := RX9) rfl rfl (by decide) (Nat.le_of_ble_eq_true rfl) ?_
  intro p e s m args below meth c A C0 hP hD hS ls hl
  obtain ⟨hx, hb, hml, hown, hts, hr, hlk, hK, hA, hSW⟩ := id C0
  have hl : lv_has ls 2 [(0, .int x0), (1, .int x1)] := hl
  rw [fX9_shareOf] at hF
  refine lv_iload_n hx hb dX9_shareOf_0 rfl (lv_at hl 0 rfl) ?_
  refine lv_iload_n hx hb dX9_shareOf_1 rfl (lv_at hl 1 rfl) ?_
  refine lv_icmp_le (tgt := 11) hx hb dX9_shareOf_2 (by decide) (fun c_1 => ?_) (fun c_1 => ?_)
  · have hF := it_p c_1 hF
    refine lv_iload_n hx hb dX9_shareOf_11 rfl (lv_at hl 0 rfl) ?_
    refine lv_iload_n hx hb dX9_shareOf_12 rfl (lv_at hl 1 rfl) ?_
    refine lv_icmp_ge (tgt := 25) hx hb dX9_shareOf_13 (by decide) (fun c_2 => ?_) (fun c_2 => ?_)
    · have hF := it_p c_2 hF
      refine lv_iload_n hx hb dX9_shareOf_25 rfl (lv_at hl 0 rfl) ?_
      refine lv_ineg hx hb dX9_shareOf_26 ?_
      cases hF
      exact ret_i C0 hP hD hS [] rfl rfl rfl dX9_shareOf_27 rfl
    · have hF := it_n c_2 hF
      refine lv_bipush (v := (-3 : Int32)) hx hb dX9_shareOf_16 (by decide) ?_
      refine lv_iload_n hx hb dX9_shareOf_18 rfl (lv_at hl 0 rfl) ?_
      refine lv_imul hx hb dX9_shareOf_19 ?_
      refine lv_iload_n hx hb dX9_shareOf_20 rfl (lv_at hl 0 rfl) ?_
      refine lv_isub hx hb dX9_shareOf_21 ?_
      refine lv_goto (tgt := 27) hx hb dX9_shareOf_22 (by decide) ?_
      cases hF
      exact ret_i C0 hP hD hS [] rfl rfl rfl dX9_shareOf_27 rfl
  · have hF := it_n c_1 hF
    refine lv_iconst (v := (3 : Int32)) hx hb dX9_shareOf_5 (by decide) ?_
    refine lv_iload_n hx hb dX9_shareOf_6 rfl (lv_at hl 1 rfl) ?_
    refine lv_imul hx hb dX9_shareOf_7 ?_
    refine lv_iload_n hx hb dX9_shareOf_8 rfl (lv_at hl 0 rfl) ?_
    refine lv_isub hx hb dX9_shareOf_9 ?_
    cases hF
    exact ret_i C0 hP hD hS [] rfl rfl rfl dX9_shareOf_10 rfl

theorem dAX9_house : ∀ q ∈ ([(0, (.aload_n 0, 1)), (1, (.invokevirtual 153, 3)), (4, (.ifCond .eq 25, 3)), (7, (.aload_n 0, 1)), (8, (.iload_n 1, 1)), (9, (.iconst 0, 1)), (10, (.bipush 6, 2)), (12, (.invokevirtual 168, 3)), (15, (.ifCond .eq 14, 3)), (18, (.aload_n 0, 1)), (19, (.iload_n 2, 1)), (20, (.iconst 0, 1)), (21, (.bipush 6, 2)), (23, (.invokevirtual 168, 3)), (26, (.ifCond .ne 6, 3)), (29, (.bipush (-100), 2)), (31, (.ireturn, 1)), (32, (.iload_n 3, 1)), (33, (.ifCond .eq 11, 3)), (36, (.iload_n 2, 1)), (37, (.iload_n 1, 1)), (38, (.invokestatic 284, 3)), (41, (.goto 8, 3)), (44, (.iload_n 1, 1)), (45, (.iload_n 2, 1)), (46, (.invokestatic 284, 3)), (49, (.ireturn, 1))] : List (Nat × (Instr × Nat))), decode cX9_house q.1 = .ok q.2 := by decide +kernel
theorem dX9_house_0 : decode cX9_house 0 = .ok (.aload_n 0, 1) := dAX9_house (0, (.aload_n 0, 1)) (List.mem_of_getElem? (i := 0) rfl)
theorem dX9_house_1 : decode cX9_house 1 = .ok (.invokevirtual 153, 3) := dAX9_house (1, (.invokevirtual 153, 3)) (List.mem_of_getElem? (i := 1) rfl)
theorem dX9_house_4 : decode cX9_house 4 = .ok (.ifCond .eq 25, 3) := dAX9_house (4, (.ifCond .eq 25, 3)) (List.mem_of_getElem? (i := 2) rfl)
theorem dX9_house_7 : decode cX9_house 7 = .ok (.aload_n 0, 1) := dAX9_house (7, (.aload_n 0, 1)) (List.mem_of_getElem? (i := 3) rfl)
theorem dX9_house_8 : decode cX9_house 8 = .ok (.iload_n 1, 1) := dAX9_house (8, (.iload_n 1, 1)) (List.mem_of_getElem? (i := 4) rfl)
theorem dX9_house_9 : decode cX9_house 9 = .ok (.iconst 0, 1) := dAX9_house (9, (.iconst 0, 1)) (List.mem_of_getElem? (i := 5) rfl)
theorem dX9_house_10 : decode cX9_house 10 = .ok (.bipush 6, 2) := dAX9_house (10, (.bipush 6, 2)) (List.mem_of_getElem? (i := 6) rfl)
theorem dX9_house_12 : decode cX9_house 12 = .ok (.invokevirtual 168, 3) := dAX9_house (12, (.invokevirtual 168, 3)) (List.mem_of_getElem? (i := 7) rfl)
theorem dX9_house_15 : decode cX9_house 15 = .ok (.ifCond .eq 14, 3) := dAX9_house (15, (.ifCond .eq 14, 3)) (List.mem_of_getElem? (i := 8) rfl)
theorem dX9_house_18 : decode cX9_house 18 = .ok (.aload_n 0, 1) := dAX9_house (18, (.aload_n 0, 1)) (List.mem_of_getElem? (i := 9) rfl)
theorem dX9_house_19 : decode cX9_house 19 = .ok (.iload_n 2, 1) := dAX9_house (19, (.iload_n 2, 1)) (List.mem_of_getElem? (i := 10) rfl)
theorem dX9_house_20 : decode cX9_house 20 = .ok (.iconst 0, 1) := dAX9_house (20, (.iconst 0, 1)) (List.mem_of_getElem? (i := 11) rfl)
theorem dX9_house_21 : decode cX9_house 21 = .ok (.bipush 6, 2) := dAX9_house (21, (.bipush 6, 2)) (List.mem_of_getElem? (i := 12) rfl)
theorem dX9_house_23 : decode cX9_house 23 = .ok (.invokevirtual 168, 3) := dAX9_house (23, (.invokevirtual 168, 3)) (List.mem_of_getElem? (i := 13) rfl)
theorem dX9_house_26 : decode cX9_house 26 = .ok (.ifCond .ne 6, 3) := dAX9_house (26, (.ifCond .ne 6, 3)) (List.mem_of_getElem? (i := 14) rfl)
theorem dX9_house_29 : decode cX9_house 29 = .ok (.bipush (-100), 2) := dAX9_house (29, (.bipush (-100), 2)) (List.mem_of_getElem? (i := 15) rfl)
theorem dX9_house_31 : decode cX9_house 31 = .ok (.ireturn, 1) := dAX9_house (31, (.ireturn, 1)) (List.mem_of_getElem? (i := 16) rfl)
theorem dX9_house_32 : decode cX9_house 32 = .ok (.iload_n 3, 1) := dAX9_house (32, (.iload_n 3, 1)) (List.mem_of_getElem? (i := 17) rfl)
theorem dX9_house_33 : decode cX9_house 33 = .ok (.ifCond .eq 11, 3) := dAX9_house (33, (.ifCond .eq 11, 3)) (List.mem_of_getElem? (i := 18) rfl)
theorem dX9_house_36 : decode cX9_house 36 = .ok (.iload_n 2, 1) := dAX9_house (36, (.iload_n 2, 1)) (List.mem_of_getElem? (i := 19) rfl)
theorem dX9_house_37 : decode cX9_house 37 = .ok (.iload_n 1, 1) := dAX9_house (37, (.iload_n 1, 1)) (List.mem_of_getElem? (i := 20) rfl)
theorem dX9_house_38 : decode cX9_house 38 = .ok (.invokestatic 284, 3) := dAX9_house (38, (.invokestatic 284, 3)) (List.mem_of_getElem? (i := 21) rfl)
theorem dX9_house_41 : decode cX9_house 41 = .ok (.goto 8, 3) := dAX9_house (41, (.goto 8, 3)) (List.mem_of_getElem? (i := 22) rfl)
theorem dX9_house_44 : decode cX9_house 44 = .ok (.iload_n 1, 1) := dAX9_house (44, (.iload_n 1, 1)) (List.mem_of_getElem? (i := 23) rfl)
theorem dX9_house_45 : decode cX9_house 45 = .ok (.iload_n 2, 1) := dAX9_house (45, (.iload_n 2, 1)) (List.mem_of_getElem? (i := 24) rfl)
theorem dX9_house_46 : decode cX9_house 46 = .ok (.invokestatic 284, 3) := dAX9_house (46, (.invokestatic 284, 3)) (List.mem_of_getElem? (i := 25) rfl)
theorem dX9_house_49 : decode cX9_house 49 = .ok (.ireturn, 1) := dAX9_house (49, (.ireturn, 1)) (List.mem_of_getElem? (i := 26) rfl)
set_option maxRecDepth 20000 in
theorem ggX9_house_X9_asked : GoodIn wsX9_house wsX9_asked := goodIn_r _ [5, 6, 7, 15, 16, 17, 18, 19, 20, 21, 22, 23, 24, 25, 26, 27, 28, 29] rfl (by decide +kernel)
set_option maxRecDepth 20000 in
theorem gX9_house_X9_asked : GoodIn wsX9_house (wsV RX9 153 RX9 yX9_asked wsX9_asked) := goodIn_app (goodIn_of _ (by decide +kernel)) ggX9_house_X9_asked
set_option maxRecDepth 20000 in
theorem ggX9_house_X9_within : GoodIn wsX9_house wsX9_within := goodIn_r _ [11, 7, 15, 16, 17, 18, 19, 20, 21, 22, 23, 24, 25, 26, 27, 28, 29] rfl (by decide +kernel)
set_option maxRecDepth 20000 in
theorem gX9_house_X9_within : GoodIn wsX9_house (wsV RX9 168 RX9 yX9_within wsX9_within) := goodIn_app (goodIn_of _ (by decide +kernel)) ggX9_house_X9_within
set_option maxRecDepth 20000 in
theorem ggX9_house_X9_shareOf : GoodIn wsX9_house wsX9_shareOf := goodIn_r _ [14] rfl (by decide +kernel)
set_option maxRecDepth 20000 in
theorem gX9_house_X9_shareOf : GoodIn wsX9_house (va_wsS RX9 284 yX9_shareOf wsX9_shareOf) := goodIn_app (goodIn_of _ (by decide +kernel)) ggX9_house_X9_shareOf
set_option maxHeartbeats 4000000 in
set_option maxRecDepth 100000 in
theorem mX9_house (l : Launch) (g : GG) (a_t : Nat) (p_t : Nat → Nat) (n : Nat) (x1 : Int32) (x2 : Int32) (x3 : Int32) (o_t : Nat → Int32) (r : Int32) (o_t' : Nat → Int32) (hF : fX9_house n x1 x2 x3 o_t = some (r, o_t')) : MI l g yX9_house wsX9_house ({ frames := 1, cells := 0, slots := 0, locals := 24 } : Room) [.ref a_t, .int x1, .int x2, .int x3] [oX9 a_t p_t o_t] r [oX9 a_t p_t o_t'] := by
  refine MI.of (cc := cX9_house) (maxL := 4) (rt := .int) (own := RX9) rfl rfl (by decide) (Nat.le_of_ble_eq_true rfl) ?_
  intro p e s m args below meth c A C0 hP hD hS ls hl
  obtain ⟨hx, hb, hml, hown, hts, hr, hlk, hK, hA, hSW⟩ := id C0
  have hl : lv_has ls 4 [(0, .ref a_t), (1, .int x1), (2, .int x2), (3, .int x3)] := hl
  rw [fX9_house] at hF
  refine lv_aload_n hx hb dX9_house_0 rfl (lv_at hl 0 rfl) ?_
  obtain ⟨u_1, u_2, hu_3, hF⟩ := ob2_some hF
  refine call_i (wr := []) (As := []) (rest := []) (ci := 9) (q0 := 0) C0 (mX9_asked l g a_t p_t n o_t u_1 u_2 hu_3) (cwV 0 hts gX9_house_X9_asked rfl rfl rfl (by decide +kernel) ⟨Nat.le_of_ble_eq_true rfl, Nat.le_of_ble_eq_true rfl⟩) hP hD hS [0] [] rfl rfl rfl rfl rfl (by decide) rfl rfl hl.1 rfl rfl (Nat.le_of_ble_eq_true rfl) ⟨Nat.zero_le _, Nat.zero_le _⟩ dX9_house_1 ?_
  intro H locs hP hD hS
  refine lv_if_eq (tgt := 29) hx hb dX9_house_4 (by decide) (fun c_4 => ?_) (fun c_4 => ?_)
  · have hF := it_p c_4 hF
    refine lv_bipush (v := (-100 : Int32)) hx hb dX9_house_29 (by decide) ?_
    cases hF
    exact ret_i C0 hP hD hS [0] rfl rfl rfl dX9_house_31 rfl
  · have hF := it_n c_4 hF
    refine lv_aload_n hx hb dX9_house_7 rfl (lv_at hl 0 rfl) ?_
    refine lv_iload_n hx hb dX9_house_8 rfl (lv_at hl 1 rfl) ?_
    refine lv_iconst (v := (0 : Int32)) hx hb dX9_house_9 (by decide) ?_
    refine lv_bipush (v := (6 : Int32)) hx hb dX9_house_10 (by decide) ?_
    obtain ⟨u_5, u_6, hu_7, hF⟩ := ob2_some hF
    refine call_i (wr := []) (As := [.int x1, .int (0 : Int32), .int (6 : Int32)]) (rest := []) (ci := 9) (q0 := 0) C0 (mX9_within l g a_t p_t n x1 (0 : Int32) (6 : Int32) u_2 u_5 u_6 hu_7) (cwV 3 hts gX9_house_X9_within rfl rfl rfl (by decide +kernel) ⟨Nat.le_of_ble_eq_true rfl, Nat.le_of_ble_eq_true rfl⟩) hP hD hS [0] [] rfl rfl rfl rfl rfl (by decide) rfl rfl hl.1 rfl rfl (Nat.le_of_ble_eq_true rfl) ⟨Nat.zero_le _, Nat.zero_le _⟩ dX9_house_12 ?_
    intro H locs hP hD hS
    refine lv_if_eq (tgt := 29) hx hb dX9_house_15 (by decide) (fun c_8 => ?_) (fun c_8 => ?_)
    · have hF := it_p c_8 hF
      refine lv_bipush (v := (-100 : Int32)) hx hb dX9_house_29 (by decide) ?_
      cases hF
      exact ret_i C0 hP hD hS [0] rfl rfl rfl dX9_house_31 rfl
    · have hF := it_n c_8 hF
      refine lv_aload_n hx hb dX9_house_18 rfl (lv_at hl 0 rfl) ?_
      refine lv_iload_n hx hb dX9_house_19 rfl (lv_at hl 2 rfl) ?_
      refine lv_iconst (v := (0 : Int32)) hx hb dX9_house_20 (by decide) ?_
      refine lv_bipush (v := (6 : Int32)) hx hb dX9_house_21 (by decide) ?_
      obtain ⟨u_9, u_10, hu_11, hF⟩ := ob2_some hF
      refine call_i (wr := []) (As := [.int x2, .int (0 : Int32), .int (6 : Int32)]) (rest := []) (ci := 9) (q0 := 0) C0 (mX9_within l g a_t p_t n x2 (0 : Int32) (6 : Int32) u_6 u_9 u_10 hu_11) (cwV 3 hts gX9_house_X9_within rfl rfl rfl (by decide +kernel) ⟨Nat.le_of_ble_eq_true rfl, Nat.le_of_ble_eq_true rfl⟩) hP hD hS [0] [] rfl rfl rfl rfl rfl (by decide) rfl rfl hl.1 rfl rfl (Nat.le_of_ble_eq_true rfl) ⟨Nat.zero_le _, Nat.zero_le _⟩ dX9_house_23 ?_
      intro H locs hP hD hS
      refine lv_if_ne (tgt := 32) hx hb dX9_house_26 (by decide) (fun c_12 => ?_) (fun c_12 => ?_)
      · have hF := it_n c_12 hF
        refine lv_iload_n hx hb dX9_house_32 rfl (lv_at hl 3 rfl) ?_
        refine lv_if_eq (tgt := 44) hx hb dX9_house_33 (by decide) (fun c_13 => ?_) (fun c_13 => ?_)
        · have hF := it_p c_13 hF
          refine lv_iload_n hx hb dX9_house_44 rfl (lv_at hl 1 rfl) ?_
          refine lv_iload_n hx hb dX9_house_45 rfl (lv_at hl 2 rfl) ?_
          obtain ⟨u_14, hu_15, hF⟩ := ob1_some hF
          refine call_si (wr := [oX9 a_t p_t u_10]) (As := [.int x1, .int x2]) (rest := []) C0 (mX9_shareOf l g n x1 x2 u_14 hu_15) (va_cwS 2 hts gX9_house_X9_shareOf rfl rfl rfl (by decide +kernel) ⟨Nat.le_of_ble_eq_true rfl, Nat.le_of_ble_eq_true rfl⟩) hP hD hS [] [0] rfl rfl rfl rfl rfl (by decide) hl.1 rfl rfl (Nat.le_of_ble_eq_true rfl) ⟨Nat.zero_le _, Nat.zero_le _⟩ dX9_house_46 ?_
          intro H locs hP hD hS
          cases hF
          exact ret_i C0 hP hD hS [0] rfl rfl rfl dX9_house_49 rfl
        · have hF := it_n c_13 hF
          refine lv_iload_n hx hb dX9_house_36 rfl (lv_at hl 2 rfl) ?_
          refine lv_iload_n hx hb dX9_house_37 rfl (lv_at hl 1 rfl) ?_
          obtain ⟨u_16, hu_17, hF⟩ := ob1_some hF
          refine call_si (wr := [oX9 a_t p_t u_10]) (As := [.int x2, .int x1]) (rest := []) C0 (mX9_shareOf l g n x2 x1 u_16 hu_17) (va_cwS 2 hts gX9_house_X9_shareOf rfl rfl rfl (by decide +kernel) ⟨Nat.le_of_ble_eq_true rfl, Nat.le_of_ble_eq_true rfl⟩) hP hD hS [] [0] rfl rfl rfl rfl rfl (by decide) hl.1 rfl rfl (Nat.le_of_ble_eq_true rfl) ⟨Nat.zero_le _, Nat.zero_le _⟩ dX9_house_38 ?_
          intro H locs hP hD hS
          refine lv_goto (tgt := 49) hx hb dX9_house_41 (by decide) ?_
          cases hF
          exact ret_i C0 hP hD hS [0] rfl rfl rfl dX9_house_49 rfl
      · have hF := it_p c_12 hF
        refine lv_bipush (v := (-100 : Int32)) hx hb dX9_house_29 (by decide) ?_
        cases hF
        exact ret_i C0 hP hD hS [0] rfl rfl rfl dX9_house_31 rfl

theorem dAX9_isRest : ∀ q ∈ ([(0, (.iconst 0, 1)), (1, (.istore_n 2, 1)), (2, (.iload_n 2, 1)), (3, (.bipush 6, 2)), (5, (.if_icmp .gt 37, 3)), (8, (.iload_n 2, 1)), (9, (.iload_n 1, 1)), (10, (.invokestatic 284, 3)), (13, (.iload_n 0, 1)), (14, (.iload_n 1, 1)), (15, (.invokestatic 284, 3)), (18, (.if_icmp .gt 16, 3)), (21, (.iload_n 2, 1)), (22, (.iload_n 0, 1)), (23, (.invokestatic 284, 3)), (26, (.iload_n 1, 1)), (27, (.iload_n 0, 1)), (28, (.invokestatic 284, 3)), (31, (.if_icmp .le 5, 3)), (34, (.iconst 0, 1)), (35, (.ireturn, 1)), (36, (.iinc 2 1, 3)), (39, (.goto (-37), 3)), (42, (.iconst 1, 1)), (43, (.ireturn, 1))] : List (Nat × (Instr × Nat))), decode cX9_isRest q.1 = .ok q.2 := by decide +kernel
theorem dX9_isRest_0 : decode cX9_isRest 0 = .ok (.iconst 0, 1) := dAX9_isRest (0, (.iconst 0, 1)) (List.mem_of_getElem? (i := 0) rfl)
theorem dX9_isRest_1 : decode cX9_isRest 1 = .ok (.istore_n 2, 1) := dAX9_isRest (1, (.istore_n 2, 1)) (List.mem_of_getElem? (i := 1) rfl)
theorem dX9_isRest_2 : decode cX9_isRest 2 = .ok (.iload_n 2, 1) := dAX9_isRest (2, (.iload_n 2, 1)) (List.mem_of_getElem? (i := 2) rfl)
theorem dX9_isRest_3 : decode cX9_isRest 3 = .ok (.bipush 6, 2) := dAX9_isRest (3, (.bipush 6, 2)) (List.mem_of_getElem? (i := 3) rfl)
theorem dX9_isRest_5 : decode cX9_isRest 5 = .ok (.if_icmp .gt 37, 3) := dAX9_isRest (5, (.if_icmp .gt 37, 3)) (List.mem_of_getElem? (i := 4) rfl)
theorem dX9_isRest_8 : decode cX9_isRest 8 = .ok (.iload_n 2, 1) := dAX9_isRest (8, (.iload_n 2, 1)) (List.mem_of_getElem? (i := 5) rfl)
theorem dX9_isRest_9 : decode cX9_isRest 9 = .ok (.iload_n 1, 1) := dAX9_isRest (9, (.iload_n 1, 1)) (List.mem_of_getElem? (i := 6) rfl)
theorem dX9_isRest_10 : decode cX9_isRest 10 = .ok (.invokestatic 284, 3) := dAX9_isRest (10, (.invokestatic 284, 3)) (List.mem_of_getElem? (i := 7) rfl)
theorem dX9_isRest_13 : decode cX9_isRest 13 = .ok (.iload_n 0, 1) := dAX9_isRest (13, (.iload_n 0, 1)) (List.mem_of_getElem? (i := 8) rfl)
theorem dX9_isRest_14 : decode cX9_isRest 14 = .ok (.iload_n 1, 1) := dAX9_isRest (14, (.iload_n 1, 1)) (List.mem_of_getElem? (i := 9) rfl)
theorem dX9_isRest_15 : decode cX9_isRest 15 = .ok (.invokestatic 284, 3) := dAX9_isRest (15, (.invokestatic 284, 3)) (List.mem_of_getElem? (i := 10) rfl)
theorem dX9_isRest_18 : decode cX9_isRest 18 = .ok (.if_icmp .gt 16, 3) := dAX9_isRest (18, (.if_icmp .gt 16, 3)) (List.mem_of_getElem? (i := 11) rfl)
theorem dX9_isRest_21 : decode cX9_isRest 21 = .ok (.iload_n 2, 1) := dAX9_isRest (21, (.iload_n 2, 1)) (List.mem_of_getElem? (i := 12) rfl)
theorem dX9_isRest_22 : decode cX9_isRest 22 = .ok (.iload_n 0, 1) := dAX9_isRest (22, (.iload_n 0, 1)) (List.mem_of_getElem? (i := 13) rfl)
theorem dX9_isRest_23 : decode cX9_isRest 23 = .ok (.invokestatic 284, 3) := dAX9_isRest (23, (.invokestatic 284, 3)) (List.mem_of_getElem? (i := 14) rfl)
theorem dX9_isRest_26 : decode cX9_isRest 26 = .ok (.iload_n 1, 1) := dAX9_isRest (26, (.iload_n 1, 1)) (List.mem_of_getElem? (i := 15) rfl)
theorem dX9_isRest_27 : decode cX9_isRest 27 = .ok (.iload_n 0, 1) := dAX9_isRest (27, (.iload_n 0, 1)) (List.mem_of_getElem? (i := 16) rfl)
theorem dX9_isRest_28 : decode cX9_isRest 28 = .ok (.invokestatic 284, 3) := dAX9_isRest (28, (.invokestatic 284, 3)) (List.mem_of_getElem? (i := 17) rfl)
theorem dX9_isRest_31 : decode cX9_isRest 31 = .ok (.if_icmp .le 5, 3) := dAX9_isRest (31, (.if_icmp .le 5, 3)) (List.mem_of_getElem? (i := 18) rfl)
theorem dX9_isRest_34 : decode cX9_isRest 34 = .ok (.iconst 0, 1) := dAX9_isRest (34, (.iconst 0, 1)) (List.mem_of_getElem? (i := 19) rfl)
theorem dX9_isRest_35 : decode cX9_isRest 35 = .ok (.ireturn, 1) := dAX9_isRest (35, (.ireturn, 1)) (List.mem_of_getElem? (i := 20) rfl)
theorem dX9_isRest_36 : decode cX9_isRest 36 = .ok (.iinc 2 1, 3) := dAX9_isRest (36, (.iinc 2 1, 3)) (List.mem_of_getElem? (i := 21) rfl)
theorem dX9_isRest_39 : decode cX9_isRest 39 = .ok (.goto (-37), 3) := dAX9_isRest (39, (.goto (-37), 3)) (List.mem_of_getElem? (i := 22) rfl)
theorem dX9_isRest_42 : decode cX9_isRest 42 = .ok (.iconst 1, 1) := dAX9_isRest (42, (.iconst 1, 1)) (List.mem_of_getElem? (i := 23) rfl)
theorem dX9_isRest_43 : decode cX9_isRest 43 = .ok (.ireturn, 1) := dAX9_isRest (43, (.ireturn, 1)) (List.mem_of_getElem? (i := 24) rfl)
set_option maxRecDepth 20000 in
theorem ggX9_isRest_X9_shareOf : GoodIn wsX9_isRest wsX9_shareOf := goodIn_r _ [4] rfl (by decide +kernel)
set_option maxRecDepth 20000 in
theorem gX9_isRest_X9_shareOf : GoodIn wsX9_isRest (va_wsS RX9 284 yX9_shareOf wsX9_shareOf) := goodIn_app (goodIn_of _ (by decide +kernel)) ggX9_isRest_X9_shareOf
set_option maxHeartbeats 4000000 in
set_option maxRecDepth 100000 in
theorem wX9_isRest_L2 {p : Program} {l : Launch} {e : Env} {s : State} {m : MethodId} {args : Array Value} {below : List Frame} {meth : Method} {c : Code} {g : GG} {A : Nat → Prop} (C0 : Cx p s m args meth c cX9_isRest 3 (some .boolean) RX9 wsX9_isRest g A)   (n : Nat) (x0 : Int32) (x1 : Int32)  (r : Int32) (K : Unit → Option (Int32)) (hKx : ∀  (H : Heap) (locs : List Loc) (ls : Array Slot), K () = some (r) → va_P g.1 vwCl [] H → va_D A [] → va_S A s.heap H locs → lv_has ls 3 [] → W p l e ({ frames := 1, cells := 0, slots := 0, locals := 21 } : Room) s m args below meth c H locs 0 0 (MQ below (EndI g r [] A) args s 0 0 A) (F0 m 42 ls [])) : ∀ (k : Nat) (x2 : Int32), fX9_isRest_L2 n x0 x1 K k x2 = some (r) → ∀ (H : Heap) (locs : List Loc) (ls : Array Slot), va_P g.1 vwCl [] H → va_D A [] → va_S A s.heap H locs → lv_has ls 3 [(0, .int x0), (1, .int x1), (2, .int x2)] → W p l e ({ frames := 1, cells := 0, slots := 0, locals := 21 } : Room) s m args below meth c H locs 0 0 (MQ below (EndI g r [] A) args s 0 0 A) (F0 m 2 ls []) := by
  obtain ⟨hx, hb, hml, hown, hts, hr, hlk, hK, hA, hSW⟩ := id C0
  intro k
  induction k with
  | zero =>
    intro x2 hF
    exact absurd hF (by simp [fX9_isRest_L2])
  | succ k ih =>
    intro x2 hF H locs ls hP hD hS hl
    rw [fX9_isRest_L2] at hF
    refine lv_iload_n hx hb dX9_isRest_2 rfl (lv_at hl 2 rfl) ?_
    refine lv_bipush (v := (6 : Int32)) hx hb dX9_isRest_3 (by decide) ?_
    refine lv_icmp_gt (tgt := 42) hx hb dX9_isRest_5 (by decide) (fun c_1 => ?_) (fun c_1 => ?_)
    · have hF := it_p c_1 hF
      exact hKx  _ _ _ hF (hP.sub [] rfl) (hD.sub [] rfl rfl) hS (lv_sub hl [] rfl)
    · have hF := it_n c_1 hF
      refine lv_iload_n hx hb dX9_isRest_8 rfl (lv_at hl 2 rfl) ?_
      refine lv_iload_n hx hb dX9_isRest_9 rfl (lv_at hl 1 rfl) ?_
      obtain ⟨u_2, hu_3, hF⟩ := ob1_some hF
      refine call_si (wr := []) (As := [.int x2, .int x1]) (rest := []) C0 (mX9_shareOf l g n x2 x1 u_2 hu_3) (va_cwS 2 hts gX9_isRest_X9_shareOf rfl rfl rfl (by decide +kernel) ⟨Nat.le_of_ble_eq_true rfl, Nat.le_of_ble_eq_true rfl⟩) hP hD hS [] [] rfl rfl rfl rfl rfl (by decide) hl.1 rfl rfl (Nat.le_of_ble_eq_true rfl) ⟨Nat.zero_le _, Nat.zero_le _⟩ dX9_isRest_10 ?_
      intro H locs hP hD hS
      refine lv_iload_n hx hb dX9_isRest_13 rfl (lv_at hl 0 rfl) ?_
      refine lv_iload_n hx hb dX9_isRest_14 rfl (lv_at hl 1 rfl) ?_
      obtain ⟨u_4, hu_5, hF⟩ := ob1_some hF
      refine call_si (wr := []) (As := [.int x0, .int x1]) (rest := [.int u_2]) C0 (mX9_shareOf l g n x0 x1 u_4 hu_5) (va_cwS 2 hts gX9_isRest_X9_shareOf rfl rfl rfl (by decide +kernel) ⟨Nat.le_of_ble_eq_true rfl, Nat.le_of_ble_eq_true rfl⟩) hP hD hS [] [] rfl rfl rfl rfl rfl (by decide) hl.1 rfl rfl (Nat.le_of_ble_eq_true rfl) ⟨Nat.zero_le _, Nat.zero_le _⟩ dX9_isRest_15 ?_
      intro H locs hP hD hS
      refine lv_icmp_gt (tgt := 34) hx hb dX9_isRest_18 (by decide) (fun c_6 => ?_) (fun c_6 => ?_)
      · have hF := it_p c_6 hF
        refine lv_iconst (v := (0 : Int32)) hx hb dX9_isRest_34 (by decide) ?_
        cases hF
        exact ret_z C0 hP hD hS [] rfl rfl rfl dX9_isRest_35 rfl rfl
      · have hF := it_n c_6 hF
        refine lv_iload_n hx hb dX9_isRest_21 rfl (lv_at hl 2 rfl) ?_
        refine lv_iload_n hx hb dX9_isRest_22 rfl (lv_at hl 0 rfl) ?_
        obtain ⟨u_7, hu_8, hF⟩ := ob1_some hF
        refine call_si (wr := []) (As := [.int x2, .int x0]) (rest := []) C0 (mX9_shareOf l g n x2 x0 u_7 hu_8) (va_cwS 2 hts gX9_isRest_X9_shareOf rfl rfl rfl (by decide +kernel) ⟨Nat.le_of_ble_eq_true rfl, Nat.le_of_ble_eq_true rfl⟩) hP hD hS [] [] rfl rfl rfl rfl rfl (by decide) hl.1 rfl rfl (Nat.le_of_ble_eq_true rfl) ⟨Nat.zero_le _, Nat.zero_le _⟩ dX9_isRest_23 ?_
        intro H locs hP hD hS
        refine lv_iload_n hx hb dX9_isRest_26 rfl (lv_at hl 1 rfl) ?_
        refine lv_iload_n hx hb dX9_isRest_27 rfl (lv_at hl 0 rfl) ?_
        obtain ⟨u_9, hu_10, hF⟩ := ob1_some hF
        refine call_si (wr := []) (As := [.int x1, .int x0]) (rest := [.int u_7]) C0 (mX9_shareOf l g n x1 x0 u_9 hu_10) (va_cwS 2 hts gX9_isRest_X9_shareOf rfl rfl rfl (by decide +kernel) ⟨Nat.le_of_ble_eq_true rfl, Nat.le_of_ble_eq_true rfl⟩) hP hD hS [] [] rfl rfl rfl rfl rfl (by decide) hl.1 rfl rfl (Nat.le_of_ble_eq_true rfl) ⟨Nat.zero_le _, Nat.zero_le _⟩ dX9_isRest_28 ?_
        intro H locs hP hD hS
        refine lv_icmp_le (tgt := 36) hx hb dX9_isRest_31 (by decide) (fun c_11 => ?_) (fun c_11 => ?_)
        · have hF := it_p c_11 hF
          refine lv_iinc (v := (x2 + (1 : Int32))) (lv' := [(2, .int (x2 + (1 : Int32))), (0, .int x0), (1, .int x1)]) hx hb dX9_isRest_36 hl (k := 2) rfl rfl (by decide) rfl (fun ls hl => ?_)
          refine lv_goto (tgt := 2) hx hb dX9_isRest_39 (by decide) ?_
          exact ih (x2 + (1 : Int32)) hF _ _ _ (hP.sub [] rfl) (hD.sub [] rfl rfl) hS (lv_sub hl [1, 2, 0] rfl)
        · have hF := it_n c_11 hF
          refine lv_iconst (v := (0 : Int32)) hx hb dX9_isRest_34 (by decide) ?_
          cases hF
          exact ret_z C0 hP hD hS [] rfl rfl rfl dX9_isRest_35 rfl rfl
set_option maxHeartbeats 4000000 in
set_option maxRecDepth 100000 in
theorem mX9_isRest (l : Launch) (g : GG)   (n : Nat) (x0 : Int32) (x1 : Int32) (r : Int32) (hF : fX9_isRest n x0 x1 = some (r)) : MI l g yX9_isRest wsX9_isRest ({ frames := 1, cells := 0, slots := 0, locals := 21 } : Room) [.int x0, .int x1] [] r [] := by
  refine MI.of (cc := cX9_isRest) (maxL := 3) (rt := .boolean) (own := RX9) rfl rfl (by decide) (Nat.le_of_ble_eq_true rfl) ?_
  intro p e s m args below meth c A C0 hP hD hS ls hl
  obtain ⟨hx, hb, hml, hown, hts, hr, hlk, hK, hA, hSW⟩ := id C0
  have hl : lv_has ls 3 [(0, .int x0), (1, .int x1)] := hl
  rw [fX9_isRest] at hF
  refine lv_iconst (v := (0 : Int32)) hx hb dX9_isRest_0 (by decide) ?_
  refine lv_istore_n (lv' := [(2, .int (0 : Int32)), (0, .int x0), (1, .int x1)]) hx hb dX9_isRest_1 rfl hl (by decide) rfl (fun ls hl => ?_)
  refine wX9_isRest_L2 C0 n x0 x1 r _ ?_ n (0 : Int32) hF _ _ _ (hP.sub [] rfl) (hD.sub [] rfl rfl) hS (lv_sub hl [1, 2, 0] rfl)
  · intro  H locs ls hF hP hD hS hl
    refine lv_iconst (v := (1 : Int32)) hx hb dX9_isRest_42 (by decide) ?_
    cases hF
    exact ret_z C0 hP hD hS [] rfl rfl rfl dX9_isRest_43 rfl rfl

theorem dAX9_rests : ∀ q ∈ ([(0, (.aload_n 0, 1)), (1, (.invokevirtual 153, 3)), (4, (.ifCond .ne 5, 3)), (7, (.iconst (-1), 1)), (8, (.ireturn, 1)), (9, (.iconst 0, 1)), (10, (.istore_n 1, 1)), (11, (.iconst 0, 1)), (12, (.istore_n 2, 1)), (13, (.iload_n 2, 1)), (14, (.bipush 6, 2)), (16, (.if_icmp .gt 34, 3)), (19, (.iconst 0, 1)), (20, (.istore_n 3, 1)), (21, (.iload_n 3, 1)), (22, (.bipush 6, 2)), (24, (.if_icmp .gt 20, 3)), (27, (.iload_n 2, 1)), (28, (.iload_n 3, 1)), (29, (.invokestatic 287, 3)), (32, (.ifCond .eq 6, 3)), (35, (.iinc 1 1, 3)), (38, (.iinc 3 1, 3)), (41, (.goto (-20), 3)), (44, (.iinc 2 1, 3)), (47, (.goto (-34), 3)), (50, (.iload_n 1, 1)), (51, (.ireturn, 1))] : List (Nat × (Instr × Nat))), decode cX9_rests q.1 = .ok q.2 := by decide +kernel
theorem dX9_rests_0 : decode cX9_rests 0 = .ok (.aload_n 0, 1) := dAX9_rests (0, (.aload_n 0, 1)) (List.mem_of_getElem? (i := 0) rfl)
theorem dX9_rests_1 : decode cX9_rests 1 = .ok (.invokevirtual 153, 3) := dAX9_rests (1, (.invokevirtual 153, 3)) (List.mem_of_getElem? (i := 1) rfl)
theorem dX9_rests_4 : decode cX9_rests 4 = .ok (.ifCond .ne 5, 3) := dAX9_rests (4, (.ifCond .ne 5, 3)) (List.mem_of_getElem? (i := 2) rfl)
theorem dX9_rests_7 : decode cX9_rests 7 = .ok (.iconst (-1), 1) := dAX9_rests (7, (.iconst (-1), 1)) (List.mem_of_getElem? (i := 3) rfl)
theorem dX9_rests_8 : decode cX9_rests 8 = .ok (.ireturn, 1) := dAX9_rests (8, (.ireturn, 1)) (List.mem_of_getElem? (i := 4) rfl)
theorem dX9_rests_9 : decode cX9_rests 9 = .ok (.iconst 0, 1) := dAX9_rests (9, (.iconst 0, 1)) (List.mem_of_getElem? (i := 5) rfl)
theorem dX9_rests_10 : decode cX9_rests 10 = .ok (.istore_n 1, 1) := dAX9_rests (10, (.istore_n 1, 1)) (List.mem_of_getElem? (i := 6) rfl)
theorem dX9_rests_11 : decode cX9_rests 11 = .ok (.iconst 0, 1) := dAX9_rests (11, (.iconst 0, 1)) (List.mem_of_getElem? (i := 7) rfl)
theorem dX9_rests_12 : decode cX9_rests 12 = .ok (.istore_n 2, 1) := dAX9_rests (12, (.istore_n 2, 1)) (List.mem_of_getElem? (i := 8) rfl)
theorem dX9_rests_13 : decode cX9_rests 13 = .ok (.iload_n 2, 1) := dAX9_rests (13, (.iload_n 2, 1)) (List.mem_of_getElem? (i := 9) rfl)
theorem dX9_rests_14 : decode cX9_rests 14 = .ok (.bipush 6, 2) := dAX9_rests (14, (.bipush 6, 2)) (List.mem_of_getElem? (i := 10) rfl)
theorem dX9_rests_16 : decode cX9_rests 16 = .ok (.if_icmp .gt 34, 3) := dAX9_rests (16, (.if_icmp .gt 34, 3)) (List.mem_of_getElem? (i := 11) rfl)
theorem dX9_rests_19 : decode cX9_rests 19 = .ok (.iconst 0, 1) := dAX9_rests (19, (.iconst 0, 1)) (List.mem_of_getElem? (i := 12) rfl)
theorem dX9_rests_20 : decode cX9_rests 20 = .ok (.istore_n 3, 1) := dAX9_rests (20, (.istore_n 3, 1)) (List.mem_of_getElem? (i := 13) rfl)
theorem dX9_rests_21 : decode cX9_rests 21 = .ok (.iload_n 3, 1) := dAX9_rests (21, (.iload_n 3, 1)) (List.mem_of_getElem? (i := 14) rfl)
theorem dX9_rests_22 : decode cX9_rests 22 = .ok (.bipush 6, 2) := dAX9_rests (22, (.bipush 6, 2)) (List.mem_of_getElem? (i := 15) rfl)
theorem dX9_rests_24 : decode cX9_rests 24 = .ok (.if_icmp .gt 20, 3) := dAX9_rests (24, (.if_icmp .gt 20, 3)) (List.mem_of_getElem? (i := 16) rfl)
theorem dX9_rests_27 : decode cX9_rests 27 = .ok (.iload_n 2, 1) := dAX9_rests (27, (.iload_n 2, 1)) (List.mem_of_getElem? (i := 17) rfl)
theorem dX9_rests_28 : decode cX9_rests 28 = .ok (.iload_n 3, 1) := dAX9_rests (28, (.iload_n 3, 1)) (List.mem_of_getElem? (i := 18) rfl)
theorem dX9_rests_29 : decode cX9_rests 29 = .ok (.invokestatic 287, 3) := dAX9_rests (29, (.invokestatic 287, 3)) (List.mem_of_getElem? (i := 19) rfl)
theorem dX9_rests_32 : decode cX9_rests 32 = .ok (.ifCond .eq 6, 3) := dAX9_rests (32, (.ifCond .eq 6, 3)) (List.mem_of_getElem? (i := 20) rfl)
theorem dX9_rests_35 : decode cX9_rests 35 = .ok (.iinc 1 1, 3) := dAX9_rests (35, (.iinc 1 1, 3)) (List.mem_of_getElem? (i := 21) rfl)
theorem dX9_rests_38 : decode cX9_rests 38 = .ok (.iinc 3 1, 3) := dAX9_rests (38, (.iinc 3 1, 3)) (List.mem_of_getElem? (i := 22) rfl)
theorem dX9_rests_41 : decode cX9_rests 41 = .ok (.goto (-20), 3) := dAX9_rests (41, (.goto (-20), 3)) (List.mem_of_getElem? (i := 23) rfl)
theorem dX9_rests_44 : decode cX9_rests 44 = .ok (.iinc 2 1, 3) := dAX9_rests (44, (.iinc 2 1, 3)) (List.mem_of_getElem? (i := 24) rfl)
theorem dX9_rests_47 : decode cX9_rests 47 = .ok (.goto (-34), 3) := dAX9_rests (47, (.goto (-34), 3)) (List.mem_of_getElem? (i := 25) rfl)
theorem dX9_rests_50 : decode cX9_rests 50 = .ok (.iload_n 1, 1) := dAX9_rests (50, (.iload_n 1, 1)) (List.mem_of_getElem? (i := 26) rfl)
theorem dX9_rests_51 : decode cX9_rests 51 = .ok (.ireturn, 1) := dAX9_rests (51, (.ireturn, 1)) (List.mem_of_getElem? (i := 27) rfl)
set_option maxRecDepth 20000 in
theorem ggX9_rests_X9_asked : GoodIn wsX9_rests wsX9_asked := goodIn_r _ [5, 6, 7, 14, 15, 16, 17, 18, 19, 20, 21, 22, 23, 24, 25, 26, 27, 28] rfl (by decide +kernel)
set_option maxRecDepth 20000 in
theorem gX9_rests_X9_asked : GoodIn wsX9_rests (wsV RX9 153 RX9 yX9_asked wsX9_asked) := goodIn_app (goodIn_of _ (by decide +kernel)) ggX9_rests_X9_asked
set_option maxRecDepth 20000 in
theorem ggX9_rests_X9_isRest : GoodIn wsX9_rests wsX9_isRest := goodIn_r _ [10, 11, 12, 4, 13] rfl (by decide +kernel)
set_option maxRecDepth 20000 in
theorem gX9_rests_X9_isRest : GoodIn wsX9_rests (va_wsS RX9 287 yX9_isRest wsX9_isRest) := goodIn_app (goodIn_of _ (by decide +kernel)) ggX9_rests_X9_isRest
set_option maxHeartbeats 4000000 in
set_option maxRecDepth 100000 in
theorem wX9_rests_L21 {p : Program} {l : Launch} {e : Env} {s : State} {m : MethodId} {args : Array Value} {below : List Frame} {meth : Method} {c : Code} {g : GG} {A : Nat → Prop} (C0 : Cx p s m args meth c cX9_rests 4 (some .int) RX9 wsX9_rests g A) (a_t : Nat) (p_t : Nat → Nat) (n : Nat) (x2 : Int32) (o_t : Nat → Int32) (r : Int32) (o_t' : Nat → Int32) (K : Int32 → Option (Int32 × (Nat → Int32))) (hKx : ∀ (x1 : Int32) (H : Heap) (locs : List Loc) (ls : Array Slot), K x1 = some (r, o_t') → va_P g.1 vwCl [oX9 a_t p_t o_t] H → va_D A [oX9 a_t p_t o_t] → va_S A s.heap H locs → lv_has ls 4 [(1, .int x1), (2, .int x2)] → W p l e ({ frames := 2, cells := 0, slots := 0, locals := 43 } : Room) s m args below meth c H locs 0 0 (MQ below (EndI g r [oX9 a_t p_t o_t'] A) args s 0 0 A) (F0 m 44 ls [])) : ∀ (k : Nat) (x1 : Int32) (x3 : Int32), fX9_rests_L21 n x2 K k x1 x3 = some (r, o_t') → ∀ (H : Heap) (locs : List Loc) (ls : Array Slot), va_P g.1 vwCl [oX9 a_t p_t o_t] H → va_D A [oX9 a_t p_t o_t] → va_S A s.heap H locs → lv_has ls 4 [(1, .int x1), (2, .int x2), (3, .int x3)] → W p l e ({ frames := 2, cells := 0, slots := 0, locals := 43 } : Room) s m args below meth c H locs 0 0 (MQ below (EndI g r [oX9 a_t p_t o_t'] A) args s 0 0 A) (F0 m 21 ls []) := by
  obtain ⟨hx, hb, hml, hown, hts, hr, hlk, hK, hA, hSW⟩ := id C0
  intro k
  induction k with
  | zero =>
    intro x1 x3 hF
    exact absurd hF (by simp [fX9_rests_L21])
  | succ k ih =>
    intro x1 x3 hF H locs ls hP hD hS hl
    rw [fX9_rests_L21] at hF
    refine lv_iload_n hx hb dX9_rests_21 rfl (lv_at hl 2 rfl) ?_
    refine lv_bipush (v := (6 : Int32)) hx hb dX9_rests_22 (by decide) ?_
    refine lv_icmp_gt (tgt := 44) hx hb dX9_rests_24 (by decide) (fun c_6 => ?_) (fun c_6 => ?_)
    · have hF := it_p c_6 hF
      exact hKx x1 _ _ _ hF (hP.sub [0] rfl) (hD.sub [0] rfl rfl) hS (lv_sub hl [0, 1] rfl)
    · have hF := it_n c_6 hF
      refine lv_iload_n hx hb dX9_rests_27 rfl (lv_at hl 1 rfl) ?_
      refine lv_iload_n hx hb dX9_rests_28 rfl (lv_at hl 2 rfl) ?_
      obtain ⟨u_7, hu_8, hF⟩ := ob1_some hF
      refine call_si (wr := [oX9 a_t p_t o_t]) (As := [.int x2, .int x3]) (rest := []) C0 (mX9_isRest l g n x2 x3 u_7 hu_8) (va_cwS 2 hts gX9_rests_X9_isRest rfl rfl rfl (by decide +kernel) ⟨Nat.le_of_ble_eq_true rfl, Nat.le_of_ble_eq_true rfl⟩) hP hD hS [] [0] rfl rfl rfl rfl rfl (by decide) hl.1 rfl rfl (Nat.le_of_ble_eq_true rfl) ⟨Nat.zero_le _, Nat.zero_le _⟩ dX9_rests_29 ?_
      intro H locs hP hD hS
      refine lv_if_eq (tgt := 38) hx hb dX9_rests_32 (by decide) (fun c_9 => ?_) (fun c_9 => ?_)
      · have hF := it_p c_9 hF
        refine lv_iinc (v := (x3 + (1 : Int32))) (lv' := [(3, .int (x3 + (1 : Int32))), (1, .int x1), (2, .int x2)]) hx hb dX9_rests_38 hl (k := 2) rfl rfl (by decide) rfl (fun ls hl => ?_)
        refine lv_goto (tgt := 21) hx hb dX9_rests_41 (by decide) ?_
        exact ih x1 (x3 + (1 : Int32)) hF _ _ _ (hP.sub [0] rfl) (hD.sub [0] rfl rfl) hS (lv_sub hl [1, 2, 0] rfl)
      · have hF := it_n c_9 hF
        refine lv_iinc (v := (x1 + (1 : Int32))) (lv' := [(1, .int (x1 + (1 : Int32))), (2, .int x2), (3, .int x3)]) hx hb dX9_rests_35 hl (k := 0) rfl rfl (by decide) rfl (fun ls hl => ?_)
        refine lv_iinc (v := (x3 + (1 : Int32))) (lv' := [(3, .int (x3 + (1 : Int32))), (1, .int (x1 + (1 : Int32))), (2, .int x2)]) hx hb dX9_rests_38 hl (k := 2) rfl rfl (by decide) rfl (fun ls hl => ?_)
        refine lv_goto (tgt := 21) hx hb dX9_rests_41 (by decide) ?_
        exact ih (x1 + (1 : Int32)) (x3 + (1 : Int32)) hF _ _ _ (hP.sub [0] rfl) (hD.sub [0] rfl rfl) hS (lv_sub hl [1, 2, 0] rfl)
set_option maxHeartbeats 4000000 in
set_option maxRecDepth 100000 in
theorem wX9_rests_L13 {p : Program} {l : Launch} {e : Env} {s : State} {m : MethodId} {args : Array Value} {below : List Frame} {meth : Method} {c : Code} {g : GG} {A : Nat → Prop} (C0 : Cx p s m args meth c cX9_rests 4 (some .int) RX9 wsX9_rests g A) (a_t : Nat) (p_t : Nat → Nat) (n : Nat) (o_t : Nat → Int32) (r : Int32) (o_t' : Nat → Int32) (K : Int32 → Option (Int32 × (Nat → Int32))) (hKx : ∀ (x1 : Int32) (H : Heap) (locs : List Loc) (ls : Array Slot), K x1 = some (r, o_t') → va_P g.1 vwCl [oX9 a_t p_t o_t] H → va_D A [oX9 a_t p_t o_t] → va_S A s.heap H locs → lv_has ls 4 [(1, .int x1)] → W p l e ({ frames := 2, cells := 0, slots := 0, locals := 43 } : Room) s m args below meth c H locs 0 0 (MQ below (EndI g r [oX9 a_t p_t o_t'] A) args s 0 0 A) (F0 m 50 ls [])) : ∀ (k : Nat) (x1 : Int32) (x2 : Int32), fX9_rests_L13 n K k x1 x2 = some (r, o_t') → ∀ (H : Heap) (locs : List Loc) (ls : Array Slot), va_P g.1 vwCl [oX9 a_t p_t o_t] H → va_D A [oX9 a_t p_t o_t] → va_S A s.heap H locs → lv_has ls 4 [(1, .int x1), (2, .int x2)] → W p l e ({ frames := 2, cells := 0, slots := 0, locals := 43 } : Room) s m args below meth c H locs 0 0 (MQ below (EndI g r [oX9 a_t p_t o_t'] A) args s 0 0 A) (F0 m 13 ls []) := by
  obtain ⟨hx, hb, hml, hown, hts, hr, hlk, hK, hA, hSW⟩ := id C0
  intro k
  induction k with
  | zero =>
    intro x1 x2 hF
    exact absurd hF (by simp [fX9_rests_L13])
  | succ k ih =>
    intro x1 x2 hF H locs ls hP hD hS hl
    rw [fX9_rests_L13] at hF
    refine lv_iload_n hx hb dX9_rests_13 rfl (lv_at hl 1 rfl) ?_
    refine lv_bipush (v := (6 : Int32)) hx hb dX9_rests_14 (by decide) ?_
    refine lv_icmp_gt (tgt := 50) hx hb dX9_rests_16 (by decide) (fun c_5 => ?_) (fun c_5 => ?_)
    · have hF := it_p c_5 hF
      exact hKx x1 _ _ _ hF (hP.sub [0] rfl) (hD.sub [0] rfl rfl) hS (lv_sub hl [0] rfl)
    · have hF := it_n c_5 hF
      refine lv_iconst (v := (0 : Int32)) hx hb dX9_rests_19 (by decide) ?_
      refine lv_istore_n (lv' := [(3, .int (0 : Int32)), (1, .int x1), (2, .int x2)]) hx hb dX9_rests_20 rfl hl (by decide) rfl (fun ls hl => ?_)
      refine wX9_rests_L21 C0 a_t p_t n x2 o_t r o_t' _ ?_ n x1 (0 : Int32) hF _ _ _ (hP.sub [0] rfl) (hD.sub [0] rfl rfl) hS (lv_sub hl [1, 2, 0] rfl)
      · intro x1_x21 H locs ls hF hP hD hS hl
        refine lv_iinc (v := (x2 + (1 : Int32))) (lv' := [(2, .int (x2 + (1 : Int32))), (1, .int x1_x21)]) hx hb dX9_rests_44 hl (k := 1) rfl rfl (by decide) rfl (fun ls hl => ?_)
        refine lv_goto (tgt := 13) hx hb dX9_rests_47 (by decide) ?_
        exact ih x1_x21 (x2 + (1 : Int32)) hF _ _ _ (hP.sub [0] rfl) (hD.sub [0] rfl rfl) hS (lv_sub hl [1, 0] rfl)
set_option maxHeartbeats 4000000 in
set_option maxRecDepth 100000 in
theorem mX9_rests (l : Launch) (g : GG) (a_t : Nat) (p_t : Nat → Nat) (n : Nat) (o_t : Nat → Int32) (r : Int32) (o_t' : Nat → Int32) (hF : fX9_rests n o_t = some (r, o_t')) : MI l g yX9_rests wsX9_rests ({ frames := 2, cells := 0, slots := 0, locals := 43 } : Room) [.ref a_t] [oX9 a_t p_t o_t] r [oX9 a_t p_t o_t'] := by
  refine MI.of (cc := cX9_rests) (maxL := 4) (rt := .int) (own := RX9) rfl rfl (by decide) (Nat.le_of_ble_eq_true rfl) ?_
  intro p e s m args below meth c A C0 hP hD hS ls hl
  obtain ⟨hx, hb, hml, hown, hts, hr, hlk, hK, hA, hSW⟩ := id C0
  have hl : lv_has ls 4 [(0, .ref a_t)] := hl
  rw [fX9_rests] at hF
  refine lv_aload_n hx hb dX9_rests_0 rfl (lv_at hl 0 rfl) ?_
  obtain ⟨u_1, u_2, hu_3, hF⟩ := ob2_some hF
  refine call_i (wr := []) (As := []) (rest := []) (ci := 9) (q0 := 0) C0 (mX9_asked l g a_t p_t n o_t u_1 u_2 hu_3) (cwV 0 hts gX9_rests_X9_asked rfl rfl rfl (by decide +kernel) ⟨Nat.le_of_ble_eq_true rfl, Nat.le_of_ble_eq_true rfl⟩) hP hD hS [0] [] rfl rfl rfl rfl rfl (by decide) rfl rfl hl.1 rfl rfl (Nat.le_of_ble_eq_true rfl) ⟨Nat.zero_le _, Nat.zero_le _⟩ dX9_rests_1 ?_
  intro H locs hP hD hS
  refine lv_if_ne (tgt := 9) hx hb dX9_rests_4 (by decide) (fun c_4 => ?_) (fun c_4 => ?_)
  · have hF := it_n c_4 hF
    refine lv_iconst (v := (0 : Int32)) hx hb dX9_rests_9 (by decide) ?_
    refine lv_istore_n (lv' := [(1, .int (0 : Int32)), (0, .ref a_t)]) hx hb dX9_rests_10 rfl hl (by decide) rfl (fun ls hl => ?_)
    refine lv_iconst (v := (0 : Int32)) hx hb dX9_rests_11 (by decide) ?_
    refine lv_istore_n (lv' := [(2, .int (0 : Int32)), (1, .int (0 : Int32)), (0, .ref a_t)]) hx hb dX9_rests_12 rfl hl (by decide) rfl (fun ls hl => ?_)
    refine wX9_rests_L13 C0 a_t p_t n u_2 r o_t' _ ?_ n (0 : Int32) (0 : Int32) hF _ _ _ (hP.sub [0] rfl) (hD.sub [0] rfl rfl) hS (lv_sub hl [1, 0] rfl)
    · intro x1_x13 H locs ls hF hP hD hS hl
      refine lv_iload_n hx hb dX9_rests_50 rfl (lv_at hl 0 rfl) ?_
      cases hF
      exact ret_i C0 hP hD hS [0] rfl rfl rfl dX9_rests_51 rfl
  · have hF := it_p c_4 hF
    refine lv_iconst (v := (-1 : Int32)) hx hb dX9_rests_7 (by decide) ?_
    cases hF
    exact ret_i C0 hP hD hS [0] rfl rfl rfl dX9_rests_8 rfl

theorem dAX9_rest : ∀ q ∈ ([(0, (.aload_n 0, 1)), (1, (.invokevirtual 153, 3)), (4, (.ifCond .ne 5, 3)), (7, (.iconst (-1), 1)), (8, (.ireturn, 1)), (9, (.iconst 0, 1)), (10, (.istore_n 1, 1)), (11, (.iload_n 1, 1)), (12, (.bipush 6, 2)), (14, (.if_icmp .gt 38, 3)), (17, (.iconst 0, 1)), (18, (.istore_n 2, 1)), (19, (.iload_n 2, 1)), (20, (.bipush 6, 2)), (22, (.if_icmp .gt 24, 3)), (25, (.iload_n 1, 1)), (26, (.iload_n 2, 1)), (27, (.invokestatic 287, 3)), (30, (.ifCond .eq 10, 3)), (33, (.bipush 10, 2)), (35, (.iload_n 1, 1)), (36, (.imul, 1)), (37, (.iload_n 2, 1)), (38, (.iadd, 1)), (39, (.ireturn, 1)), (40, (.iinc 2 1, 3)), (43, (.goto (-24), 3)), (46, (.iinc 1 1, 3)), (49, (.goto (-38), 3)), (52, (.bipush (-2), 2)), (54, (.ireturn, 1))] : List (Nat × (Instr × Nat))), decode cX9_rest q.1 = .ok q.2 := by decide +kernel
theorem dX9_rest_0 : decode cX9_rest 0 = .ok (.aload_n 0, 1) := dAX9_rest (0, (.aload_n 0, 1)) (List.mem_of_getElem? (i := 0) rfl)
theorem dX9_rest_1 : decode cX9_rest 1 = .ok (.invokevirtual 153, 3) := dAX9_rest (1, (.invokevirtual 153, 3)) (List.mem_of_getElem? (i := 1) rfl)
theorem dX9_rest_4 : decode cX9_rest 4 = .ok (.ifCond .ne 5, 3) := dAX9_rest (4, (.ifCond .ne 5, 3)) (List.mem_of_getElem? (i := 2) rfl)
theorem dX9_rest_7 : decode cX9_rest 7 = .ok (.iconst (-1), 1) := dAX9_rest (7, (.iconst (-1), 1)) (List.mem_of_getElem? (i := 3) rfl)
theorem dX9_rest_8 : decode cX9_rest 8 = .ok (.ireturn, 1) := dAX9_rest (8, (.ireturn, 1)) (List.mem_of_getElem? (i := 4) rfl)
theorem dX9_rest_9 : decode cX9_rest 9 = .ok (.iconst 0, 1) := dAX9_rest (9, (.iconst 0, 1)) (List.mem_of_getElem? (i := 5) rfl)
theorem dX9_rest_10 : decode cX9_rest 10 = .ok (.istore_n 1, 1) := dAX9_rest (10, (.istore_n 1, 1)) (List.mem_of_getElem? (i := 6) rfl)
theorem dX9_rest_11 : decode cX9_rest 11 = .ok (.iload_n 1, 1) := dAX9_rest (11, (.iload_n 1, 1)) (List.mem_of_getElem? (i := 7) rfl)
theorem dX9_rest_12 : decode cX9_rest 12 = .ok (.bipush 6, 2) := dAX9_rest (12, (.bipush 6, 2)) (List.mem_of_getElem? (i := 8) rfl)
theorem dX9_rest_14 : decode cX9_rest 14 = .ok (.if_icmp .gt 38, 3) := dAX9_rest (14, (.if_icmp .gt 38, 3)) (List.mem_of_getElem? (i := 9) rfl)
theorem dX9_rest_17 : decode cX9_rest 17 = .ok (.iconst 0, 1) := dAX9_rest (17, (.iconst 0, 1)) (List.mem_of_getElem? (i := 10) rfl)
theorem dX9_rest_18 : decode cX9_rest 18 = .ok (.istore_n 2, 1) := dAX9_rest (18, (.istore_n 2, 1)) (List.mem_of_getElem? (i := 11) rfl)
theorem dX9_rest_19 : decode cX9_rest 19 = .ok (.iload_n 2, 1) := dAX9_rest (19, (.iload_n 2, 1)) (List.mem_of_getElem? (i := 12) rfl)
theorem dX9_rest_20 : decode cX9_rest 20 = .ok (.bipush 6, 2) := dAX9_rest (20, (.bipush 6, 2)) (List.mem_of_getElem? (i := 13) rfl)
theorem dX9_rest_22 : decode cX9_rest 22 = .ok (.if_icmp .gt 24, 3) := dAX9_rest (22, (.if_icmp .gt 24, 3)) (List.mem_of_getElem? (i := 14) rfl)
theorem dX9_rest_25 : decode cX9_rest 25 = .ok (.iload_n 1, 1) := dAX9_rest (25, (.iload_n 1, 1)) (List.mem_of_getElem? (i := 15) rfl)
theorem dX9_rest_26 : decode cX9_rest 26 = .ok (.iload_n 2, 1) := dAX9_rest (26, (.iload_n 2, 1)) (List.mem_of_getElem? (i := 16) rfl)
theorem dX9_rest_27 : decode cX9_rest 27 = .ok (.invokestatic 287, 3) := dAX9_rest (27, (.invokestatic 287, 3)) (List.mem_of_getElem? (i := 17) rfl)
theorem dX9_rest_30 : decode cX9_rest 30 = .ok (.ifCond .eq 10, 3) := dAX9_rest (30, (.ifCond .eq 10, 3)) (List.mem_of_getElem? (i := 18) rfl)
theorem dX9_rest_33 : decode cX9_rest 33 = .ok (.bipush 10, 2) := dAX9_rest (33, (.bipush 10, 2)) (List.mem_of_getElem? (i := 19) rfl)
theorem dX9_rest_35 : decode cX9_rest 35 = .ok (.iload_n 1, 1) := dAX9_rest (35, (.iload_n 1, 1)) (List.mem_of_getElem? (i := 20) rfl)
theorem dX9_rest_36 : decode cX9_rest 36 = .ok (.imul, 1) := dAX9_rest (36, (.imul, 1)) (List.mem_of_getElem? (i := 21) rfl)
theorem dX9_rest_37 : decode cX9_rest 37 = .ok (.iload_n 2, 1) := dAX9_rest (37, (.iload_n 2, 1)) (List.mem_of_getElem? (i := 22) rfl)
theorem dX9_rest_38 : decode cX9_rest 38 = .ok (.iadd, 1) := dAX9_rest (38, (.iadd, 1)) (List.mem_of_getElem? (i := 23) rfl)
theorem dX9_rest_39 : decode cX9_rest 39 = .ok (.ireturn, 1) := dAX9_rest (39, (.ireturn, 1)) (List.mem_of_getElem? (i := 24) rfl)
theorem dX9_rest_40 : decode cX9_rest 40 = .ok (.iinc 2 1, 3) := dAX9_rest (40, (.iinc 2 1, 3)) (List.mem_of_getElem? (i := 25) rfl)
theorem dX9_rest_43 : decode cX9_rest 43 = .ok (.goto (-24), 3) := dAX9_rest (43, (.goto (-24), 3)) (List.mem_of_getElem? (i := 26) rfl)
theorem dX9_rest_46 : decode cX9_rest 46 = .ok (.iinc 1 1, 3) := dAX9_rest (46, (.iinc 1 1, 3)) (List.mem_of_getElem? (i := 27) rfl)
theorem dX9_rest_49 : decode cX9_rest 49 = .ok (.goto (-38), 3) := dAX9_rest (49, (.goto (-38), 3)) (List.mem_of_getElem? (i := 28) rfl)
theorem dX9_rest_52 : decode cX9_rest 52 = .ok (.bipush (-2), 2) := dAX9_rest (52, (.bipush (-2), 2)) (List.mem_of_getElem? (i := 29) rfl)
theorem dX9_rest_54 : decode cX9_rest 54 = .ok (.ireturn, 1) := dAX9_rest (54, (.ireturn, 1)) (List.mem_of_getElem? (i := 30) rfl)
set_option maxRecDepth 20000 in
theorem ggX9_rest_X9_asked : GoodIn wsX9_rest wsX9_asked := goodIn_r _ [5, 6, 7, 14, 15, 16, 17, 18, 19, 20, 21, 22, 23, 24, 25, 26, 27, 28] rfl (by decide +kernel)
set_option maxRecDepth 20000 in
theorem gX9_rest_X9_asked : GoodIn wsX9_rest (wsV RX9 153 RX9 yX9_asked wsX9_asked) := goodIn_app (goodIn_of _ (by decide +kernel)) ggX9_rest_X9_asked
set_option maxRecDepth 20000 in
theorem ggX9_rest_X9_isRest : GoodIn wsX9_rest wsX9_isRest := goodIn_r _ [10, 11, 12, 4, 13] rfl (by decide +kernel)
set_option maxRecDepth 20000 in
theorem gX9_rest_X9_isRest : GoodIn wsX9_rest (va_wsS RX9 287 yX9_isRest wsX9_isRest) := goodIn_app (goodIn_of _ (by decide +kernel)) ggX9_rest_X9_isRest
set_option maxHeartbeats 4000000 in
set_option maxRecDepth 100000 in
theorem wX9_rest_L19 {p : Program} {l : Launch} {e : Env} {s : State} {m : MethodId} {args : Array Value} {below : List Frame} {meth : Method} {c : Code} {g : GG} {A : Nat → Prop} (C0 : Cx p s m args meth c cX9_rest 3 (some .int) RX9 wsX9_rest g A) (a_t : Nat) (p_t : Nat → Nat) (n : Nat) (x1 : Int32) (o_t : Nat → Int32)  (r : Int32) (o_t' : Nat → Int32) (K : Unit → Option (Int32 × (Nat → Int32))) (hKx : ∀  (H : Heap) (locs : List Loc) (ls : Array Slot), K () = some (r, o_t') → va_P g.1 vwCl [oX9 a_t p_t o_t] H → va_D A [oX9 a_t p_t o_t] → va_S A s.heap H locs → lv_has ls 3 [(1, .int x1)] → W p l e ({ frames := 2, cells := 0, slots := 0, locals := 43 } : Room) s m args below meth c H locs 0 0 (MQ below (EndI g r [oX9 a_t p_t o_t'] A) args s 0 0 A) (F0 m 46 ls [])) : ∀ (k : Nat) (x2 : Int32), fX9_rest_L19 n x1 o_t K k x2 = some (r, o_t') → ∀ (H : Heap) (locs : List Loc) (ls : Array Slot), va_P g.1 vwCl [oX9 a_t p_t o_t] H → va_D A [oX9 a_t p_t o_t] → va_S A s.heap H locs → lv_has ls 3 [(1, .int x1), (2, .int x2)] → W p l e ({ frames := 2, cells := 0, slots := 0, locals := 43 } : Room) s m args below meth c H locs 0 0 (MQ below (EndI g r [oX9 a_t p_t o_t'] A) args s 0 0 A) (F0 m 19 ls []) := by
  obtain ⟨hx, hb, hml, hown, hts, hr, hlk, hK, hA, hSW⟩ := id C0
  intro k
  induction k with
  | zero =>
    intro x2 hF
    exact absurd hF (by simp [fX9_rest_L19])
  | succ k ih =>
    intro x2 hF H locs ls hP hD hS hl
    rw [fX9_rest_L19] at hF
    refine lv_iload_n hx hb dX9_rest_19 rfl (lv_at hl 1 rfl) ?_
    refine lv_bipush (v := (6 : Int32)) hx hb dX9_rest_20 (by decide) ?_
    refine lv_icmp_gt (tgt := 46) hx hb dX9_rest_22 (by decide) (fun c_6 => ?_) (fun c_6 => ?_)
    · have hF := it_p c_6 hF
      exact hKx  _ _ _ hF (hP.sub [0] rfl) (hD.sub [0] rfl rfl) hS (lv_sub hl [0] rfl)
    · have hF := it_n c_6 hF
      refine lv_iload_n hx hb dX9_rest_25 rfl (lv_at hl 0 rfl) ?_
      refine lv_iload_n hx hb dX9_rest_26 rfl (lv_at hl 1 rfl) ?_
      obtain ⟨u_7, hu_8, hF⟩ := ob1_some hF
      refine call_si (wr := [oX9 a_t p_t o_t]) (As := [.int x1, .int x2]) (rest := []) C0 (mX9_isRest l g n x1 x2 u_7 hu_8) (va_cwS 2 hts gX9_rest_X9_isRest rfl rfl rfl (by decide +kernel) ⟨Nat.le_of_ble_eq_true rfl, Nat.le_of_ble_eq_true rfl⟩) hP hD hS [] [0] rfl rfl rfl rfl rfl (by decide) hl.1 rfl rfl (Nat.le_of_ble_eq_true rfl) ⟨Nat.zero_le _, Nat.zero_le _⟩ dX9_rest_27 ?_
      intro H locs hP hD hS
      refine lv_if_eq (tgt := 40) hx hb dX9_rest_30 (by decide) (fun c_9 => ?_) (fun c_9 => ?_)
      · have hF := it_p c_9 hF
        refine lv_iinc (v := (x2 + (1 : Int32))) (lv' := [(2, .int (x2 + (1 : Int32))), (1, .int x1)]) hx hb dX9_rest_40 hl (k := 1) rfl rfl (by decide) rfl (fun ls hl => ?_)
        refine lv_goto (tgt := 19) hx hb dX9_rest_43 (by decide) ?_
        exact ih (x2 + (1 : Int32)) hF _ _ _ (hP.sub [0] rfl) (hD.sub [0] rfl rfl) hS (lv_sub hl [1, 0] rfl)
      · have hF := it_n c_9 hF
        refine lv_bipush (v := (10 : Int32)) hx hb dX9_rest_33 (by decide) ?_
        refine lv_iload_n hx hb dX9_rest_35 rfl (lv_at hl 0 rfl) ?_
        refine lv_imul hx hb dX9_rest_36 ?_
        refine lv_iload_n hx hb dX9_rest_37 rfl (lv_at hl 1 rfl) ?_
        refine lv_iadd hx hb dX9_rest_38 ?_
        cases hF
        exact ret_i C0 hP hD hS [0] rfl rfl rfl dX9_rest_39 rfl
set_option maxHeartbeats 4000000 in
set_option maxRecDepth 100000 in
theorem wX9_rest_L11 {p : Program} {l : Launch} {e : Env} {s : State} {m : MethodId} {args : Array Value} {below : List Frame} {meth : Method} {c : Code} {g : GG} {A : Nat → Prop} (C0 : Cx p s m args meth c cX9_rest 3 (some .int) RX9 wsX9_rest g A) (a_t : Nat) (p_t : Nat → Nat) (n : Nat) (o_t : Nat → Int32)  (r : Int32) (o_t' : Nat → Int32) (K : Unit → Option (Int32 × (Nat → Int32))) (hKx : ∀  (H : Heap) (locs : List Loc) (ls : Array Slot), K () = some (r, o_t') → va_P g.1 vwCl [oX9 a_t p_t o_t] H → va_D A [oX9 a_t p_t o_t] → va_S A s.heap H locs → lv_has ls 3 [] → W p l e ({ frames := 2, cells := 0, slots := 0, locals := 43 } : Room) s m args below meth c H locs 0 0 (MQ below (EndI g r [oX9 a_t p_t o_t'] A) args s 0 0 A) (F0 m 52 ls [])) : ∀ (k : Nat) (x1 : Int32), fX9_rest_L11 n o_t K k x1 = some (r, o_t') → ∀ (H : Heap) (locs : List Loc) (ls : Array Slot), va_P g.1 vwCl [oX9 a_t p_t o_t] H → va_D A [oX9 a_t p_t o_t] → va_S A s.heap H locs → lv_has ls 3 [(1, .int x1)] → W p l e ({ frames := 2, cells := 0, slots := 0, locals := 43 } : Room) s m args below meth c H locs 0 0 (MQ below (EndI g r [oX9 a_t p_t o_t'] A) args s 0 0 A) (F0 m 11 ls []) := by
  obtain ⟨hx, hb, hml, hown, hts, hr, hlk, hK, hA, hSW⟩ := id C0
  intro k
  induction k with
  | zero =>
    intro x1 hF
    exact absurd hF (by simp [fX9_rest_L11])
  | succ k ih =>
    intro x1 hF H locs ls hP hD hS hl
    rw [fX9_rest_L11] at hF
    refine lv_iload_n hx hb dX9_rest_11 rfl (lv_at hl 0 rfl) ?_
    refine lv_bipush (v := (6 : Int32)) hx hb dX9_rest_12 (by decide) ?_
    refine lv_icmp_gt (tgt := 52) hx hb dX9_rest_14 (by decide) (fun c_5 => ?_) (fun c_5 => ?_)
    · have hF := it_p c_5 hF
      exact hKx  _ _ _ hF (hP.sub [0] rfl) (hD.sub [0] rfl rfl) hS (lv_sub hl [] rfl)
    · have hF := it_n c_5 hF
      refine lv_iconst (v := (0 : Int32)) hx hb dX9_rest_17 (by decide) ?_
      refine lv_istore_n (lv' := [(2, .int (0 : Int32)), (1, .int x1)]) hx hb dX9_rest_18 rfl hl (by decide) rfl (fun ls hl => ?_)
      refine wX9_rest_L19 C0 a_t p_t n x1 o_t r o_t' _ ?_ n (0 : Int32) hF _ _ _ (hP.sub [0] rfl) (hD.sub [0] rfl rfl) hS (lv_sub hl [1, 0] rfl)
      · intro  H locs ls hF hP hD hS hl
        refine lv_iinc (v := (x1 + (1 : Int32))) (lv' := [(1, .int (x1 + (1 : Int32)))]) hx hb dX9_rest_46 hl (k := 0) rfl rfl (by decide) rfl (fun ls hl => ?_)
        refine lv_goto (tgt := 11) hx hb dX9_rest_49 (by decide) ?_
        exact ih (x1 + (1 : Int32)) hF _ _ _ (hP.sub [0] rfl) (hD.sub [0] rfl rfl) hS (lv_sub hl [0] rfl)
set_option maxHeartbeats 4000000 in
set_option maxRecDepth 100000 in
theorem mX9_rest (l : Launch) (g : GG) (a_t : Nat) (p_t : Nat → Nat) (n : Nat) (o_t : Nat → Int32) (r : Int32) (o_t' : Nat → Int32) (hF : fX9_rest n o_t = some (r, o_t')) : MI l g yX9_rest wsX9_rest ({ frames := 2, cells := 0, slots := 0, locals := 43 } : Room) [.ref a_t] [oX9 a_t p_t o_t] r [oX9 a_t p_t o_t'] := by
  refine MI.of (cc := cX9_rest) (maxL := 3) (rt := .int) (own := RX9) rfl rfl (by decide) (Nat.le_of_ble_eq_true rfl) ?_
  intro p e s m args below meth c A C0 hP hD hS ls hl
  obtain ⟨hx, hb, hml, hown, hts, hr, hlk, hK, hA, hSW⟩ := id C0
  have hl : lv_has ls 3 [(0, .ref a_t)] := hl
  rw [fX9_rest] at hF
  refine lv_aload_n hx hb dX9_rest_0 rfl (lv_at hl 0 rfl) ?_
  obtain ⟨u_1, u_2, hu_3, hF⟩ := ob2_some hF
  refine call_i (wr := []) (As := []) (rest := []) (ci := 9) (q0 := 0) C0 (mX9_asked l g a_t p_t n o_t u_1 u_2 hu_3) (cwV 0 hts gX9_rest_X9_asked rfl rfl rfl (by decide +kernel) ⟨Nat.le_of_ble_eq_true rfl, Nat.le_of_ble_eq_true rfl⟩) hP hD hS [0] [] rfl rfl rfl rfl rfl (by decide) rfl rfl hl.1 rfl rfl (Nat.le_of_ble_eq_true rfl) ⟨Nat.zero_le _, Nat.zero_le _⟩ dX9_rest_1 ?_
  intro H locs hP hD hS
  refine lv_if_ne (tgt := 9) hx hb dX9_rest_4 (by decide) (fun c_4 => ?_) (fun c_4 => ?_)
  · have hF := it_n c_4 hF
    refine lv_iconst (v := (0 : Int32)) hx hb dX9_rest_9 (by decide) ?_
    refine lv_istore_n (lv' := [(1, .int (0 : Int32)), (0, .ref a_t)]) hx hb dX9_rest_10 rfl hl (by decide) rfl (fun ls hl => ?_)
    refine wX9_rest_L11 C0 a_t p_t n u_2 r o_t' _ ?_ n (0 : Int32) hF _ _ _ (hP.sub [0] rfl) (hD.sub [0] rfl rfl) hS (lv_sub hl [0] rfl)
    · intro  H locs ls hF hP hD hS hl
      refine lv_bipush (v := (-2 : Int32)) hx hb dX9_rest_52 (by decide) ?_
      cases hF
      exact ret_i C0 hP hD hS [0] rfl rfl rfl dX9_rest_54 rfl
  · have hF := it_p c_4 hF
    refine lv_iconst (v := (-1 : Int32)) hx hb dX9_rest_7 (by decide) ?_
    cases hF
    exact ret_i C0 hP hD hS [0] rfl rfl rfl dX9_rest_8 rfl

theorem dAX9_endsDrawn : ∀ q ∈ ([(0, (.aload_n 0, 1)), (1, (.getfield 41, 3)), (4, (.aload_n 0, 1)), (5, (.getfield 37, 3)), (8, (.invokevirtual 160, 3)), (11, (.aload_n 0, 1)), (12, (.getfield 41, 3)), (15, (.aload_n 0, 1)), (16, (.getfield 19, 3)), (19, (.aload_n 0, 1)), (20, (.getfield 53, 3)), (23, (.bipush 60, 2)), (25, (.invokevirtual 219, 3)), (28, (.ireturn, 1))] : List (Nat × (Instr × Nat))), decode cX9_endsDrawn q.1 = .ok q.2 := by decide +kernel
theorem dX9_endsDrawn_0 : decode cX9_endsDrawn 0 = .ok (.aload_n 0, 1) := dAX9_endsDrawn (0, (.aload_n 0, 1)) (List.mem_of_getElem? (i := 0) rfl)
theorem dX9_endsDrawn_1 : decode cX9_endsDrawn 1 = .ok (.getfield 41, 3) := dAX9_endsDrawn (1, (.getfield 41, 3)) (List.mem_of_getElem? (i := 1) rfl)
theorem dX9_endsDrawn_4 : decode cX9_endsDrawn 4 = .ok (.aload_n 0, 1) := dAX9_endsDrawn (4, (.aload_n 0, 1)) (List.mem_of_getElem? (i := 2) rfl)
theorem dX9_endsDrawn_5 : decode cX9_endsDrawn 5 = .ok (.getfield 37, 3) := dAX9_endsDrawn (5, (.getfield 37, 3)) (List.mem_of_getElem? (i := 3) rfl)
theorem dX9_endsDrawn_8 : decode cX9_endsDrawn 8 = .ok (.invokevirtual 160, 3) := dAX9_endsDrawn (8, (.invokevirtual 160, 3)) (List.mem_of_getElem? (i := 4) rfl)
theorem dX9_endsDrawn_11 : decode cX9_endsDrawn 11 = .ok (.aload_n 0, 1) := dAX9_endsDrawn (11, (.aload_n 0, 1)) (List.mem_of_getElem? (i := 5) rfl)
theorem dX9_endsDrawn_12 : decode cX9_endsDrawn 12 = .ok (.getfield 41, 3) := dAX9_endsDrawn (12, (.getfield 41, 3)) (List.mem_of_getElem? (i := 6) rfl)
theorem dX9_endsDrawn_15 : decode cX9_endsDrawn 15 = .ok (.aload_n 0, 1) := dAX9_endsDrawn (15, (.aload_n 0, 1)) (List.mem_of_getElem? (i := 7) rfl)
theorem dX9_endsDrawn_16 : decode cX9_endsDrawn 16 = .ok (.getfield 19, 3) := dAX9_endsDrawn (16, (.getfield 19, 3)) (List.mem_of_getElem? (i := 8) rfl)
theorem dX9_endsDrawn_19 : decode cX9_endsDrawn 19 = .ok (.aload_n 0, 1) := dAX9_endsDrawn (19, (.aload_n 0, 1)) (List.mem_of_getElem? (i := 9) rfl)
theorem dX9_endsDrawn_20 : decode cX9_endsDrawn 20 = .ok (.getfield 53, 3) := dAX9_endsDrawn (20, (.getfield 53, 3)) (List.mem_of_getElem? (i := 10) rfl)
theorem dX9_endsDrawn_23 : decode cX9_endsDrawn 23 = .ok (.bipush 60, 2) := dAX9_endsDrawn (23, (.bipush 60, 2)) (List.mem_of_getElem? (i := 11) rfl)
theorem dX9_endsDrawn_25 : decode cX9_endsDrawn 25 = .ok (.invokevirtual 219, 3) := dAX9_endsDrawn (25, (.invokevirtual 219, 3)) (List.mem_of_getElem? (i := 12) rfl)
theorem dX9_endsDrawn_28 : decode cX9_endsDrawn 28 = .ok (.ireturn, 1) := dAX9_endsDrawn (28, (.ireturn, 1)) (List.mem_of_getElem? (i := 13) rfl)
set_option maxRecDepth 20000 in
theorem ggX9_endsDrawn_X2_become : GoodIn wsX9_endsDrawn wsX2_become := goodIn_r _ [9, 10, 11, 12, 13, 14, 15, 16, 17, 18, 19, 83, 84, 85, 86, 87, 88, 89, 90, 91] rfl (by decide +kernel)
set_option maxRecDepth 20000 in
theorem gX9_endsDrawn_X2_become : GoodIn wsX9_endsDrawn (wsV RX9 160 RX2 yX2_become wsX2_become) := goodIn_app (goodIn_of _ (by decide +kernel)) ggX9_endsDrawn_X2_become
set_option maxRecDepth 20000 in
theorem ggX9_endsDrawn_X2_runOut : GoodIn wsX9_endsDrawn wsX2_runOut := goodIn_r _ [23, 24, 11, 25, 26, 27, 8, 28, 10, 29, 30, 31, 32, 33, 34, 14, 35, 36, 37, 38, 39, 40, 41, 42, 43, 44, 45, 46, 47, 48, 49, 50, 51, 52, 53, 54, 55, 56, 57, 58, 59, 60, 61, 62, 63, 64, 65, 19, 66, 67, 83, 84, 85, 86, 87, 88, 89, 90, 91, 92, 93, 94, 95, 96, 97, 98, 99, 100, 101, 102, 103, 104, 105, 106, 107, 108, 109, 110] rfl (by decide +kernel)
set_option maxRecDepth 20000 in
theorem gX9_endsDrawn_X2_runOut : GoodIn wsX9_endsDrawn (wsV RX9 219 RX2 yX2_runOut wsX2_runOut) := goodIn_app (goodIn_of _ (by decide +kernel)) ggX9_endsDrawn_X2_runOut
theorem kX9_endsDrawn_41 : Cond.fieldLink RX9 41 "EveningVow" "trial" "LEveningVow$Night;" ∈ wsX9_endsDrawn := List.mem_of_getElem? (i := 1) rfl
theorem iX9_endsDrawn_X9 : ∀ w ∈ u_ws RX9 TX9 15, w ∈ wsX9_endsDrawn := fun w h => (List.mem_cons_of_mem _ (List.mem_append_left _ (List.mem_append_left _ (List.mem_append_left _ (List.mem_append_right _ h)))))
theorem kX9_endsDrawn_37 : Cond.fieldLink RX9 37 "EveningVow" "now" "LEveningVow$Night;" ∈ wsX9_endsDrawn := List.mem_of_getElem? (i := 2) rfl
theorem kX9_endsDrawn_19 : Cond.fieldLink RX9 19 "EveningVow" "told" "LEveningVow$House;" ∈ wsX9_endsDrawn := List.mem_of_getElem? (i := 3) rfl
theorem kX9_endsDrawn_53 : Cond.fieldLink RX9 53 "EveningVow" "byDraws" "LEveningVow$Pace;" ∈ wsX9_endsDrawn := List.mem_of_getElem? (i := 4) rfl
set_option maxHeartbeats 4000000 in
set_option maxRecDepth 100000 in
theorem mX9_endsDrawn (l : Launch) (g : GG) (a_t : Nat) (p_t : Nat → Nat) (p_t_1 : Nat → Nat) (p_t_5 : Nat → Nat) (p_t_6 : Nat → Nat) (p_t_8 : Nat → Nat) (n : Nat) (o_t : Nat → Int32) (o_t_1 : Nat → Int32) (f_t_1_4 : Nat → Int32) (f_t_1_6 : Nat → Int32) (f_t_1_7 : Nat → Int32) (f_t_1_10 : Nat → Int32) (f_t_1_11 : Nat → Int32) (f_t_1_12 : Nat → Int32) (o_t_5 : Nat → Int32) (f_t_5_6 : Nat → Int32) (f_t_5_7 : Nat → Int32) (o_t_6 : Nat → Int32) (f_t_6_6 : Nat → Int32) (f_t_6_7 : Nat → Int32) (f_t_6_8 : Nat → Int32) (o_t_8 : Nat → Int32) (r : Int32) (o_t_6' : Nat → Int32) (f_t_6_6' : Nat → Int32) (f_t_6_7' : Nat → Int32) (f_t_6_8' : Nat → Int32) (o_t_8' : Nat → Int32) (hF : fX9_endsDrawn n o_t o_t_1 f_t_1_4 f_t_1_6 f_t_1_7 f_t_1_10 f_t_1_11 f_t_1_12 o_t_5 f_t_5_6 f_t_5_7 o_t_6 f_t_6_6 f_t_6_7 f_t_6_8 o_t_8 = some (r, o_t_6', f_t_6_6', f_t_6_7', f_t_6_8', o_t_8')) : MI l g yX9_endsDrawn wsX9_endsDrawn ({ frames := 4, cells := 0, slots := 0, locals := 95 } : Room) [.ref a_t] [oX9 a_t p_t o_t, oX1 (p_t 1) p_t_1 o_t_1, aI g (p_t_1 4) 7 f_t_1_4, aI g (p_t_1 6) 7 f_t_1_6, aI g (p_t_1 7) 7 f_t_1_7, aI g (p_t_1 10) 8 f_t_1_10, aI g (p_t_1 11) 8 f_t_1_11, aI g (p_t_1 12) 8 f_t_1_12, oX2 (p_t 5) p_t_5 o_t_5, aI g (p_t_5 6) 7 f_t_5_6, aI g (p_t_5 7) 7 f_t_5_7, oX2 (p_t 6) p_t_6 o_t_6, aI g (p_t_6 6) 7 f_t_6_6, aI g (p_t_6 7) 7 f_t_6_7, aI g (p_t_6 8) 7 f_t_6_8, oX3 (p_t 8) p_t_8 o_t_8] r [oX9 a_t p_t o_t, oX1 (p_t 1) p_t_1 o_t_1, aI g (p_t_1 4) 7 f_t_1_4, aI g (p_t_1 6) 7 f_t_1_6, aI g (p_t_1 7) 7 f_t_1_7, aI g (p_t_1 10) 8 f_t_1_10, aI g (p_t_1 11) 8 f_t_1_11, aI g (p_t_1 12) 8 f_t_1_12, oX2 (p_t 5) p_t_5 o_t_5, aI g (p_t_5 6) 7 f_t_5_6, aI g (p_t_5 7) 7 f_t_5_7, oX2 (p_t 6) p_t_6 o_t_6', aI g (p_t_6 6) 7 f_t_6_6', aI g (p_t_6 7) 7 f_t_6_7', aI g (p_t_6 8) 7 f_t_6_8', oX3 (p_t 8) p_t_8 o_t_8'] := by
  refine MI.of (cc := cX9_endsDrawn) (maxL := 1) (rt := .int) (own := RX9) rfl rfl (by decide) (Nat.le_of_ble_eq_true rfl) ?_
  intro p e s m args below meth c A C0 hP hD hS ls hl
  obtain ⟨hx, hb, hml, hown, hts, hr, hlk, hK, hA, hSW⟩ := id C0
  have hl : lv_has ls 1 [(0, .ref a_t)] := hl
  rw [fX9_endsDrawn] at hF
  refine lv_aload_n hx hb dX9_endsDrawn_0 rfl (lv_at hl 0 rfl) ?_
  refine va_get (D := g.1) (ci := 9) (v := .ref (p_t 6)) (C := RX9) (T := TX9) (N := 15) hx hb hts iX9_endsDrawn_X9 hown hK.1 hP 0 rfl rfl 6 (by decide) (hts _ kX9_endsDrawn_41) (fun _ h9 => h9) rfl dX9_endsDrawn_1 ?_
  refine lv_aload_n hx hb dX9_endsDrawn_4 rfl (lv_at hl 0 rfl) ?_
  refine va_get (D := g.1) (ci := 9) (v := .ref (p_t 5)) (C := RX9) (T := TX9) (N := 15) hx hb hts iX9_endsDrawn_X9 hown hK.1 hP 0 rfl rfl 5 (by decide) (hts _ kX9_endsDrawn_37) (fun _ h9 => h9) rfl dX9_endsDrawn_5 ?_
  obtain ⟨u_1, u_2, u_3, hu_4, hF⟩ := ob3_some hF
  refine call_v (wr := [oX9 a_t p_t o_t, oX1 (p_t 1) p_t_1 o_t_1, aI g (p_t_1 4) 7 f_t_1_4, aI g (p_t_1 6) 7 f_t_1_6, aI g (p_t_1 7) 7 f_t_1_7, aI g (p_t_1 10) 8 f_t_1_10, aI g (p_t_1 11) 8 f_t_1_11, aI g (p_t_1 12) 8 f_t_1_12, aI g (p_t_6 8) 7 f_t_6_8, oX3 (p_t 8) p_t_8 o_t_8]) (As := [.ref (p_t 5)]) (rest := []) (ci := 2) (q0 := 0) C0 (mX2_become l g (p_t 6) (p_t 5) p_t_6 p_t_5 n o_t_6 f_t_6_6 f_t_6_7 o_t_5 f_t_5_6 f_t_5_7 u_1 u_2 u_3 hu_4) (cwV 1 hts gX9_endsDrawn_X2_become rfl rfl rfl (by decide +kernel) ⟨Nat.le_of_ble_eq_true rfl, Nat.le_of_ble_eq_true rfl⟩) hP hD hS [11, 12, 13, 8, 9, 10] [0, 1, 2, 3, 4, 5, 6, 7, 14, 15] rfl rfl rfl rfl rfl (by decide) rfl rfl hl.1 rfl rfl (Nat.le_of_ble_eq_true rfl) ⟨Nat.zero_le _, Nat.zero_le _⟩ dX9_endsDrawn_8 ?_
  intro H locs hP hD hS
  refine lv_aload_n hx hb dX9_endsDrawn_11 rfl (lv_at hl 0 rfl) ?_
  refine va_get (D := g.1) (ci := 9) (v := .ref (p_t 6)) (C := RX9) (T := TX9) (N := 15) hx hb hts iX9_endsDrawn_X9 hown hK.1 hP 0 rfl rfl 6 (by decide) (hts _ kX9_endsDrawn_41) (fun _ h9 => h9) rfl dX9_endsDrawn_12 ?_
  refine lv_aload_n hx hb dX9_endsDrawn_15 rfl (lv_at hl 0 rfl) ?_
  refine va_get (D := g.1) (ci := 9) (v := .ref (p_t 1)) (C := RX9) (T := TX9) (N := 15) hx hb hts iX9_endsDrawn_X9 hown hK.1 hP 0 rfl rfl 1 (by decide) (hts _ kX9_endsDrawn_19) (fun _ h9 => h9) rfl dX9_endsDrawn_16 ?_
  refine lv_aload_n hx hb dX9_endsDrawn_19 rfl (lv_at hl 0 rfl) ?_
  refine va_get (D := g.1) (ci := 9) (v := .ref (p_t 8)) (C := RX9) (T := TX9) (N := 15) hx hb hts iX9_endsDrawn_X9 hown hK.1 hP 0 rfl rfl 8 (by decide) (hts _ kX9_endsDrawn_53) (fun _ h9 => h9) rfl dX9_endsDrawn_20 ?_
  refine lv_bipush (v := (60 : Int32)) hx hb dX9_endsDrawn_23 (by decide) ?_
  obtain ⟨u_5, u_6, u_7, u_8, u_9, u_10, hu_11, hF⟩ := ob6_some hF
  refine call_i (wr := [oX9 a_t p_t o_t, oX2 (p_t 5) p_t_5 o_t_5, aI g (p_t_5 6) 7 f_t_5_6, aI g (p_t_5 7) 7 f_t_5_7]) (As := [.ref (p_t 1), .ref (p_t 8), .int (60 : Int32)]) (rest := []) (ci := 2) (q0 := 0) C0 (mX2_runOut l g (p_t 6) (p_t 1) (p_t 8) p_t_6 p_t_1 p_t_8 n (60 : Int32) u_1 u_2 u_3 f_t_6_8 o_t_1 f_t_1_4 f_t_1_6 f_t_1_7 f_t_1_10 f_t_1_11 f_t_1_12 o_t_8 u_5 u_6 u_7 u_8 u_9 u_10 hu_11) (cwV 3 hts gX9_endsDrawn_X2_runOut rfl rfl rfl (by decide +kernel) ⟨Nat.le_of_ble_eq_true rfl, Nat.le_of_ble_eq_true rfl⟩) hP hD hS [10, 11, 12, 8, 1, 2, 3, 4, 5, 6, 7, 9] [0, 13, 14, 15] rfl rfl rfl rfl rfl (by decide) rfl rfl hl.1 rfl rfl (Nat.le_of_ble_eq_true rfl) ⟨Nat.zero_le _, Nat.zero_le _⟩ dX9_endsDrawn_25 ?_
  intro H locs hP hD hS
  cases hF
  exact ret_i C0 hP hD hS [0, 8, 9, 10, 11, 12, 13, 14, 1, 2, 3, 4, 5, 6, 7, 15] rfl rfl rfl dX9_endsDrawn_28 rfl

