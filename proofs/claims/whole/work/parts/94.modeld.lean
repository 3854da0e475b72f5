theorem dAX10_endsWithCup : ∀ q ∈ ([(0, (.aload_n 0, 1)), (1, (.invokevirtual 159, 3)), (4, (.aload_n 0, 1)), (5, (.iload_n 1, 1)), (6, (.invokevirtual 312, 3)), (9, (.ifCond .eq 15, 3)), (12, (.aload_n 0, 1)), (13, (.aload_n 0, 1)), (14, (.iload_n 1, 1)), (15, (.invokevirtual 312, 3)), (18, (.invokevirtual 162, 3)), (21, (.goto 8, 3)), (24, (.aload_n 0, 1)), (25, (.iload_n 1, 1)), (26, (.invokevirtual 353, 3)), (29, (.ireturn, 1))] : List (Nat × (Instr × Nat))), decode cX10_endsWithCup q.1 = .ok q.2 := by decide +kernel
theorem dX10_endsWithCup_0 : decode cX10_endsWithCup 0 = .ok (.aload_n 0, 1) := dAX10_endsWithCup (0, (.aload_n 0, 1)) (List.mem_of_getElem? (i := 0) rfl)
theorem dX10_endsWithCup_1 : decode cX10_endsWithCup 1 = .ok (.invokevirtual 159, 3) := dAX10_endsWithCup (1, (.invokevirtual 159, 3)) (List.mem_of_getElem? (i := 1) rfl)
theorem dX10_endsWithCup_4 : decode cX10_endsWithCup 4 = .ok (.aload_n 0, 1) := dAX10_endsWithCup (4, (.aload_n 0, 1)) (List.mem_of_getElem? (i := 2) rfl)
theorem dX10_endsWithCup_5 : decode cX10_endsWithCup 5 = .ok (.iload_n 1, 1) := dAX10_endsWithCup (5, (.iload_n 1, 1)) (List.mem_of_getElem? (i := 3) rfl)
theorem dX10_endsWithCup_6 : decode cX10_endsWithCup 6 = .ok (.invokevirtual 312, 3) := dAX10_endsWithCup (6, (.invokevirtual 312, 3)) (List.mem_of_getElem? (i := 4) rfl)
theorem dX10_endsWithCup_9 : decode cX10_endsWithCup 9 = .ok (.ifCond .eq 15, 3) := dAX10_endsWithCup (9, (.ifCond .eq 15, 3)) (List.mem_of_getElem? (i := 5) rfl)
theorem dX10_endsWithCup_12 : decode cX10_endsWithCup 12 = .ok (.aload_n 0, 1) := dAX10_endsWithCup (12, (.aload_n 0, 1)) (List.mem_of_getElem? (i := 6) rfl)
theorem dX10_endsWithCup_13 : decode cX10_endsWithCup 13 = .ok (.aload_n 0, 1) := dAX10_endsWithCup (13, (.aload_n 0, 1)) (List.mem_of_getElem? (i := 7) rfl)
theorem dX10_endsWithCup_14 : decode cX10_endsWithCup 14 = .ok (.iload_n 1, 1) := dAX10_endsWithCup (14, (.iload_n 1, 1)) (List.mem_of_getElem? (i := 8) rfl)
theorem dX10_endsWithCup_15 : decode cX10_endsWithCup 15 = .ok (.invokevirtual 312, 3) := dAX10_endsWithCup (15, (.invokevirtual 312, 3)) (List.mem_of_getElem? (i := 9) rfl)
theorem dX10_endsWithCup_18 : decode cX10_endsWithCup 18 = .ok (.invokevirtual 162, 3) := dAX10_endsWithCup (18, (.invokevirtual 162, 3)) (List.mem_of_getElem? (i := 10) rfl)
theorem dX10_endsWithCup_21 : decode cX10_endsWithCup 21 = .ok (.goto 8, 3) := dAX10_endsWithCup (21, (.goto 8, 3)) (List.mem_of_getElem? (i := 11) rfl)
theorem dX10_endsWithCup_24 : decode cX10_endsWithCup 24 = .ok (.aload_n 0, 1) := dAX10_endsWithCup (24, (.aload_n 0, 1)) (List.mem_of_getElem? (i := 12) rfl)
theorem dX10_endsWithCup_25 : decode cX10_endsWithCup 25 = .ok (.iload_n 1, 1) := dAX10_endsWithCup (25, (.iload_n 1, 1)) (List.mem_of_getElem? (i := 13) rfl)
theorem dX10_endsWithCup_26 : decode cX10_endsWithCup 26 = .ok (.invokevirtual 353, 3) := dAX10_endsWithCup (26, (.invokevirtual 353, 3)) (List.mem_of_getElem? (i := 14) rfl)
theorem dX10_endsWithCup_29 : decode cX10_endsWithCup 29 = .ok (.ireturn, 1) := dAX10_endsWithCup (29, (.ireturn, 1)) (List.mem_of_getElem? (i := 15) rfl)
set_option maxRecDepth 20000 in
theorem ggX10_endsWithCup_X10_good : GoodIn wsX10_endsWithCup wsX10_good := goodIn_r _ [5, 6, 7, 84, 85, 86, 87, 88, 89, 90, 91, 92, 93, 94, 95, 96, 97, 98, 99, 100, 101, 102, 103, 104, 105, 106, 107, 108, 109, 110, 111, 112, 113, 114, 115, 116, 117, 118] rfl (by decide +kernel)
set_option maxRecDepth 20000 in
theorem gX10_endsWithCup_X10_good : GoodIn wsX10_endsWithCup (wsV RX10 159 RX10 yX10_good wsX10_good) := goodIn_app (goodIn_of _ (by decide +kernel)) ggX10_endsWithCup_X10_good
set_option maxRecDepth 20000 in
theorem ggX10_endsWithCup_X10_thereWhy : GoodIn wsX10_endsWithCup wsX10_thereWhy := goodIn_r _ [11, 12, 13, 14, 15, 4, 16, 17, 18, 19, 20, 21, 22, 23, 24, 84, 85, 86, 87, 88, 89, 90, 91, 92, 93, 94, 95, 96, 97, 98, 99, 100, 101, 102, 103, 104, 105, 106, 107, 108, 109, 110, 111, 112, 113, 114, 115, 116, 117, 118] rfl (by decide +kernel)
set_option maxRecDepth 20000 in
theorem gX10_endsWithCup_X10_thereWhy : GoodIn wsX10_endsWithCup (wsV RX10 312 RX10 yX10_thereWhy wsX10_thereWhy) := goodIn_app (goodIn_of _ (by decide +kernel)) ggX10_endsWithCup_X10_thereWhy
set_option maxRecDepth 20000 in
theorem ggX10_endsWithCup_X10_no : GoodIn wsX10_endsWithCup wsX10_no := goodIn_r _ [28, 7, 84, 85, 86, 87, 88, 89, 90, 91, 92, 93, 94, 95, 96, 97, 98, 99, 100, 101, 102, 103, 104, 105, 106, 107, 108, 109, 110, 111, 112, 113, 114, 115, 116, 117, 118] rfl (by decide +kernel)
set_option maxRecDepth 20000 in
theorem gX10_endsWithCup_X10_no : GoodIn wsX10_endsWithCup (wsV RX10 162 RX10 yX10_no wsX10_no) := goodIn_app (goodIn_of _ (by decide +kernel)) ggX10_endsWithCup_X10_no
set_option maxRecDepth 20000 in
theorem ggX10_endsWithCup_X10_endsByCup : GoodIn wsX10_endsWithCup wsX10_endsByCup := goodIn_r _ [32, 12, 33, 18, 34, 35, 4, 36, 37, 38, 39, 40, 41, 42, 43, 44, 45, 22, 23, 24, 46, 47, 48, 49, 50, 51, 52, 53, 54, 55, 56, 57, 58, 59, 60, 61, 62, 63, 64, 65, 66, 67, 68, 69, 70, 71, 72, 73, 74, 75, 76, 77, 78, 79, 80, 81, 82, 83, 84, 85, 86, 87, 88, 89, 90, 91, 92, 93, 94, 95, 96, 97, 98, 99, 100, 101, 102, 103, 104, 105, 106, 107, 108, 109, 110, 111, 112, 113, 114, 115, 116, 117, 118] rfl (by decide +kernel)
set_option maxRecDepth 20000 in
theorem gX10_endsWithCup_X10_endsByCup : GoodIn wsX10_endsWithCup (wsV RX10 353 RX10 yX10_endsByCup wsX10_endsByCup) := goodIn_app (goodIn_of _ (by decide +kernel)) ggX10_endsWithCup_X10_endsByCup
set_option maxHeartbeats 4000000 in
set_option maxRecDepth 100000 in
theorem mX10_endsWithCup (l : Launch) (g : GG) (a_t : Nat) (p_t : Nat → Nat) (n : Nat) (x1 : Int32) (o_t : Nat → Int32) (f_t_15 : Nat → Int32) (f_t_17 : Nat → Int32) (f_t_25 : Nat → Int32) (r : Int32) (o_t' : Nat → Int32) (f_t_25' : Nat → Int32) (hF : fX10_endsWithCup n x1 o_t f_t_15 f_t_17 f_t_25 = some (r, o_t', f_t_25')) : MI l g yX10_endsWithCup wsX10_endsWithCup ({ frames := 6, cells := 0, slots := 0, locals := 137 } : Room) [.ref a_t, .int x1] [oX10 a_t p_t o_t, aI g (p_t 15) 266 f_t_15, aI g (p_t 17) 17 f_t_17, aI g (p_t 25) 17 f_t_25] r [oX10 a_t p_t o_t', aI g (p_t 15) 266 f_t_15, aI g (p_t 17) 17 f_t_17, aI g (p_t 25) 17 f_t_25'] := by
  refine MI.of (cc := cX10_endsWithCup) (maxL := 2) (rt := .int) (own := RX10) rfl rfl (by decide) (Nat.le_of_ble_eq_true rfl) ?_
  intro p e s m args below meth c A C0 hP hD hS ls hl
  obtain ⟨hx, hb, hml, hown, hts, hr, hlk, hK, hA, hSW⟩ := id C0
  have hl : lv_has ls 2 [(0, .ref a_t), (1, .int x1)] := hl
  rw [fX10_endsWithCup] at hF
  refine lv_aload_n hx hb dX10_endsWithCup_0 rfl (lv_at hl 0 rfl) ?_
  obtain ⟨u_1, hu_2, hF⟩ := ob1_some hF
  refine call_v (wr := [aI g (p_t 15) 266 f_t_15, aI g (p_t 17) 17 f_t_17, aI g (p_t 25) 17 f_t_25]) (As := []) (rest := []) (ci := 10) (q0 := 0) C0 (mX10_good l g a_t p_t n o_t u_1 hu_2) (cwV 0 hts gX10_endsWithCup_X10_good rfl rfl rfl (by decide +kernel) ⟨Nat.le_of_ble_eq_true rfl, Nat.le_of_ble_eq_true rfl⟩) hP hD hS [0] [1, 2, 3] rfl rfl rfl rfl rfl (by decide) rfl rfl hl.1 rfl rfl (Nat.le_of_ble_eq_true rfl) ⟨Nat.zero_le _, Nat.zero_le _⟩ dX10_endsWithCup_1 ?_
  intro H locs hP hD hS
  refine lv_aload_n hx hb dX10_endsWithCup_4 rfl (lv_at hl 0 rfl) ?_
  refine lv_iload_n hx hb dX10_endsWithCup_5 rfl (lv_at hl 1 rfl) ?_
  obtain ⟨u_3, hu_4, hF⟩ := ob1_some hF
  refine call_i (wr := [aI g (p_t 25) 17 f_t_25]) (As := [.int x1]) (rest := []) (ci := 10) (q0 := 0) C0 (mX10_thereWhy l g a_t p_t n x1 u_1 f_t_15 f_t_17 u_3 hu_4) (cwV 1 hts gX10_endsWithCup_X10_thereWhy rfl rfl rfl (by decide +kernel) ⟨Nat.le_of_ble_eq_true rfl, Nat.le_of_ble_eq_true rfl⟩) hP hD hS [3, 0, 1] [2] rfl rfl rfl rfl rfl (by decide) rfl rfl hl.1 rfl rfl (Nat.le_of_ble_eq_true rfl) ⟨Nat.zero_le _, Nat.zero_le _⟩ dX10_endsWithCup_6 ?_
  intro H locs hP hD hS
  refine lv_if_eq (tgt := 24) hx hb dX10_endsWithCup_9 (by decide) (fun c_5 => ?_) (fun c_5 => ?_)
  · have hF := it_p c_5 hF
    refine lv_aload_n hx hb dX10_endsWithCup_24 rfl (lv_at hl 0 rfl) ?_
    refine lv_iload_n hx hb dX10_endsWithCup_25 rfl (lv_at hl 1 rfl) ?_
    obtain ⟨u_6, u_7, u_8, hu_9, hF⟩ := ob3_some hF
    refine call_i (wr := []) (As := [.int x1]) (rest := []) (ci := 10) (q0 := 0) C0 (mX10_endsByCup l g a_t p_t n x1 u_1 f_t_15 f_t_17 f_t_25 u_6 u_7 u_8 hu_9) (cwV 1 hts gX10_endsWithCup_X10_endsByCup rfl rfl rfl (by decide +kernel) ⟨Nat.le_of_ble_eq_true rfl, Nat.le_of_ble_eq_true rfl⟩) hP hD hS [1, 2, 3, 0] [] rfl rfl rfl rfl rfl (by decide) rfl rfl hl.1 rfl rfl (Nat.le_of_ble_eq_true rfl) ⟨Nat.zero_le _, Nat.zero_le _⟩ dX10_endsWithCup_26 ?_
    intro H locs hP hD hS
    cases hF
    exact ret_i C0 hP hD hS [0, 1, 2, 3] rfl rfl rfl dX10_endsWithCup_29 rfl
  · have hF := it_n c_5 hF
    refine lv_aload_n hx hb dX10_endsWithCup_12 rfl (lv_at hl 0 rfl) ?_
    refine lv_aload_n hx hb dX10_endsWithCup_13 rfl (lv_at hl 0 rfl) ?_
    refine lv_iload_n hx hb dX10_endsWithCup_14 rfl (lv_at hl 1 rfl) ?_
    obtain ⟨u_10, hu_11, hF⟩ := ob1_some hF
    refine call_i (wr := [aI g (p_t 25) 17 f_t_25]) (As := [.int x1]) (rest := [.ref a_t]) (ci := 10) (q0 := 0) C0 (mX10_thereWhy l g a_t p_t n x1 u_1 f_t_15 f_t_17 u_10 hu_11) (cwV 1 hts gX10_endsWithCup_X10_thereWhy rfl rfl rfl (by decide +kernel) ⟨Nat.le_of_ble_eq_true rfl, Nat.le_of_ble_eq_true rfl⟩) hP hD hS [1, 2, 3] [0] rfl rfl rfl rfl rfl (by decide) rfl rfl hl.1 rfl rfl (Nat.le_of_ble_eq_true rfl) ⟨Nat.zero_le _, Nat.zero_le _⟩ dX10_endsWithCup_15 ?_
    intro H locs hP hD hS
    obtain ⟨u_12, u_13, hu_14, hF⟩ := ob2_some hF
    refine call_i (wr := [aI g (p_t 25) 17 f_t_25, aI g (p_t 15) 266 f_t_15, aI g (p_t 17) 17 f_t_17]) (As := [.int u_10]) (rest := []) (ci := 10) (q0 := 0) C0 (mX10_no l g a_t p_t n u_10 u_1 u_12 u_13 hu_14) (cwV 1 hts gX10_endsWithCup_X10_no rfl rfl rfl (by decide +kernel) ⟨Nat.le_of_ble_eq_true rfl, Nat.le_of_ble_eq_true rfl⟩) hP hD hS [1] [0, 2, 3] rfl rfl rfl rfl rfl (by decide) rfl rfl hl.1 rfl rfl (Nat.le_of_ble_eq_true rfl) ⟨Nat.zero_le _, Nat.zero_le _⟩ dX10_endsWithCup_18 ?_
    intro H locs hP hD hS
    refine lv_goto (tgt := 29) hx hb dX10_endsWithCup_21 (by decide) ?_
    cases hF
    exact ret_i C0 hP hD hS [3, 1, 2, 0] rfl rfl rfl dX10_endsWithCup_29 rfl

theorem dAX10_bestCup : ∀ q ∈ ([(0, (.aload_n 0, 1)), (1, (.invokevirtual 159, 3)), (4, (.aload_n 0, 1)), (5, (.getfield 176, 3)), (8, (.ifCond .ne 9, 3)), (11, (.aload_n 0, 1)), (12, (.iconst 1, 1)), (13, (.invokevirtual 162, 3)), (16, (.ireturn, 1)), (17, (.bipush (-2), 2)), (19, (.istore_n 1, 1)), (20, (.iconst (-1), 1)), (21, (.istore_n 2, 1)), (22, (.iconst 0, 1)), (23, (.istore_n 3, 1)), (24, (.iload_n 3, 1)), (25, (.aload_n 0, 1)), (26, (.getfield 20, 3)), (29, (.iconst 3, 1)), (30, (.iaload, 1)), (31, (.if_icmp .ge 58, 3)), (34, (.aload_n 0, 1)), (35, (.getfield 26, 3)), (38, (.iload_n 3, 1)), (39, (.invokestatic 248, 3)), (42, (.ifCond .ne 6, 3)), (45, (.goto 38, 3)), (48, (.aload_n 0, 1)), (49, (.iload_n 3, 1)), (50, (.invokevirtual 353, 3)), (53, (.ifCond .ge 9, 3)), (56, (.ldc_w 321, 3)), (59, (.goto 8, 3)), (62, (.aload_n 0, 1)), (63, (.iload_n 3, 1)), (64, (.invokevirtual 353, 3)), (67, (.istore 4, 2)), (69, (.iload 4, 2)), (71, (.iload_n 2, 1)), (72, (.if_icmp .gt 6, 3)), (75, (.goto 8, 3)), (78, (.iload_n 3, 1)), (79, (.istore_n 1, 1)), (80, (.iload 4, 2)), (82, (.istore_n 2, 1)), (83, (.iinc 3 1, 3)), (86, (.goto (-62), 3)), (89, (.iload_n 1, 1)), (90, (.ireturn, 1))] : List (Nat × (Instr × Nat))), decode cX10_bestCup q.1 = .ok q.2 := by decide +kernel
theorem dX10_bestCup_0 : decode cX10_bestCup 0 = .ok (.aload_n 0, 1) := dAX10_bestCup (0, (.aload_n 0, 1)) (List.mem_of_getElem? (i := 0) rfl)
theorem dX10_bestCup_1 : decode cX10_bestCup 1 = .ok (.invokevirtual 159, 3) := dAX10_bestCup (1, (.invokevirtual 159, 3)) (List.mem_of_getElem? (i := 1) rfl)
theorem dX10_bestCup_4 : decode cX10_bestCup 4 = .ok (.aload_n 0, 1) := dAX10_bestCup (4, (.aload_n 0, 1)) (List.mem_of_getElem? (i := 2) rfl)
theorem dX10_bestCup_5 : decode cX10_bestCup 5 = .ok (.getfield 176, 3) := dAX10_bestCup (5, (.getfield 176, 3)) (List.mem_of_getElem? (i := 3) rfl)
theorem dX10_bestCup_8 : decode cX10_bestCup 8 = .ok (.ifCond .ne 9, 3) := dAX10_bestCup (8, (.ifCond .ne 9, 3)) (List.mem_of_getElem? (i := 4) rfl)
theorem dX10_bestCup_11 : decode cX10_bestCup 11 = .ok (.aload_n 0, 1) := dAX10_bestCup (11, (.aload_n 0, 1)) (List.mem_of_getElem? (i := 5) rfl)
theorem dX10_bestCup_12 : decode cX10_bestCup 12 = .ok (.iconst 1, 1) := dAX10_bestCup (12, (.iconst 1, 1)) (List.mem_of_getElem? (i := 6) rfl)
theorem dX10_bestCup_13 : decode cX10_bestCup 13 = .ok (.invokevirtual 162, 3) := dAX10_bestCup (13, (.invokevirtual 162, 3)) (List.mem_of_getElem? (i := 7) rfl)
theorem dX10_bestCup_16 : decode cX10_bestCup 16 = .ok (.ireturn, 1) := dAX10_bestCup (16, (.ireturn, 1)) (List.mem_of_getElem? (i := 8) rfl)
theorem dX10_bestCup_17 : decode cX10_bestCup 17 = .ok (.bipush (-2), 2) := dAX10_bestCup (17, (.bipush (-2), 2)) (List.mem_of_getElem? (i := 9) rfl)
theorem dX10_bestCup_19 : decode cX10_bestCup 19 = .ok (.istore_n 1, 1) := dAX10_bestCup (19, (.istore_n 1, 1)) (List.mem_of_getElem? (i := 10) rfl)
theorem dX10_bestCup_20 : decode cX10_bestCup 20 = .ok (.iconst (-1), 1) := dAX10_bestCup (20, (.iconst (-1), 1)) (List.mem_of_getElem? (i := 11) rfl)
theorem dX10_bestCup_21 : decode cX10_bestCup 21 = .ok (.istore_n 2, 1) := dAX10_bestCup (21, (.istore_n 2, 1)) (List.mem_of_getElem? (i := 12) rfl)
theorem dX10_bestCup_22 : decode cX10_bestCup 22 = .ok (.iconst 0, 1) := dAX10_bestCup (22, (.iconst 0, 1)) (List.mem_of_getElem? (i := 13) rfl)
theorem dX10_bestCup_23 : decode cX10_bestCup 23 = .ok (.istore_n 3, 1) := dAX10_bestCup (23, (.istore_n 3, 1)) (List.mem_of_getElem? (i := 14) rfl)
theorem dX10_bestCup_24 : decode cX10_bestCup 24 = .ok (.iload_n 3, 1) := dAX10_bestCup (24, (.iload_n 3, 1)) (List.mem_of_getElem? (i := 15) rfl)
theorem dX10_bestCup_25 : decode cX10_bestCup 25 = .ok (.aload_n 0, 1) := dAX10_bestCup (25, (.aload_n 0, 1)) (List.mem_of_getElem? (i := 16) rfl)
theorem dX10_bestCup_26 : decode cX10_bestCup 26 = .ok (.getfield 20, 3) := dAX10_bestCup (26, (.getfield 20, 3)) (List.mem_of_getElem? (i := 17) rfl)
theorem dX10_bestCup_29 : decode cX10_bestCup 29 = .ok (.iconst 3, 1) := dAX10_bestCup (29, (.iconst 3, 1)) (List.mem_of_getElem? (i := 18) rfl)
theorem dX10_bestCup_30 : decode cX10_bestCup 30 = .ok (.iaload, 1) := dAX10_bestCup (30, (.iaload, 1)) (List.mem_of_getElem? (i := 19) rfl)
theorem dX10_bestCup_31 : decode cX10_bestCup 31 = .ok (.if_icmp .ge 58, 3) := dAX10_bestCup (31, (.if_icmp .ge 58, 3)) (List.mem_of_getElem? (i := 20) rfl)
theorem dX10_bestCup_34 : decode cX10_bestCup 34 = .ok (.aload_n 0, 1) := dAX10_bestCup (34, (.aload_n 0, 1)) (List.mem_of_getElem? (i := 21) rfl)
theorem dX10_bestCup_35 : decode cX10_bestCup 35 = .ok (.getfield 26, 3) := dAX10_bestCup (35, (.getfield 26, 3)) (List.mem_of_getElem? (i := 22) rfl)
theorem dX10_bestCup_38 : decode cX10_bestCup 38 = .ok (.iload_n 3, 1) := dAX10_bestCup (38, (.iload_n 3, 1)) (List.mem_of_getElem? (i := 23) rfl)
theorem dX10_bestCup_39 : decode cX10_bestCup 39 = .ok (.invokestatic 248, 3) := dAX10_bestCup (39, (.invokestatic 248, 3)) (List.mem_of_getElem? (i := 24) rfl)
theorem dX10_bestCup_42 : decode cX10_bestCup 42 = .ok (.ifCond .ne 6, 3) := dAX10_bestCup (42, (.ifCond .ne 6, 3)) (List.mem_of_getElem? (i := 25) rfl)
theorem dX10_bestCup_45 : decode cX10_bestCup 45 = .ok (.goto 38, 3) := dAX10_bestCup (45, (.goto 38, 3)) (List.mem_of_getElem? (i := 26) rfl)
theorem dX10_bestCup_48 : decode cX10_bestCup 48 = .ok (.aload_n 0, 1) := dAX10_bestCup (48, (.aload_n 0, 1)) (List.mem_of_getElem? (i := 27) rfl)
theorem dX10_bestCup_49 : decode cX10_bestCup 49 = .ok (.iload_n 3, 1) := dAX10_bestCup (49, (.iload_n 3, 1)) (List.mem_of_getElem? (i := 28) rfl)
theorem dX10_bestCup_50 : decode cX10_bestCup 50 = .ok (.invokevirtual 353, 3) := dAX10_bestCup (50, (.invokevirtual 353, 3)) (List.mem_of_getElem? (i := 29) rfl)
theorem dX10_bestCup_53 : decode cX10_bestCup 53 = .ok (.ifCond .ge 9, 3) := dAX10_bestCup (53, (.ifCond .ge 9, 3)) (List.mem_of_getElem? (i := 30) rfl)
theorem dX10_bestCup_56 : decode cX10_bestCup 56 = .ok (.ldc_w 321, 3) := dAX10_bestCup (56, (.ldc_w 321, 3)) (List.mem_of_getElem? (i := 31) rfl)
theorem dX10_bestCup_59 : decode cX10_bestCup 59 = .ok (.goto 8, 3) := dAX10_bestCup (59, (.goto 8, 3)) (List.mem_of_getElem? (i := 32) rfl)
theorem dX10_bestCup_62 : decode cX10_bestCup 62 = .ok (.aload_n 0, 1) := dAX10_bestCup (62, (.aload_n 0, 1)) (List.mem_of_getElem? (i := 33) rfl)
theorem dX10_bestCup_63 : decode cX10_bestCup 63 = .ok (.iload_n 3, 1) := dAX10_bestCup (63, (.iload_n 3, 1)) (List.mem_of_getElem? (i := 34) rfl)
theorem dX10_bestCup_64 : decode cX10_bestCup 64 = .ok (.invokevirtual 353, 3) := dAX10_bestCup (64, (.invokevirtual 353, 3)) (List.mem_of_getElem? (i := 35) rfl)
theorem dX10_bestCup_67 : decode cX10_bestCup 67 = .ok (.istore 4, 2) := dAX10_bestCup (67, (.istore 4, 2)) (List.mem_of_getElem? (i := 36) rfl)
theorem dX10_bestCup_69 : decode cX10_bestCup 69 = .ok (.iload 4, 2) := dAX10_bestCup (69, (.iload 4, 2)) (List.mem_of_getElem? (i := 37) rfl)
theorem dX10_bestCup_71 : decode cX10_bestCup 71 = .ok (.iload_n 2, 1) := dAX10_bestCup (71, (.iload_n 2, 1)) (List.mem_of_getElem? (i := 38) rfl)
theorem dX10_bestCup_72 : decode cX10_bestCup 72 = .ok (.if_icmp .gt 6, 3) := dAX10_bestCup (72, (.if_icmp .gt 6, 3)) (List.mem_of_getElem? (i := 39) rfl)
theorem dX10_bestCup_75 : decode cX10_bestCup 75 = .ok (.goto 8, 3) := dAX10_bestCup (75, (.goto 8, 3)) (List.mem_of_getElem? (i := 40) rfl)
theorem dX10_bestCup_78 : decode cX10_bestCup 78 = .ok (.iload_n 3, 1) := dAX10_bestCup (78, (.iload_n 3, 1)) (List.mem_of_getElem? (i := 41) rfl)
theorem dX10_bestCup_79 : decode cX10_bestCup 79 = .ok (.istore_n 1, 1) := dAX10_bestCup (79, (.istore_n 1, 1)) (List.mem_of_getElem? (i := 42) rfl)
theorem dX10_bestCup_80 : decode cX10_bestCup 80 = .ok (.iload 4, 2) := dAX10_bestCup (80, (.iload 4, 2)) (List.mem_of_getElem? (i := 43) rfl)
theorem dX10_bestCup_82 : decode cX10_bestCup 82 = .ok (.istore_n 2, 1) := dAX10_bestCup (82, (.istore_n 2, 1)) (List.mem_of_getElem? (i := 44) rfl)
theorem dX10_bestCup_83 : decode cX10_bestCup 83 = .ok (.iinc 3 1, 3) := dAX10_bestCup (83, (.iinc 3 1, 3)) (List.mem_of_getElem? (i := 45) rfl)
theorem dX10_bestCup_86 : decode cX10_bestCup 86 = .ok (.goto (-62), 3) := dAX10_bestCup (86, (.goto (-62), 3)) (List.mem_of_getElem? (i := 46) rfl)
theorem dX10_bestCup_89 : decode cX10_bestCup 89 = .ok (.iload_n 1, 1) := dAX10_bestCup (89, (.iload_n 1, 1)) (List.mem_of_getElem? (i := 47) rfl)
theorem dX10_bestCup_90 : decode cX10_bestCup 90 = .ok (.ireturn, 1) := dAX10_bestCup (90, (.ireturn, 1)) (List.mem_of_getElem? (i := 48) rfl)
set_option maxRecDepth 20000 in
theorem ggX10_bestCup_X10_good : GoodIn wsX10_bestCup wsX10_good := goodIn_r _ [9, 10, 11, 74, 75, 76, 77, 78, 79, 80, 81, 82, 83, 84, 85, 86, 87, 88, 89, 90, 91, 92, 93, 94, 95, 96, 97, 98, 99, 100, 101, 102, 103, 104, 105, 106, 107, 108] rfl (by decide +kernel)
set_option maxRecDepth 20000 in
theorem gX10_bestCup_X10_good : GoodIn wsX10_bestCup (wsV RX10 159 RX10 yX10_good wsX10_good) := goodIn_app (goodIn_of _ (by decide +kernel)) ggX10_bestCup_X10_good
set_option maxRecDepth 20000 in
theorem ggX10_bestCup_X10_no : GoodIn wsX10_bestCup wsX10_no := goodIn_r _ [15, 11, 74, 75, 76, 77, 78, 79, 80, 81, 82, 83, 84, 85, 86, 87, 88, 89, 90, 91, 92, 93, 94, 95, 96, 97, 98, 99, 100, 101, 102, 103, 104, 105, 106, 107, 108] rfl (by decide +kernel)
set_option maxRecDepth 20000 in
theorem gX10_bestCup_X10_no : GoodIn wsX10_bestCup (wsV RX10 162 RX10 yX10_no wsX10_no) := goodIn_app (goodIn_of _ (by decide +kernel)) ggX10_bestCup_X10_no
set_option maxRecDepth 20000 in
theorem ggX10_bestCup_X10_isIn : GoodIn wsX10_bestCup wsX10_isIn := goodIn_r _ [18] rfl (by decide +kernel)
set_option maxRecDepth 20000 in
theorem gX10_bestCup_X10_isIn : GoodIn wsX10_bestCup (va_wsS RX10 248 yX10_isIn wsX10_isIn) := goodIn_app (goodIn_of _ (by decide +kernel)) ggX10_bestCup_X10_isIn
set_option maxRecDepth 20000 in
theorem ggX10_bestCup_X10_endsByCup : GoodIn wsX10_bestCup wsX10_endsByCup := goodIn_r _ [22, 3, 23, 2, 24, 25, 8, 26, 27, 28, 29, 30, 31, 32, 33, 34, 35, 16, 17, 18, 36, 37, 38, 39, 40, 41, 42, 43, 44, 45, 46, 47, 48, 49, 50, 51, 52, 53, 54, 55, 56, 57, 58, 59, 60, 61, 62, 63, 64, 65, 66, 67, 68, 69, 70, 71, 72, 73, 74, 75, 76, 77, 78, 79, 80, 81, 82, 83, 84, 85, 86, 87, 88, 89, 90, 91, 92, 93, 94, 95, 96, 97, 98, 99, 100, 101, 102, 103, 104, 105, 106, 107, 108] rfl (by decide +kernel)
set_option maxRecDepth 20000 in
theorem gX10_bestCup_X10_endsByCup : GoodIn wsX10_bestCup (wsV RX10 353 RX10 yX10_endsByCup wsX10_endsByCup) := goodIn_app (goodIn_of _ (by decide +kernel)) ggX10_bestCup_X10_endsByCup
theorem kX10_bestCup_176 : Cond.fieldLink RX10 176 "EveningVowModel" "hasEvening" "Z" ∈ wsX10_bestCup := List.mem_of_getElem? (i := 1) rfl
theorem iX10_bestCup_X10 : ∀ w ∈ u_ws RX10 TX10 35, w ∈ wsX10_bestCup := fun w h => (List.mem_cons_of_mem _ (List.mem_append_right _ h))
theorem kX10_bestCup_20 : Cond.fieldLink RX10 20 "EveningVowModel" "\x72" "[I" ∈ wsX10_bestCup := List.mem_of_getElem? (i := 2) rfl
theorem kX10_bestCup_26 : Cond.fieldLink RX10 26 "EveningVowModel" "st" "[I" ∈ wsX10_bestCup := List.mem_of_getElem? (i := 3) rfl
theorem kX10_bestCup_321 : Cond.constant RX10 321 (1000000 : Int32) ∈ wsX10_bestCup := by decide +kernel
set_option maxHeartbeats 4000000 in
set_option maxRecDepth 100000 in
theorem wX10_bestCup_L24 {p : Program} {l : Launch} {e : Env} {s : State} {m : MethodId} {args : Array Value} {below : List Frame} {meth : Method} {c : Code} {g : GG} {A : Nat → Prop} (C0 : Cx p s m args meth c cX10_bestCup 5 (some .int) RX10 wsX10_bestCup g A) (a_t : Nat) (p_t : Nat → Nat) (n : Nat) (f_t_15 : Nat → Int32) (f_t_17 : Nat → Int32)  (r : Int32) (o_t' : Nat → Int32) (f_t_25' : Nat → Int32) (K : Int32 → (Nat → Int32) → (Nat → Int32) → Option (Int32 × (Nat → Int32) × (Nat → Int32))) (hKx : ∀ (x1 : Int32) (o_t : Nat → Int32) (f_t_25 : Nat → Int32) (H : Heap) (locs : List Loc) (ls : Array Slot), K x1 o_t f_t_25 = some (r, o_t', f_t_25') → va_P g.1 vwCl [oX10 a_t p_t o_t, aI g (p_t 15) 266 f_t_15, aI g (p_t 17) 17 f_t_17, aI g (p_t 25) 17 f_t_25] H → va_D A [oX10 a_t p_t o_t, aI g (p_t 15) 266 f_t_15, aI g (p_t 17) 17 f_t_17, aI g (p_t 25) 17 f_t_25] → va_S A s.heap H locs → lv_has ls 5 [(1, .int x1)] → W p l e ({ frames := 6, cells := 0, slots := 0, locals := 137 } : Room) s m args below meth c H locs 0 0 (MQ below (EndI g r [oX10 a_t p_t o_t', aI g (p_t 15) 266 f_t_15, aI g (p_t 17) 17 f_t_17, aI g (p_t 25) 17 f_t_25'] A) args s 0 0 A) (F0 m 89 ls [])) : ∀ (k : Nat) (x1 : Int32) (x2 : Int32) (x3 : Int32) (o_t : Nat → Int32) (f_t_25 : Nat → Int32), fX10_bestCup_L24 n f_t_15 f_t_17 K k x1 x2 x3 o_t f_t_25 = some (r, o_t', f_t_25') → ∀ (H : Heap) (locs : List Loc) (ls : Array Slot), va_P g.1 vwCl [oX10 a_t p_t o_t, aI g (p_t 15) 266 f_t_15, aI g (p_t 17) 17 f_t_17, aI g (p_t 25) 17 f_t_25] H → va_D A [oX10 a_t p_t o_t, aI g (p_t 15) 266 f_t_15, aI g (p_t 17) 17 f_t_17, aI g (p_t 25) 17 f_t_25] → va_S A s.heap H locs → lv_has ls 5 [(0, .ref a_t), (1, .int x1), (2, .int x2), (3, .int x3)] → W p l e ({ frames := 6, cells := 0, slots := 0, locals := 137 } : Room) s m args below meth c H locs 0 0 (MQ below (EndI g r [oX10 a_t p_t o_t', aI g (p_t 15) 266 f_t_15, aI g (p_t 17) 17 f_t_17, aI g (p_t 25) 17 f_t_25'] A) args s 0 0 A) (F0 m 24 ls []) := by
  obtain ⟨hx, hb, hml, hown, hts, hr, hlk, hK, hA, hSW⟩ := id C0
  intro k
  induction k with
  | zero =>
    intro x1 x2 x3 o_t f_t_25 hF
    exact absurd hF (by simp [fX10_bestCup_L24])
  | succ k ih =>
    intro x1 x2 x3 o_t f_t_25 hF H locs ls hP hD hS hl
    rw [fX10_bestCup_L24] at hF
    refine lv_iload_n hx hb dX10_bestCup_24 rfl (lv_at hl 3 rfl) ?_
    refine lv_aload_n hx hb dX10_bestCup_25 rfl (lv_at hl 0 rfl) ?_
    refine va_get (D := g.1) (ci := 10) (v := .ref (p_t 15)) (C := RX10) (T := TX10) (N := 35) hx hb hts iX10_bestCup_X10 hown hK.1 hP 0 rfl rfl 15 (by decide) (hts _ kX10_bestCup_20) (fun _ h9 => h9) rfl dX10_bestCup_26 ?_
    refine lv_iconst (v := (3 : Int32)) hx hb dX10_bestCup_29 (by decide) ?_
    refine va_iald_k (j := 3) hx hb hK.1 hP 1 0 rfl rfl (by unfold vp_in; decide) rfl dX10_bestCup_30 ?_
    refine lv_icmp_ge (tgt := 89) hx hb dX10_bestCup_31 (by decide) (fun c_4 => ?_) (fun c_4 => ?_)
    · have hF := it_p c_4 hF
      exact hKx x1 o_t f_t_25 _ _ _ hF (hP.sub [0, 1, 2, 3] rfl) (hD.sub [0, 1, 2, 3] rfl rfl) hS (lv_sub hl [1] rfl)
    · have hF := it_n c_4 hF
      refine lv_aload_n hx hb dX10_bestCup_34 rfl (lv_at hl 0 rfl) ?_
      refine va_get (D := g.1) (ci := 10) (v := .ref (p_t 17)) (C := RX10) (T := TX10) (N := 35) hx hb hts iX10_bestCup_X10 hown hK.1 hP 0 rfl rfl 17 (by decide) (hts _ kX10_bestCup_26) (fun _ h9 => h9) rfl dX10_bestCup_35 ?_
      refine lv_iload_n hx hb dX10_bestCup_38 rfl (lv_at hl 3 rfl) ?_
      obtain ⟨u_5, hu_6, hF⟩ := ob1_some hF
      refine call_si (wr := [oX10 a_t p_t o_t, aI g (p_t 15) 266 f_t_15, aI g (p_t 25) 17 f_t_25]) (As := [.ref (p_t 17), .int x3]) (rest := []) C0 (mX10_isIn l g (p_t 17) n x3 f_t_17 u_5 hu_6) (va_cwS 2 hts gX10_bestCup_X10_isIn rfl rfl rfl (by decide +kernel) ⟨Nat.le_of_ble_eq_true rfl, Nat.le_of_ble_eq_true rfl⟩) hP hD hS [2] [0, 1, 3] rfl rfl rfl rfl rfl (by decide) hl.1 rfl rfl (Nat.le_of_ble_eq_true rfl) ⟨Nat.zero_le _, Nat.zero_le _⟩ dX10_bestCup_39 ?_
      intro H locs hP hD hS
      refine lv_if_ne (tgt := 48) hx hb dX10_bestCup_42 (by decide) (fun c_7 => ?_) (fun c_7 => ?_)
      · have hF := it_n c_7 hF
        refine lv_aload_n hx hb dX10_bestCup_48 rfl (lv_at hl 0 rfl) ?_
        refine lv_iload_n hx hb dX10_bestCup_49 rfl (lv_at hl 3 rfl) ?_
        obtain ⟨u_8, u_9, u_10, hu_11, hF⟩ := ob3_some hF
        refine call_i (wr := []) (As := [.int x3]) (rest := []) (ci := 10) (q0 := 0) C0 (mX10_endsByCup l g a_t p_t n x3 o_t f_t_15 f_t_17 f_t_25 u_8 u_9 u_10 hu_11) (cwV 1 hts gX10_bestCup_X10_endsByCup rfl rfl rfl (by decide +kernel) ⟨Nat.le_of_ble_eq_true rfl, Nat.le_of_ble_eq_true rfl⟩) hP hD hS [0, 1, 3, 2] [] rfl rfl rfl rfl rfl (by decide) rfl rfl hl.1 rfl rfl (Nat.le_of_ble_eq_true rfl) ⟨Nat.zero_le _, Nat.zero_le _⟩ dX10_bestCup_50 ?_
        intro H locs hP hD hS
        refine lv_if_ge (tgt := 62) hx hb dX10_bestCup_53 (by decide) (fun c_12 => ?_) (fun c_12 => ?_)
        · have hF := it_p c_12 hF
          refine lv_aload_n hx hb dX10_bestCup_62 rfl (lv_at hl 0 rfl) ?_
          refine lv_iload_n hx hb dX10_bestCup_63 rfl (lv_at hl 3 rfl) ?_
          obtain ⟨u_13, u_14, u_15, hu_16, hF⟩ := ob3_some hF
          refine call_i (wr := []) (As := [.int x3]) (rest := []) (ci := 10) (q0 := 0) C0 (mX10_endsByCup l g a_t p_t n x3 u_9 f_t_15 f_t_17 u_10 u_13 u_14 u_15 hu_16) (cwV 1 hts gX10_bestCup_X10_endsByCup rfl rfl rfl (by decide +kernel) ⟨Nat.le_of_ble_eq_true rfl, Nat.le_of_ble_eq_true rfl⟩) hP hD hS [0, 1, 2, 3] [] rfl rfl rfl rfl rfl (by decide) rfl rfl hl.1 rfl rfl (Nat.le_of_ble_eq_true rfl) ⟨Nat.zero_le _, Nat.zero_le _⟩ dX10_bestCup_64 ?_
          intro H locs hP hD hS
          refine lv_istore (lv' := [(4, .int u_13), (0, .ref a_t), (1, .int x1), (2, .int x2), (3, .int x3)]) hx hb dX10_bestCup_67 hl (by decide) rfl (fun ls hl => ?_)
          refine lv_iload hx hb dX10_bestCup_69 (lv_at hl 0 rfl) ?_
          refine lv_iload_n hx hb dX10_bestCup_71 rfl (lv_at hl 3 rfl) ?_
          refine lv_icmp_gt (tgt := 78) hx hb dX10_bestCup_72 (by decide) (fun c_17 => ?_) (fun c_17 => ?_)
          · have hF := it_p c_17 hF
            refine lv_iload_n hx hb dX10_bestCup_78 rfl (lv_at hl 4 rfl) ?_
            refine lv_istore_n (lv' := [(1, .int x3), (4, .int u_13), (0, .ref a_t), (2, .int x2), (3, .int x3)]) hx hb dX10_bestCup_79 rfl hl (by decide) rfl (fun ls hl => ?_)
            refine lv_iload hx hb dX10_bestCup_80 (lv_at hl 1 rfl) ?_
            refine lv_istore_n (lv' := [(2, .int u_13), (1, .int x3), (4, .int u_13), (0, .ref a_t), (3, .int x3)]) hx hb dX10_bestCup_82 rfl hl (by decide) rfl (fun ls hl => ?_)
            refine lv_iinc (v := (x3 + (1 : Int32))) (lv' := [(3, .int (x3 + (1 : Int32))), (2, .int u_13), (1, .int x3), (4, .int u_13), (0, .ref a_t)]) hx hb dX10_bestCup_83 hl (k := 4) rfl rfl (by decide) rfl (fun ls hl => ?_)
            refine lv_goto (tgt := 24) hx hb dX10_bestCup_86 (by decide) ?_
            exact ih x3 u_13 (x3 + (1 : Int32)) u_14 u_15 hF _ _ _ (hP.sub [0, 1, 2, 3] rfl) (hD.sub [0, 1, 2, 3] rfl rfl) hS (lv_sub hl [4, 2, 1, 0] rfl)
          · have hF := it_n c_17 hF
            refine lv_goto (tgt := 83) hx hb dX10_bestCup_75 (by decide) ?_
            refine lv_iinc (v := (x3 + (1 : Int32))) (lv' := [(3, .int (x3 + (1 : Int32))), (4, .int u_13), (0, .ref a_t), (1, .int x1), (2, .int x2)]) hx hb dX10_bestCup_83 hl (k := 4) rfl rfl (by decide) rfl (fun ls hl => ?_)
            refine lv_goto (tgt := 24) hx hb dX10_bestCup_86 (by decide) ?_
            exact ih x1 x2 (x3 + (1 : Int32)) u_14 u_15 hF _ _ _ (hP.sub [0, 1, 2, 3] rfl) (hD.sub [0, 1, 2, 3] rfl rfl) hS (lv_sub hl [2, 3, 4, 0] rfl)
        · have hF := it_n c_12 hF
          refine lv_ldcw (v := (1000000 : Int32)) hx hb hown (hts _ kX10_bestCup_321) dX10_bestCup_56 ?_
          refine lv_goto (tgt := 67) hx hb dX10_bestCup_59 (by decide) ?_
          refine lv_istore (lv' := [(4, .int (1000000 : Int32)), (0, .ref a_t), (1, .int x1), (2, .int x2), (3, .int x3)]) hx hb dX10_bestCup_67 hl (by decide) rfl (fun ls hl => ?_)
          refine lv_iload hx hb dX10_bestCup_69 (lv_at hl 0 rfl) ?_
          refine lv_iload_n hx hb dX10_bestCup_71 rfl (lv_at hl 3 rfl) ?_
          refine lv_icmp_gt (tgt := 78) hx hb dX10_bestCup_72 (by decide) (fun c_18 => ?_) (fun c_18 => ?_)
          · have hF := it_p c_18 hF
            refine lv_iload_n hx hb dX10_bestCup_78 rfl (lv_at hl 4 rfl) ?_
            refine lv_istore_n (lv' := [(1, .int x3), (4, .int (1000000 : Int32)), (0, .ref a_t), (2, .int x2), (3, .int x3)]) hx hb dX10_bestCup_79 rfl hl (by decide) rfl (fun ls hl => ?_)
            refine lv_iload hx hb dX10_bestCup_80 (lv_at hl 1 rfl) ?_
            refine lv_istore_n (lv' := [(2, .int (1000000 : Int32)), (1, .int x3), (4, .int (1000000 : Int32)), (0, .ref a_t), (3, .int x3)]) hx hb dX10_bestCup_82 rfl hl (by decide) rfl (fun ls hl => ?_)
            refine lv_iinc (v := (x3 + (1 : Int32))) (lv' := [(3, .int (x3 + (1 : Int32))), (2, .int (1000000 : Int32)), (1, .int x3), (4, .int (1000000 : Int32)), (0, .ref a_t)]) hx hb dX10_bestCup_83 hl (k := 4) rfl rfl (by decide) rfl (fun ls hl => ?_)
            refine lv_goto (tgt := 24) hx hb dX10_bestCup_86 (by decide) ?_
            exact ih x3 (1000000 : Int32) (x3 + (1 : Int32)) u_9 u_10 hF _ _ _ (hP.sub [0, 1, 2, 3] rfl) (hD.sub [0, 1, 2, 3] rfl rfl) hS (lv_sub hl [4, 2, 1, 0] rfl)
          · have hF := it_n c_18 hF
            refine lv_goto (tgt := 83) hx hb dX10_bestCup_75 (by decide) ?_
            refine lv_iinc (v := (x3 + (1 : Int32))) (lv' := [(3, .int (x3 + (1 : Int32))), (4, .int (1000000 : Int32)), (0, .ref a_t), (1, .int x1), (2, .int x2)]) hx hb dX10_bestCup_83 hl (k := 4) rfl rfl (by decide) rfl (fun ls hl => ?_)
            refine lv_goto (tgt := 24) hx hb dX10_bestCup_86 (by decide) ?_
            exact ih x1 x2 (x3 + (1 : Int32)) u_9 u_10 hF _ _ _ (hP.sub [0, 1, 2, 3] rfl) (hD.sub [0, 1, 2, 3] rfl rfl) hS (lv_sub hl [2, 3, 4, 0] rfl)
      · have hF := it_p c_7 hF
        refine lv_goto (tgt := 83) hx hb dX10_bestCup_45 (by decide) ?_
        refine lv_iinc (v := (x3 + (1 : Int32))) (lv' := [(3, .int (x3 + (1 : Int32))), (0, .ref a_t), (1, .int x1), (2, .int x2)]) hx hb dX10_bestCup_83 hl (k := 3) rfl rfl (by decide) rfl (fun ls hl => ?_)
        refine lv_goto (tgt := 24) hx hb dX10_bestCup_86 (by decide) ?_
        exact ih x1 x2 (x3 + (1 : Int32)) o_t f_t_25 hF _ _ _ (hP.sub [0, 1, 3, 2] rfl) (hD.sub [0, 1, 3, 2] rfl rfl) hS (lv_sub hl [1, 2, 3, 0] rfl)
set_option maxHeartbeats 4000000 in
set_option maxRecDepth 100000 in
theorem mX10_bestCup (l : Launch) (g : GG) (a_t : Nat) (p_t : Nat → Nat) (n : Nat) (o_t : Nat → Int32) (f_t_15 : Nat → Int32) (f_t_17 : Nat → Int32) (f_t_25 : Nat → Int32) (r : Int32) (o_t' : Nat → Int32) (f_t_25' : Nat → Int32) (hF : fX10_bestCup n o_t f_t_15 f_t_17 f_t_25 = some (r, o_t', f_t_25')) : MI l g yX10_bestCup wsX10_bestCup ({ frames := 6, cells := 0, slots := 0, locals := 137 } : Room) [.ref a_t] [oX10 a_t p_t o_t, aI g (p_t 15) 266 f_t_15, aI g (p_t 17) 17 f_t_17, aI g (p_t 25) 17 f_t_25] r [oX10 a_t p_t o_t', aI g (p_t 15) 266 f_t_15, aI g (p_t 17) 17 f_t_17, aI g (p_t 25) 17 f_t_25'] := by
  refine MI.of (cc := cX10_bestCup) (maxL := 5) (rt := .int) (own := RX10) rfl rfl (by decide) (Nat.le_of_ble_eq_true rfl) ?_
  intro p e s m args below meth c A C0 hP hD hS ls hl
  obtain ⟨hx, hb, hml, hown, hts, hr, hlk, hK, hA, hSW⟩ := id C0
  have hl : lv_has ls 5 [(0, .ref a_t)] := hl
  rw [fX10_bestCup] at hF
  refine lv_aload_n hx hb dX10_bestCup_0 rfl (lv_at hl 0 rfl) ?_
  obtain ⟨u_1, hu_2, hF⟩ := ob1_some hF
  refine call_v (wr := [aI g (p_t 15) 266 f_t_15, aI g (p_t 17) 17 f_t_17, aI g (p_t 25) 17 f_t_25]) (As := []) (rest := []) (ci := 10) (q0 := 0) C0 (mX10_good l g a_t p_t n o_t u_1 hu_2) (cwV 0 hts gX10_bestCup_X10_good rfl rfl rfl (by decide +kernel) ⟨Nat.le_of_ble_eq_true rfl, Nat.le_of_ble_eq_true rfl⟩) hP hD hS [0] [1, 2, 3] rfl rfl rfl rfl rfl (by decide) rfl rfl hl.1 rfl rfl (Nat.le_of_ble_eq_true rfl) ⟨Nat.zero_le _, Nat.zero_le _⟩ dX10_bestCup_1 ?_
  intro H locs hP hD hS
  refine lv_aload_n hx hb dX10_bestCup_4 rfl (lv_at hl 0 rfl) ?_
  refine va_get (D := g.1) (ci := 10) (v := .int (u_1 14)) (C := RX10) (T := TX10) (N := 35) hx hb hts iX10_bestCup_X10 hown hK.1 hP 3 rfl rfl 14 (by decide) (hts _ kX10_bestCup_176) (fun _ h9 => h9) rfl dX10_bestCup_5 ?_
  refine lv_if_ne (tgt := 17) hx hb dX10_bestCup_8 (by decide) (fun c_3 => ?_) (fun c_3 => ?_)
  · have hF := it_n c_3 hF
    refine lv_bipush (v := (-2 : Int32)) hx hb dX10_bestCup_17 (by decide) ?_
    refine lv_istore_n (lv' := [(1, .int (-2 : Int32)), (0, .ref a_t)]) hx hb dX10_bestCup_19 rfl hl (by decide) rfl (fun ls hl => ?_)
    refine lv_iconst (v := (-1 : Int32)) hx hb dX10_bestCup_20 (by decide) ?_
    refine lv_istore_n (lv' := [(2, .int (-1 : Int32)), (1, .int (-2 : Int32)), (0, .ref a_t)]) hx hb dX10_bestCup_21 rfl hl (by decide) rfl (fun ls hl => ?_)
    refine lv_iconst (v := (0 : Int32)) hx hb dX10_bestCup_22 (by decide) ?_
    refine lv_istore_n (lv' := [(3, .int (0 : Int32)), (2, .int (-1 : Int32)), (1, .int (-2 : Int32)), (0, .ref a_t)]) hx hb dX10_bestCup_23 rfl hl (by decide) rfl (fun ls hl => ?_)
    refine wX10_bestCup_L24 C0 a_t p_t n f_t_15 f_t_17 r o_t' f_t_25' _ ?_ n (-2 : Int32) (-1 : Int32) (0 : Int32) u_1 f_t_25 hF _ _ _ (hP.sub [3, 0, 1, 2] rfl) (hD.sub [3, 0, 1, 2] rfl rfl) hS (lv_sub hl [3, 2, 1, 0] rfl)
    · intro x1_x24 o_t_x24 f_t_25_x24 H locs ls hF hP hD hS hl
      refine lv_iload_n hx hb dX10_bestCup_89 rfl (lv_at hl 0 rfl) ?_
      cases hF
      exact ret_i C0 hP hD hS [0, 1, 2, 3] rfl rfl rfl dX10_bestCup_90 rfl
  · have hF := it_p c_3 hF
    refine lv_aload_n hx hb dX10_bestCup_11 rfl (lv_at hl 0 rfl) ?_
    refine lv_iconst (v := (1 : Int32)) hx hb dX10_bestCup_12 (by decide) ?_
    obtain ⟨u_19, u_20, hu_21, hF⟩ := ob2_some hF
    refine call_i (wr := [aI g (p_t 15) 266 f_t_15, aI g (p_t 17) 17 f_t_17, aI g (p_t 25) 17 f_t_25]) (As := [.int (1 : Int32)]) (rest := []) (ci := 10) (q0 := 0) C0 (mX10_no l g a_t p_t n (1 : Int32) u_1 u_19 u_20 hu_21) (cwV 1 hts gX10_bestCup_X10_no rfl rfl rfl (by decide +kernel) ⟨Nat.le_of_ble_eq_true rfl, Nat.le_of_ble_eq_true rfl⟩) hP hD hS [3] [0, 1, 2] rfl rfl rfl rfl rfl (by decide) rfl rfl hl.1 rfl rfl (Nat.le_of_ble_eq_true rfl) ⟨Nat.zero_le _, Nat.zero_le _⟩ dX10_bestCup_13 ?_
    intro H locs hP hD hS
    cases hF
    exact ret_i C0 hP hD hS [3, 0, 1, 2] rfl rfl rfl dX10_bestCup_16 rfl

theorem dAX10_isSo : ∀ q ∈ ([(0, (.iconst 1, 1)), (1, (.istore_n 3, 1)), (2, (.iconst 0, 1)), (3, (.istore 4, 2)), (5, (.iload 4, 2)), (7, (.aload_n 0, 1)), (8, (.getfield 20, 3)), (11, (.bipush 8, 2)), (13, (.iaload, 1)), (14, (.if_icmp .ge 73, 3)), (17, (.bipush 104, 2)), (19, (.iconst 3, 1)), (20, (.iload 4, 2)), (22, (.imul, 1)), (23, (.iadd, 1)), (24, (.istore 5, 2)), (26, (.iload_n 3, 1)), (27, (.ifCond .eq 52, 3)), (30, (.aload_n 0, 1)), (31, (.getfield 20, 3)), (34, (.iload 5, 2)), (36, (.iconst 1, 1)), (37, (.iadd, 1)), (38, (.iaload, 1)), (39, (.iload_n 2, 1)), (40, (.if_icmp .ne 35, 3)), (43, (.aload_n 1, 1)), (44, (.aload_n 0, 1)), (45, (.getfield 20, 3)), (48, (.iload 5, 2)), (50, (.iaload, 1)), (51, (.invokestatic 248, 3)), (54, (.aload_n 0, 1)), (55, (.getfield 20, 3)), (58, (.iload 5, 2)), (60, (.iconst 2, 1)), (61, (.iadd, 1)), (62, (.iaload, 1)), (63, (.iconst 1, 1)), (64, (.if_icmp .ne 7, 3)), (67, (.iconst 1, 1)), (68, (.goto 4, 3)), (71, (.iconst 0, 1)), (72, (.if_icmp .eq 7, 3)), (75, (.iconst 1, 1)), (76, (.goto 4, 3)), (79, (.iconst 0, 1)), (80, (.istore_n 3, 1)), (81, (.iinc 4 1, 3)), (84, (.goto (-79), 3)), (87, (.iload_n 3, 1)), (88, (.ireturn, 1))] : List (Nat × (Instr × Nat))), decode cX10_isSo q.1 = .ok q.2 := by decide +kernel
theorem dX10_isSo_0 : decode cX10_isSo 0 = .ok (.iconst 1, 1) := dAX10_isSo (0, (.iconst 1, 1)) (List.mem_of_getElem? (i := 0) rfl)
theorem dX10_isSo_1 : decode cX10_isSo 1 = .ok (.istore_n 3, 1) := dAX10_isSo (1, (.istore_n 3, 1)) (List.mem_of_getElem? (i := 1) rfl)
theorem dX10_isSo_2 : decode cX10_isSo 2 = .ok (.iconst 0, 1) := dAX10_isSo (2, (.iconst 0, 1)) (List.mem_of_getElem? (i := 2) rfl)
theorem dX10_isSo_3 : decode cX10_isSo 3 = .ok (.istore 4, 2) := dAX10_isSo (3, (.istore 4, 2)) (List.mem_of_getElem? (i := 3) rfl)
theorem dX10_isSo_5 : decode cX10_isSo 5 = .ok (.iload 4, 2) := dAX10_isSo (5, (.iload 4, 2)) (List.mem_of_getElem? (i := 4) rfl)
theorem dX10_isSo_7 : decode cX10_isSo 7 = .ok (.aload_n 0, 1) := dAX10_isSo (7, (.aload_n 0, 1)) (List.mem_of_getElem? (i := 5) rfl)
theorem dX10_isSo_8 : decode cX10_isSo 8 = .ok (.getfield 20, 3) := dAX10_isSo (8, (.getfield 20, 3)) (List.mem_of_getElem? (i := 6) rfl)
theorem dX10_isSo_11 : decode cX10_isSo 11 = .ok (.bipush 8, 2) := dAX10_isSo (11, (.bipush 8, 2)) (List.mem_of_getElem? (i := 7) rfl)
theorem dX10_isSo_13 : decode cX10_isSo 13 = .ok (.iaload, 1) := dAX10_isSo (13, (.iaload, 1)) (List.mem_of_getElem? (i := 8) rfl)
theorem dX10_isSo_14 : decode cX10_isSo 14 = .ok (.if_icmp .ge 73, 3) := dAX10_isSo (14, (.if_icmp .ge 73, 3)) (List.mem_of_getElem? (i := 9) rfl)
theorem dX10_isSo_17 : decode cX10_isSo 17 = .ok (.bipush 104, 2) := dAX10_isSo (17, (.bipush 104, 2)) (List.mem_of_getElem? (i := 10) rfl)
theorem dX10_isSo_19 : decode cX10_isSo 19 = .ok (.iconst 3, 1) := dAX10_isSo (19, (.iconst 3, 1)) (List.mem_of_getElem? (i := 11) rfl)
theorem dX10_isSo_20 : decode cX10_isSo 20 = .ok (.iload 4, 2) := dAX10_isSo (20, (.iload 4, 2)) (List.mem_of_getElem? (i := 12) rfl)
theorem dX10_isSo_22 : decode cX10_isSo 22 = .ok (.imul, 1) := dAX10_isSo (22, (.imul, 1)) (List.mem_of_getElem? (i := 13) rfl)
theorem dX10_isSo_23 : decode cX10_isSo 23 = .ok (.iadd, 1) := dAX10_isSo (23, (.iadd, 1)) (List.mem_of_getElem? (i := 14) rfl)
theorem dX10_isSo_24 : decode cX10_isSo 24 = .ok (.istore 5, 2) := dAX10_isSo (24, (.istore 5, 2)) (List.mem_of_getElem? (i := 15) rfl)
theorem dX10_isSo_26 : decode cX10_isSo 26 = .ok (.iload_n 3, 1) := dAX10_isSo (26, (.iload_n 3, 1)) (List.mem_of_getElem? (i := 16) rfl)
theorem dX10_isSo_27 : decode cX10_isSo 27 = .ok (.ifCond .eq 52, 3) := dAX10_isSo (27, (.ifCond .eq 52, 3)) (List.mem_of_getElem? (i := 17) rfl)
theorem dX10_isSo_30 : decode cX10_isSo 30 = .ok (.aload_n 0, 1) := dAX10_isSo (30, (.aload_n 0, 1)) (List.mem_of_getElem? (i := 18) rfl)
theorem dX10_isSo_31 : decode cX10_isSo 31 = .ok (.getfield 20, 3) := dAX10_isSo (31, (.getfield 20, 3)) (List.mem_of_getElem? (i := 19) rfl)
theorem dX10_isSo_34 : decode cX10_isSo 34 = .ok (.iload 5, 2) := dAX10_isSo (34, (.iload 5, 2)) (List.mem_of_getElem? (i := 20) rfl)
theorem dX10_isSo_36 : decode cX10_isSo 36 = .ok (.iconst 1, 1) := dAX10_isSo (36, (.iconst 1, 1)) (List.mem_of_getElem? (i := 21) rfl)
theorem dX10_isSo_37 : decode cX10_isSo 37 = .ok (.iadd, 1) := dAX10_isSo (37, (.iadd, 1)) (List.mem_of_getElem? (i := 22) rfl)
theorem dX10_isSo_38 : decode cX10_isSo 38 = .ok (.iaload, 1) := dAX10_isSo (38, (.iaload, 1)) (List.mem_of_getElem? (i := 23) rfl)
theorem dX10_isSo_39 : decode cX10_isSo 39 = .ok (.iload_n 2, 1) := dAX10_isSo (39, (.iload_n 2, 1)) (List.mem_of_getElem? (i := 24) rfl)
theorem dX10_isSo_40 : decode cX10_isSo 40 = .ok (.if_icmp .ne 35, 3) := dAX10_isSo (40, (.if_icmp .ne 35, 3)) (List.mem_of_getElem? (i := 25) rfl)
theorem dX10_isSo_43 : decode cX10_isSo 43 = .ok (.aload_n 1, 1) := dAX10_isSo (43, (.aload_n 1, 1)) (List.mem_of_getElem? (i := 26) rfl)
theorem dX10_isSo_44 : decode cX10_isSo 44 = .ok (.aload_n 0, 1) := dAX10_isSo (44, (.aload_n 0, 1)) (List.mem_of_getElem? (i := 27) rfl)
theorem dX10_isSo_45 : decode cX10_isSo 45 = .ok (.getfield 20, 3) := dAX10_isSo (45, (.getfield 20, 3)) (List.mem_of_getElem? (i := 28) rfl)
theorem dX10_isSo_48 : decode cX10_isSo 48 = .ok (.iload 5, 2) := dAX10_isSo (48, (.iload 5, 2)) (List.mem_of_getElem? (i := 29) rfl)
theorem dX10_isSo_50 : decode cX10_isSo 50 = .ok (.iaload, 1) := dAX10_isSo (50, (.iaload, 1)) (List.mem_of_getElem? (i := 30) rfl)
theorem dX10_isSo_51 : decode cX10_isSo 51 = .ok (.invokestatic 248, 3) := dAX10_isSo (51, (.invokestatic 248, 3)) (List.mem_of_getElem? (i := 31) rfl)
theorem dX10_isSo_54 : decode cX10_isSo 54 = .ok (.aload_n 0, 1) := dAX10_isSo (54, (.aload_n 0, 1)) (List.mem_of_getElem? (i := 32) rfl)
theorem dX10_isSo_55 : decode cX10_isSo 55 = .ok (.getfield 20, 3) := dAX10_isSo (55, (.getfield 20, 3)) (List.mem_of_getElem? (i := 33) rfl)
theorem dX10_isSo_58 : decode cX10_isSo 58 = .ok (.iload 5, 2) := dAX10_isSo (58, (.iload 5, 2)) (List.mem_of_getElem? (i := 34) rfl)
theorem dX10_isSo_60 : decode cX10_isSo 60 = .ok (.iconst 2, 1) := dAX10_isSo (60, (.iconst 2, 1)) (List.mem_of_getElem? (i := 35) rfl)
theorem dX10_isSo_61 : decode cX10_isSo 61 = .ok (.iadd, 1) := dAX10_isSo (61, (.iadd, 1)) (List.mem_of_getElem? (i := 36) rfl)
theorem dX10_isSo_62 : decode cX10_isSo 62 = .ok (.iaload, 1) := dAX10_isSo (62, (.iaload, 1)) (List.mem_of_getElem? (i := 37) rfl)
theorem dX10_isSo_63 : decode cX10_isSo 63 = .ok (.iconst 1, 1) := dAX10_isSo (63, (.iconst 1, 1)) (List.mem_of_getElem? (i := 38) rfl)
theorem dX10_isSo_64 : decode cX10_isSo 64 = .ok (.if_icmp .ne 7, 3) := dAX10_isSo (64, (.if_icmp .ne 7, 3)) (List.mem_of_getElem? (i := 39) rfl)
theorem dX10_isSo_67 : decode cX10_isSo 67 = .ok (.iconst 1, 1) := dAX10_isSo (67, (.iconst 1, 1)) (List.mem_of_getElem? (i := 40) rfl)
theorem dX10_isSo_68 : decode cX10_isSo 68 = .ok (.goto 4, 3) := dAX10_isSo (68, (.goto 4, 3)) (List.mem_of_getElem? (i := 41) rfl)
theorem dX10_isSo_71 : decode cX10_isSo 71 = .ok (.iconst 0, 1) := dAX10_isSo (71, (.iconst 0, 1)) (List.mem_of_getElem? (i := 42) rfl)
theorem dX10_isSo_72 : decode cX10_isSo 72 = .ok (.if_icmp .eq 7, 3) := dAX10_isSo (72, (.if_icmp .eq 7, 3)) (List.mem_of_getElem? (i := 43) rfl)
theorem dX10_isSo_75 : decode cX10_isSo 75 = .ok (.iconst 1, 1) := dAX10_isSo (75, (.iconst 1, 1)) (List.mem_of_getElem? (i := 44) rfl)
theorem dX10_isSo_76 : decode cX10_isSo 76 = .ok (.goto 4, 3) := dAX10_isSo (76, (.goto 4, 3)) (List.mem_of_getElem? (i := 45) rfl)
theorem dX10_isSo_79 : decode cX10_isSo 79 = .ok (.iconst 0, 1) := dAX10_isSo (79, (.iconst 0, 1)) (List.mem_of_getElem? (i := 46) rfl)
theorem dX10_isSo_80 : decode cX10_isSo 80 = .ok (.istore_n 3, 1) := dAX10_isSo (80, (.istore_n 3, 1)) (List.mem_of_getElem? (i := 47) rfl)
theorem dX10_isSo_81 : decode cX10_isSo 81 = .ok (.iinc 4 1, 3) := dAX10_isSo (81, (.iinc 4 1, 3)) (List.mem_of_getElem? (i := 48) rfl)
theorem dX10_isSo_84 : decode cX10_isSo 84 = .ok (.goto (-79), 3) := dAX10_isSo (84, (.goto (-79), 3)) (List.mem_of_getElem? (i := 49) rfl)
theorem dX10_isSo_87 : decode cX10_isSo 87 = .ok (.iload_n 3, 1) := dAX10_isSo (87, (.iload_n 3, 1)) (List.mem_of_getElem? (i := 50) rfl)
theorem dX10_isSo_88 : decode cX10_isSo 88 = .ok (.ireturn, 1) := dAX10_isSo (88, (.ireturn, 1)) (List.mem_of_getElem? (i := 51) rfl)
set_option maxRecDepth 20000 in
theorem ggX10_isSo_X10_isIn : GoodIn wsX10_isSo wsX10_isIn := goodIn_r _ [5] rfl (by decide +kernel)
set_option maxRecDepth 20000 in
theorem gX10_isSo_X10_isIn : GoodIn wsX10_isSo (va_wsS RX10 248 yX10_isIn wsX10_isIn) := goodIn_app (goodIn_of _ (by decide +kernel)) ggX10_isSo_X10_isIn
theorem kX10_isSo_20 : Cond.fieldLink RX10 20 "EveningVowModel" "\x72" "[I" ∈ wsX10_isSo := List.mem_of_getElem? (i := 1) rfl
theorem iX10_isSo_X10 : ∀ w ∈ u_ws RX10 TX10 35, w ∈ wsX10_isSo := fun w h => (List.mem_cons_of_mem _ (List.mem_append_right _ h))
set_option maxHeartbeats 4000000 in
set_option maxRecDepth 100000 in
theorem wX10_isSo_L5 {p : Program} {l : Launch} {e : Env} {s : State} {m : MethodId} {args : Array Value} {below : List Frame} {meth : Method} {c : Code} {g : GG} {A : Nat → Prop} (C0 : Cx p s m args meth c cX10_isSo 6 (some .boolean) RX10 wsX10_isSo g A) (a_t : Nat) (a_r1 : Nat) (p_t : Nat → Nat) (n : Nat) (x2 : Int32) (o_t : Nat → Int32) (f_t_15 : Nat → Int32) (f_r1 : Nat → Int32)  (r : Int32) (K : Int32 → Option (Int32)) (hKx : ∀ (x3 : Int32) (H : Heap) (locs : List Loc) (ls : Array Slot), K x3 = some (r) → va_P g.1 vwCl [oX10 a_t p_t o_t, aI g (p_t 15) 266 f_t_15, aI g a_r1 17 f_r1] H → va_D A [oX10 a_t p_t o_t, aI g (p_t 15) 266 f_t_15, aI g a_r1 17 f_r1] → va_S A s.heap H locs → lv_has ls 6 [(3, .int x3)] → W p l e ({ frames := 1, cells := 0, slots := 0, locals := 21 } : Room) s m args below meth c H locs 0 0 (MQ below (EndI g r [oX10 a_t p_t o_t, aI g (p_t 15) 266 f_t_15, aI g a_r1 17 f_r1] A) args s 0 0 A) (F0 m 87 ls [])) : ∀ (k : Nat) (x3 : Int32) (x4 : Int32), fX10_isSo_L5 n x2 o_t f_t_15 f_r1 K k x3 x4 = some (r) → ∀ (H : Heap) (locs : List Loc) (ls : Array Slot), va_P g.1 vwCl [oX10 a_t p_t o_t, aI g (p_t 15) 266 f_t_15, aI g a_r1 17 f_r1] H → va_D A [oX10 a_t p_t o_t, aI g (p_t 15) 266 f_t_15, aI g a_r1 17 f_r1] → va_S A s.heap H locs → lv_has ls 6 [(0, .ref a_t), (1, .ref a_r1), (2, .int x2), (3, .int x3), (4, .int x4)] → W p l e ({ frames := 1, cells := 0, slots := 0, locals := 21 } : Room) s m args below meth c H locs 0 0 (MQ below (EndI g r [oX10 a_t p_t o_t, aI g (p_t 15) 266 f_t_15, aI g a_r1 17 f_r1] A) args s 0 0 A) (F0 m 5 ls []) := by
  obtain ⟨hx, hb, hml, hown, hts, hr, hlk, hK, hA, hSW⟩ := id C0
  intro k
  induction k with
  | zero =>
    intro x3 x4 hF
    exact absurd hF (by simp [fX10_isSo_L5])
  | succ k ih =>
    intro x3 x4 hF H locs ls hP hD hS hl
    rw [fX10_isSo_L5] at hF
    refine lv_iload hx hb dX10_isSo_5 (lv_at hl 4 rfl) ?_
    refine lv_aload_n hx hb dX10_isSo_7 rfl (lv_at hl 0 rfl) ?_
    refine va_get (D := g.1) (ci := 10) (v := .ref (p_t 15)) (C := RX10) (T := TX10) (N := 35) hx hb hts iX10_isSo_X10 hown hK.1 hP 0 rfl rfl 15 (by decide) (hts _ kX10_isSo_20) (fun _ h9 => h9) rfl dX10_isSo_8 ?_
    refine lv_bipush (v := (8 : Int32)) hx hb dX10_isSo_11 (by decide) ?_
    refine va_iald_k (j := 8) hx hb hK.1 hP 1 0 rfl rfl (by unfold vp_in; decide) rfl dX10_isSo_13 ?_
    refine lv_icmp_ge (tgt := 87) hx hb dX10_isSo_14 (by decide) (fun c_1 => ?_) (fun c_1 => ?_)
    · have hF := it_p c_1 hF
      exact hKx x3 _ _ _ hF (hP.sub [0, 1, 2] rfl) (hD.sub [0, 1, 2] rfl rfl) hS (lv_sub hl [3] rfl)
    · have hF := it_n c_1 hF
      refine lv_bipush (v := (104 : Int32)) hx hb dX10_isSo_17 (by decide) ?_
      refine lv_iconst (v := (3 : Int32)) hx hb dX10_isSo_19 (by decide) ?_
      refine lv_iload hx hb dX10_isSo_20 (lv_at hl 4 rfl) ?_
      refine lv_imul hx hb dX10_isSo_22 ?_
      refine lv_iadd hx hb dX10_isSo_23 ?_
      refine lv_istore (lv' := [(5, .int ((104 : Int32) + ((3 : Int32) * x4))), (0, .ref a_t), (1, .ref a_r1), (2, .int x2), (3, .int x3), (4, .int x4)]) hx hb dX10_isSo_24 hl (by decide) rfl (fun ls hl => ?_)
      refine lv_iload_n hx hb dX10_isSo_26 rfl (lv_at hl 4 rfl) ?_
      refine lv_if_eq (tgt := 79) hx hb dX10_isSo_27 (by decide) (fun c_2 => ?_) (fun c_2 => ?_)
      · have hF := it_p c_2 hF
        refine lv_iconst (v := (0 : Int32)) hx hb dX10_isSo_79 (by decide) ?_
        refine lv_istore_n (lv' := [(3, .int (0 : Int32)), (5, .int ((104 : Int32) + ((3 : Int32) * x4))), (0, .ref a_t), (1, .ref a_r1), (2, .int x2), (4, .int x4)]) hx hb dX10_isSo_80 rfl hl (by decide) rfl (fun ls hl => ?_)
        refine lv_iinc (v := (x4 + (1 : Int32))) (lv' := [(4, .int (x4 + (1 : Int32))), (3, .int (0 : Int32)), (5, .int ((104 : Int32) + ((3 : Int32) * x4))), (0, .ref a_t), (1, .ref a_r1), (2, .int x2)]) hx hb dX10_isSo_81 hl (k := 5) rfl rfl (by decide) rfl (fun ls hl => ?_)
        refine lv_goto (tgt := 5) hx hb dX10_isSo_84 (by decide) ?_
        exact ih (0 : Int32) (x4 + (1 : Int32)) hF _ _ _ (hP.sub [0, 1, 2] rfl) (hD.sub [0, 1, 2] rfl rfl) hS (lv_sub hl [3, 4, 5, 1, 0] rfl)
      · have hF := it_n c_2 hF
        refine lv_aload_n hx hb dX10_isSo_30 rfl (lv_at hl 1 rfl) ?_
        refine va_get (D := g.1) (ci := 10) (v := .ref (p_t 15)) (C := RX10) (T := TX10) (N := 35) hx hb hts iX10_isSo_X10 hown hK.1 hP 0 rfl rfl 15 (by decide) (hts _ kX10_isSo_20) (fun _ h9 => h9) rfl dX10_isSo_31 ?_
        refine lv_iload hx hb dX10_isSo_34 (lv_at hl 0 rfl) ?_
        refine lv_iconst (v := (1 : Int32)) hx hb dX10_isSo_36 (by decide) ?_
        refine lv_iadd hx hb dX10_isSo_37 ?_
        obtain ⟨h_3, hF⟩ := it_ck hF
        refine va_iald hx hb hK.1 hP 1 0 rfl rfl h_3 dX10_isSo_38 ?_
        refine lv_iload_n hx hb dX10_isSo_39 rfl (lv_at hl 3 rfl) ?_
        refine lv_icmp_ne (tgt := 75) hx hb dX10_isSo_40 (by decide) (fun c_4 => ?_) (fun c_4 => ?_)
        · have hF := it_n c_4 hF
          refine lv_iconst (v := (1 : Int32)) hx hb dX10_isSo_75 (by decide) ?_
          refine lv_goto (tgt := 80) hx hb dX10_isSo_76 (by decide) ?_
          refine lv_istore_n (lv' := [(3, .int (1 : Int32)), (5, .int ((104 : Int32) + ((3 : Int32) * x4))), (0, .ref a_t), (1, .ref a_r1), (2, .int x2), (4, .int x4)]) hx hb dX10_isSo_80 rfl hl (by decide) rfl (fun ls hl => ?_)
          refine lv_iinc (v := (x4 + (1 : Int32))) (lv' := [(4, .int (x4 + (1 : Int32))), (3, .int (1 : Int32)), (5, .int ((104 : Int32) + ((3 : Int32) * x4))), (0, .ref a_t), (1, .ref a_r1), (2, .int x2)]) hx hb dX10_isSo_81 hl (k := 5) rfl rfl (by decide) rfl (fun ls hl => ?_)
          refine lv_goto (tgt := 5) hx hb dX10_isSo_84 (by decide) ?_
          exact ih (1 : Int32) (x4 + (1 : Int32)) hF _ _ _ (hP.sub [0, 1, 2] rfl) (hD.sub [0, 1, 2] rfl rfl) hS (lv_sub hl [3, 4, 5, 1, 0] rfl)
        · have hF := it_p c_4 hF
          refine lv_aload_n hx hb dX10_isSo_43 rfl (lv_at hl 2 rfl) ?_
          refine lv_aload_n hx hb dX10_isSo_44 rfl (lv_at hl 1 rfl) ?_
          refine va_get (D := g.1) (ci := 10) (v := .ref (p_t 15)) (C := RX10) (T := TX10) (N := 35) hx hb hts iX10_isSo_X10 hown hK.1 hP 0 rfl rfl 15 (by decide) (hts _ kX10_isSo_20) (fun _ h9 => h9) rfl dX10_isSo_45 ?_
          refine lv_iload hx hb dX10_isSo_48 (lv_at hl 0 rfl) ?_
          obtain ⟨h_5, hF⟩ := it_ck hF
          refine va_iald hx hb hK.1 hP 1 0 rfl rfl h_5 dX10_isSo_50 ?_
          obtain ⟨u_6, hu_7, hF⟩ := ob1_some hF
          refine call_si (wr := [oX10 a_t p_t o_t, aI g (p_t 15) 266 f_t_15]) (As := [.ref a_r1, .int (f_t_15 (((104 : Int32) + ((3 : Int32) * x4))).toNatClampNeg)]) (rest := []) C0 (mX10_isIn l g a_r1 n (f_t_15 (((104 : Int32) + ((3 : Int32) * x4))).toNatClampNeg) f_r1 u_6 hu_7) (va_cwS 2 hts gX10_isSo_X10_isIn rfl rfl rfl (by decide +kernel) ⟨Nat.le_of_ble_eq_true rfl, Nat.le_of_ble_eq_true rfl⟩) hP hD hS [2] [0, 1] rfl rfl rfl rfl rfl (by decide) hl.1 rfl rfl (Nat.le_of_ble_eq_true rfl) ⟨Nat.zero_le _, Nat.zero_le _⟩ dX10_isSo_51 ?_
          intro H locs hP hD hS
          refine lv_aload_n hx hb dX10_isSo_54 rfl (lv_at hl 1 rfl) ?_
          refine va_get (D := g.1) (ci := 10) (v := .ref (p_t 15)) (C := RX10) (T := TX10) (N := 35) hx hb hts iX10_isSo_X10 hown hK.1 hP 0 rfl rfl 15 (by decide) (hts _ kX10_isSo_20) (fun _ h9 => h9) rfl dX10_isSo_55 ?_
          refine lv_iload hx hb dX10_isSo_58 (lv_at hl 0 rfl) ?_
          refine lv_iconst (v := (2 : Int32)) hx hb dX10_isSo_60 (by decide) ?_
          refine lv_iadd hx hb dX10_isSo_61 ?_
          obtain ⟨h_8, hF⟩ := it_ck hF
          refine va_iald hx hb hK.1 hP 1 0 rfl rfl h_8 dX10_isSo_62 ?_
          refine lv_iconst (v := (1 : Int32)) hx hb dX10_isSo_63 (by decide) ?_
          refine lv_icmp_ne (tgt := 71) hx hb dX10_isSo_64 (by decide) (fun c_9 => ?_) (fun c_9 => ?_)
          · have hF := it_n c_9 hF
            refine lv_iconst (v := (0 : Int32)) hx hb dX10_isSo_71 (by decide) ?_
            refine lv_icmp_eq (tgt := 79) hx hb dX10_isSo_72 (by decide) (fun c_10 => ?_) (fun c_10 => ?_)
            · have hF := it_p c_10 hF
              refine lv_iconst (v := (0 : Int32)) hx hb dX10_isSo_79 (by decide) ?_
              refine lv_istore_n (lv' := [(3, .int (0 : Int32)), (5, .int ((104 : Int32) + ((3 : Int32) * x4))), (0, .ref a_t), (1, .ref a_r1), (2, .int x2), (4, .int x4)]) hx hb dX10_isSo_80 rfl hl (by decide) rfl (fun ls hl => ?_)
              refine lv_iinc (v := (x4 + (1 : Int32))) (lv' := [(4, .int (x4 + (1 : Int32))), (3, .int (0 : Int32)), (5, .int ((104 : Int32) + ((3 : Int32) * x4))), (0, .ref a_t), (1, .ref a_r1), (2, .int x2)]) hx hb dX10_isSo_81 hl (k := 5) rfl rfl (by decide) rfl (fun ls hl => ?_)
              refine lv_goto (tgt := 5) hx hb dX10_isSo_84 (by decide) ?_
              exact ih (0 : Int32) (x4 + (1 : Int32)) hF _ _ _ (hP.sub [0, 1, 2] rfl) (hD.sub [0, 1, 2] rfl rfl) hS (lv_sub hl [3, 4, 5, 1, 0] rfl)
            · have hF := it_n c_10 hF
              refine lv_iconst (v := (1 : Int32)) hx hb dX10_isSo_75 (by decide) ?_
              refine lv_goto (tgt := 80) hx hb dX10_isSo_76 (by decide) ?_
              refine lv_istore_n (lv' := [(3, .int (1 : Int32)), (5, .int ((104 : Int32) + ((3 : Int32) * x4))), (0, .ref a_t), (1, .ref a_r1), (2, .int x2), (4, .int x4)]) hx hb dX10_isSo_80 rfl hl (by decide) rfl (fun ls hl => ?_)
              refine lv_iinc (v := (x4 + (1 : Int32))) (lv' := [(4, .int (x4 + (1 : Int32))), (3, .int (1 : Int32)), (5, .int ((104 : Int32) + ((3 : Int32) * x4))), (0, .ref a_t), (1, .ref a_r1), (2, .int x2)]) hx hb dX10_isSo_81 hl (k := 5) rfl rfl (by decide) rfl (fun ls hl => ?_)
              refine lv_goto (tgt := 5) hx hb dX10_isSo_84 (by decide) ?_
              exact ih (1 : Int32) (x4 + (1 : Int32)) hF _ _ _ (hP.sub [0, 1, 2] rfl) (hD.sub [0, 1, 2] rfl rfl) hS (lv_sub hl [3, 4, 5, 1, 0] rfl)
          · have hF := it_p c_9 hF
            refine lv_iconst (v := (1 : Int32)) hx hb dX10_isSo_67 (by decide) ?_
            refine lv_goto (tgt := 72) hx hb dX10_isSo_68 (by decide) ?_
            refine lv_icmp_eq (tgt := 79) hx hb dX10_isSo_72 (by decide) (fun c_11 => ?_) (fun c_11 => ?_)
            · have hF := it_p c_11 hF
              refine lv_iconst (v := (0 : Int32)) hx hb dX10_isSo_79 (by decide) ?_
              refine lv_istore_n (lv' := [(3, .int (0 : Int32)), (5, .int ((104 : Int32) + ((3 : Int32) * x4))), (0, .ref a_t), (1, .ref a_r1), (2, .int x2), (4, .int x4)]) hx hb dX10_isSo_80 rfl hl (by decide) rfl (fun ls hl => ?_)
              refine lv_iinc (v := (x4 + (1 : Int32))) (lv' := [(4, .int (x4 + (1 : Int32))), (3, .int (0 : Int32)), (5, .int ((104 : Int32) + ((3 : Int32) * x4))), (0, .ref a_t), (1, .ref a_r1), (2, .int x2)]) hx hb dX10_isSo_81 hl (k := 5) rfl rfl (by decide) rfl (fun ls hl => ?_)
              refine lv_goto (tgt := 5) hx hb dX10_isSo_84 (by decide) ?_
              exact ih (0 : Int32) (x4 + (1 : Int32)) hF _ _ _ (hP.sub [0, 1, 2] rfl) (hD.sub [0, 1, 2] rfl rfl) hS (lv_sub hl [3, 4, 5, 1, 0] rfl)
            · have hF := it_n c_11 hF
              refine lv_iconst (v := (1 : Int32)) hx hb dX10_isSo_75 (by decide) ?_
              refine lv_goto (tgt := 80) hx hb dX10_isSo_76 (by decide) ?_
              refine lv_istore_n (lv' := [(3, .int (1 : Int32)), (5, .int ((104 : Int32) + ((3 : Int32) * x4))), (0, .ref a_t), (1, .ref a_r1), (2, .int x2), (4, .int x4)]) hx hb dX10_isSo_80 rfl hl (by decide) rfl (fun ls hl => ?_)
              refine lv_iinc (v := (x4 + (1 : Int32))) (lv' := [(4, .int (x4 + (1 : Int32))), (3, .int (1 : Int32)), (5, .int ((104 : Int32) + ((3 : Int32) * x4))), (0, .ref a_t), (1, .ref a_r1), (2, .int x2)]) hx hb dX10_isSo_81 hl (k := 5) rfl rfl (by decide) rfl (fun ls hl => ?_)
              refine lv_goto (tgt := 5) hx hb dX10_isSo_84 (by decide) ?_
              exact ih (1 : Int32) (x4 + (1 : Int32)) hF _ _ _ (hP.sub [0, 1, 2] rfl) (hD.sub [0, 1, 2] rfl rfl) hS (lv_sub hl [3, 4, 5, 1, 0] rfl)
set_option maxHeartbeats 4000000 in
set_option maxRecDepth 100000 in
theorem mX10_isSo (l : Launch) (g : GG) (a_t : Nat) (a_r1 : Nat) (p_t : Nat → Nat) (n : Nat) (x2 : Int32) (o_t : Nat → Int32) (f_t_15 : Nat → Int32) (f_r1 : Nat → Int32) (r : Int32) (hF : fX10_isSo n x2 o_t f_t_15 f_r1 = some (r)) : MI l g yX10_isSo wsX10_isSo ({ frames := 1, cells := 0, slots := 0, locals := 21 } : Room) [.ref a_t, .ref a_r1, .int x2] [oX10 a_t p_t o_t, aI g (p_t 15) 266 f_t_15, aI g a_r1 17 f_r1] r [oX10 a_t p_t o_t, aI g (p_t 15) 266 f_t_15, aI g a_r1 17 f_r1] := by
  refine MI.of (cc := cX10_isSo) (maxL := 6) (rt := .boolean) (own := RX10) rfl rfl (by decide) (Nat.le_of_ble_eq_true rfl) ?_
  intro p e s m args below meth c A C0 hP hD hS ls hl
  obtain ⟨hx, hb, hml, hown, hts, hr, hlk, hK, hA, hSW⟩ := id C0
  have hl : lv_has ls 6 [(0, .ref a_t), (1, .ref a_r1), (2, .int x2)] := hl
  rw [fX10_isSo] at hF
  refine lv_iconst (v := (1 : Int32)) hx hb dX10_isSo_0 (by decide) ?_
  refine lv_istore_n (lv' := [(3, .int (1 : Int32)), (0, .ref a_t), (1, .ref a_r1), (2, .int x2)]) hx hb dX10_isSo_1 rfl hl (by decide) rfl (fun ls hl => ?_)
  refine lv_iconst (v := (0 : Int32)) hx hb dX10_isSo_2 (by decide) ?_
  refine lv_istore (lv' := [(4, .int (0 : Int32)), (3, .int (1 : Int32)), (0, .ref a_t), (1, .ref a_r1), (2, .int x2)]) hx hb dX10_isSo_3 hl (by decide) rfl (fun ls hl => ?_)
  refine wX10_isSo_L5 C0 a_t a_r1 p_t n x2 o_t f_t_15 f_r1 r _ ?_ n (1 : Int32) (0 : Int32) hF _ _ _ (hP.sub [0, 1, 2] rfl) (hD.sub [0, 1, 2] rfl rfl) hS (lv_sub hl [2, 3, 4, 1, 0] rfl)
  · intro x3_x5 H locs ls hF hP hD hS hl
    refine lv_iload_n hx hb dX10_isSo_87 rfl (lv_at hl 0 rfl) ?_
    obtain ⟨h_12, hF⟩ := it_ck hF
    cases hF
    exact ret_z C0 hP hD hS [0, 1, 2] rfl rfl rfl dX10_isSo_88 (nar01 h_12) rfl

theorem dAX10_isSoBy : ∀ q ∈ ([(0, (.aload_n 0, 1)), (1, (.aload_n 0, 1)), (2, (.getfield 35, 3)), (5, (.invokevirtual 172, 3)), (8, (.iconst 0, 1)), (9, (.istore_n 3, 1)), (10, (.iload_n 3, 1)), (11, (.bipush 30, 2)), (13, (.if_icmp .gt 65, 3)), (16, (.aload_n 0, 1)), (17, (.aload_n 0, 1)), (18, (.getfield 35, 3)), (21, (.iload_n 3, 1)), (22, (.invokevirtual 356, 3)), (25, (.ifCond .ne 5, 3)), (28, (.iconst 0, 1)), (29, (.ireturn, 1)), (30, (.iload_n 3, 1)), (31, (.iload_n 1, 1)), (32, (.if_icmp .ne 31, 3)), (35, (.aload_n 0, 1)), (36, (.getfield 35, 3)), (39, (.iload_n 2, 1)), (40, (.invokestatic 248, 3)), (43, (.ifCond .ne 5, 3)), (46, (.iconst 0, 1)), (47, (.ireturn, 1)), (48, (.aload_n 0, 1)), (49, (.getfield 35, 3)), (52, (.iload_n 2, 1)), (53, (.dup2, 1)), (54, (.iaload, 1)), (55, (.aload_n 0, 1)), (56, (.getfield 20, 3)), (59, (.iconst 1, 1)), (60, (.iaload, 1)), (61, (.iadd, 1)), (62, (.iastore, 1)), (63, (.aload_n 0, 1)), (64, (.aload_n 0, 1)), (65, (.getfield 35, 3)), (68, (.invokevirtual 293, 3)), (71, (.pop, 1)), (72, (.iinc 3 1, 3)), (75, (.goto (-65), 3)), (78, (.iconst 1, 1)), (79, (.ireturn, 1))] : List (Nat × (Instr × Nat))), decode cX10_isSoBy q.1 = .ok q.2 := by decide +kernel
theorem dX10_isSoBy_0 : decode cX10_isSoBy 0 = .ok (.aload_n 0, 1) := dAX10_isSoBy (0, (.aload_n 0, 1)) (List.mem_of_getElem? (i := 0) rfl)
theorem dX10_isSoBy_1 : decode cX10_isSoBy 1 = .ok (.aload_n 0, 1) := dAX10_isSoBy (1, (.aload_n 0, 1)) (List.mem_of_getElem? (i := 1) rfl)
theorem dX10_isSoBy_2 : decode cX10_isSoBy 2 = .ok (.getfield 35, 3) := dAX10_isSoBy (2, (.getfield 35, 3)) (List.mem_of_getElem? (i := 2) rfl)
theorem dX10_isSoBy_5 : decode cX10_isSoBy 5 = .ok (.invokevirtual 172, 3) := dAX10_isSoBy (5, (.invokevirtual 172, 3)) (List.mem_of_getElem? (i := 3) rfl)
theorem dX10_isSoBy_8 : decode cX10_isSoBy 8 = .ok (.iconst 0, 1) := dAX10_isSoBy (8, (.iconst 0, 1)) (List.mem_of_getElem? (i := 4) rfl)
theorem dX10_isSoBy_9 : decode cX10_isSoBy 9 = .ok (.istore_n 3, 1) := dAX10_isSoBy (9, (.istore_n 3, 1)) (List.mem_of_getElem? (i := 5) rfl)
theorem dX10_isSoBy_10 : decode cX10_isSoBy 10 = .ok (.iload_n 3, 1) := dAX10_isSoBy (10, (.iload_n 3, 1)) (List.mem_of_getElem? (i := 6) rfl)
theorem dX10_isSoBy_11 : decode cX10_isSoBy 11 = .ok (.bipush 30, 2) := dAX10_isSoBy (11, (.bipush 30, 2)) (List.mem_of_getElem? (i := 7) rfl)
theorem dX10_isSoBy_13 : decode cX10_isSoBy 13 = .ok (.if_icmp .gt 65, 3) := dAX10_isSoBy (13, (.if_icmp .gt 65, 3)) (List.mem_of_getElem? (i := 8) rfl)
theorem dX10_isSoBy_16 : decode cX10_isSoBy 16 = .ok (.aload_n 0, 1) := dAX10_isSoBy (16, (.aload_n 0, 1)) (List.mem_of_getElem? (i := 9) rfl)
theorem dX10_isSoBy_17 : decode cX10_isSoBy 17 = .ok (.aload_n 0, 1) := dAX10_isSoBy (17, (.aload_n 0, 1)) (List.mem_of_getElem? (i := 10) rfl)
theorem dX10_isSoBy_18 : decode cX10_isSoBy 18 = .ok (.getfield 35, 3) := dAX10_isSoBy (18, (.getfield 35, 3)) (List.mem_of_getElem? (i := 11) rfl)
theorem dX10_isSoBy_21 : decode cX10_isSoBy 21 = .ok (.iload_n 3, 1) := dAX10_isSoBy (21, (.iload_n 3, 1)) (List.mem_of_getElem? (i := 12) rfl)
theorem dX10_isSoBy_22 : decode cX10_isSoBy 22 = .ok (.invokevirtual 356, 3) := dAX10_isSoBy (22, (.invokevirtual 356, 3)) (List.mem_of_getElem? (i := 13) rfl)
theorem dX10_isSoBy_25 : decode cX10_isSoBy 25 = .ok (.ifCond .ne 5, 3) := dAX10_isSoBy (25, (.ifCond .ne 5, 3)) (List.mem_of_getElem? (i := 14) rfl)
theorem dX10_isSoBy_28 : decode cX10_isSoBy 28 = .ok (.iconst 0, 1) := dAX10_isSoBy (28, (.iconst 0, 1)) (List.mem_of_getElem? (i := 15) rfl)
theorem dX10_isSoBy_29 : decode cX10_isSoBy 29 = .ok (.ireturn, 1) := dAX10_isSoBy (29, (.ireturn, 1)) (List.mem_of_getElem? (i := 16) rfl)
theorem dX10_isSoBy_30 : decode cX10_isSoBy 30 = .ok (.iload_n 3, 1) := dAX10_isSoBy (30, (.iload_n 3, 1)) (List.mem_of_getElem? (i := 17) rfl)
theorem dX10_isSoBy_31 : decode cX10_isSoBy 31 = .ok (.iload_n 1, 1) := dAX10_isSoBy (31, (.iload_n 1, 1)) (List.mem_of_getElem? (i := 18) rfl)
theorem dX10_isSoBy_32 : decode cX10_isSoBy 32 = .ok (.if_icmp .ne 31, 3) := dAX10_isSoBy (32, (.if_icmp .ne 31, 3)) (List.mem_of_getElem? (i := 19) rfl)
theorem dX10_isSoBy_35 : decode cX10_isSoBy 35 = .ok (.aload_n 0, 1) := dAX10_isSoBy (35, (.aload_n 0, 1)) (List.mem_of_getElem? (i := 20) rfl)
theorem dX10_isSoBy_36 : decode cX10_isSoBy 36 = .ok (.getfield 35, 3) := dAX10_isSoBy (36, (.getfield 35, 3)) (List.mem_of_getElem? (i := 21) rfl)
theorem dX10_isSoBy_39 : decode cX10_isSoBy 39 = .ok (.iload_n 2, 1) := dAX10_isSoBy (39, (.iload_n 2, 1)) (List.mem_of_getElem? (i := 22) rfl)
theorem dX10_isSoBy_40 : decode cX10_isSoBy 40 = .ok (.invokestatic 248, 3) := dAX10_isSoBy (40, (.invokestatic 248, 3)) (List.mem_of_getElem? (i := 23) rfl)
theorem dX10_isSoBy_43 : decode cX10_isSoBy 43 = .ok (.ifCond .ne 5, 3) := dAX10_isSoBy (43, (.ifCond .ne 5, 3)) (List.mem_of_getElem? (i := 24) rfl)
theorem dX10_isSoBy_46 : decode cX10_isSoBy 46 = .ok (.iconst 0, 1) := dAX10_isSoBy (46, (.iconst 0, 1)) (List.mem_of_getElem? (i := 25) rfl)
theorem dX10_isSoBy_47 : decode cX10_isSoBy 47 = .ok (.ireturn, 1) := dAX10_isSoBy (47, (.ireturn, 1)) (List.mem_of_getElem? (i := 26) rfl)
theorem dX10_isSoBy_48 : decode cX10_isSoBy 48 = .ok (.aload_n 0, 1) := dAX10_isSoBy (48, (.aload_n 0, 1)) (List.mem_of_getElem? (i := 27) rfl)
theorem dX10_isSoBy_49 : decode cX10_isSoBy 49 = .ok (.getfield 35, 3) := dAX10_isSoBy (49, (.getfield 35, 3)) (List.mem_of_getElem? (i := 28) rfl)
theorem dX10_isSoBy_52 : decode cX10_isSoBy 52 = .ok (.iload_n 2, 1) := dAX10_isSoBy (52, (.iload_n 2, 1)) (List.mem_of_getElem? (i := 29) rfl)
theorem dX10_isSoBy_53 : decode cX10_isSoBy 53 = .ok (.dup2, 1) := dAX10_isSoBy (53, (.dup2, 1)) (List.mem_of_getElem? (i := 30) rfl)
theorem dX10_isSoBy_54 : decode cX10_isSoBy 54 = .ok (.iaload, 1) := dAX10_isSoBy (54, (.iaload, 1)) (List.mem_of_getElem? (i := 31) rfl)
theorem dX10_isSoBy_55 : decode cX10_isSoBy 55 = .ok (.aload_n 0, 1) := dAX10_isSoBy (55, (.aload_n 0, 1)) (List.mem_of_getElem? (i := 32) rfl)
theorem dX10_isSoBy_56 : decode cX10_isSoBy 56 = .ok (.getfield 20, 3) := dAX10_isSoBy (56, (.getfield 20, 3)) (List.mem_of_getElem? (i := 33) rfl)
theorem dX10_isSoBy_59 : decode cX10_isSoBy 59 = .ok (.iconst 1, 1) := dAX10_isSoBy (59, (.iconst 1, 1)) (List.mem_of_getElem? (i := 34) rfl)
theorem dX10_isSoBy_60 : decode cX10_isSoBy 60 = .ok (.iaload, 1) := dAX10_isSoBy (60, (.iaload, 1)) (List.mem_of_getElem? (i := 35) rfl)
theorem dX10_isSoBy_61 : decode cX10_isSoBy 61 = .ok (.iadd, 1) := dAX10_isSoBy (61, (.iadd, 1)) (List.mem_of_getElem? (i := 36) rfl)
theorem dX10_isSoBy_62 : decode cX10_isSoBy 62 = .ok (.iastore, 1) := dAX10_isSoBy (62, (.iastore, 1)) (List.mem_of_getElem? (i := 37) rfl)
theorem dX10_isSoBy_63 : decode cX10_isSoBy 63 = .ok (.aload_n 0, 1) := dAX10_isSoBy (63, (.aload_n 0, 1)) (List.mem_of_getElem? (i := 38) rfl)
theorem dX10_isSoBy_64 : decode cX10_isSoBy 64 = .ok (.aload_n 0, 1) := dAX10_isSoBy (64, (.aload_n 0, 1)) (List.mem_of_getElem? (i := 39) rfl)
theorem dX10_isSoBy_65 : decode cX10_isSoBy 65 = .ok (.getfield 35, 3) := dAX10_isSoBy (65, (.getfield 35, 3)) (List.mem_of_getElem? (i := 40) rfl)
theorem dX10_isSoBy_68 : decode cX10_isSoBy 68 = .ok (.invokevirtual 293, 3) := dAX10_isSoBy (68, (.invokevirtual 293, 3)) (List.mem_of_getElem? (i := 41) rfl)
theorem dX10_isSoBy_71 : decode cX10_isSoBy 71 = .ok (.pop, 1) := dAX10_isSoBy (71, (.pop, 1)) (List.mem_of_getElem? (i := 42) rfl)
theorem dX10_isSoBy_72 : decode cX10_isSoBy 72 = .ok (.iinc 3 1, 3) := dAX10_isSoBy (72, (.iinc 3 1, 3)) (List.mem_of_getElem? (i := 43) rfl)
theorem dX10_isSoBy_75 : decode cX10_isSoBy 75 = .ok (.goto (-65), 3) := dAX10_isSoBy (75, (.goto (-65), 3)) (List.mem_of_getElem? (i := 44) rfl)
theorem dX10_isSoBy_78 : decode cX10_isSoBy 78 = .ok (.iconst 1, 1) := dAX10_isSoBy (78, (.iconst 1, 1)) (List.mem_of_getElem? (i := 45) rfl)
theorem dX10_isSoBy_79 : decode cX10_isSoBy 79 = .ok (.ireturn, 1) := dAX10_isSoBy (79, (.ireturn, 1)) (List.mem_of_getElem? (i := 46) rfl)
set_option maxRecDepth 20000 in
theorem ggX10_isSoBy_X10_layTold : GoodIn wsX10_isSoBy wsX10_layTold := goodIn_r _ [7, 2, 51, 52, 53, 54, 55, 56, 57, 58, 59, 60, 61, 62, 63, 64, 65, 66, 67, 68, 69, 70, 71, 72, 73, 74, 75, 76, 77, 78, 79, 80, 81, 82, 83, 84, 85] rfl (by decide +kernel)
set_option maxRecDepth 20000 in
theorem gX10_isSoBy_X10_layTold : GoodIn wsX10_isSoBy (wsV RX10 172 RX10 yX10_layTold wsX10_layTold) := goodIn_app (goodIn_of _ (by decide +kernel)) ggX10_isSoBy_X10_layTold
set_option maxRecDepth 20000 in
theorem ggX10_isSoBy_X10_isSo : GoodIn wsX10_isSoBy wsX10_isSo := goodIn_r _ [11, 2, 12, 13, 6, 14, 51, 52, 53, 54, 55, 56, 57, 58, 59, 60, 61, 62, 63, 64, 65, 66, 67, 68, 69, 70, 71, 72, 73, 74, 75, 76, 77, 78, 79, 80, 81, 82, 83, 84, 85] rfl (by decide +kernel)
set_option maxRecDepth 20000 in
theorem gX10_isSoBy_X10_isSo : GoodIn wsX10_isSoBy (wsV RX10 356 RX10 yX10_isSo wsX10_isSo) := goodIn_app (goodIn_of _ (by decide +kernel)) ggX10_isSoBy_X10_isSo
set_option maxRecDepth 20000 in
theorem ggX10_isSoBy_X10_isIn : GoodIn wsX10_isSoBy wsX10_isIn := goodIn_r _ [14] rfl (by decide +kernel)
set_option maxRecDepth 20000 in
theorem gX10_isSoBy_X10_isIn : GoodIn wsX10_isSoBy (va_wsS RX10 248 yX10_isIn wsX10_isIn) := goodIn_app (goodIn_of _ (by decide +kernel)) ggX10_isSoBy_X10_isIn
set_option maxRecDepth 20000 in
theorem ggX10_isSoBy_X10_hourOf : GoodIn wsX10_isSoBy wsX10_hourOf := goodIn_r _ [18, 2, 19, 20, 21, 6, 22, 12, 13, 14, 23, 24, 25, 26, 27, 28, 29, 30, 31, 32, 33, 34, 35, 36, 37, 38, 39, 40, 41, 42, 43, 44, 45, 46, 47, 48, 49, 50, 51, 52, 53, 54, 55, 56, 57, 58, 59, 60, 61, 62, 63, 64, 65, 66, 67, 68, 69, 70, 71, 72, 73, 74, 75, 76, 77, 78, 79, 80, 81, 82, 83, 84, 85] rfl (by decide +kernel)
set_option maxRecDepth 20000 in
theorem gX10_isSoBy_X10_hourOf : GoodIn wsX10_isSoBy (wsV RX10 293 RX10 yX10_hourOf wsX10_hourOf) := goodIn_app (goodIn_of _ (by decide +kernel)) ggX10_isSoBy_X10_hourOf
theorem kX10_isSoBy_35 : Cond.fieldLink RX10 35 "EveningVowModel" "trial" "[I" ∈ wsX10_isSoBy := List.mem_of_getElem? (i := 1) rfl
theorem iX10_isSoBy_X10 : ∀ w ∈ u_ws RX10 TX10 35, w ∈ wsX10_isSoBy := fun w h => (List.mem_cons_of_mem _ (List.mem_append_right _ h))
theorem kX10_isSoBy_20 : Cond.fieldLink RX10 20 "EveningVowModel" "\x72" "[I" ∈ wsX10_isSoBy := List.mem_of_getElem? (i := 2) rfl
set_option maxHeartbeats 4000000 in
set_option maxRecDepth 100000 in
theorem wX10_isSoBy_L10 {p : Program} {l : Launch} {e : Env} {s : State} {m : MethodId} {args : Array Value} {below : List Frame} {meth : Method} {c : Code} {g : GG} {A : Nat → Prop} (C0 : Cx p s m args meth c cX10_isSoBy 4 (some .boolean) RX10 wsX10_isSoBy g A) (a_t : Nat) (p_t : Nat → Nat) (n : Nat) (x1 : Int32) (x2 : Int32) (f_t_15 : Nat → Int32)  (r : Int32) (o_t' : Nat → Int32) (f_t_25' : Nat → Int32) (K : (Nat → Int32) → (Nat → Int32) → Option (Int32 × (Nat → Int32) × (Nat → Int32))) (hKx : ∀ (o_t : Nat → Int32) (f_t_25 : Nat → Int32) (H : Heap) (locs : List Loc) (ls : Array Slot), K o_t f_t_25 = some (r, o_t', f_t_25') → va_P g.1 vwCl [oX10 a_t p_t o_t, aI g (p_t 15) 266 f_t_15, aI g (p_t 25) 17 f_t_25] H → va_D A [oX10 a_t p_t o_t, aI g (p_t 15) 266 f_t_15, aI g (p_t 25) 17 f_t_25] → va_S A s.heap H locs → lv_has ls 4 [] → W p l e ({ frames := 4, cells := 0, slots := 0, locals := 93 } : Room) s m args below meth c H locs 0 0 (MQ below (EndI g r [oX10 a_t p_t o_t', aI g (p_t 15) 266 f_t_15, aI g (p_t 25) 17 f_t_25'] A) args s 0 0 A) (F0 m 78 ls [])) : ∀ (k : Nat) (x3 : Int32) (o_t : Nat → Int32) (f_t_25 : Nat → Int32), fX10_isSoBy_L10 n x1 x2 f_t_15 K k x3 o_t f_t_25 = some (r, o_t', f_t_25') → ∀ (H : Heap) (locs : List Loc) (ls : Array Slot), va_P g.1 vwCl [oX10 a_t p_t o_t, aI g (p_t 15) 266 f_t_15, aI g (p_t 25) 17 f_t_25] H → va_D A [oX10 a_t p_t o_t, aI g (p_t 15) 266 f_t_15, aI g (p_t 25) 17 f_t_25] → va_S A s.heap H locs → lv_has ls 4 [(0, .ref a_t), (1, .int x1), (2, .int x2), (3, .int x3)] → W p l e ({ frames := 4, cells := 0, slots := 0, locals := 93 } : Room) s m args below meth c H locs 0 0 (MQ below (EndI g r [oX10 a_t p_t o_t', aI g (p_t 15) 266 f_t_15, aI g (p_t 25) 17 f_t_25'] A) args s 0 0 A) (F0 m 10 ls []) := by
  obtain ⟨hx, hb, hml, hown, hts, hr, hlk, hK, hA, hSW⟩ := id C0
  intro k
  induction k with
  | zero =>
    intro x3 o_t f_t_25 hF
    exact absurd hF (by simp [fX10_isSoBy_L10])
  | succ k ih =>
    intro x3 o_t f_t_25 hF H locs ls hP hD hS hl
    rw [fX10_isSoBy_L10] at hF
    refine lv_iload_n hx hb dX10_isSoBy_10 rfl (lv_at hl 3 rfl) ?_
    refine lv_bipush (v := (30 : Int32)) hx hb dX10_isSoBy_11 (by decide) ?_
    refine lv_icmp_gt (tgt := 78) hx hb dX10_isSoBy_13 (by decide) (fun c_3 => ?_) (fun c_3 => ?_)
    · have hF := it_p c_3 hF
      exact hKx o_t f_t_25 _ _ _ hF (hP.sub [0, 1, 2] rfl) (hD.sub [0, 1, 2] rfl rfl) hS (lv_sub hl [] rfl)
    · have hF := it_n c_3 hF
      refine lv_aload_n hx hb dX10_isSoBy_16 rfl (lv_at hl 0 rfl) ?_
      refine lv_aload_n hx hb dX10_isSoBy_17 rfl (lv_at hl 0 rfl) ?_
      refine va_get (D := g.1) (ci := 10) (v := .ref (p_t 25)) (C := RX10) (T := TX10) (N := 35) hx hb hts iX10_isSoBy_X10 hown hK.1 hP 0 rfl rfl 25 (by decide) (hts _ kX10_isSoBy_35) (fun _ h9 => h9) rfl dX10_isSoBy_18 ?_
      refine lv_iload_n hx hb dX10_isSoBy_21 rfl (lv_at hl 3 rfl) ?_
      obtain ⟨u_4, hu_5, hF⟩ := ob1_some hF
      refine call_i (wr := []) (As := [.ref (p_t 25), .int x3]) (rest := []) (ci := 10) (q0 := 0) C0 (mX10_isSo l g a_t (p_t 25) p_t n x3 o_t f_t_15 f_t_25 u_4 hu_5) (cwV 2 hts gX10_isSoBy_X10_isSo rfl rfl rfl (by decide +kernel) ⟨Nat.le_of_ble_eq_true rfl, Nat.le_of_ble_eq_true rfl⟩) hP hD hS [0, 1, 2] [] rfl rfl rfl rfl rfl (by decide) rfl rfl hl.1 rfl rfl (Nat.le_of_ble_eq_true rfl) ⟨Nat.zero_le _, Nat.zero_le _⟩ dX10_isSoBy_22 ?_
      intro H locs hP hD hS
      refine lv_if_ne (tgt := 30) hx hb dX10_isSoBy_25 (by decide) (fun c_6 => ?_) (fun c_6 => ?_)
      · have hF := it_n c_6 hF
        refine lv_iload_n hx hb dX10_isSoBy_30 rfl (lv_at hl 3 rfl) ?_
        refine lv_iload_n hx hb dX10_isSoBy_31 rfl (lv_at hl 1 rfl) ?_
        refine lv_icmp_ne (tgt := 63) hx hb dX10_isSoBy_32 (by decide) (fun c_7 => ?_) (fun c_7 => ?_)
        · have hF := it_n c_7 hF
          refine lv_aload_n hx hb dX10_isSoBy_63 rfl (lv_at hl 0 rfl) ?_
          refine lv_aload_n hx hb dX10_isSoBy_64 rfl (lv_at hl 0 rfl) ?_
          refine va_get (D := g.1) (ci := 10) (v := .ref (p_t 25)) (C := RX10) (T := TX10) (N := 35) hx hb hts iX10_isSoBy_X10 hown hK.1 hP 0 rfl rfl 25 (by decide) (hts _ kX10_isSoBy_35) (fun _ h9 => h9) rfl dX10_isSoBy_65 ?_
          obtain ⟨u_8, u_9, u_10, hu_11, hF⟩ := ob3_some hF
          refine call_i (wr := []) (As := [.ref (p_t 25)]) (rest := []) (ci := 10) (q0 := 0) C0 (mX10_hourOf l g a_t (p_t 25) p_t n o_t f_t_15 f_t_25 u_8 u_9 u_10 hu_11) (cwV 1 hts gX10_isSoBy_X10_hourOf rfl rfl rfl (by decide +kernel) ⟨Nat.le_of_ble_eq_true rfl, Nat.le_of_ble_eq_true rfl⟩) hP hD hS [0, 1, 2] [] rfl rfl rfl rfl rfl (by decide) rfl rfl hl.1 rfl rfl (Nat.le_of_ble_eq_true rfl) ⟨Nat.zero_le _, Nat.zero_le _⟩ dX10_isSoBy_68 ?_
          intro H locs hP hD hS
          refine lv_pop hx hb dX10_isSoBy_71 rfl ?_
          refine lv_iinc (v := (x3 + (1 : Int32))) (lv' := [(3, .int (x3 + (1 : Int32))), (0, .ref a_t), (1, .int x1), (2, .int x2)]) hx hb dX10_isSoBy_72 hl (k := 3) rfl rfl (by decide) rfl (fun ls hl => ?_)
          refine lv_goto (tgt := 10) hx hb dX10_isSoBy_75 (by decide) ?_
          exact ih (x3 + (1 : Int32)) u_9 u_10 hF _ _ _ (hP.sub [0, 1, 2] rfl) (hD.sub [0, 1, 2] rfl rfl) hS (lv_sub hl [1, 2, 3, 0] rfl)
        · have hF := it_p c_7 hF
          refine lv_aload_n hx hb dX10_isSoBy_35 rfl (lv_at hl 0 rfl) ?_
          refine va_get (D := g.1) (ci := 10) (v := .ref (p_t 25)) (C := RX10) (T := TX10) (N := 35) hx hb hts iX10_isSoBy_X10 hown hK.1 hP 0 rfl rfl 25 (by decide) (hts _ kX10_isSoBy_35) (fun _ h9 => h9) rfl dX10_isSoBy_36 ?_
          refine lv_iload_n hx hb dX10_isSoBy_39 rfl (lv_at hl 2 rfl) ?_
          obtain ⟨u_12, hu_13, hF⟩ := ob1_some hF
          refine call_si (wr := [oX10 a_t p_t o_t, aI g (p_t 15) 266 f_t_15]) (As := [.ref (p_t 25), .int x2]) (rest := []) C0 (mX10_isIn l g (p_t 25) n x2 f_t_25 u_12 hu_13) (va_cwS 2 hts gX10_isSoBy_X10_isIn rfl rfl rfl (by decide +kernel) ⟨Nat.le_of_ble_eq_true rfl, Nat.le_of_ble_eq_true rfl⟩) hP hD hS [2] [0, 1] rfl rfl rfl rfl rfl (by decide) hl.1 rfl rfl (Nat.le_of_ble_eq_true rfl) ⟨Nat.zero_le _, Nat.zero_le _⟩ dX10_isSoBy_40 ?_
          intro H locs hP hD hS
          refine lv_if_ne (tgt := 48) hx hb dX10_isSoBy_43 (by decide) (fun c_14 => ?_) (fun c_14 => ?_)
          · have hF := it_n c_14 hF
            refine lv_aload_n hx hb dX10_isSoBy_48 rfl (lv_at hl 0 rfl) ?_
            refine va_get (D := g.1) (ci := 10) (v := .ref (p_t 25)) (C := RX10) (T := TX10) (N := 35) hx hb hts iX10_isSoBy_X10 hown hK.1 hP 0 rfl rfl 25 (by decide) (hts _ kX10_isSoBy_35) (fun _ h9 => h9) rfl dX10_isSoBy_49 ?_
            refine lv_iload_n hx hb dX10_isSoBy_52 rfl (lv_at hl 2 rfl) ?_
            refine lv_dup2_11 hx hb dX10_isSoBy_53 rfl rfl ?_
            obtain ⟨h_15, hF⟩ := it_ck hF
            refine va_iald hx hb hK.1 hP 2 0 rfl rfl h_15 dX10_isSoBy_54 ?_
            refine lv_aload_n hx hb dX10_isSoBy_55 rfl (lv_at hl 0 rfl) ?_
            refine va_get (D := g.1) (ci := 10) (v := .ref (p_t 15)) (C := RX10) (T := TX10) (N := 35) hx hb hts iX10_isSoBy_X10 hown hK.1 hP 0 rfl rfl 15 (by decide) (hts _ kX10_isSoBy_20) (fun _ h9 => h9) rfl dX10_isSoBy_56 ?_
            refine lv_iconst (v := (1 : Int32)) hx hb dX10_isSoBy_59 (by decide) ?_
            refine va_iald_k (j := 1) hx hb hK.1 hP 1 0 rfl rfl (by unfold vp_in; decide) rfl dX10_isSoBy_60 ?_
            refine lv_iadd hx hb dX10_isSoBy_61 ?_
            obtain ⟨h_16, hF⟩ := it_ck hF
            refine va_iast hx hb hK.1 hP hD hS 2 0 rfl rfl h_16 dX10_isSoBy_62 (fun H locs hP hD hS => ?_)
            have hP : va_P g.1 vwCl [oX10 a_t p_t o_t, aI g (p_t 15) 266 f_t_15, aI g (p_t 25) 17 (upd f_t_25 (x2).toNatClampNeg ((f_t_25 (x2).toNatClampNeg) + (f_t_15 1)))] H := hP
            have hD : va_D A [oX10 a_t p_t o_t, aI g (p_t 15) 266 f_t_15, aI g (p_t 25) 17 (upd f_t_25 (x2).toNatClampNeg ((f_t_25 (x2).toNatClampNeg) + (f_t_15 1)))] := hD
            refine lv_aload_n hx hb dX10_isSoBy_63 rfl (lv_at hl 0 rfl) ?_
            refine lv_aload_n hx hb dX10_isSoBy_64 rfl (lv_at hl 0 rfl) ?_
            refine va_get (D := g.1) (ci := 10) (v := .ref (p_t 25)) (C := RX10) (T := TX10) (N := 35) hx hb hts iX10_isSoBy_X10 hown hK.1 hP 0 rfl rfl 25 (by decide) (hts _ kX10_isSoBy_35) (fun _ h9 => h9) rfl dX10_isSoBy_65 ?_
            obtain ⟨u_17, u_18, u_19, hu_20, hF⟩ := ob3_some hF
            refine call_i (wr := []) (As := [.ref (p_t 25)]) (rest := []) (ci := 10) (q0 := 0) C0 (mX10_hourOf l g a_t (p_t 25) p_t n o_t f_t_15 (upd f_t_25 (x2).toNatClampNeg ((f_t_25 (x2).toNatClampNeg) + (f_t_15 1))) u_17 u_18 u_19 hu_20) (cwV 1 hts gX10_isSoBy_X10_hourOf rfl rfl rfl (by decide +kernel) ⟨Nat.le_of_ble_eq_true rfl, Nat.le_of_ble_eq_true rfl⟩) hP hD hS [0, 1, 2] [] rfl rfl rfl rfl rfl (by decide) rfl rfl hl.1 rfl rfl (Nat.le_of_ble_eq_true rfl) ⟨Nat.zero_le _, Nat.zero_le _⟩ dX10_isSoBy_68 ?_
            intro H locs hP hD hS
            refine lv_pop hx hb dX10_isSoBy_71 rfl ?_
            refine lv_iinc (v := (x3 + (1 : Int32))) (lv' := [(3, .int (x3 + (1 : Int32))), (0, .ref a_t), (1, .int x1), (2, .int x2)]) hx hb dX10_isSoBy_72 hl (k := 3) rfl rfl (by decide) rfl (fun ls hl => ?_)
            refine lv_goto (tgt := 10) hx hb dX10_isSoBy_75 (by decide) ?_
            exact ih (x3 + (1 : Int32)) u_18 u_19 hF _ _ _ (hP.sub [0, 1, 2] rfl) (hD.sub [0, 1, 2] rfl rfl) hS (lv_sub hl [1, 2, 3, 0] rfl)
          · have hF := it_p c_14 hF
            refine lv_iconst (v := (0 : Int32)) hx hb dX10_isSoBy_46 (by decide) ?_
            cases hF
            exact ret_z C0 hP hD hS [0, 1, 2] rfl rfl rfl dX10_isSoBy_47 rfl rfl
      · have hF := it_p c_6 hF
        refine lv_iconst (v := (0 : Int32)) hx hb dX10_isSoBy_28 (by decide) ?_
        cases hF
        exact ret_z C0 hP hD hS [0, 1, 2] rfl rfl rfl dX10_isSoBy_29 rfl rfl
set_option maxHeartbeats 4000000 in
set_option maxRecDepth 100000 in
theorem mX10_isSoBy (l : Launch) (g : GG) (a_t : Nat) (p_t : Nat → Nat) (n : Nat) (x1 : Int32) (x2 : Int32) (o_t : Nat → Int32) (f_t_15 : Nat → Int32) (f_t_25 : Nat → Int32) (r : Int32) (o_t' : Nat → Int32) (f_t_25' : Nat → Int32) (hF : fX10_isSoBy n x1 x2 o_t f_t_15 f_t_25 = some (r, o_t', f_t_25')) : MI l g yX10_isSoBy wsX10_isSoBy ({ frames := 4, cells := 0, slots := 0, locals := 93 } : Room) [.ref a_t, .int x1, .int x2] [oX10 a_t p_t o_t, aI g (p_t 15) 266 f_t_15, aI g (p_t 25) 17 f_t_25] r [oX10 a_t p_t o_t', aI g (p_t 15) 266 f_t_15, aI g (p_t 25) 17 f_t_25'] := by
  refine MI.of (cc := cX10_isSoBy) (maxL := 4) (rt := .boolean) (own := RX10) rfl rfl (by decide) (Nat.le_of_ble_eq_true rfl) ?_
  intro p e s m args below meth c A C0 hP hD hS ls hl
  obtain ⟨hx, hb, hml, hown, hts, hr, hlk, hK, hA, hSW⟩ := id C0
  have hl : lv_has ls 4 [(0, .ref a_t), (1, .int x1), (2, .int x2)] := hl
  rw [fX10_isSoBy] at hF
  refine lv_aload_n hx hb dX10_isSoBy_0 rfl (lv_at hl 0 rfl) ?_
  refine lv_aload_n hx hb dX10_isSoBy_1 rfl (lv_at hl 0 rfl) ?_
  refine va_get (D := g.1) (ci := 10) (v := .ref (p_t 25)) (C := RX10) (T := TX10) (N := 35) hx hb hts iX10_isSoBy_X10 hown hK.1 hP 0 rfl rfl 25 (by decide) (hts _ kX10_isSoBy_35) (fun _ h9 => h9) rfl dX10_isSoBy_2 ?_
  obtain ⟨u_1, hu_2, hF⟩ := ob1_some hF
  refine call_v (wr := []) (As := [.ref (p_t 25)]) (rest := []) (ci := 10) (q0 := 0) C0 (mX10_layTold l g a_t (p_t 25) p_t n o_t f_t_15 f_t_25 u_1 hu_2) (cwV 1 hts gX10_isSoBy_X10_layTold rfl rfl rfl (by decide +kernel) ⟨Nat.le_of_ble_eq_true rfl, Nat.le_of_ble_eq_true rfl⟩) hP hD hS [0, 1, 2] [] rfl rfl rfl rfl rfl (by decide) rfl rfl hl.1 rfl rfl (Nat.le_of_ble_eq_true rfl) ⟨Nat.zero_le _, Nat.zero_le _⟩ dX10_isSoBy_5 ?_
  intro H locs hP hD hS
  refine lv_iconst (v := (0 : Int32)) hx hb dX10_isSoBy_8 (by decide) ?_
  refine lv_istore_n (lv' := [(3, .int (0 : Int32)), (0, .ref a_t), (1, .int x1), (2, .int x2)]) hx hb dX10_isSoBy_9 rfl hl (by decide) rfl (fun ls hl => ?_)
  refine wX10_isSoBy_L10 C0 a_t p_t n x1 x2 f_t_15 r o_t' f_t_25' _ ?_ n (0 : Int32) o_t u_1 hF _ _ _ (hP.sub [0, 1, 2] rfl) (hD.sub [0, 1, 2] rfl rfl) hS (lv_sub hl [1, 2, 3, 0] rfl)
  · intro o_t_x10 f_t_25_x10 H locs ls hF hP hD hS hl
    refine lv_iconst (v := (1 : Int32)) hx hb dX10_isSoBy_78 (by decide) ?_
    cases hF
    exact ret_z C0 hP hD hS [0, 1, 2] rfl rfl rfl dX10_isSoBy_79 rfl rfl

theorem dAX10_seekWays : ∀ q ∈ ([(0, (.iconst 0, 1)), (1, (.istore_n 1, 1)), (2, (.aload_n 0, 1)), (3, (.iconst (-1), 1)), (4, (.iconst 0, 1)), (5, (.invokevirtual 359, 3)), (8, (.ifCond .eq 13, 3)), (11, (.aload_n 0, 1)), (12, (.getfield 50, 3)), (15, (.iconst 0, 1)), (16, (.bipush (-2), 2)), (18, (.iastore, 1)), (19, (.iconst 1, 1)), (20, (.istore_n 1, 1)), (21, (.iconst 0, 1)), (22, (.istore_n 2, 1)), (23, (.iload_n 2, 1)), (24, (.bipush 30, 2)), (26, (.if_icmp .gt 54, 3)), (29, (.iconst 0, 1)), (30, (.istore_n 3, 1)), (31, (.iload_n 3, 1)), (32, (.aload_n 0, 1)), (33, (.getfield 20, 3)), (36, (.iconst 3, 1)), (37, (.iaload, 1)), (38, (.if_icmp .ge 36, 3)), (41, (.aload_n 0, 1)), (42, (.iload_n 2, 1)), (43, (.iload_n 3, 1)), (44, (.invokevirtual 359, 3)), (47, (.ifCond .ne 6, 3)), (50, (.goto 18, 3)), (53, (.aload_n 0, 1)), (54, (.getfield 50, 3)), (57, (.iload_n 1, 1)), (58, (.bipush 10, 2)), (60, (.iload_n 2, 1)), (61, (.imul, 1)), (62, (.iload_n 3, 1)), (63, (.iadd, 1)), (64, (.iastore, 1)), (65, (.iinc 1 1, 3)), (68, (.iinc 3 1, 3)), (71, (.goto (-40), 3)), (74, (.iinc 2 1, 3)), (77, (.goto (-54), 3)), (80, (.iload_n 1, 1)), (81, (.ireturn, 1))] : List (Nat × (Instr × Nat))), decode cX10_seekWays q.1 = .ok q.2 := by decide +kernel
theorem dX10_seekWays_0 : decode cX10_seekWays 0 = .ok (.iconst 0, 1) := dAX10_seekWays (0, (.iconst 0, 1)) (List.mem_of_getElem? (i := 0) rfl)
theorem dX10_seekWays_1 : decode cX10_seekWays 1 = .ok (.istore_n 1, 1) := dAX10_seekWays (1, (.istore_n 1, 1)) (List.mem_of_getElem? (i := 1) rfl)
theorem dX10_seekWays_2 : decode cX10_seekWays 2 = .ok (.aload_n 0, 1) := dAX10_seekWays (2, (.aload_n 0, 1)) (List.mem_of_getElem? (i := 2) rfl)
theorem dX10_seekWays_3 : decode cX10_seekWays 3 = .ok (.iconst (-1), 1) := dAX10_seekWays (3, (.iconst (-1), 1)) (List.mem_of_getElem? (i := 3) rfl)
theorem dX10_seekWays_4 : decode cX10_seekWays 4 = .ok (.iconst 0, 1) := dAX10_seekWays (4, (.iconst 0, 1)) (List.mem_of_getElem? (i := 4) rfl)
theorem dX10_seekWays_5 : decode cX10_seekWays 5 = .ok (.invokevirtual 359, 3) := dAX10_seekWays (5, (.invokevirtual 359, 3)) (List.mem_of_getElem? (i := 5) rfl)
theorem dX10_seekWays_8 : decode cX10_seekWays 8 = .ok (.ifCond .eq 13, 3) := dAX10_seekWays (8, (.ifCond .eq 13, 3)) (List.mem_of_getElem? (i := 6) rfl)
theorem dX10_seekWays_11 : decode cX10_seekWays 11 = .ok (.aload_n 0, 1) := dAX10_seekWays (11, (.aload_n 0, 1)) (List.mem_of_getElem? (i := 7) rfl)
theorem dX10_seekWays_12 : decode cX10_seekWays 12 = .ok (.getfield 50, 3) := dAX10_seekWays (12, (.getfield 50, 3)) (List.mem_of_getElem? (i := 8) rfl)
theorem dX10_seekWays_15 : decode cX10_seekWays 15 = .ok (.iconst 0, 1) := dAX10_seekWays (15, (.iconst 0, 1)) (List.mem_of_getElem? (i := 9) rfl)
theorem dX10_seekWays_16 : decode cX10_seekWays 16 = .ok (.bipush (-2), 2) := dAX10_seekWays (16, (.bipush (-2), 2)) (List.mem_of_getElem? (i := 10) rfl)
theorem dX10_seekWays_18 : decode cX10_seekWays 18 = .ok (.iastore, 1) := dAX10_seekWays (18, (.iastore, 1)) (List.mem_of_getElem? (i := 11) rfl)
theorem dX10_seekWays_19 : decode cX10_seekWays 19 = .ok (.iconst 1, 1) := dAX10_seekWays (19, (.iconst 1, 1)) (List.mem_of_getElem? (i := 12) rfl)
theorem dX10_seekWays_20 : decode cX10_seekWays 20 = .ok (.istore_n 1, 1) := dAX10_seekWays (20, (.istore_n 1, 1)) (List.mem_of_getElem? (i := 13) rfl)
theorem dX10_seekWays_21 : decode cX10_seekWays 21 = .ok (.iconst 0, 1) := dAX10_seekWays (21, (.iconst 0, 1)) (List.mem_of_getElem? (i := 14) rfl)
theorem dX10_seekWays_22 : decode cX10_seekWays 22 = .ok (.istore_n 2, 1) := dAX10_seekWays (22, (.istore_n 2, 1)) (List.mem_of_getElem? (i := 15) rfl)
theorem dX10_seekWays_23 : decode cX10_seekWays 23 = .ok (.iload_n 2, 1) := dAX10_seekWays (23, (.iload_n 2, 1)) (List.mem_of_getElem? (i := 16) rfl)
theorem dX10_seekWays_24 : decode cX10_seekWays 24 = .ok (.bipush 30, 2) := dAX10_seekWays (24, (.bipush 30, 2)) (List.mem_of_getElem? (i := 17) rfl)
theorem dX10_seekWays_26 : decode cX10_seekWays 26 = .ok (.if_icmp .gt 54, 3) := dAX10_seekWays (26, (.if_icmp .gt 54, 3)) (List.mem_of_getElem? (i := 18) rfl)
theorem dX10_seekWays_29 : decode cX10_seekWays 29 = .ok (.iconst 0, 1) := dAX10_seekWays (29, (.iconst 0, 1)) (List.mem_of_getElem? (i := 19) rfl)
theorem dX10_seekWays_30 : decode cX10_seekWays 30 = .ok (.istore_n 3, 1) := dAX10_seekWays (30, (.istore_n 3, 1)) (List.mem_of_getElem? (i := 20) rfl)
theorem dX10_seekWays_31 : decode cX10_seekWays 31 = .ok (.iload_n 3, 1) := dAX10_seekWays (31, (.iload_n 3, 1)) (List.mem_of_getElem? (i := 21) rfl)
theorem dX10_seekWays_32 : decode cX10_seekWays 32 = .ok (.aload_n 0, 1) := dAX10_seekWays (32, (.aload_n 0, 1)) (List.mem_of_getElem? (i := 22) rfl)
theorem dX10_seekWays_33 : decode cX10_seekWays 33 = .ok (.getfield 20, 3) := dAX10_seekWays (33, (.getfield 20, 3)) (List.mem_of_getElem? (i := 23) rfl)
theorem dX10_seekWays_36 : decode cX10_seekWays 36 = .ok (.iconst 3, 1) := dAX10_seekWays (36, (.iconst 3, 1)) (List.mem_of_getElem? (i := 24) rfl)
theorem dX10_seekWays_37 : decode cX10_seekWays 37 = .ok (.iaload, 1) := dAX10_seekWays (37, (.iaload, 1)) (List.mem_of_getElem? (i := 25) rfl)
theorem dX10_seekWays_38 : decode cX10_seekWays 38 = .ok (.if_icmp .ge 36, 3) := dAX10_seekWays (38, (.if_icmp .ge 36, 3)) (List.mem_of_getElem? (i := 26) rfl)
theorem dX10_seekWays_41 : decode cX10_seekWays 41 = .ok (.aload_n 0, 1) := dAX10_seekWays (41, (.aload_n 0, 1)) (List.mem_of_getElem? (i := 27) rfl)
theorem dX10_seekWays_42 : decode cX10_seekWays 42 = .ok (.iload_n 2, 1) := dAX10_seekWays (42, (.iload_n 2, 1)) (List.mem_of_getElem? (i := 28) rfl)
theorem dX10_seekWays_43 : decode cX10_seekWays 43 = .ok (.iload_n 3, 1) := dAX10_seekWays (43, (.iload_n 3, 1)) (List.mem_of_getElem? (i := 29) rfl)
theorem dX10_seekWays_44 : decode cX10_seekWays 44 = .ok (.invokevirtual 359, 3) := dAX10_seekWays (44, (.invokevirtual 359, 3)) (List.mem_of_getElem? (i := 30) rfl)
theorem dX10_seekWays_47 : decode cX10_seekWays 47 = .ok (.ifCond .ne 6, 3) := dAX10_seekWays (47, (.ifCond .ne 6, 3)) (List.mem_of_getElem? (i := 31) rfl)
theorem dX10_seekWays_50 : decode cX10_seekWays 50 = .ok (.goto 18, 3) := dAX10_seekWays (50, (.goto 18, 3)) (List.mem_of_getElem? (i := 32) rfl)
theorem dX10_seekWays_53 : decode cX10_seekWays 53 = .ok (.aload_n 0, 1) := dAX10_seekWays (53, (.aload_n 0, 1)) (List.mem_of_getElem? (i := 33) rfl)
theorem dX10_seekWays_54 : decode cX10_seekWays 54 = .ok (.getfield 50, 3) := dAX10_seekWays (54, (.getfield 50, 3)) (List.mem_of_getElem? (i := 34) rfl)
theorem dX10_seekWays_57 : decode cX10_seekWays 57 = .ok (.iload_n 1, 1) := dAX10_seekWays (57, (.iload_n 1, 1)) (List.mem_of_getElem? (i := 35) rfl)
theorem dX10_seekWays_58 : decode cX10_seekWays 58 = .ok (.bipush 10, 2) := dAX10_seekWays (58, (.bipush 10, 2)) (List.mem_of_getElem? (i := 36) rfl)
theorem dX10_seekWays_60 : decode cX10_seekWays 60 = .ok (.iload_n 2, 1) := dAX10_seekWays (60, (.iload_n 2, 1)) (List.mem_of_getElem? (i := 37) rfl)
theorem dX10_seekWays_61 : decode cX10_seekWays 61 = .ok (.imul, 1) := dAX10_seekWays (61, (.imul, 1)) (List.mem_of_getElem? (i := 38) rfl)
theorem dX10_seekWays_62 : decode cX10_seekWays 62 = .ok (.iload_n 3, 1) := dAX10_seekWays (62, (.iload_n 3, 1)) (List.mem_of_getElem? (i := 39) rfl)
theorem dX10_seekWays_63 : decode cX10_seekWays 63 = .ok (.iadd, 1) := dAX10_seekWays (63, (.iadd, 1)) (List.mem_of_getElem? (i := 40) rfl)
theorem dX10_seekWays_64 : decode cX10_seekWays 64 = .ok (.iastore, 1) := dAX10_seekWays (64, (.iastore, 1)) (List.mem_of_getElem? (i := 41) rfl)
theorem dX10_seekWays_65 : decode cX10_seekWays 65 = .ok (.iinc 1 1, 3) := dAX10_seekWays (65, (.iinc 1 1, 3)) (List.mem_of_getElem? (i := 42) rfl)
theorem dX10_seekWays_68 : decode cX10_seekWays 68 = .ok (.iinc 3 1, 3) := dAX10_seekWays (68, (.iinc 3 1, 3)) (List.mem_of_getElem? (i := 43) rfl)
theorem dX10_seekWays_71 : decode cX10_seekWays 71 = .ok (.goto (-40), 3) := dAX10_seekWays (71, (.goto (-40), 3)) (List.mem_of_getElem? (i := 44) rfl)
theorem dX10_seekWays_74 : decode cX10_seekWays 74 = .ok (.iinc 2 1, 3) := dAX10_seekWays (74, (.iinc 2 1, 3)) (List.mem_of_getElem? (i := 45) rfl)
theorem dX10_seekWays_77 : decode cX10_seekWays 77 = .ok (.goto (-54), 3) := dAX10_seekWays (77, (.goto (-54), 3)) (List.mem_of_getElem? (i := 46) rfl)
theorem dX10_seekWays_80 : decode cX10_seekWays 80 = .ok (.iload_n 1, 1) := dAX10_seekWays (80, (.iload_n 1, 1)) (List.mem_of_getElem? (i := 47) rfl)
theorem dX10_seekWays_81 : decode cX10_seekWays 81 = .ok (.ireturn, 1) := dAX10_seekWays (81, (.ireturn, 1)) (List.mem_of_getElem? (i := 48) rfl)
set_option maxRecDepth 20000 in
theorem ggX10_seekWays_X10_isSoBy : GoodIn wsX10_seekWays wsX10_isSoBy := goodIn_r _ [7, 8, 2, 9, 10, 11, 6, 12, 13, 14, 15, 16, 17, 18, 19, 20, 21, 22, 23, 24, 25, 26, 27, 28, 29, 30, 31, 32, 33, 34, 35, 36, 37, 38, 39, 40, 41, 42, 43, 44, 45, 46, 47, 48, 49, 50, 51, 52, 53, 54, 55, 56, 57, 58, 59, 60, 61, 62, 63, 64, 65, 66, 67, 68, 69, 70, 71, 72, 73, 74, 75, 76, 77, 78, 79, 80, 81, 82, 83, 84, 85, 86, 87, 88, 89, 90] rfl (by decide +kernel)
set_option maxRecDepth 20000 in
theorem gX10_seekWays_X10_isSoBy : GoodIn wsX10_seekWays (wsV RX10 359 RX10 yX10_isSoBy wsX10_isSoBy) := goodIn_app (goodIn_of _ (by decide +kernel)) ggX10_seekWays_X10_isSoBy
theorem kX10_seekWays_20 : Cond.fieldLink RX10 20 "EveningVowModel" "\x72" "[I" ∈ wsX10_seekWays := List.mem_of_getElem? (i := 2) rfl
theorem iX10_seekWays_X10 : ∀ w ∈ u_ws RX10 TX10 35, w ∈ wsX10_seekWays := fun w h => (List.mem_cons_of_mem _ (List.mem_append_right _ h))
theorem kX10_seekWays_50 : Cond.fieldLink RX10 50 "EveningVowModel" "wayCodes" "[I" ∈ wsX10_seekWays := List.mem_of_getElem? (i := 1) rfl
set_option maxHeartbeats 4000000 in
set_option maxRecDepth 100000 in
theorem wX10_seekWays_L31 {p : Program} {l : Launch} {e : Env} {s : State} {m : MethodId} {args : Array Value} {below : List Frame} {meth : Method} {c : Code} {g : GG} {A : Nat → Prop} (C0 : Cx p s m args meth c cX10_seekWays 4 (some .int) RX10 wsX10_seekWays g A) (a_t : Nat) (p_t : Nat → Nat) (n : Nat) (x2 : Int32) (f_t_15 : Nat → Int32)  (r : Int32) (o_t' : Nat → Int32) (f_t_25' : Nat → Int32) (f_t_33' : Nat → Int32) (K : Int32 → (Nat → Int32) → (Nat → Int32) → (Nat → Int32) → Option (Int32 × (Nat → Int32) × (Nat → Int32) × (Nat → Int32))) (hKx : ∀ (x1 : Int32) (o_t : Nat → Int32) (f_t_25 : Nat → Int32) (f_t_33 : Nat → Int32) (H : Heap) (locs : List Loc) (ls : Array Slot), K x1 o_t f_t_25 f_t_33 = some (r, o_t', f_t_25', f_t_33') → va_P g.1 vwCl [oX10 a_t p_t o_t, aI g (p_t 15) 266 f_t_15, aI g (p_t 25) 17 f_t_25, aI g (p_t 33) 218 f_t_33] H → va_D A [oX10 a_t p_t o_t, aI g (p_t 15) 266 f_t_15, aI g (p_t 25) 17 f_t_25, aI g (p_t 33) 218 f_t_33] → va_S A s.heap H locs → lv_has ls 4 [(0, .ref a_t), (1, .int x1), (2, .int x2)] → W p l e ({ frames := 5, cells := 0, slots := 0, locals := 116 } : Room) s m args below meth c H locs 0 0 (MQ below (EndI g r [oX10 a_t p_t o_t', aI g (p_t 15) 266 f_t_15, aI g (p_t 25) 17 f_t_25', aI g (p_t 33) 218 f_t_33'] A) args s 0 0 A) (F0 m 74 ls [])) : ∀ (k : Nat) (x1 : Int32) (x3 : Int32) (o_t : Nat → Int32) (f_t_25 : Nat → Int32) (f_t_33 : Nat → Int32), fX10_seekWays_L31 n x2 f_t_15 K k x1 x3 o_t f_t_25 f_t_33 = some (r, o_t', f_t_25', f_t_33') → ∀ (H : Heap) (locs : List Loc) (ls : Array Slot), va_P g.1 vwCl [oX10 a_t p_t o_t, aI g (p_t 15) 266 f_t_15, aI g (p_t 25) 17 f_t_25, aI g (p_t 33) 218 f_t_33] H → va_D A [oX10 a_t p_t o_t, aI g (p_t 15) 266 f_t_15, aI g (p_t 25) 17 f_t_25, aI g (p_t 33) 218 f_t_33] → va_S A s.heap H locs → lv_has ls 4 [(0, .ref a_t), (1, .int x1), (2, .int x2), (3, .int x3)] → W p l e ({ frames := 5, cells := 0, slots := 0, locals := 116 } : Room) s m args below meth c H locs 0 0 (MQ below (EndI g r [oX10 a_t p_t o_t', aI g (p_t 15) 266 f_t_15, aI g (p_t 25) 17 f_t_25', aI g (p_t 33) 218 f_t_33'] A) args s 0 0 A) (F0 m 31 ls []) := by
  obtain ⟨hx, hb, hml, hown, hts, hr, hlk, hK, hA, hSW⟩ := id C0
  intro k
  induction k with
  | zero =>
    intro x1 x3 o_t f_t_25 f_t_33 hF
    exact absurd hF (by simp [fX10_seekWays_L31])
  | succ k ih =>
    intro x1 x3 o_t f_t_25 f_t_33 hF H locs ls hP hD hS hl
    rw [fX10_seekWays_L31] at hF
    refine lv_iload_n hx hb dX10_seekWays_31 rfl (lv_at hl 3 rfl) ?_
    refine lv_aload_n hx hb dX10_seekWays_32 rfl (lv_at hl 0 rfl) ?_
    refine va_get (D := g.1) (ci := 10) (v := .ref (p_t 15)) (C := RX10) (T := TX10) (N := 35) hx hb hts iX10_seekWays_X10 hown hK.1 hP 0 rfl rfl 15 (by decide) (hts _ kX10_seekWays_20) (fun _ h9 => h9) rfl dX10_seekWays_33 ?_
    refine lv_iconst (v := (3 : Int32)) hx hb dX10_seekWays_36 (by decide) ?_
    refine va_iald_k (j := 3) hx hb hK.1 hP 1 0 rfl rfl (by unfold vp_in; decide) rfl dX10_seekWays_37 ?_
    refine lv_icmp_ge (tgt := 74) hx hb dX10_seekWays_38 (by decide) (fun c_7 => ?_) (fun c_7 => ?_)
    · have hF := it_p c_7 hF
      exact hKx x1 o_t f_t_25 f_t_33 _ _ _ hF (hP.sub [0, 1, 2, 3] rfl) (hD.sub [0, 1, 2, 3] rfl rfl) hS (lv_sub hl [0, 1, 2] rfl)
    · have hF := it_n c_7 hF
      refine lv_aload_n hx hb dX10_seekWays_41 rfl (lv_at hl 0 rfl) ?_
      refine lv_iload_n hx hb dX10_seekWays_42 rfl (lv_at hl 2 rfl) ?_
      refine lv_iload_n hx hb dX10_seekWays_43 rfl (lv_at hl 3 rfl) ?_
      obtain ⟨u_8, u_9, u_10, hu_11, hF⟩ := ob3_some hF
      refine call_i (wr := [aI g (p_t 33) 218 f_t_33]) (As := [.int x2, .int x3]) (rest := []) (ci := 10) (q0 := 0) C0 (mX10_isSoBy l g a_t p_t n x2 x3 o_t f_t_15 f_t_25 u_8 u_9 u_10 hu_11) (cwV 2 hts gX10_seekWays_X10_isSoBy rfl rfl rfl (by decide +kernel) ⟨Nat.le_of_ble_eq_true rfl, Nat.le_of_ble_eq_true rfl⟩) hP hD hS [0, 1, 2] [3] rfl rfl rfl rfl rfl (by decide) rfl rfl hl.1 rfl rfl (Nat.le_of_ble_eq_true rfl) ⟨Nat.zero_le _, Nat.zero_le _⟩ dX10_seekWays_44 ?_
      intro H locs hP hD hS
      refine lv_if_ne (tgt := 53) hx hb dX10_seekWays_47 (by decide) (fun c_12 => ?_) (fun c_12 => ?_)
      · have hF := it_n c_12 hF
        refine lv_aload_n hx hb dX10_seekWays_53 rfl (lv_at hl 0 rfl) ?_
        refine va_get (D := g.1) (ci := 10) (v := .ref (p_t 33)) (C := RX10) (T := TX10) (N := 35) hx hb hts iX10_seekWays_X10 hown hK.1 hP 1 rfl rfl 33 (by decide) (hts _ kX10_seekWays_50) (fun _ h9 => h9) rfl dX10_seekWays_54 ?_
        refine lv_iload_n hx hb dX10_seekWays_57 rfl (lv_at hl 1 rfl) ?_
        refine lv_bipush (v := (10 : Int32)) hx hb dX10_seekWays_58 (by decide) ?_
        refine lv_iload_n hx hb dX10_seekWays_60 rfl (lv_at hl 2 rfl) ?_
        refine lv_imul hx hb dX10_seekWays_61 ?_
        refine lv_iload_n hx hb dX10_seekWays_62 rfl (lv_at hl 3 rfl) ?_
        refine lv_iadd hx hb dX10_seekWays_63 ?_
        obtain ⟨h_13, hF⟩ := it_ck hF
        refine va_iast hx hb hK.1 hP hD hS 0 0 rfl rfl h_13 dX10_seekWays_64 (fun H locs hP hD hS => ?_)
        have hP : va_P g.1 vwCl [aI g (p_t 33) 218 (upd f_t_33 (x1).toNatClampNeg (((10 : Int32) * x2) + x3)), oX10 a_t p_t u_9, aI g (p_t 15) 266 f_t_15, aI g (p_t 25) 17 u_10] H := hP
        have hD : va_D A [aI g (p_t 33) 218 (upd f_t_33 (x1).toNatClampNeg (((10 : Int32) * x2) + x3)), oX10 a_t p_t u_9, aI g (p_t 15) 266 f_t_15, aI g (p_t 25) 17 u_10] := hD
        refine lv_iinc (v := (x1 + (1 : Int32))) (lv' := [(1, .int (x1 + (1 : Int32))), (0, .ref a_t), (2, .int x2), (3, .int x3)]) hx hb dX10_seekWays_65 hl (k := 1) rfl rfl (by decide) rfl (fun ls hl => ?_)
        refine lv_iinc (v := (x3 + (1 : Int32))) (lv' := [(3, .int (x3 + (1 : Int32))), (1, .int (x1 + (1 : Int32))), (0, .ref a_t), (2, .int x2)]) hx hb dX10_seekWays_68 hl (k := 3) rfl rfl (by decide) rfl (fun ls hl => ?_)
        refine lv_goto (tgt := 31) hx hb dX10_seekWays_71 (by decide) ?_
        exact ih (x1 + (1 : Int32)) (x3 + (1 : Int32)) u_9 u_10 (upd f_t_33 (x1).toNatClampNeg (((10 : Int32) * x2) + x3)) hF _ _ _ (hP.sub [1, 2, 3, 0] rfl) (hD.sub [1, 2, 3, 0] rfl rfl) hS (lv_sub hl [2, 1, 3, 0] rfl)
      · have hF := it_p c_12 hF
        refine lv_goto (tgt := 68) hx hb dX10_seekWays_50 (by decide) ?_
        refine lv_iinc (v := (x3 + (1 : Int32))) (lv' := [(3, .int (x3 + (1 : Int32))), (0, .ref a_t), (1, .int x1), (2, .int x2)]) hx hb dX10_seekWays_68 hl (k := 3) rfl rfl (by decide) rfl (fun ls hl => ?_)
        refine lv_goto (tgt := 31) hx hb dX10_seekWays_71 (by decide) ?_
        exact ih x1 (x3 + (1 : Int32)) u_9 u_10 f_t_33 hF _ _ _ (hP.sub [1, 2, 3, 0] rfl) (hD.sub [1, 2, 3, 0] rfl rfl) hS (lv_sub hl [1, 2, 3, 0] rfl)
set_option maxHeartbeats 4000000 in
set_option maxRecDepth 100000 in
theorem wX10_seekWays_L23 {p : Program} {l : Launch} {e : Env} {s : State} {m : MethodId} {args : Array Value} {below : List Frame} {meth : Method} {c : Code} {g : GG} {A : Nat → Prop} (C0 : Cx p s m args meth c cX10_seekWays 4 (some .int) RX10 wsX10_seekWays g A) (a_t : Nat) (p_t : Nat → Nat) (n : Nat) (f_t_15 : Nat → Int32)  (r : Int32) (o_t' : Nat → Int32) (f_t_25' : Nat → Int32) (f_t_33' : Nat → Int32) (K : Int32 → (Nat → Int32) → (Nat → Int32) → (Nat → Int32) → Option (Int32 × (Nat → Int32) × (Nat → Int32) × (Nat → Int32))) (hKx : ∀ (x1 : Int32) (o_t : Nat → Int32) (f_t_25 : Nat → Int32) (f_t_33 : Nat → Int32) (H : Heap) (locs : List Loc) (ls : Array Slot), K x1 o_t f_t_25 f_t_33 = some (r, o_t', f_t_25', f_t_33') → va_P g.1 vwCl [oX10 a_t p_t o_t, aI g (p_t 15) 266 f_t_15, aI g (p_t 25) 17 f_t_25, aI g (p_t 33) 218 f_t_33] H → va_D A [oX10 a_t p_t o_t, aI g (p_t 15) 266 f_t_15, aI g (p_t 25) 17 f_t_25, aI g (p_t 33) 218 f_t_33] → va_S A s.heap H locs → lv_has ls 4 [(1, .int x1)] → W p l e ({ frames := 5, cells := 0, slots := 0, locals := 116 } : Room) s m args below meth c H locs 0 0 (MQ below (EndI g r [oX10 a_t p_t o_t', aI g (p_t 15) 266 f_t_15, aI g (p_t 25) 17 f_t_25', aI g (p_t 33) 218 f_t_33'] A) args s 0 0 A) (F0 m 80 ls [])) : ∀ (k : Nat) (x1 : Int32) (x2 : Int32) (o_t : Nat → Int32) (f_t_25 : Nat → Int32) (f_t_33 : Nat → Int32), fX10_seekWays_L23 n f_t_15 K k x1 x2 o_t f_t_25 f_t_33 = some (r, o_t', f_t_25', f_t_33') → ∀ (H : Heap) (locs : List Loc) (ls : Array Slot), va_P g.1 vwCl [oX10 a_t p_t o_t, aI g (p_t 15) 266 f_t_15, aI g (p_t 25) 17 f_t_25, aI g (p_t 33) 218 f_t_33] H → va_D A [oX10 a_t p_t o_t, aI g (p_t 15) 266 f_t_15, aI g (p_t 25) 17 f_t_25, aI g (p_t 33) 218 f_t_33] → va_S A s.heap H locs → lv_has ls 4 [(0, .ref a_t), (1, .int x1), (2, .int x2)] → W p l e ({ frames := 5, cells := 0, slots := 0, locals := 116 } : Room) s m args below meth c H locs 0 0 (MQ below (EndI g r [oX10 a_t p_t o_t', aI g (p_t 15) 266 f_t_15, aI g (p_t 25) 17 f_t_25', aI g (p_t 33) 218 f_t_33'] A) args s 0 0 A) (F0 m 23 ls []) := by
  obtain ⟨hx, hb, hml, hown, hts, hr, hlk, hK, hA, hSW⟩ := id C0
  intro k
  induction k with
  | zero =>
    intro x1 x2 o_t f_t_25 f_t_33 hF
    exact absurd hF (by simp [fX10_seekWays_L23])
  | succ k ih =>
    intro x1 x2 o_t f_t_25 f_t_33 hF H locs ls hP hD hS hl
    rw [fX10_seekWays_L23] at hF
    refine lv_iload_n hx hb dX10_seekWays_23 rfl (lv_at hl 2 rfl) ?_
    refine lv_bipush (v := (30 : Int32)) hx hb dX10_seekWays_24 (by decide) ?_
    refine lv_icmp_gt (tgt := 80) hx hb dX10_seekWays_26 (by decide) (fun c_6 => ?_) (fun c_6 => ?_)
    · have hF := it_p c_6 hF
      exact hKx x1 o_t f_t_25 f_t_33 _ _ _ hF (hP.sub [0, 1, 2, 3] rfl) (hD.sub [0, 1, 2, 3] rfl rfl) hS (lv_sub hl [1] rfl)
    · have hF := it_n c_6 hF
      refine lv_iconst (v := (0 : Int32)) hx hb dX10_seekWays_29 (by decide) ?_
      refine lv_istore_n (lv' := [(3, .int (0 : Int32)), (0, .ref a_t), (1, .int x1), (2, .int x2)]) hx hb dX10_seekWays_30 rfl hl (by decide) rfl (fun ls hl => ?_)
      refine wX10_seekWays_L31 C0 a_t p_t n x2 f_t_15 r o_t' f_t_25' f_t_33' _ ?_ n x1 (0 : Int32) o_t f_t_25 f_t_33 hF _ _ _ (hP.sub [0, 1, 2, 3] rfl) (hD.sub [0, 1, 2, 3] rfl rfl) hS (lv_sub hl [1, 2, 3, 0] rfl)
      · intro x1_x31 o_t_x31 f_t_25_x31 f_t_33_x31 H locs ls hF hP hD hS hl
        refine lv_iinc (v := (x2 + (1 : Int32))) (lv' := [(2, .int (x2 + (1 : Int32))), (0, .ref a_t), (1, .int x1_x31)]) hx hb dX10_seekWays_74 hl (k := 2) rfl rfl (by decide) rfl (fun ls hl => ?_)
        refine lv_goto (tgt := 23) hx hb dX10_seekWays_77 (by decide) ?_
        exact ih x1_x31 (x2 + (1 : Int32)) o_t_x31 f_t_25_x31 f_t_33_x31 hF _ _ _ (hP.sub [0, 1, 2, 3] rfl) (hD.sub [0, 1, 2, 3] rfl rfl) hS (lv_sub hl [1, 2, 0] rfl)
set_option maxHeartbeats 4000000 in
set_option maxRecDepth 100000 in
theorem mX10_seekWays (l : Launch) (g : GG) (a_t : Nat) (p_t : Nat → Nat) (n : Nat) (o_t : Nat → Int32) (f_t_15 : Nat → Int32) (f_t_25 : Nat → Int32) (f_t_33 : Nat → Int32) (r : Int32) (o_t' : Nat → Int32) (f_t_25' : Nat → Int32) (f_t_33' : Nat → Int32) (hF : fX10_seekWays n o_t f_t_15 f_t_25 f_t_33 = some (r, o_t', f_t_25', f_t_33')) : MI l g yX10_seekWays wsX10_seekWays ({ frames := 5, cells := 0, slots := 0, locals := 116 } : Room) [.ref a_t] [oX10 a_t p_t o_t, aI g (p_t 15) 266 f_t_15, aI g (p_t 25) 17 f_t_25, aI g (p_t 33) 218 f_t_33] r [oX10 a_t p_t o_t', aI g (p_t 15) 266 f_t_15, aI g (p_t 25) 17 f_t_25', aI g (p_t 33) 218 f_t_33'] := by
  refine MI.of (cc := cX10_seekWays) (maxL := 4) (rt := .int) (own := RX10) rfl rfl (by decide) (Nat.le_of_ble_eq_true rfl) ?_
  intro p e s m args below meth c A C0 hP hD hS ls hl
  obtain ⟨hx, hb, hml, hown, hts, hr, hlk, hK, hA, hSW⟩ := id C0
  have hl : lv_has ls 4 [(0, .ref a_t)] := hl
  rw [fX10_seekWays] at hF
  refine lv_iconst (v := (0 : Int32)) hx hb dX10_seekWays_0 (by decide) ?_
  refine lv_istore_n (lv' := [(1, .int (0 : Int32)), (0, .ref a_t)]) hx hb dX10_seekWays_1 rfl hl (by decide) rfl (fun ls hl => ?_)
  refine lv_aload_n hx hb dX10_seekWays_2 rfl (lv_at hl 1 rfl) ?_
  refine lv_iconst (v := (-1 : Int32)) hx hb dX10_seekWays_3 (by decide) ?_
  refine lv_iconst (v := (0 : Int32)) hx hb dX10_seekWays_4 (by decide) ?_
  obtain ⟨u_1, u_2, u_3, hu_4, hF⟩ := ob3_some hF
  refine call_i (wr := [aI g (p_t 33) 218 f_t_33]) (As := [.int (-1 : Int32), .int (0 : Int32)]) (rest := []) (ci := 10) (q0 := 0) C0 (mX10_isSoBy l g a_t p_t n (-1 : Int32) (0 : Int32) o_t f_t_15 f_t_25 u_1 u_2 u_3 hu_4) (cwV 2 hts gX10_seekWays_X10_isSoBy rfl rfl rfl (by decide +kernel) ⟨Nat.le_of_ble_eq_true rfl, Nat.le_of_ble_eq_true rfl⟩) hP hD hS [0, 1, 2] [3] rfl rfl rfl rfl rfl (by decide) rfl rfl hl.1 rfl rfl (Nat.le_of_ble_eq_true rfl) ⟨Nat.zero_le _, Nat.zero_le _⟩ dX10_seekWays_5 ?_
  intro H locs hP hD hS
  refine lv_if_eq (tgt := 21) hx hb dX10_seekWays_8 (by decide) (fun c_5 => ?_) (fun c_5 => ?_)
  · have hF := it_p c_5 hF
    refine lv_iconst (v := (0 : Int32)) hx hb dX10_seekWays_21 (by decide) ?_
    refine lv_istore_n (lv' := [(2, .int (0 : Int32)), (1, .int (0 : Int32)), (0, .ref a_t)]) hx hb dX10_seekWays_22 rfl hl (by decide) rfl (fun ls hl => ?_)
    refine wX10_seekWays_L23 C0 a_t p_t n f_t_15 r o_t' f_t_25' f_t_33' _ ?_ n (0 : Int32) (0 : Int32) u_2 u_3 f_t_33 hF _ _ _ (hP.sub [1, 2, 3, 0] rfl) (hD.sub [1, 2, 3, 0] rfl rfl) hS (lv_sub hl [2, 1, 0] rfl)
    · intro x1_x23 o_t_x23 f_t_25_x23 f_t_33_x23 H locs ls hF hP hD hS hl
      refine lv_iload_n hx hb dX10_seekWays_80 rfl (lv_at hl 0 rfl) ?_
      cases hF
      exact ret_i C0 hP hD hS [0, 1, 2, 3] rfl rfl rfl dX10_seekWays_81 rfl
  · have hF := it_n c_5 hF
    refine lv_aload_n hx hb dX10_seekWays_11 rfl (lv_at hl 1 rfl) ?_
    refine va_get (D := g.1) (ci := 10) (v := .ref (p_t 33)) (C := RX10) (T := TX10) (N := 35) hx hb hts iX10_seekWays_X10 hown hK.1 hP 1 rfl rfl 33 (by decide) (hts _ kX10_seekWays_50) (fun _ h9 => h9) rfl dX10_seekWays_12 ?_
    refine lv_iconst (v := (0 : Int32)) hx hb dX10_seekWays_15 (by decide) ?_
    refine lv_bipush (v := (-2 : Int32)) hx hb dX10_seekWays_16 (by decide) ?_
    refine va_iast hx hb hK.1 hP hD hS 0 0 rfl rfl (by unfold vp_in; decide) dX10_seekWays_18 (fun H locs hP hD hS => ?_)
    have hP : va_P g.1 vwCl [aI g (p_t 33) 218 (upd f_t_33 0 (-2 : Int32)), oX10 a_t p_t u_2, aI g (p_t 15) 266 f_t_15, aI g (p_t 25) 17 u_3] H := hP
    have hD : va_D A [aI g (p_t 33) 218 (upd f_t_33 0 (-2 : Int32)), oX10 a_t p_t u_2, aI g (p_t 15) 266 f_t_15, aI g (p_t 25) 17 u_3] := hD
    refine lv_iconst (v := (1 : Int32)) hx hb dX10_seekWays_19 (by decide) ?_
    refine lv_istore_n (lv' := [(1, .int (1 : Int32)), (0, .ref a_t)]) hx hb dX10_seekWays_20 rfl hl (by decide) rfl (fun ls hl => ?_)
    refine lv_iconst (v := (0 : Int32)) hx hb dX10_seekWays_21 (by decide) ?_
    refine lv_istore_n (lv' := [(2, .int (0 : Int32)), (1, .int (1 : Int32)), (0, .ref a_t)]) hx hb dX10_seekWays_22 rfl hl (by decide) rfl (fun ls hl => ?_)
    refine wX10_seekWays_L23 C0 a_t p_t n f_t_15 r o_t' f_t_25' f_t_33' _ ?_ n (1 : Int32) (0 : Int32) u_2 u_3 (upd f_t_33 0 (-2 : Int32)) hF _ _ _ (hP.sub [1, 2, 3, 0] rfl) (hD.sub [1, 2, 3, 0] rfl rfl) hS (lv_sub hl [2, 1, 0] rfl)
    · intro x1_x23 o_t_x23 f_t_25_x23 f_t_33_x23 H locs ls hF hP hD hS hl
      refine lv_iload_n hx hb dX10_seekWays_80 rfl (lv_at hl 0 rfl) ?_
      cases hF
      exact ret_i C0 hP hD hS [0, 1, 2, 3] rfl rfl rfl dX10_seekWays_81 rfl

theorem dAX10_ways : ∀ q ∈ ([(0, (.aload_n 0, 1)), (1, (.invokevirtual 159, 3)), (4, (.aload_n 0, 1)), (5, (.getfield 176, 3)), (8, (.ifCond .eq 10, 3)), (11, (.aload_n 0, 1)), (12, (.invokevirtual 362, 3)), (15, (.goto 8, 3)), (18, (.aload_n 0, 1)), (19, (.iconst 1, 1)), (20, (.invokevirtual 162, 3)), (23, (.ireturn, 1))] : List (Nat × (Instr × Nat))), decode cX10_ways q.1 = .ok q.2 := by decide +kernel
theorem dX10_ways_0 : decode cX10_ways 0 = .ok (.aload_n 0, 1) := dAX10_ways (0, (.aload_n 0, 1)) (List.mem_of_getElem? (i := 0) rfl)
theorem dX10_ways_1 : decode cX10_ways 1 = .ok (.invokevirtual 159, 3) := dAX10_ways (1, (.invokevirtual 159, 3)) (List.mem_of_getElem? (i := 1) rfl)
theorem dX10_ways_4 : decode cX10_ways 4 = .ok (.aload_n 0, 1) := dAX10_ways (4, (.aload_n 0, 1)) (List.mem_of_getElem? (i := 2) rfl)
theorem dX10_ways_5 : decode cX10_ways 5 = .ok (.getfield 176, 3) := dAX10_ways (5, (.getfield 176, 3)) (List.mem_of_getElem? (i := 3) rfl)
theorem dX10_ways_8 : decode cX10_ways 8 = .ok (.ifCond .eq 10, 3) := dAX10_ways (8, (.ifCond .eq 10, 3)) (List.mem_of_getElem? (i := 4) rfl)
theorem dX10_ways_11 : decode cX10_ways 11 = .ok (.aload_n 0, 1) := dAX10_ways (11, (.aload_n 0, 1)) (List.mem_of_getElem? (i := 5) rfl)
theorem dX10_ways_12 : decode cX10_ways 12 = .ok (.invokevirtual 362, 3) := dAX10_ways (12, (.invokevirtual 362, 3)) (List.mem_of_getElem? (i := 6) rfl)
theorem dX10_ways_15 : decode cX10_ways 15 = .ok (.goto 8, 3) := dAX10_ways (15, (.goto 8, 3)) (List.mem_of_getElem? (i := 7) rfl)
theorem dX10_ways_18 : decode cX10_ways 18 = .ok (.aload_n 0, 1) := dAX10_ways (18, (.aload_n 0, 1)) (List.mem_of_getElem? (i := 8) rfl)
theorem dX10_ways_19 : decode cX10_ways 19 = .ok (.iconst 1, 1) := dAX10_ways (19, (.iconst 1, 1)) (List.mem_of_getElem? (i := 9) rfl)
theorem dX10_ways_20 : decode cX10_ways 20 = .ok (.invokevirtual 162, 3) := dAX10_ways (20, (.invokevirtual 162, 3)) (List.mem_of_getElem? (i := 10) rfl)
theorem dX10_ways_23 : decode cX10_ways 23 = .ok (.ireturn, 1) := dAX10_ways (23, (.ireturn, 1)) (List.mem_of_getElem? (i := 11) rfl)
set_option maxRecDepth 20000 in
theorem ggX10_ways_X10_good : GoodIn wsX10_ways wsX10_good := goodIn_r _ [6, 7, 8, 71, 72, 73, 74, 75, 76, 77, 78, 79, 80, 81, 82, 83, 84, 85, 86, 87, 88, 89, 90, 91, 92, 93, 94, 95, 96, 97, 98, 99, 100, 101, 102, 103, 104, 105] rfl (by decide +kernel)
set_option maxRecDepth 20000 in
theorem gX10_ways_X10_good : GoodIn wsX10_ways (wsV RX10 159 RX10 yX10_good wsX10_good) := goodIn_app (goodIn_of _ (by decide +kernel)) ggX10_ways_X10_good
set_option maxRecDepth 20000 in
theorem ggX10_ways_X10_seekWays : GoodIn wsX10_ways wsX10_seekWays := goodIn_r _ [12, 13, 14, 15, 16, 17, 5, 18, 19, 20, 21, 22, 23, 24, 25, 26, 27, 28, 29, 30, 31, 32, 33, 34, 35, 36, 37, 38, 39, 40, 41, 42, 43, 44, 45, 46, 47, 48, 49, 50, 51, 52, 53, 54, 55, 56, 57, 58, 59, 60, 61, 62, 63, 64, 65, 66, 71, 72, 73, 74, 75, 76, 77, 78, 79, 80, 81, 82, 83, 84, 85, 86, 87, 88, 89, 90, 91, 92, 93, 94, 95, 96, 97, 98, 99, 100, 101, 102, 103, 104, 105] rfl (by decide +kernel)
set_option maxRecDepth 20000 in
theorem gX10_ways_X10_seekWays : GoodIn wsX10_ways (wsV RX10 362 RX10 yX10_seekWays wsX10_seekWays) := goodIn_app (goodIn_of _ (by decide +kernel)) ggX10_ways_X10_seekWays
set_option maxRecDepth 20000 in
theorem ggX10_ways_X10_no : GoodIn wsX10_ways wsX10_no := goodIn_r _ [70, 8, 71, 72, 73, 74, 75, 76, 77, 78, 79, 80, 81, 82, 83, 84, 85, 86, 87, 88, 89, 90, 91, 92, 93, 94, 95, 96, 97, 98, 99, 100, 101, 102, 103, 104, 105] rfl (by decide +kernel)
set_option maxRecDepth 20000 in
theorem gX10_ways_X10_no : GoodIn wsX10_ways (wsV RX10 162 RX10 yX10_no wsX10_no) := goodIn_app (goodIn_of _ (by decide +kernel)) ggX10_ways_X10_no
theorem kX10_ways_176 : Cond.fieldLink RX10 176 "EveningVowModel" "hasEvening" "Z" ∈ wsX10_ways := List.mem_of_getElem? (i := 1) rfl
theorem iX10_ways_X10 : ∀ w ∈ u_ws RX10 TX10 35, w ∈ wsX10_ways := fun w h => (List.mem_cons_of_mem _ (List.mem_append_right _ h))
set_option maxHeartbeats 4000000 in
set_option maxRecDepth 100000 in
theorem mX10_ways (l : Launch) (g : GG) (a_t : Nat) (p_t : Nat → Nat) (n : Nat) (o_t : Nat → Int32) (f_t_15 : Nat → Int32) (f_t_25 : Nat → Int32) (f_t_33 : Nat → Int32) (r : Int32) (o_t' : Nat → Int32) (f_t_25' : Nat → Int32) (f_t_33' : Nat → Int32) (hF : fX10_ways n o_t f_t_15 f_t_25 f_t_33 = some (r, o_t', f_t_25', f_t_33')) : MI l g yX10_ways wsX10_ways ({ frames := 6, cells := 0, slots := 0, locals := 139 } : Room) [.ref a_t] [oX10 a_t p_t o_t, aI g (p_t 15) 266 f_t_15, aI g (p_t 25) 17 f_t_25, aI g (p_t 33) 218 f_t_33] r [oX10 a_t p_t o_t', aI g (p_t 15) 266 f_t_15, aI g (p_t 25) 17 f_t_25', aI g (p_t 33) 218 f_t_33'] := by
  refine MI.of (cc := cX10_ways) (maxL := 1) (rt := .int) (own := RX10) rfl rfl (by decide) (Nat.le_of_ble_eq_true rfl) ?_
  intro p e s m args below meth c A C0 hP hD hS ls hl
  obtain ⟨hx, hb, hml, hown, hts, hr, hlk, hK, hA, hSW⟩ := id C0
  have hl : lv_has ls 1 [(0, .ref a_t)] := hl
  rw [fX10_ways] at hF
  refine lv_aload_n hx hb dX10_ways_0 rfl (lv_at hl 0 rfl) ?_
  obtain ⟨u_1, hu_2, hF⟩ := ob1_some hF
  refine call_v (wr := [aI g (p_t 15) 266 f_t_15, aI g (p_t 25) 17 f_t_25, aI g (p_t 33) 218 f_t_33]) (As := []) (rest := []) (ci := 10) (q0 := 0) C0 (mX10_good l g a_t p_t n o_t u_1 hu_2) (cwV 0 hts gX10_ways_X10_good rfl rfl rfl (by decide +kernel) ⟨Nat.le_of_ble_eq_true rfl, Nat.le_of_ble_eq_true rfl⟩) hP hD hS [0] [1, 2, 3] rfl rfl rfl rfl rfl (by decide) rfl rfl hl.1 rfl rfl (Nat.le_of_ble_eq_true rfl) ⟨Nat.zero_le _, Nat.zero_le _⟩ dX10_ways_1 ?_
  intro H locs hP hD hS
  refine lv_aload_n hx hb dX10_ways_4 rfl (lv_at hl 0 rfl) ?_
  refine va_get (D := g.1) (ci := 10) (v := .int (u_1 14)) (C := RX10) (T := TX10) (N := 35) hx hb hts iX10_ways_X10 hown hK.1 hP 3 rfl rfl 14 (by decide) (hts _ kX10_ways_176) (fun _ h9 => h9) rfl dX10_ways_5 ?_
  refine lv_if_eq (tgt := 18) hx hb dX10_ways_8 (by decide) (fun c_3 => ?_) (fun c_3 => ?_)
  · have hF := it_p c_3 hF
    refine lv_aload_n hx hb dX10_ways_18 rfl (lv_at hl 0 rfl) ?_
    refine lv_iconst (v := (1 : Int32)) hx hb dX10_ways_19 (by decide) ?_
    obtain ⟨u_4, u_5, hu_6, hF⟩ := ob2_some hF
    refine call_i (wr := [aI g (p_t 15) 266 f_t_15, aI g (p_t 25) 17 f_t_25, aI g (p_t 33) 218 f_t_33]) (As := [.int (1 : Int32)]) (rest := []) (ci := 10) (q0 := 0) C0 (mX10_no l g a_t p_t n (1 : Int32) u_1 u_4 u_5 hu_6) (cwV 1 hts gX10_ways_X10_no rfl rfl rfl (by decide +kernel) ⟨Nat.le_of_ble_eq_true rfl, Nat.le_of_ble_eq_true rfl⟩) hP hD hS [3] [0, 1, 2] rfl rfl rfl rfl rfl (by decide) rfl rfl hl.1 rfl rfl (Nat.le_of_ble_eq_true rfl) ⟨Nat.zero_le _, Nat.zero_le _⟩ dX10_ways_20 ?_
    intro H locs hP hD hS
    cases hF
    exact ret_i C0 hP hD hS [3, 0, 1, 2] rfl rfl rfl dX10_ways_23 rfl
  · have hF := it_n c_3 hF
    refine lv_aload_n hx hb dX10_ways_11 rfl (lv_at hl 0 rfl) ?_
    obtain ⟨u_7, u_8, u_9, u_10, hu_11, hF⟩ := ob4_some hF
    refine call_i (wr := []) (As := []) (rest := []) (ci := 10) (q0 := 0) C0 (mX10_seekWays l g a_t p_t n u_1 f_t_15 f_t_25 f_t_33 u_7 u_8 u_9 u_10 hu_11) (cwV 0 hts gX10_ways_X10_seekWays rfl rfl rfl (by decide +kernel) ⟨Nat.le_of_ble_eq_true rfl, Nat.le_of_ble_eq_true rfl⟩) hP hD hS [3, 0, 1, 2] [] rfl rfl rfl rfl rfl (by decide) rfl rfl hl.1 rfl rfl (Nat.le_of_ble_eq_true rfl) ⟨Nat.zero_le _, Nat.zero_le _⟩ dX10_ways_12 ?_
    intro H locs hP hD hS
    refine lv_goto (tgt := 23) hx hb dX10_ways_15 (by decide) ?_
    cases hF
    exact ret_i C0 hP hD hS [0, 1, 2, 3] rfl rfl rfl dX10_ways_23 rfl

theorem dAX10_wayAt : ∀ q ∈ ([(0, (.aload_n 0, 1)), (1, (.invokevirtual 159, 3)), (4, (.aload_n 0, 1)), (5, (.getfield 176, 3)), (8, (.ifCond .eq 26, 3)), (11, (.iload_n 1, 1)), (12, (.iconst 0, 1)), (13, (.aload_n 0, 1)), (14, (.invokevirtual 362, 3)), (17, (.iconst 1, 1)), (18, (.isub, 1)), (19, (.invokestatic 144, 3)), (22, (.ifCond .eq 12, 3)), (25, (.aload_n 0, 1)), (26, (.getfield 50, 3)), (29, (.iload_n 1, 1)), (30, (.iaload, 1)), (31, (.goto 8, 3)), (34, (.aload_n 0, 1)), (35, (.iconst 1, 1)), (36, (.invokevirtual 162, 3)), (39, (.ireturn, 1))] : List (Nat × (Instr × Nat))), decode cX10_wayAt q.1 = .ok q.2 := by decide +kernel
theorem dX10_wayAt_0 : decode cX10_wayAt 0 = .ok (.aload_n 0, 1) := dAX10_wayAt (0, (.aload_n 0, 1)) (List.mem_of_getElem? (i := 0) rfl)
theorem dX10_wayAt_1 : decode cX10_wayAt 1 = .ok (.invokevirtual 159, 3) := dAX10_wayAt (1, (.invokevirtual 159, 3)) (List.mem_of_getElem? (i := 1) rfl)
theorem dX10_wayAt_4 : decode cX10_wayAt 4 = .ok (.aload_n 0, 1) := dAX10_wayAt (4, (.aload_n 0, 1)) (List.mem_of_getElem? (i := 2) rfl)
theorem dX10_wayAt_5 : decode cX10_wayAt 5 = .ok (.getfield 176, 3) := dAX10_wayAt (5, (.getfield 176, 3)) (List.mem_of_getElem? (i := 3) rfl)
theorem dX10_wayAt_8 : decode cX10_wayAt 8 = .ok (.ifCond .eq 26, 3) := dAX10_wayAt (8, (.ifCond .eq 26, 3)) (List.mem_of_getElem? (i := 4) rfl)
theorem dX10_wayAt_11 : decode cX10_wayAt 11 = .ok (.iload_n 1, 1) := dAX10_wayAt (11, (.iload_n 1, 1)) (List.mem_of_getElem? (i := 5) rfl)
theorem dX10_wayAt_12 : decode cX10_wayAt 12 = .ok (.iconst 0, 1) := dAX10_wayAt (12, (.iconst 0, 1)) (List.mem_of_getElem? (i := 6) rfl)
theorem dX10_wayAt_13 : decode cX10_wayAt 13 = .ok (.aload_n 0, 1) := dAX10_wayAt (13, (.aload_n 0, 1)) (List.mem_of_getElem? (i := 7) rfl)
theorem dX10_wayAt_14 : decode cX10_wayAt 14 = .ok (.invokevirtual 362, 3) := dAX10_wayAt (14, (.invokevirtual 362, 3)) (List.mem_of_getElem? (i := 8) rfl)
theorem dX10_wayAt_17 : decode cX10_wayAt 17 = .ok (.iconst 1, 1) := dAX10_wayAt (17, (.iconst 1, 1)) (List.mem_of_getElem? (i := 9) rfl)
theorem dX10_wayAt_18 : decode cX10_wayAt 18 = .ok (.isub, 1) := dAX10_wayAt (18, (.isub, 1)) (List.mem_of_getElem? (i := 10) rfl)
theorem dX10_wayAt_19 : decode cX10_wayAt 19 = .ok (.invokestatic 144, 3) := dAX10_wayAt (19, (.invokestatic 144, 3)) (List.mem_of_getElem? (i := 11) rfl)
theorem dX10_wayAt_22 : decode cX10_wayAt 22 = .ok (.ifCond .eq 12, 3) := dAX10_wayAt (22, (.ifCond .eq 12, 3)) (List.mem_of_getElem? (i := 12) rfl)
theorem dX10_wayAt_25 : decode cX10_wayAt 25 = .ok (.aload_n 0, 1) := dAX10_wayAt (25, (.aload_n 0, 1)) (List.mem_of_getElem? (i := 13) rfl)
theorem dX10_wayAt_26 : decode cX10_wayAt 26 = .ok (.getfield 50, 3) := dAX10_wayAt (26, (.getfield 50, 3)) (List.mem_of_getElem? (i := 14) rfl)
theorem dX10_wayAt_29 : decode cX10_wayAt 29 = .ok (.iload_n 1, 1) := dAX10_wayAt (29, (.iload_n 1, 1)) (List.mem_of_getElem? (i := 15) rfl)
theorem dX10_wayAt_30 : decode cX10_wayAt 30 = .ok (.iaload, 1) := dAX10_wayAt (30, (.iaload, 1)) (List.mem_of_getElem? (i := 16) rfl)
theorem dX10_wayAt_31 : decode cX10_wayAt 31 = .ok (.goto 8, 3) := dAX10_wayAt (31, (.goto 8, 3)) (List.mem_of_getElem? (i := 17) rfl)
theorem dX10_wayAt_34 : decode cX10_wayAt 34 = .ok (.aload_n 0, 1) := dAX10_wayAt (34, (.aload_n 0, 1)) (List.mem_of_getElem? (i := 18) rfl)
theorem dX10_wayAt_35 : decode cX10_wayAt 35 = .ok (.iconst 1, 1) := dAX10_wayAt (35, (.iconst 1, 1)) (List.mem_of_getElem? (i := 19) rfl)
theorem dX10_wayAt_36 : decode cX10_wayAt 36 = .ok (.invokevirtual 162, 3) := dAX10_wayAt (36, (.invokevirtual 162, 3)) (List.mem_of_getElem? (i := 20) rfl)
theorem dX10_wayAt_39 : decode cX10_wayAt 39 = .ok (.ireturn, 1) := dAX10_wayAt (39, (.ireturn, 1)) (List.mem_of_getElem? (i := 21) rfl)
set_option maxRecDepth 20000 in
theorem ggX10_wayAt_X10_good : GoodIn wsX10_wayAt wsX10_good := goodIn_r _ [7, 8, 9, 74, 75, 76, 77, 78, 79, 80, 81, 82, 83, 84, 85, 86, 87, 88, 89, 90, 91, 92, 93, 94, 95, 96, 97, 98, 99, 100, 101, 102, 103, 104, 105, 106, 107, 108] rfl (by decide +kernel)
set_option maxRecDepth 20000 in
theorem gX10_wayAt_X10_good : GoodIn wsX10_wayAt (wsV RX10 159 RX10 yX10_good wsX10_good) := goodIn_app (goodIn_of _ (by decide +kernel)) ggX10_wayAt_X10_good
set_option maxRecDepth 20000 in
theorem ggX10_wayAt_X10_seekWays : GoodIn wsX10_wayAt wsX10_seekWays := goodIn_r _ [13, 2, 14, 15, 16, 17, 6, 18, 19, 20, 21, 22, 23, 24, 25, 26, 27, 28, 29, 30, 31, 32, 33, 34, 35, 36, 37, 38, 39, 40, 41, 42, 43, 44, 45, 46, 47, 48, 49, 50, 51, 52, 53, 54, 55, 56, 57, 58, 59, 60, 61, 62, 63, 64, 65, 66, 74, 75, 76, 77, 78, 79, 80, 81, 82, 83, 84, 85, 86, 87, 88, 89, 90, 91, 92, 93, 94, 95, 96, 97, 98, 99, 100, 101, 102, 103, 104, 105, 106, 107, 108] rfl (by decide +kernel)
set_option maxRecDepth 20000 in
theorem gX10_wayAt_X10_seekWays : GoodIn wsX10_wayAt (wsV RX10 362 RX10 yX10_seekWays wsX10_seekWays) := goodIn_app (goodIn_of _ (by decide +kernel)) ggX10_wayAt_X10_seekWays
set_option maxRecDepth 20000 in
theorem ggX10_wayAt_X10_in : GoodIn wsX10_wayAt wsX10_in := goodIn_r _ [69] rfl (by decide +kernel)
set_option maxRecDepth 20000 in
theorem gX10_wayAt_X10_in : GoodIn wsX10_wayAt (va_wsS RX10 144 yX10_in wsX10_in) := goodIn_app (goodIn_of _ (by decide +kernel)) ggX10_wayAt_X10_in
set_option maxRecDepth 20000 in
theorem ggX10_wayAt_X10_no : GoodIn wsX10_wayAt wsX10_no := goodIn_r _ [73, 9, 74, 75, 76, 77, 78, 79, 80, 81, 82, 83, 84, 85, 86, 87, 88, 89, 90, 91, 92, 93, 94, 95, 96, 97, 98, 99, 100, 101, 102, 103, 104, 105, 106, 107, 108] rfl (by decide +kernel)
set_option maxRecDepth 20000 in
theorem gX10_wayAt_X10_no : GoodIn wsX10_wayAt (wsV RX10 162 RX10 yX10_no wsX10_no) := goodIn_app (goodIn_of _ (by decide +kernel)) ggX10_wayAt_X10_no
theorem kX10_wayAt_176 : Cond.fieldLink RX10 176 "EveningVowModel" "hasEvening" "Z" ∈ wsX10_wayAt := List.mem_of_getElem? (i := 1) rfl
theorem iX10_wayAt_X10 : ∀ w ∈ u_ws RX10 TX10 35, w ∈ wsX10_wayAt := fun w h => (List.mem_cons_of_mem _ (List.mem_append_right _ h))
theorem kX10_wayAt_50 : Cond.fieldLink RX10 50 "EveningVowModel" "wayCodes" "[I" ∈ wsX10_wayAt := List.mem_of_getElem? (i := 2) rfl
set_option maxHeartbeats 4000000 in
set_option maxRecDepth 100000 in
theorem mX10_wayAt (l : Launch) (g : GG) (a_t : Nat) (p_t : Nat → Nat) (n : Nat) (x1 : Int32) (o_t : Nat → Int32) (f_t_15 : Nat → Int32) (f_t_25 : Nat → Int32) (f_t_33 : Nat → Int32) (r : Int32) (o_t' : Nat → Int32) (f_t_25' : Nat → Int32) (f_t_33' : Nat → Int32) (hF : fX10_wayAt n x1 o_t f_t_15 f_t_25 f_t_33 = some (r, o_t', f_t_25', f_t_33')) : MI l g yX10_wayAt wsX10_wayAt ({ frames := 6, cells := 0, slots := 0, locals := 139 } : Room) [.ref a_t, .int x1] [oX10 a_t p_t o_t, aI g (p_t 15) 266 f_t_15, aI g (p_t 25) 17 f_t_25, aI g (p_t 33) 218 f_t_33] r [oX10 a_t p_t o_t', aI g (p_t 15) 266 f_t_15, aI g (p_t 25) 17 f_t_25', aI g (p_t 33) 218 f_t_33'] := by
  refine MI.of (cc := cX10_wayAt) (maxL := 2) (rt := .int) (own := RX10) rfl rfl (by decide) (Nat.le_of_ble_eq_true rfl) ?_
  intro p e s m args below meth c A C0 hP hD hS ls hl
  obtain ⟨hx, hb, hml, hown, hts, hr, hlk, hK, hA, hSW⟩ := id C0
  have hl : lv_has ls 2 [(0, .ref a_t), (1, .int x1)] := hl
  rw [fX10_wayAt] at hF
  refine lv_aload_n hx hb dX10_wayAt_0 rfl (lv_at hl 0 rfl) ?_
  obtain ⟨u_1, hu_2, hF⟩ := ob1_some hF
  refine call_v (wr := [aI g (p_t 15) 266 f_t_15, aI g (p_t 25) 17 f_t_25, aI g (p_t 33) 218 f_t_33]) (As := []) (rest := []) (ci := 10) (q0 := 0) C0 (mX10_good l g a_t p_t n o_t u_1 hu_2) (cwV 0 hts gX10_wayAt_X10_good rfl rfl rfl (by decide +kernel) ⟨Nat.le_of_ble_eq_true rfl, Nat.le_of_ble_eq_true rfl⟩) hP hD hS [0] [1, 2, 3] rfl rfl rfl rfl rfl (by decide) rfl rfl hl.1 rfl rfl (Nat.le_of_ble_eq_true rfl) ⟨Nat.zero_le _, Nat.zero_le _⟩ dX10_wayAt_1 ?_
  intro H locs hP hD hS
  refine lv_aload_n hx hb dX10_wayAt_4 rfl (lv_at hl 0 rfl) ?_
  refine va_get (D := g.1) (ci := 10) (v := .int (u_1 14)) (C := RX10) (T := TX10) (N := 35) hx hb hts iX10_wayAt_X10 hown hK.1 hP 3 rfl rfl 14 (by decide) (hts _ kX10_wayAt_176) (fun _ h9 => h9) rfl dX10_wayAt_5 ?_
  refine lv_if_eq (tgt := 34) hx hb dX10_wayAt_8 (by decide) (fun c_3 => ?_) (fun c_3 => ?_)
  · have hF := it_p c_3 hF
    refine lv_aload_n hx hb dX10_wayAt_34 rfl (lv_at hl 0 rfl) ?_
    refine lv_iconst (v := (1 : Int32)) hx hb dX10_wayAt_35 (by decide) ?_
    obtain ⟨u_4, u_5, hu_6, hF⟩ := ob2_some hF
    refine call_i (wr := [aI g (p_t 15) 266 f_t_15, aI g (p_t 25) 17 f_t_25, aI g (p_t 33) 218 f_t_33]) (As := [.int (1 : Int32)]) (rest := []) (ci := 10) (q0 := 0) C0 (mX10_no l g a_t p_t n (1 : Int32) u_1 u_4 u_5 hu_6) (cwV 1 hts gX10_wayAt_X10_no rfl rfl rfl (by decide +kernel) ⟨Nat.le_of_ble_eq_true rfl, Nat.le_of_ble_eq_true rfl⟩) hP hD hS [3] [0, 1, 2] rfl rfl rfl rfl rfl (by decide) rfl rfl hl.1 rfl rfl (Nat.le_of_ble_eq_true rfl) ⟨Nat.zero_le _, Nat.zero_le _⟩ dX10_wayAt_36 ?_
    intro H locs hP hD hS
    cases hF
    exact ret_i C0 hP hD hS [3, 0, 1, 2] rfl rfl rfl dX10_wayAt_39 rfl
  · have hF := it_n c_3 hF
    refine lv_iload_n hx hb dX10_wayAt_11 rfl (lv_at hl 1 rfl) ?_
    refine lv_iconst (v := (0 : Int32)) hx hb dX10_wayAt_12 (by decide) ?_
    refine lv_aload_n hx hb dX10_wayAt_13 rfl (lv_at hl 0 rfl) ?_
    obtain ⟨u_7, u_8, u_9, u_10, hu_11, hF⟩ := ob4_some hF
    refine call_i (wr := []) (As := []) (rest := [.int (0 : Int32), .int x1]) (ci := 10) (q0 := 0) C0 (mX10_seekWays l g a_t p_t n u_1 f_t_15 f_t_25 f_t_33 u_7 u_8 u_9 u_10 hu_11) (cwV 0 hts gX10_wayAt_X10_seekWays rfl rfl rfl (by decide +kernel) ⟨Nat.le_of_ble_eq_true rfl, Nat.le_of_ble_eq_true rfl⟩) hP hD hS [3, 0, 1, 2] [] rfl rfl rfl rfl rfl (by decide) rfl rfl hl.1 rfl rfl (Nat.le_of_ble_eq_true rfl) ⟨Nat.zero_le _, Nat.zero_le _⟩ dX10_wayAt_14 ?_
    intro H locs hP hD hS
    refine lv_iconst (v := (1 : Int32)) hx hb dX10_wayAt_17 (by decide) ?_
    refine lv_isub hx hb dX10_wayAt_18 ?_
    obtain ⟨u_12, hu_13, hF⟩ := ob1_some hF
    refine call_si (wr := [oX10 a_t p_t u_8, aI g (p_t 15) 266 f_t_15, aI g (p_t 25) 17 u_9, aI g (p_t 33) 218 u_10]) (As := [.int x1, .int (0 : Int32), .int (u_7 - (1 : Int32))]) (rest := []) C0 (mX10_in l g n x1 (0 : Int32) (u_7 - (1 : Int32)) u_12 hu_13) (va_cwS 3 hts gX10_wayAt_X10_in rfl rfl rfl (by decide +kernel) ⟨Nat.le_of_ble_eq_true rfl, Nat.le_of_ble_eq_true rfl⟩) hP hD hS [] [0, 1, 2, 3] rfl rfl rfl rfl rfl (by decide) hl.1 rfl rfl (Nat.le_of_ble_eq_true rfl) ⟨Nat.zero_le _, Nat.zero_le _⟩ dX10_wayAt_19 ?_
    intro H locs hP hD hS
    refine lv_if_eq (tgt := 34) hx hb dX10_wayAt_22 (by decide) (fun c_14 => ?_) (fun c_14 => ?_)
    · have hF := it_p c_14 hF
      refine lv_aload_n hx hb dX10_wayAt_34 rfl (lv_at hl 0 rfl) ?_
      refine lv_iconst (v := (1 : Int32)) hx hb dX10_wayAt_35 (by decide) ?_
      obtain ⟨u_15, u_16, hu_17, hF⟩ := ob2_some hF
      refine call_i (wr := [aI g (p_t 15) 266 f_t_15, aI g (p_t 25) 17 u_9, aI g (p_t 33) 218 u_10]) (As := [.int (1 : Int32)]) (rest := []) (ci := 10) (q0 := 0) C0 (mX10_no l g a_t p_t n (1 : Int32) u_8 u_15 u_16 hu_17) (cwV 1 hts gX10_wayAt_X10_no rfl rfl rfl (by decide +kernel) ⟨Nat.le_of_ble_eq_true rfl, Nat.le_of_ble_eq_true rfl⟩) hP hD hS [0] [1, 2, 3] rfl rfl rfl rfl rfl (by decide) rfl rfl hl.1 rfl rfl (Nat.le_of_ble_eq_true rfl) ⟨Nat.zero_le _, Nat.zero_le _⟩ dX10_wayAt_36 ?_
      intro H locs hP hD hS
      cases hF
      exact ret_i C0 hP hD hS [3, 0, 1, 2] rfl rfl rfl dX10_wayAt_39 rfl
    · have hF := it_n c_14 hF
      refine lv_aload_n hx hb dX10_wayAt_25 rfl (lv_at hl 0 rfl) ?_
      refine va_get (D := g.1) (ci := 10) (v := .ref (p_t 33)) (C := RX10) (T := TX10) (N := 35) hx hb hts iX10_wayAt_X10 hown hK.1 hP 0 rfl rfl 33 (by decide) (hts _ kX10_wayAt_50) (fun _ h9 => h9) rfl dX10_wayAt_26 ?_
      refine lv_iload_n hx hb dX10_wayAt_29 rfl (lv_at hl 1 rfl) ?_
      obtain ⟨h_18, hF⟩ := it_ck hF
      refine va_iald hx hb hK.1 hP 3 0 rfl rfl h_18 dX10_wayAt_30 ?_
      refine lv_goto (tgt := 39) hx hb dX10_wayAt_31 (by decide) ?_
      cases hF
      exact ret_i C0 hP hD hS [0, 1, 2, 3] rfl rfl rfl dX10_wayAt_39 rfl

theorem dAX10_judge : ∀ q ∈ ([(0, (.aload_n 0, 1)), (1, (.invokevirtual 159, 3)), (4, (.aload_n 0, 1)), (5, (.getfield 176, 3)), (8, (.ifCond .ne 9, 3)), (11, (.aload_n 0, 1)), (12, (.iconst 1, 1)), (13, (.invokevirtual 162, 3)), (16, (.ireturn, 1)), (17, (.iconst 0, 1)), (18, (.istore_n 1, 1)), (19, (.iload_n 1, 1)), (20, (.aload_n 0, 1)), (21, (.getfield 20, 3)), (24, (.bipush 8, 2)), (26, (.iaload, 1)), (27, (.if_icmp .ge 88, 3)), (30, (.bipush 104, 2)), (32, (.iconst 3, 1)), (33, (.iload_n 1, 1)), (34, (.imul, 1)), (35, (.iadd, 1)), (36, (.istore_n 2, 1)), (37, (.aload_n 0, 1)), (38, (.aload_n 0, 1)), (39, (.getfield 35, 3)), (42, (.invokevirtual 172, 3)), (45, (.iconst 0, 1)), (46, (.istore_n 3, 1)), (47, (.iload_n 3, 1)), (48, (.aload_n 0, 1)), (49, (.getfield 20, 3)), (52, (.iload_n 2, 1)), (53, (.iconst 1, 1)), (54, (.iadd, 1)), (55, (.iaload, 1)), (56, (.if_icmp .ge 18, 3)), (59, (.aload_n 0, 1)), (60, (.aload_n 0, 1)), (61, (.getfield 35, 3)), (64, (.invokevirtual 293, 3)), (67, (.pop, 1)), (68, (.iinc 3 1, 3)), (71, (.goto (-24), 3)), (74, (.aload_n 0, 1)), (75, (.getfield 35, 3)), (78, (.aload_n 0, 1)), (79, (.getfield 20, 3)), (82, (.iload_n 2, 1)), (83, (.iaload, 1)), (84, (.invokestatic 248, 3)), (87, (.aload_n 0, 1)), (88, (.getfield 20, 3)), (91, (.iload_n 2, 1)), (92, (.iconst 2, 1)), (93, (.iadd, 1)), (94, (.iaload, 1)), (95, (.iconst 1, 1)), (96, (.if_icmp .ne 7, 3)), (99, (.iconst 1, 1)), (100, (.goto 4, 3)), (103, (.iconst 0, 1)), (104, (.if_icmp .ne 5, 3)), (107, (.iload_n 1, 1)), (108, (.ireturn, 1)), (109, (.iinc 1 1, 3)), (112, (.goto (-93), 3)), (115, (.bipush (-2), 2)), (117, (.ireturn, 1))] : List (Nat × (Instr × Nat))), decode cX10_judge q.1 = .ok q.2 := by decide +kernel
theorem dX10_judge_0 : decode cX10_judge 0 = .ok (.aload_n 0, 1) := dAX10_judge (0, (.aload_n 0, 1)) (List.mem_of_getElem? (i := 0) rfl)
theorem dX10_judge_1 : decode cX10_judge 1 = .ok (.invokevirtual 159, 3) := dAX10_judge (1, (.invokevirtual 159, 3)) (List.mem_of_getElem? (i := 1) rfl)
theorem dX10_judge_4 : decode cX10_judge 4 = .ok (.aload_n 0, 1) := dAX10_judge (4, (.aload_n 0, 1)) (List.mem_of_getElem? (i := 2) rfl)
theorem dX10_judge_5 : decode cX10_judge 5 = .ok (.getfield 176, 3) := dAX10_judge (5, (.getfield 176, 3)) (List.mem_of_getElem? (i := 3) rfl)
theorem dX10_judge_8 : decode cX10_judge 8 = .ok (.ifCond .ne 9, 3) := dAX10_judge (8, (.ifCond .ne 9, 3)) (List.mem_of_getElem? (i := 4) rfl)
theorem dX10_judge_11 : decode cX10_judge 11 = .ok (.aload_n 0, 1) := dAX10_judge (11, (.aload_n 0, 1)) (List.mem_of_getElem? (i := 5) rfl)
theorem dX10_judge_12 : decode cX10_judge 12 = .ok (.iconst 1, 1) := dAX10_judge (12, (.iconst 1, 1)) (List.mem_of_getElem? (i := 6) rfl)
theorem dX10_judge_13 : decode cX10_judge 13 = .ok (.invokevirtual 162, 3) := dAX10_judge (13, (.invokevirtual 162, 3)) (List.mem_of_getElem? (i := 7) rfl)
theorem dX10_judge_16 : decode cX10_judge 16 = .ok (.ireturn, 1) := dAX10_judge (16, (.ireturn, 1)) (List.mem_of_getElem? (i := 8) rfl)
theorem dX10_judge_17 : decode cX10_judge 17 = .ok (.iconst 0, 1) := dAX10_judge (17, (.iconst 0, 1)) (List.mem_of_getElem? (i := 9) rfl)
theorem dX10_judge_18 : decode cX10_judge 18 = .ok (.istore_n 1, 1) := dAX10_judge (18, (.istore_n 1, 1)) (List.mem_of_getElem? (i := 10) rfl)
theorem dX10_judge_19 : decode cX10_judge 19 = .ok (.iload_n 1, 1) := dAX10_judge (19, (.iload_n 1, 1)) (List.mem_of_getElem? (i := 11) rfl)
theorem dX10_judge_20 : decode cX10_judge 20 = .ok (.aload_n 0, 1) := dAX10_judge (20, (.aload_n 0, 1)) (List.mem_of_getElem? (i := 12) rfl)
theorem dX10_judge_21 : decode cX10_judge 21 = .ok (.getfield 20, 3) := dAX10_judge (21, (.getfield 20, 3)) (List.mem_of_getElem? (i := 13) rfl)
theorem dX10_judge_24 : decode cX10_judge 24 = .ok (.bipush 8, 2) := dAX10_judge (24, (.bipush 8, 2)) (List.mem_of_getElem? (i := 14) rfl)
theorem dX10_judge_26 : decode cX10_judge 26 = .ok (.iaload, 1) := dAX10_judge (26, (.iaload, 1)) (List.mem_of_getElem? (i := 15) rfl)
theorem dX10_judge_27 : decode cX10_judge 27 = .ok (.if_icmp .ge 88, 3) := dAX10_judge (27, (.if_icmp .ge 88, 3)) (List.mem_of_getElem? (i := 16) rfl)
theorem dX10_judge_30 : decode cX10_judge 30 = .ok (.bipush 104, 2) := dAX10_judge (30, (.bipush 104, 2)) (List.mem_of_getElem? (i := 17) rfl)
theorem dX10_judge_32 : decode cX10_judge 32 = .ok (.iconst 3, 1) := dAX10_judge (32, (.iconst 3, 1)) (List.mem_of_getElem? (i := 18) rfl)
theorem dX10_judge_33 : decode cX10_judge 33 = .ok (.iload_n 1, 1) := dAX10_judge (33, (.iload_n 1, 1)) (List.mem_of_getElem? (i := 19) rfl)
theorem dX10_judge_34 : decode cX10_judge 34 = .ok (.imul, 1) := dAX10_judge (34, (.imul, 1)) (List.mem_of_getElem? (i := 20) rfl)
theorem dX10_judge_35 : decode cX10_judge 35 = .ok (.iadd, 1) := dAX10_judge (35, (.iadd, 1)) (List.mem_of_getElem? (i := 21) rfl)
theorem dX10_judge_36 : decode cX10_judge 36 = .ok (.istore_n 2, 1) := dAX10_judge (36, (.istore_n 2, 1)) (List.mem_of_getElem? (i := 22) rfl)
theorem dX10_judge_37 : decode cX10_judge 37 = .ok (.aload_n 0, 1) := dAX10_judge (37, (.aload_n 0, 1)) (List.mem_of_getElem? (i := 23) rfl)
theorem dX10_judge_38 : decode cX10_judge 38 = .ok (.aload_n 0, 1) := dAX10_judge (38, (.aload_n 0, 1)) (List.mem_of_getElem? (i := 24) rfl)
theorem dX10_judge_39 : decode cX10_judge 39 = .ok (.getfield 35, 3) := dAX10_judge (39, (.getfield 35, 3)) (List.mem_of_getElem? (i := 25) rfl)
theorem dX10_judge_42 : decode cX10_judge 42 = .ok (.invokevirtual 172, 3) := dAX10_judge (42, (.invokevirtual 172, 3)) (List.mem_of_getElem? (i := 26) rfl)
theorem dX10_judge_45 : decode cX10_judge 45 = .ok (.iconst 0, 1) := dAX10_judge (45, (.iconst 0, 1)) (List.mem_of_getElem? (i := 27) rfl)
theorem dX10_judge_46 : decode cX10_judge 46 = .ok (.istore_n 3, 1) := dAX10_judge (46, (.istore_n 3, 1)) (List.mem_of_getElem? (i := 28) rfl)
theorem dX10_judge_47 : decode cX10_judge 47 = .ok (.iload_n 3, 1) := dAX10_judge (47, (.iload_n 3, 1)) (List.mem_of_getElem? (i := 29) rfl)
theorem dX10_judge_48 : decode cX10_judge 48 = .ok (.aload_n 0, 1) := dAX10_judge (48, (.aload_n 0, 1)) (List.mem_of_getElem? (i := 30) rfl)
theorem dX10_judge_49 : decode cX10_judge 49 = .ok (.getfield 20, 3) := dAX10_judge (49, (.getfield 20, 3)) (List.mem_of_getElem? (i := 31) rfl)
theorem dX10_judge_52 : decode cX10_judge 52 = .ok (.iload_n 2, 1) := dAX10_judge (52, (.iload_n 2, 1)) (List.mem_of_getElem? (i := 32) rfl)
theorem dX10_judge_53 : decode cX10_judge 53 = .ok (.iconst 1, 1) := dAX10_judge (53, (.iconst 1, 1)) (List.mem_of_getElem? (i := 33) rfl)
theorem dX10_judge_54 : decode cX10_judge 54 = .ok (.iadd, 1) := dAX10_judge (54, (.iadd, 1)) (List.mem_of_getElem? (i := 34) rfl)
theorem dX10_judge_55 : decode cX10_judge 55 = .ok (.iaload, 1) := dAX10_judge (55, (.iaload, 1)) (List.mem_of_getElem? (i := 35) rfl)
theorem dX10_judge_56 : decode cX10_judge 56 = .ok (.if_icmp .ge 18, 3) := dAX10_judge (56, (.if_icmp .ge 18, 3)) (List.mem_of_getElem? (i := 36) rfl)
theorem dX10_judge_59 : decode cX10_judge 59 = .ok (.aload_n 0, 1) := dAX10_judge (59, (.aload_n 0, 1)) (List.mem_of_getElem? (i := 37) rfl)
theorem dX10_judge_60 : decode cX10_judge 60 = .ok (.aload_n 0, 1) := dAX10_judge (60, (.aload_n 0, 1)) (List.mem_of_getElem? (i := 38) rfl)
theorem dX10_judge_61 : decode cX10_judge 61 = .ok (.getfield 35, 3) := dAX10_judge (61, (.getfield 35, 3)) (List.mem_of_getElem? (i := 39) rfl)
theorem dX10_judge_64 : decode cX10_judge 64 = .ok (.invokevirtual 293, 3) := dAX10_judge (64, (.invokevirtual 293, 3)) (List.mem_of_getElem? (i := 40) rfl)
theorem dX10_judge_67 : decode cX10_judge 67 = .ok (.pop, 1) := dAX10_judge (67, (.pop, 1)) (List.mem_of_getElem? (i := 41) rfl)
theorem dX10_judge_68 : decode cX10_judge 68 = .ok (.iinc 3 1, 3) := dAX10_judge (68, (.iinc 3 1, 3)) (List.mem_of_getElem? (i := 42) rfl)
theorem dX10_judge_71 : decode cX10_judge 71 = .ok (.goto (-24), 3) := dAX10_judge (71, (.goto (-24), 3)) (List.mem_of_getElem? (i := 43) rfl)
theorem dX10_judge_74 : decode cX10_judge 74 = .ok (.aload_n 0, 1) := dAX10_judge (74, (.aload_n 0, 1)) (List.mem_of_getElem? (i := 44) rfl)
theorem dX10_judge_75 : decode cX10_judge 75 = .ok (.getfield 35, 3) := dAX10_judge (75, (.getfield 35, 3)) (List.mem_of_getElem? (i := 45) rfl)
theorem dX10_judge_78 : decode cX10_judge 78 = .ok (.aload_n 0, 1) := dAX10_judge (78, (.aload_n 0, 1)) (List.mem_of_getElem? (i := 46) rfl)
theorem dX10_judge_79 : decode cX10_judge 79 = .ok (.getfield 20, 3) := dAX10_judge (79, (.getfield 20, 3)) (List.mem_of_getElem? (i := 47) rfl)
theorem dX10_judge_82 : decode cX10_judge 82 = .ok (.iload_n 2, 1) := dAX10_judge (82, (.iload_n 2, 1)) (List.mem_of_getElem? (i := 48) rfl)
theorem dX10_judge_83 : decode cX10_judge 83 = .ok (.iaload, 1) := dAX10_judge (83, (.iaload, 1)) (List.mem_of_getElem? (i := 49) rfl)
theorem dX10_judge_84 : decode cX10_judge 84 = .ok (.invokestatic 248, 3) := dAX10_judge (84, (.invokestatic 248, 3)) (List.mem_of_getElem? (i := 50) rfl)
theorem dX10_judge_87 : decode cX10_judge 87 = .ok (.aload_n 0, 1) := dAX10_judge (87, (.aload_n 0, 1)) (List.mem_of_getElem? (i := 51) rfl)
theorem dX10_judge_88 : decode cX10_judge 88 = .ok (.getfield 20, 3) := dAX10_judge (88, (.getfield 20, 3)) (List.mem_of_getElem? (i := 52) rfl)
theorem dX10_judge_91 : decode cX10_judge 91 = .ok (.iload_n 2, 1) := dAX10_judge (91, (.iload_n 2, 1)) (List.mem_of_getElem? (i := 53) rfl)
theorem dX10_judge_92 : decode cX10_judge 92 = .ok (.iconst 2, 1) := dAX10_judge (92, (.iconst 2, 1)) (List.mem_of_getElem? (i := 54) rfl)
theorem dX10_judge_93 : decode cX10_judge 93 = .ok (.iadd, 1) := dAX10_judge (93, (.iadd, 1)) (List.mem_of_getElem? (i := 55) rfl)
theorem dX10_judge_94 : decode cX10_judge 94 = .ok (.iaload, 1) := dAX10_judge (94, (.iaload, 1)) (List.mem_of_getElem? (i := 56) rfl)
theorem dX10_judge_95 : decode cX10_judge 95 = .ok (.iconst 1, 1) := dAX10_judge (95, (.iconst 1, 1)) (List.mem_of_getElem? (i := 57) rfl)
theorem dX10_judge_96 : decode cX10_judge 96 = .ok (.if_icmp .ne 7, 3) := dAX10_judge (96, (.if_icmp .ne 7, 3)) (List.mem_of_getElem? (i := 58) rfl)
theorem dX10_judge_99 : decode cX10_judge 99 = .ok (.iconst 1, 1) := dAX10_judge (99, (.iconst 1, 1)) (List.mem_of_getElem? (i := 59) rfl)
theorem dX10_judge_100 : decode cX10_judge 100 = .ok (.goto 4, 3) := dAX10_judge (100, (.goto 4, 3)) (List.mem_of_getElem? (i := 60) rfl)
theorem dX10_judge_103 : decode cX10_judge 103 = .ok (.iconst 0, 1) := dAX10_judge (103, (.iconst 0, 1)) (List.mem_of_getElem? (i := 61) rfl)
theorem dX10_judge_104 : decode cX10_judge 104 = .ok (.if_icmp .ne 5, 3) := dAX10_judge (104, (.if_icmp .ne 5, 3)) (List.mem_of_getElem? (i := 62) rfl)
theorem dX10_judge_107 : decode cX10_judge 107 = .ok (.iload_n 1, 1) := dAX10_judge (107, (.iload_n 1, 1)) (List.mem_of_getElem? (i := 63) rfl)
theorem dX10_judge_108 : decode cX10_judge 108 = .ok (.ireturn, 1) := dAX10_judge (108, (.ireturn, 1)) (List.mem_of_getElem? (i := 64) rfl)
theorem dX10_judge_109 : decode cX10_judge 109 = .ok (.iinc 1 1, 3) := dAX10_judge (109, (.iinc 1 1, 3)) (List.mem_of_getElem? (i := 65) rfl)
theorem dX10_judge_112 : decode cX10_judge 112 = .ok (.goto (-93), 3) := dAX10_judge (112, (.goto (-93), 3)) (List.mem_of_getElem? (i := 66) rfl)
theorem dX10_judge_115 : decode cX10_judge 115 = .ok (.bipush (-2), 2) := dAX10_judge (115, (.bipush (-2), 2)) (List.mem_of_getElem? (i := 67) rfl)
theorem dX10_judge_117 : decode cX10_judge 117 = .ok (.ireturn, 1) := dAX10_judge (117, (.ireturn, 1)) (List.mem_of_getElem? (i := 68) rfl)
set_option maxRecDepth 20000 in
theorem ggX10_judge_X10_good : GoodIn wsX10_judge wsX10_good := goodIn_r _ [8, 9, 10, 58, 59, 60, 61, 62, 63, 64, 65, 66, 67, 68, 69, 70, 71, 72, 73, 74, 75, 76, 77, 78, 79, 80, 81, 82, 83, 84, 85, 86, 87, 88, 89, 90, 91, 92] rfl (by decide +kernel)
set_option maxRecDepth 20000 in
theorem gX10_judge_X10_good : GoodIn wsX10_judge (wsV RX10 159 RX10 yX10_good wsX10_good) := goodIn_app (goodIn_of _ (by decide +kernel)) ggX10_judge_X10_good
set_option maxRecDepth 20000 in
theorem ggX10_judge_X10_no : GoodIn wsX10_judge wsX10_no := goodIn_r _ [14, 10, 58, 59, 60, 61, 62, 63, 64, 65, 66, 67, 68, 69, 70, 71, 72, 73, 74, 75, 76, 77, 78, 79, 80, 81, 82, 83, 84, 85, 86, 87, 88, 89, 90, 91, 92] rfl (by decide +kernel)
set_option maxRecDepth 20000 in
theorem gX10_judge_X10_no : GoodIn wsX10_judge (wsV RX10 162 RX10 yX10_no wsX10_no) := goodIn_app (goodIn_of _ (by decide +kernel)) ggX10_judge_X10_no
set_option maxRecDepth 20000 in
theorem ggX10_judge_X10_layTold : GoodIn wsX10_judge wsX10_layTold := goodIn_r _ [18, 2, 58, 59, 60, 61, 62, 63, 64, 65, 66, 67, 68, 69, 70, 71, 72, 73, 74, 75, 76, 77, 78, 79, 80, 81, 82, 83, 84, 85, 86, 87, 88, 89, 90, 91, 92] rfl (by decide +kernel)
set_option maxRecDepth 20000 in
theorem gX10_judge_X10_layTold : GoodIn wsX10_judge (wsV RX10 172 RX10 yX10_layTold wsX10_layTold) := goodIn_app (goodIn_of _ (by decide +kernel)) ggX10_judge_X10_layTold
set_option maxRecDepth 20000 in
theorem ggX10_judge_X10_hourOf : GoodIn wsX10_judge wsX10_hourOf := goodIn_r _ [22, 2, 23, 24, 25, 7, 26, 27, 28, 29, 30, 31, 32, 33, 34, 35, 36, 37, 38, 39, 40, 41, 42, 43, 44, 45, 46, 47, 48, 49, 50, 51, 52, 53, 54, 55, 56, 57, 58, 59, 60, 61, 62, 63, 64, 65, 66, 67, 68, 69, 70, 71, 72, 73, 74, 75, 76, 77, 78, 79, 80, 81, 82, 83, 84, 85, 86, 87, 88, 89, 90, 91, 92] rfl (by decide +kernel)
set_option maxRecDepth 20000 in
theorem gX10_judge_X10_hourOf : GoodIn wsX10_judge (wsV RX10 293 RX10 yX10_hourOf wsX10_hourOf) := goodIn_app (goodIn_of _ (by decide +kernel)) ggX10_judge_X10_hourOf
set_option maxRecDepth 20000 in
theorem ggX10_judge_X10_isIn : GoodIn wsX10_judge wsX10_isIn := goodIn_r _ [29] rfl (by decide +kernel)
set_option maxRecDepth 20000 in
theorem gX10_judge_X10_isIn : GoodIn wsX10_judge (va_wsS RX10 248 yX10_isIn wsX10_isIn) := goodIn_app (goodIn_of _ (by decide +kernel)) ggX10_judge_X10_isIn
theorem kX10_judge_176 : Cond.fieldLink RX10 176 "EveningVowModel" "hasEvening" "Z" ∈ wsX10_judge := List.mem_of_getElem? (i := 1) rfl
theorem iX10_judge_X10 : ∀ w ∈ u_ws RX10 TX10 35, w ∈ wsX10_judge := fun w h => (List.mem_cons_of_mem _ (List.mem_append_right _ h))
theorem kX10_judge_20 : Cond.fieldLink RX10 20 "EveningVowModel" "\x72" "[I" ∈ wsX10_judge := List.mem_of_getElem? (i := 2) rfl
theorem kX10_judge_35 : Cond.fieldLink RX10 35 "EveningVowModel" "trial" "[I" ∈ wsX10_judge := List.mem_of_getElem? (i := 3) rfl
set_option maxHeartbeats 4000000 in
set_option maxRecDepth 100000 in
theorem wX10_judge_L47 {p : Program} {l : Launch} {e : Env} {s : State} {m : MethodId} {args : Array Value} {below : List Frame} {meth : Method} {c : Code} {g : GG} {A : Nat → Prop} (C0 : Cx p s m args meth c cX10_judge 4 (some .int) RX10 wsX10_judge g A) (a_t : Nat) (p_t : Nat → Nat) (n : Nat) (x1 : Int32) (x2 : Int32) (f_t_15 : Nat → Int32)  (r : Int32) (o_t' : Nat → Int32) (f_t_25' : Nat → Int32) (K : (Nat → Int32) → (Nat → Int32) → Option (Int32 × (Nat → Int32) × (Nat → Int32))) (hKx : ∀ (o_t : Nat → Int32) (f_t_25 : Nat → Int32) (H : Heap) (locs : List Loc) (ls : Array Slot), K o_t f_t_25 = some (r, o_t', f_t_25') → va_P g.1 vwCl [oX10 a_t p_t o_t, aI g (p_t 15) 266 f_t_15, aI g (p_t 25) 17 f_t_25] H → va_D A [oX10 a_t p_t o_t, aI g (p_t 15) 266 f_t_15, aI g (p_t 25) 17 f_t_25] → va_S A s.heap H locs → lv_has ls 4 [(0, .ref a_t), (1, .int x1), (2, .int x2)] → W p l e ({ frames := 4, cells := 0, slots := 0, locals := 93 } : Room) s m args below meth c H locs 0 0 (MQ below (EndI g r [oX10 a_t p_t o_t', aI g (p_t 15) 266 f_t_15, aI g (p_t 25) 17 f_t_25'] A) args s 0 0 A) (F0 m 74 ls [])) : ∀ (k : Nat) (x3 : Int32) (o_t : Nat → Int32) (f_t_25 : Nat → Int32), fX10_judge_L47 n x1 x2 f_t_15 K k x3 o_t f_t_25 = some (r, o_t', f_t_25') → ∀ (H : Heap) (locs : List Loc) (ls : Array Slot), va_P g.1 vwCl [oX10 a_t p_t o_t, aI g (p_t 15) 266 f_t_15, aI g (p_t 25) 17 f_t_25] H → va_D A [oX10 a_t p_t o_t, aI g (p_t 15) 266 f_t_15, aI g (p_t 25) 17 f_t_25] → va_S A s.heap H locs → lv_has ls 4 [(0, .ref a_t), (1, .int x1), (2, .int x2), (3, .int x3)] → W p l e ({ frames := 4, cells := 0, slots := 0, locals := 93 } : Room) s m args below meth c H locs 0 0 (MQ below (EndI g r [oX10 a_t p_t o_t', aI g (p_t 15) 266 f_t_15, aI g (p_t 25) 17 f_t_25'] A) args s 0 0 A) (F0 m 47 ls []) := by
  obtain ⟨hx, hb, hml, hown, hts, hr, hlk, hK, hA, hSW⟩ := id C0
  intro k
  induction k with
  | zero =>
    intro x3 o_t f_t_25 hF
    exact absurd hF (by simp [fX10_judge_L47])
  | succ k ih =>
    intro x3 o_t f_t_25 hF H locs ls hP hD hS hl
    rw [fX10_judge_L47] at hF
    refine lv_iload_n hx hb dX10_judge_47 rfl (lv_at hl 3 rfl) ?_
    refine lv_aload_n hx hb dX10_judge_48 rfl (lv_at hl 0 rfl) ?_
    refine va_get (D := g.1) (ci := 10) (v := .ref (p_t 15)) (C := RX10) (T := TX10) (N := 35) hx hb hts iX10_judge_X10 hown hK.1 hP 0 rfl rfl 15 (by decide) (hts _ kX10_judge_20) (fun _ h9 => h9) rfl dX10_judge_49 ?_
    refine lv_iload_n hx hb dX10_judge_52 rfl (lv_at hl 2 rfl) ?_
    refine lv_iconst (v := (1 : Int32)) hx hb dX10_judge_53 (by decide) ?_
    refine lv_iadd hx hb dX10_judge_54 ?_
    obtain ⟨h_7, hF⟩ := it_ck hF
    refine va_iald hx hb hK.1 hP 1 0 rfl rfl h_7 dX10_judge_55 ?_
    refine lv_icmp_ge (tgt := 74) hx hb dX10_judge_56 (by decide) (fun c_8 => ?_) (fun c_8 => ?_)
    · have hF := it_p c_8 hF
      exact hKx o_t f_t_25 _ _ _ hF (hP.sub [0, 1, 2] rfl) (hD.sub [0, 1, 2] rfl rfl) hS (lv_sub hl [0, 1, 2] rfl)
    · have hF := it_n c_8 hF
      refine lv_aload_n hx hb dX10_judge_59 rfl (lv_at hl 0 rfl) ?_
      refine lv_aload_n hx hb dX10_judge_60 rfl (lv_at hl 0 rfl) ?_
      refine va_get (D := g.1) (ci := 10) (v := .ref (p_t 25)) (C := RX10) (T := TX10) (N := 35) hx hb hts iX10_judge_X10 hown hK.1 hP 0 rfl rfl 25 (by decide) (hts _ kX10_judge_35) (fun _ h9 => h9) rfl dX10_judge_61 ?_
      obtain ⟨u_9, u_10, u_11, hu_12, hF⟩ := ob3_some hF
      refine call_i (wr := []) (As := [.ref (p_t 25)]) (rest := []) (ci := 10) (q0 := 0) C0 (mX10_hourOf l g a_t (p_t 25) p_t n o_t f_t_15 f_t_25 u_9 u_10 u_11 hu_12) (cwV 1 hts gX10_judge_X10_hourOf rfl rfl rfl (by decide +kernel) ⟨Nat.le_of_ble_eq_true rfl, Nat.le_of_ble_eq_true rfl⟩) hP hD hS [0, 1, 2] [] rfl rfl rfl rfl rfl (by decide) rfl rfl hl.1 rfl rfl (Nat.le_of_ble_eq_true rfl) ⟨Nat.zero_le _, Nat.zero_le _⟩ dX10_judge_64 ?_
      intro H locs hP hD hS
      refine lv_pop hx hb dX10_judge_67 rfl ?_
      refine lv_iinc (v := (x3 + (1 : Int32))) (lv' := [(3, .int (x3 + (1 : Int32))), (0, .ref a_t), (1, .int x1), (2, .int x2)]) hx hb dX10_judge_68 hl (k := 3) rfl rfl (by decide) rfl (fun ls hl => ?_)
      refine lv_goto (tgt := 47) hx hb dX10_judge_71 (by decide) ?_
      exact ih (x3 + (1 : Int32)) u_10 u_11 hF _ _ _ (hP.sub [0, 1, 2] rfl) (hD.sub [0, 1, 2] rfl rfl) hS (lv_sub hl [1, 2, 3, 0] rfl)
set_option maxHeartbeats 4000000 in
set_option maxRecDepth 100000 in
theorem wX10_judge_L19 {p : Program} {l : Launch} {e : Env} {s : State} {m : MethodId} {args : Array Value} {below : List Frame} {meth : Method} {c : Code} {g : GG} {A : Nat → Prop} (C0 : Cx p s m args meth c cX10_judge 4 (some .int) RX10 wsX10_judge g A) (a_t : Nat) (p_t : Nat → Nat) (n : Nat) (f_t_15 : Nat → Int32)  (r : Int32) (o_t' : Nat → Int32) (f_t_25' : Nat → Int32) (K : (Nat → Int32) → (Nat → Int32) → Option (Int32 × (Nat → Int32) × (Nat → Int32))) (hKx : ∀ (o_t : Nat → Int32) (f_t_25 : Nat → Int32) (H : Heap) (locs : List Loc) (ls : Array Slot), K o_t f_t_25 = some (r, o_t', f_t_25') → va_P g.1 vwCl [oX10 a_t p_t o_t, aI g (p_t 15) 266 f_t_15, aI g (p_t 25) 17 f_t_25] H → va_D A [oX10 a_t p_t o_t, aI g (p_t 15) 266 f_t_15, aI g (p_t 25) 17 f_t_25] → va_S A s.heap H locs → lv_has ls 4 [] → W p l e ({ frames := 4, cells := 0, slots := 0, locals := 93 } : Room) s m args below meth c H locs 0 0 (MQ below (EndI g r [oX10 a_t p_t o_t', aI g (p_t 15) 266 f_t_15, aI g (p_t 25) 17 f_t_25'] A) args s 0 0 A) (F0 m 115 ls [])) : ∀ (k : Nat) (x1 : Int32) (o_t : Nat → Int32) (f_t_25 : Nat → Int32), fX10_judge_L19 n f_t_15 K k x1 o_t f_t_25 = some (r, o_t', f_t_25') → ∀ (H : Heap) (locs : List Loc) (ls : Array Slot), va_P g.1 vwCl [oX10 a_t p_t o_t, aI g (p_t 15) 266 f_t_15, aI g (p_t 25) 17 f_t_25] H → va_D A [oX10 a_t p_t o_t, aI g (p_t 15) 266 f_t_15, aI g (p_t 25) 17 f_t_25] → va_S A s.heap H locs → lv_has ls 4 [(0, .ref a_t), (1, .int x1)] → W p l e ({ frames := 4, cells := 0, slots := 0, locals := 93 } : Room) s m args below meth c H locs 0 0 (MQ below (EndI g r [oX10 a_t p_t o_t', aI g (p_t 15) 266 f_t_15, aI g (p_t 25) 17 f_t_25'] A) args s 0 0 A) (F0 m 19 ls []) := by
  obtain ⟨hx, hb, hml, hown, hts, hr, hlk, hK, hA, hSW⟩ := id C0
  intro k
  induction k with
  | zero =>
    intro x1 o_t f_t_25 hF
    exact absurd hF (by simp [fX10_judge_L19])
  | succ k ih =>
    intro x1 o_t f_t_25 hF H locs ls hP hD hS hl
    rw [fX10_judge_L19] at hF
    refine lv_iload_n hx hb dX10_judge_19 rfl (lv_at hl 1 rfl) ?_
    refine lv_aload_n hx hb dX10_judge_20 rfl (lv_at hl 0 rfl) ?_
    refine va_get (D := g.1) (ci := 10) (v := .ref (p_t 15)) (C := RX10) (T := TX10) (N := 35) hx hb hts iX10_judge_X10 hown hK.1 hP 0 rfl rfl 15 (by decide) (hts _ kX10_judge_20) (fun _ h9 => h9) rfl dX10_judge_21 ?_
    refine lv_bipush (v := (8 : Int32)) hx hb dX10_judge_24 (by decide) ?_
    refine va_iald_k (j := 8) hx hb hK.1 hP 1 0 rfl rfl (by unfold vp_in; decide) rfl dX10_judge_26 ?_
    refine lv_icmp_ge (tgt := 115) hx hb dX10_judge_27 (by decide) (fun c_4 => ?_) (fun c_4 => ?_)
    · have hF := it_p c_4 hF
      exact hKx o_t f_t_25 _ _ _ hF (hP.sub [0, 1, 2] rfl) (hD.sub [0, 1, 2] rfl rfl) hS (lv_sub hl [] rfl)
    · have hF := it_n c_4 hF
      refine lv_bipush (v := (104 : Int32)) hx hb dX10_judge_30 (by decide) ?_
      refine lv_iconst (v := (3 : Int32)) hx hb dX10_judge_32 (by decide) ?_
      refine lv_iload_n hx hb dX10_judge_33 rfl (lv_at hl 1 rfl) ?_
      refine lv_imul hx hb dX10_judge_34 ?_
      refine lv_iadd hx hb dX10_judge_35 ?_
      refine lv_istore_n (lv' := [(2, .int ((104 : Int32) + ((3 : Int32) * x1))), (0, .ref a_t), (1, .int x1)]) hx hb dX10_judge_36 rfl hl (by decide) rfl (fun ls hl => ?_)
      refine lv_aload_n hx hb dX10_judge_37 rfl (lv_at hl 1 rfl) ?_
      refine lv_aload_n hx hb dX10_judge_38 rfl (lv_at hl 1 rfl) ?_
      refine va_get (D := g.1) (ci := 10) (v := .ref (p_t 25)) (C := RX10) (T := TX10) (N := 35) hx hb hts iX10_judge_X10 hown hK.1 hP 0 rfl rfl 25 (by decide) (hts _ kX10_judge_35) (fun _ h9 => h9) rfl dX10_judge_39 ?_
      obtain ⟨u_5, hu_6, hF⟩ := ob1_some hF
      refine call_v (wr := []) (As := [.ref (p_t 25)]) (rest := []) (ci := 10) (q0 := 0) C0 (mX10_layTold l g a_t (p_t 25) p_t n o_t f_t_15 f_t_25 u_5 hu_6) (cwV 1 hts gX10_judge_X10_layTold rfl rfl rfl (by decide +kernel) ⟨Nat.le_of_ble_eq_true rfl, Nat.le_of_ble_eq_true rfl⟩) hP hD hS [0, 1, 2] [] rfl rfl rfl rfl rfl (by decide) rfl rfl hl.1 rfl rfl (Nat.le_of_ble_eq_true rfl) ⟨Nat.zero_le _, Nat.zero_le _⟩ dX10_judge_42 ?_
      intro H locs hP hD hS
      refine lv_iconst (v := (0 : Int32)) hx hb dX10_judge_45 (by decide) ?_
      refine lv_istore_n (lv' := [(3, .int (0 : Int32)), (2, .int ((104 : Int32) + ((3 : Int32) * x1))), (0, .ref a_t), (1, .int x1)]) hx hb dX10_judge_46 rfl hl (by decide) rfl (fun ls hl => ?_)
      refine wX10_judge_L47 C0 a_t p_t n x1 ((104 : Int32) + ((3 : Int32) * x1)) f_t_15 r o_t' f_t_25' _ ?_ n (0 : Int32) o_t u_5 hF _ _ _ (hP.sub [0, 1, 2] rfl) (hD.sub [0, 1, 2] rfl rfl) hS (lv_sub hl [2, 3, 1, 0] rfl)
      · intro o_t_x47 f_t_25_x47 H locs ls hF hP hD hS hl
        refine lv_aload_n hx hb dX10_judge_74 rfl (lv_at hl 0 rfl) ?_
        refine va_get (D := g.1) (ci := 10) (v := .ref (p_t 25)) (C := RX10) (T := TX10) (N := 35) hx hb hts iX10_judge_X10 hown hK.1 hP 0 rfl rfl 25 (by decide) (hts _ kX10_judge_35) (fun _ h9 => h9) rfl dX10_judge_75 ?_
        refine lv_aload_n hx hb dX10_judge_78 rfl (lv_at hl 0 rfl) ?_
        refine va_get (D := g.1) (ci := 10) (v := .ref (p_t 15)) (C := RX10) (T := TX10) (N := 35) hx hb hts iX10_judge_X10 hown hK.1 hP 0 rfl rfl 15 (by decide) (hts _ kX10_judge_20) (fun _ h9 => h9) rfl dX10_judge_79 ?_
        refine lv_iload_n hx hb dX10_judge_82 rfl (lv_at hl 2 rfl) ?_
        obtain ⟨h_13, hF⟩ := it_ck hF
        refine va_iald hx hb hK.1 hP 1 0 rfl rfl h_13 dX10_judge_83 ?_
        obtain ⟨u_14, hu_15, hF⟩ := ob1_some hF
        refine call_si (wr := [oX10 a_t p_t o_t_x47, aI g (p_t 15) 266 f_t_15]) (As := [.ref (p_t 25), .int (f_t_15 (((104 : Int32) + ((3 : Int32) * x1))).toNatClampNeg)]) (rest := []) C0 (mX10_isIn l g (p_t 25) n (f_t_15 (((104 : Int32) + ((3 : Int32) * x1))).toNatClampNeg) f_t_25_x47 u_14 hu_15) (va_cwS 2 hts gX10_judge_X10_isIn rfl rfl rfl (by decide +kernel) ⟨Nat.le_of_ble_eq_true rfl, Nat.le_of_ble_eq_true rfl⟩) hP hD hS [2] [0, 1] rfl rfl rfl rfl rfl (by decide) hl.1 rfl rfl (Nat.le_of_ble_eq_true rfl) ⟨Nat.zero_le _, Nat.zero_le _⟩ dX10_judge_84 ?_
        intro H locs hP hD hS
        refine lv_aload_n hx hb dX10_judge_87 rfl (lv_at hl 0 rfl) ?_
        refine va_get (D := g.1) (ci := 10) (v := .ref (p_t 15)) (C := RX10) (T := TX10) (N := 35) hx hb hts iX10_judge_X10 hown hK.1 hP 0 rfl rfl 15 (by decide) (hts _ kX10_judge_20) (fun _ h9 => h9) rfl dX10_judge_88 ?_
        refine lv_iload_n hx hb dX10_judge_91 rfl (lv_at hl 2 rfl) ?_
        refine lv_iconst (v := (2 : Int32)) hx hb dX10_judge_92 (by decide) ?_
        refine lv_iadd hx hb dX10_judge_93 ?_
        obtain ⟨h_16, hF⟩ := it_ck hF
        refine va_iald hx hb hK.1 hP 1 0 rfl rfl h_16 dX10_judge_94 ?_
        refine lv_iconst (v := (1 : Int32)) hx hb dX10_judge_95 (by decide) ?_
        refine lv_icmp_ne (tgt := 103) hx hb dX10_judge_96 (by decide) (fun c_17 => ?_) (fun c_17 => ?_)
        · have hF := it_n c_17 hF
          refine lv_iconst (v := (0 : Int32)) hx hb dX10_judge_103 (by decide) ?_
          refine lv_icmp_ne (tgt := 109) hx hb dX10_judge_104 (by decide) (fun c_18 => ?_) (fun c_18 => ?_)
          · have hF := it_n c_18 hF
            refine lv_iinc (v := (x1 + (1 : Int32))) (lv' := [(1, .int (x1 + (1 : Int32))), (0, .ref a_t), (2, .int ((104 : Int32) + ((3 : Int32) * x1)))]) hx hb dX10_judge_109 hl (k := 1) rfl rfl (by decide) rfl (fun ls hl => ?_)
            refine lv_goto (tgt := 19) hx hb dX10_judge_112 (by decide) ?_
            exact ih (x1 + (1 : Int32)) o_t_x47 f_t_25_x47 hF _ _ _ (hP.sub [0, 1, 2] rfl) (hD.sub [0, 1, 2] rfl rfl) hS (lv_sub hl [1, 0] rfl)
          · have hF := it_p c_18 hF
            refine lv_iload_n hx hb dX10_judge_107 rfl (lv_at hl 1 rfl) ?_
            cases hF
            exact ret_i C0 hP hD hS [0, 1, 2] rfl rfl rfl dX10_judge_108 rfl
        · have hF := it_p c_17 hF
          refine lv_iconst (v := (1 : Int32)) hx hb dX10_judge_99 (by decide) ?_
          refine lv_goto (tgt := 104) hx hb dX10_judge_100 (by decide) ?_
          refine lv_icmp_ne (tgt := 109) hx hb dX10_judge_104 (by decide) (fun c_19 => ?_) (fun c_19 => ?_)
          · have hF := it_n c_19 hF
            refine lv_iinc (v := (x1 + (1 : Int32))) (lv' := [(1, .int (x1 + (1 : Int32))), (0, .ref a_t), (2, .int ((104 : Int32) + ((3 : Int32) * x1)))]) hx hb dX10_judge_109 hl (k := 1) rfl rfl (by decide) rfl (fun ls hl => ?_)
            refine lv_goto (tgt := 19) hx hb dX10_judge_112 (by decide) ?_
            exact ih (x1 + (1 : Int32)) o_t_x47 f_t_25_x47 hF _ _ _ (hP.sub [0, 1, 2] rfl) (hD.sub [0, 1, 2] rfl rfl) hS (lv_sub hl [1, 0] rfl)
          · have hF := it_p c_19 hF
            refine lv_iload_n hx hb dX10_judge_107 rfl (lv_at hl 1 rfl) ?_
            cases hF
            exact ret_i C0 hP hD hS [0, 1, 2] rfl rfl rfl dX10_judge_108 rfl
set_option maxHeartbeats 4000000 in
set_option maxRecDepth 100000 in
theorem mX10_judge (l : Launch) (g : GG) (a_t : Nat) (p_t : Nat → Nat) (n : Nat) (o_t : Nat → Int32) (f_t_15 : Nat → Int32) (f_t_25 : Nat → Int32) (r : Int32) (o_t' : Nat → Int32) (f_t_25' : Nat → Int32) (hF : fX10_judge n o_t f_t_15 f_t_25 = some (r, o_t', f_t_25')) : MI l g yX10_judge wsX10_judge ({ frames := 4, cells := 0, slots := 0, locals := 93 } : Room) [.ref a_t] [oX10 a_t p_t o_t, aI g (p_t 15) 266 f_t_15, aI g (p_t 25) 17 f_t_25] r [oX10 a_t p_t o_t', aI g (p_t 15) 266 f_t_15, aI g (p_t 25) 17 f_t_25'] := by
  refine MI.of (cc := cX10_judge) (maxL := 4) (rt := .int) (own := RX10) rfl rfl (by decide) (Nat.le_of_ble_eq_true rfl) ?_
  intro p e s m args below meth c A C0 hP hD hS ls hl
  obtain ⟨hx, hb, hml, hown, hts, hr, hlk, hK, hA, hSW⟩ := id C0
  have hl : lv_has ls 4 [(0, .ref a_t)] := hl
  rw [fX10_judge] at hF
  refine lv_aload_n hx hb dX10_judge_0 rfl (lv_at hl 0 rfl) ?_
  obtain ⟨u_1, hu_2, hF⟩ := ob1_some hF
  refine call_v (wr := [aI g (p_t 15) 266 f_t_15, aI g (p_t 25) 17 f_t_25]) (As := []) (rest := []) (ci := 10) (q0 := 0) C0 (mX10_good l g a_t p_t n o_t u_1 hu_2) (cwV 0 hts gX10_judge_X10_good rfl rfl rfl (by decide +kernel) ⟨Nat.le_of_ble_eq_true rfl, Nat.le_of_ble_eq_true rfl⟩) hP hD hS [0] [1, 2] rfl rfl rfl rfl rfl (by decide) rfl rfl hl.1 rfl rfl (Nat.le_of_ble_eq_true rfl) ⟨Nat.zero_le _, Nat.zero_le _⟩ dX10_judge_1 ?_
  intro H locs hP hD hS
  refine lv_aload_n hx hb dX10_judge_4 rfl (lv_at hl 0 rfl) ?_
  refine va_get (D := g.1) (ci := 10) (v := .int (u_1 14)) (C := RX10) (T := TX10) (N := 35) hx hb hts iX10_judge_X10 hown hK.1 hP 2 rfl rfl 14 (by decide) (hts _ kX10_judge_176) (fun _ h9 => h9) rfl dX10_judge_5 ?_
  refine lv_if_ne (tgt := 17) hx hb dX10_judge_8 (by decide) (fun c_3 => ?_) (fun c_3 => ?_)
  · have hF := it_n c_3 hF
    refine lv_iconst (v := (0 : Int32)) hx hb dX10_judge_17 (by decide) ?_
    refine lv_istore_n (lv' := [(1, .int (0 : Int32)), (0, .ref a_t)]) hx hb dX10_judge_18 rfl hl (by decide) rfl (fun ls hl => ?_)
    refine wX10_judge_L19 C0 a_t p_t n f_t_15 r o_t' f_t_25' _ ?_ n (0 : Int32) u_1 f_t_25 hF _ _ _ (hP.sub [2, 0, 1] rfl) (hD.sub [2, 0, 1] rfl rfl) hS (lv_sub hl [1, 0] rfl)
    · intro o_t_x19 f_t_25_x19 H locs ls hF hP hD hS hl
      refine lv_bipush (v := (-2 : Int32)) hx hb dX10_judge_115 (by decide) ?_
      cases hF
      exact ret_i C0 hP hD hS [0, 1, 2] rfl rfl rfl dX10_judge_117 rfl
  · have hF := it_p c_3 hF
    refine lv_aload_n hx hb dX10_judge_11 rfl (lv_at hl 0 rfl) ?_
    refine lv_iconst (v := (1 : Int32)) hx hb dX10_judge_12 (by decide) ?_
    obtain ⟨u_20, u_21, hu_22, hF⟩ := ob2_some hF
    refine call_i (wr := [aI g (p_t 15) 266 f_t_15, aI g (p_t 25) 17 f_t_25]) (As := [.int (1 : Int32)]) (rest := []) (ci := 10) (q0 := 0) C0 (mX10_no l g a_t p_t n (1 : Int32) u_1 u_20 u_21 hu_22) (cwV 1 hts gX10_judge_X10_no rfl rfl rfl (by decide +kernel) ⟨Nat.le_of_ble_eq_true rfl, Nat.le_of_ble_eq_true rfl⟩) hP hD hS [2] [0, 1] rfl rfl rfl rfl rfl (by decide) rfl rfl hl.1 rfl rfl (Nat.le_of_ble_eq_true rfl) ⟨Nat.zero_le _, Nat.zero_le _⟩ dX10_judge_13 ?_
    intro H locs hP hD hS
    cases hF
    exact ret_i C0 hP hD hS [2, 0, 1] rfl rfl rfl dX10_judge_16 rfl

theorem dAX10_paysAt : ∀ q ∈ ([(0, (.iconst 0, 1)), (1, (.istore_n 2, 1)), (2, (.iconst 0, 1)), (3, (.istore_n 3, 1)), (4, (.iload_n 3, 1)), (5, (.aload_n 0, 1)), (6, (.getfield 20, 3)), (9, (.bipush 7, 2)), (11, (.iaload, 1)), (12, (.if_icmp .ge 44, 3)), (15, (.iload_n 2, 1)), (16, (.aload_n 0, 1)), (17, (.getfield 20, 3)), (20, (.bipush 94, 2)), (22, (.iconst 2, 1)), (23, (.iload_n 3, 1)), (24, (.imul, 1)), (25, (.iadd, 1)), (26, (.iaload, 1)), (27, (.iload_n 1, 1)), (28, (.if_icmp .lt 19, 3)), (31, (.aload_n 0, 1)), (32, (.getfield 20, 3)), (35, (.bipush 94, 2)), (37, (.iconst 2, 1)), (38, (.iload_n 3, 1)), (39, (.imul, 1)), (40, (.iadd, 1)), (41, (.iconst 1, 1)), (42, (.iadd, 1)), (43, (.iaload, 1)), (44, (.goto 4, 3)), (47, (.iconst 0, 1)), (48, (.iadd, 1)), (49, (.istore_n 2, 1)), (50, (.iinc 3 1, 3)), (53, (.goto (-49), 3)), (56, (.iload_n 2, 1)), (57, (.ireturn, 1))] : List (Nat × (Instr × Nat))), decode cX10_paysAt q.1 = .ok q.2 := by decide +kernel
theorem dX10_paysAt_0 : decode cX10_paysAt 0 = .ok (.iconst 0, 1) := dAX10_paysAt (0, (.iconst 0, 1)) (List.mem_of_getElem? (i := 0) rfl)
theorem dX10_paysAt_1 : decode cX10_paysAt 1 = .ok (.istore_n 2, 1) := dAX10_paysAt (1, (.istore_n 2, 1)) (List.mem_of_getElem? (i := 1) rfl)
theorem dX10_paysAt_2 : decode cX10_paysAt 2 = .ok (.iconst 0, 1) := dAX10_paysAt (2, (.iconst 0, 1)) (List.mem_of_getElem? (i := 2) rfl)
theorem dX10_paysAt_3 : decode cX10_paysAt 3 = .ok (.istore_n 3, 1) := dAX10_paysAt (3, (.istore_n 3, 1)) (List.mem_of_getElem? (i := 3) rfl)
theorem dX10_paysAt_4 : decode cX10_paysAt 4 = .ok (.iload_n 3, 1) := dAX10_paysAt (4, (.iload_n 3, 1)) (List.mem_of_getElem? (i := 4) rfl)
theorem dX10_paysAt_5 : decode cX10_paysAt 5 = .ok (.aload_n 0, 1) := dAX10_paysAt (5, (.aload_n 0, 1)) (List.mem_of_getElem? (i := 5) rfl)
theorem dX10_paysAt_6 : decode cX10_paysAt 6 = .ok (.getfield 20, 3) := dAX10_paysAt (6, (.getfield 20, 3)) (List.mem_of_getElem? (i := 6) rfl)
theorem dX10_paysAt_9 : decode cX10_paysAt 9 = .ok (.bipush 7, 2) := dAX10_paysAt (9, (.bipush 7, 2)) (List.mem_of_getElem? (i := 7) rfl)
theorem dX10_paysAt_11 : decode cX10_paysAt 11 = .ok (.iaload, 1) := dAX10_paysAt (11, (.iaload, 1)) (List.mem_of_getElem? (i := 8) rfl)
theorem dX10_paysAt_12 : decode cX10_paysAt 12 = .ok (.if_icmp .ge 44, 3) := dAX10_paysAt (12, (.if_icmp .ge 44, 3)) (List.mem_of_getElem? (i := 9) rfl)
theorem dX10_paysAt_15 : decode cX10_paysAt 15 = .ok (.iload_n 2, 1) := dAX10_paysAt (15, (.iload_n 2, 1)) (List.mem_of_getElem? (i := 10) rfl)
theorem dX10_paysAt_16 : decode cX10_paysAt 16 = .ok (.aload_n 0, 1) := dAX10_paysAt (16, (.aload_n 0, 1)) (List.mem_of_getElem? (i := 11) rfl)
theorem dX10_paysAt_17 : decode cX10_paysAt 17 = .ok (.getfield 20, 3) := dAX10_paysAt (17, (.getfield 20, 3)) (List.mem_of_getElem? (i := 12) rfl)
theorem dX10_paysAt_20 : decode cX10_paysAt 20 = .ok (.bipush 94, 2) := dAX10_paysAt (20, (.bipush 94, 2)) (List.mem_of_getElem? (i := 13) rfl)
theorem dX10_paysAt_22 : decode cX10_paysAt 22 = .ok (.iconst 2, 1) := dAX10_paysAt (22, (.iconst 2, 1)) (List.mem_of_getElem? (i := 14) rfl)
theorem dX10_paysAt_23 : decode cX10_paysAt 23 = .ok (.iload_n 3, 1) := dAX10_paysAt (23, (.iload_n 3, 1)) (List.mem_of_getElem? (i := 15) rfl)
theorem dX10_paysAt_24 : decode cX10_paysAt 24 = .ok (.imul, 1) := dAX10_paysAt (24, (.imul, 1)) (List.mem_of_getElem? (i := 16) rfl)
theorem dX10_paysAt_25 : decode cX10_paysAt 25 = .ok (.iadd, 1) := dAX10_paysAt (25, (.iadd, 1)) (List.mem_of_getElem? (i := 17) rfl)
theorem dX10_paysAt_26 : decode cX10_paysAt 26 = .ok (.iaload, 1) := dAX10_paysAt (26, (.iaload, 1)) (List.mem_of_getElem? (i := 18) rfl)
theorem dX10_paysAt_27 : decode cX10_paysAt 27 = .ok (.iload_n 1, 1) := dAX10_paysAt (27, (.iload_n 1, 1)) (List.mem_of_getElem? (i := 19) rfl)
theorem dX10_paysAt_28 : decode cX10_paysAt 28 = .ok (.if_icmp .lt 19, 3) := dAX10_paysAt (28, (.if_icmp .lt 19, 3)) (List.mem_of_getElem? (i := 20) rfl)
theorem dX10_paysAt_31 : decode cX10_paysAt 31 = .ok (.aload_n 0, 1) := dAX10_paysAt (31, (.aload_n 0, 1)) (List.mem_of_getElem? (i := 21) rfl)
theorem dX10_paysAt_32 : decode cX10_paysAt 32 = .ok (.getfield 20, 3) := dAX10_paysAt (32, (.getfield 20, 3)) (List.mem_of_getElem? (i := 22) rfl)
theorem dX10_paysAt_35 : decode cX10_paysAt 35 = .ok (.bipush 94, 2) := dAX10_paysAt (35, (.bipush 94, 2)) (List.mem_of_getElem? (i := 23) rfl)
theorem dX10_paysAt_37 : decode cX10_paysAt 37 = .ok (.iconst 2, 1) := dAX10_paysAt (37, (.iconst 2, 1)) (List.mem_of_getElem? (i := 24) rfl)
theorem dX10_paysAt_38 : decode cX10_paysAt 38 = .ok (.iload_n 3, 1) := dAX10_paysAt (38, (.iload_n 3, 1)) (List.mem_of_getElem? (i := 25) rfl)
theorem dX10_paysAt_39 : decode cX10_paysAt 39 = .ok (.imul, 1) := dAX10_paysAt (39, (.imul, 1)) (List.mem_of_getElem? (i := 26) rfl)
theorem dX10_paysAt_40 : decode cX10_paysAt 40 = .ok (.iadd, 1) := dAX10_paysAt (40, (.iadd, 1)) (List.mem_of_getElem? (i := 27) rfl)
theorem dX10_paysAt_41 : decode cX10_paysAt 41 = .ok (.iconst 1, 1) := dAX10_paysAt (41, (.iconst 1, 1)) (List.mem_of_getElem? (i := 28) rfl)
theorem dX10_paysAt_42 : decode cX10_paysAt 42 = .ok (.iadd, 1) := dAX10_paysAt (42, (.iadd, 1)) (List.mem_of_getElem? (i := 29) rfl)
theorem dX10_paysAt_43 : decode cX10_paysAt 43 = .ok (.iaload, 1) := dAX10_paysAt (43, (.iaload, 1)) (List.mem_of_getElem? (i := 30) rfl)
theorem dX10_paysAt_44 : decode cX10_paysAt 44 = .ok (.goto 4, 3) := dAX10_paysAt (44, (.goto 4, 3)) (List.mem_of_getElem? (i := 31) rfl)
theorem dX10_paysAt_47 : decode cX10_paysAt 47 = .ok (.iconst 0, 1) := dAX10_paysAt (47, (.iconst 0, 1)) (List.mem_of_getElem? (i := 32) rfl)
theorem dX10_paysAt_48 : decode cX10_paysAt 48 = .ok (.iadd, 1) := dAX10_paysAt (48, (.iadd, 1)) (List.mem_of_getElem? (i := 33) rfl)
theorem dX10_paysAt_49 : decode cX10_paysAt 49 = .ok (.istore_n 2, 1) := dAX10_paysAt (49, (.istore_n 2, 1)) (List.mem_of_getElem? (i := 34) rfl)
theorem dX10_paysAt_50 : decode cX10_paysAt 50 = .ok (.iinc 3 1, 3) := dAX10_paysAt (50, (.iinc 3 1, 3)) (List.mem_of_getElem? (i := 35) rfl)
theorem dX10_paysAt_53 : decode cX10_paysAt 53 = .ok (.goto (-49), 3) := dAX10_paysAt (53, (.goto (-49), 3)) (List.mem_of_getElem? (i := 36) rfl)
theorem dX10_paysAt_56 : decode cX10_paysAt 56 = .ok (.iload_n 2, 1) := dAX10_paysAt (56, (.iload_n 2, 1)) (List.mem_of_getElem? (i := 37) rfl)
theorem dX10_paysAt_57 : decode cX10_paysAt 57 = .ok (.ireturn, 1) := dAX10_paysAt (57, (.ireturn, 1)) (List.mem_of_getElem? (i := 38) rfl)
theorem kX10_paysAt_20 : Cond.fieldLink RX10 20 "EveningVowModel" "\x72" "[I" ∈ wsX10_paysAt := List.mem_of_getElem? (i := 1) rfl
theorem iX10_paysAt_X10 : ∀ w ∈ u_ws RX10 TX10 35, w ∈ wsX10_paysAt := fun w h => (List.mem_cons_of_mem _ (List.mem_append_right _ h))
set_option maxHeartbeats 4000000 in
set_option maxRecDepth 100000 in
theorem wX10_paysAt_L4 {p : Program} {l : Launch} {e : Env} {s : State} {m : MethodId} {args : Array Value} {below : List Frame} {meth : Method} {c : Code} {g : GG} {A : Nat → Prop} (C0 : Cx p s m args meth c cX10_paysAt 4 (some .int) RX10 wsX10_paysAt g A) (a_t : Nat) (p_t : Nat → Nat) (n : Nat) (x1 : Int32) (o_t : Nat → Int32) (f_t_15 : Nat → Int32)  (r : Int32) (K : Int32 → Option (Int32)) (hKx : ∀ (x2 : Int32) (H : Heap) (locs : List Loc) (ls : Array Slot), K x2 = some (r) → va_P g.1 vwCl [oX10 a_t p_t o_t, aI g (p_t 15) 266 f_t_15] H → va_D A [oX10 a_t p_t o_t, aI g (p_t 15) 266 f_t_15] → va_S A s.heap H locs → lv_has ls 4 [(2, .int x2)] → W p l e ({ frames := 0, cells := 0, slots := 0, locals := 0 } : Room) s m args below meth c H locs 0 0 (MQ below (EndI g r [oX10 a_t p_t o_t, aI g (p_t 15) 266 f_t_15] A) args s 0 0 A) (F0 m 56 ls [])) : ∀ (k : Nat) (x2 : Int32) (x3 : Int32), fX10_paysAt_L4 n x1 o_t f_t_15 K k x2 x3 = some (r) → ∀ (H : Heap) (locs : List Loc) (ls : Array Slot), va_P g.1 vwCl [oX10 a_t p_t o_t, aI g (p_t 15) 266 f_t_15] H → va_D A [oX10 a_t p_t o_t, aI g (p_t 15) 266 f_t_15] → va_S A s.heap H locs → lv_has ls 4 [(0, .ref a_t), (1, .int x1), (2, .int x2), (3, .int x3)] → W p l e ({ frames := 0, cells := 0, slots := 0, locals := 0 } : Room) s m args below meth c H locs 0 0 (MQ below (EndI g r [oX10 a_t p_t o_t, aI g (p_t 15) 266 f_t_15] A) args s 0 0 A) (F0 m 4 ls []) := by
  obtain ⟨hx, hb, hml, hown, hts, hr, hlk, hK, hA, hSW⟩ := id C0
  intro k
  induction k with
  | zero =>
    intro x2 x3 hF
    exact absurd hF (by simp [fX10_paysAt_L4])
  | succ k ih =>
    intro x2 x3 hF H locs ls hP hD hS hl
    rw [fX10_paysAt_L4] at hF
    refine lv_iload_n hx hb dX10_paysAt_4 rfl (lv_at hl 3 rfl) ?_
    refine lv_aload_n hx hb dX10_paysAt_5 rfl (lv_at hl 0 rfl) ?_
    refine va_get (D := g.1) (ci := 10) (v := .ref (p_t 15)) (C := RX10) (T := TX10) (N := 35) hx hb hts iX10_paysAt_X10 hown hK.1 hP 0 rfl rfl 15 (by decide) (hts _ kX10_paysAt_20) (fun _ h9 => h9) rfl dX10_paysAt_6 ?_
    refine lv_bipush (v := (7 : Int32)) hx hb dX10_paysAt_9 (by decide) ?_
    refine va_iald_k (j := 7) hx hb hK.1 hP 1 0 rfl rfl (by unfold vp_in; decide) rfl dX10_paysAt_11 ?_
    refine lv_icmp_ge (tgt := 56) hx hb dX10_paysAt_12 (by decide) (fun c_1 => ?_) (fun c_1 => ?_)
    · have hF := it_p c_1 hF
      exact hKx x2 _ _ _ hF (hP.sub [0, 1] rfl) (hD.sub [0, 1] rfl rfl) hS (lv_sub hl [2] rfl)
    · have hF := it_n c_1 hF
      refine lv_iload_n hx hb dX10_paysAt_15 rfl (lv_at hl 2 rfl) ?_
      refine lv_aload_n hx hb dX10_paysAt_16 rfl (lv_at hl 0 rfl) ?_
      refine va_get (D := g.1) (ci := 10) (v := .ref (p_t 15)) (C := RX10) (T := TX10) (N := 35) hx hb hts iX10_paysAt_X10 hown hK.1 hP 0 rfl rfl 15 (by decide) (hts _ kX10_paysAt_20) (fun _ h9 => h9) rfl dX10_paysAt_17 ?_
      refine lv_bipush (v := (94 : Int32)) hx hb dX10_paysAt_20 (by decide) ?_
      refine lv_iconst (v := (2 : Int32)) hx hb dX10_paysAt_22 (by decide) ?_
      refine lv_iload_n hx hb dX10_paysAt_23 rfl (lv_at hl 3 rfl) ?_
      refine lv_imul hx hb dX10_paysAt_24 ?_
      refine lv_iadd hx hb dX10_paysAt_25 ?_
      obtain ⟨h_2, hF⟩ := it_ck hF
      refine va_iald hx hb hK.1 hP 1 0 rfl rfl h_2 dX10_paysAt_26 ?_
      refine lv_iload_n hx hb dX10_paysAt_27 rfl (lv_at hl 1 rfl) ?_
      refine lv_icmp_lt (tgt := 47) hx hb dX10_paysAt_28 (by decide) (fun c_3 => ?_) (fun c_3 => ?_)
      · have hF := it_p c_3 hF
        refine lv_iconst (v := (0 : Int32)) hx hb dX10_paysAt_47 (by decide) ?_
        refine lv_iadd hx hb dX10_paysAt_48 ?_
        refine lv_istore_n (lv' := [(2, .int (x2 + (0 : Int32))), (0, .ref a_t), (1, .int x1), (3, .int x3)]) hx hb dX10_paysAt_49 rfl hl (by decide) rfl (fun ls hl => ?_)
        refine lv_iinc (v := (x3 + (1 : Int32))) (lv' := [(3, .int (x3 + (1 : Int32))), (2, .int (x2 + (0 : Int32))), (0, .ref a_t), (1, .int x1)]) hx hb dX10_paysAt_50 hl (k := 3) rfl rfl (by decide) rfl (fun ls hl => ?_)
        refine lv_goto (tgt := 4) hx hb dX10_paysAt_53 (by decide) ?_
        exact ih (x2 + (0 : Int32)) (x3 + (1 : Int32)) hF _ _ _ (hP.sub [0, 1] rfl) (hD.sub [0, 1] rfl rfl) hS (lv_sub hl [2, 3, 1, 0] rfl)
      · have hF := it_n c_3 hF
        refine lv_aload_n hx hb dX10_paysAt_31 rfl (lv_at hl 0 rfl) ?_
        refine va_get (D := g.1) (ci := 10) (v := .ref (p_t 15)) (C := RX10) (T := TX10) (N := 35) hx hb hts iX10_paysAt_X10 hown hK.1 hP 0 rfl rfl 15 (by decide) (hts _ kX10_paysAt_20) (fun _ h9 => h9) rfl dX10_paysAt_32 ?_
        refine lv_bipush (v := (94 : Int32)) hx hb dX10_paysAt_35 (by decide) ?_
        refine lv_iconst (v := (2 : Int32)) hx hb dX10_paysAt_37 (by decide) ?_
        refine lv_iload_n hx hb dX10_paysAt_38 rfl (lv_at hl 3 rfl) ?_
        refine lv_imul hx hb dX10_paysAt_39 ?_
        refine lv_iadd hx hb dX10_paysAt_40 ?_
        refine lv_iconst (v := (1 : Int32)) hx hb dX10_paysAt_41 (by decide) ?_
        refine lv_iadd hx hb dX10_paysAt_42 ?_
        obtain ⟨h_4, hF⟩ := it_ck hF
        refine va_iald hx hb hK.1 hP 1 0 rfl rfl h_4 dX10_paysAt_43 ?_
        refine lv_goto (tgt := 48) hx hb dX10_paysAt_44 (by decide) ?_
        refine lv_iadd hx hb dX10_paysAt_48 ?_
        refine lv_istore_n (lv' := [(2, .int (x2 + (f_t_15 ((((94 : Int32) + ((2 : Int32) * x3)) + (1 : Int32))).toNatClampNeg))), (0, .ref a_t), (1, .int x1), (3, .int x3)]) hx hb dX10_paysAt_49 rfl hl (by decide) rfl (fun ls hl => ?_)
        refine lv_iinc (v := (x3 + (1 : Int32))) (lv' := [(3, .int (x3 + (1 : Int32))), (2, .int (x2 + (f_t_15 ((((94 : Int32) + ((2 : Int32) * x3)) + (1 : Int32))).toNatClampNeg))), (0, .ref a_t), (1, .int x1)]) hx hb dX10_paysAt_50 hl (k := 3) rfl rfl (by decide) rfl (fun ls hl => ?_)
        refine lv_goto (tgt := 4) hx hb dX10_paysAt_53 (by decide) ?_
        exact ih (x2 + (f_t_15 ((((94 : Int32) + ((2 : Int32) * x3)) + (1 : Int32))).toNatClampNeg)) (x3 + (1 : Int32)) hF _ _ _ (hP.sub [0, 1] rfl) (hD.sub [0, 1] rfl rfl) hS (lv_sub hl [2, 3, 1, 0] rfl)
set_option maxHeartbeats 4000000 in
set_option maxRecDepth 100000 in
theorem mX10_paysAt (l : Launch) (g : GG) (a_t : Nat) (p_t : Nat → Nat) (n : Nat) (x1 : Int32) (o_t : Nat → Int32) (f_t_15 : Nat → Int32) (r : Int32) (hF : fX10_paysAt n x1 o_t f_t_15 = some (r)) : MI l g yX10_paysAt wsX10_paysAt ({ frames := 0, cells := 0, slots := 0, locals := 0 } : Room) [.ref a_t, .int x1] [oX10 a_t p_t o_t, aI g (p_t 15) 266 f_t_15] r [oX10 a_t p_t o_t, aI g (p_t 15) 266 f_t_15] := by
  refine MI.of (cc := cX10_paysAt) (maxL := 4) (rt := .int) (own := RX10) rfl rfl (by decide) (Nat.le_of_ble_eq_true rfl) ?_
  intro p e s m args below meth c A C0 hP hD hS ls hl
  obtain ⟨hx, hb, hml, hown, hts, hr, hlk, hK, hA, hSW⟩ := id C0
  have hl : lv_has ls 4 [(0, .ref a_t), (1, .int x1)] := hl
  rw [fX10_paysAt] at hF
  refine lv_iconst (v := (0 : Int32)) hx hb dX10_paysAt_0 (by decide) ?_
  refine lv_istore_n (lv' := [(2, .int (0 : Int32)), (0, .ref a_t), (1, .int x1)]) hx hb dX10_paysAt_1 rfl hl (by decide) rfl (fun ls hl => ?_)
  refine lv_iconst (v := (0 : Int32)) hx hb dX10_paysAt_2 (by decide) ?_
  refine lv_istore_n (lv' := [(3, .int (0 : Int32)), (2, .int (0 : Int32)), (0, .ref a_t), (1, .int x1)]) hx hb dX10_paysAt_3 rfl hl (by decide) rfl (fun ls hl => ?_)
  refine wX10_paysAt_L4 C0 a_t p_t n x1 o_t f_t_15 r _ ?_ n (0 : Int32) (0 : Int32) hF _ _ _ (hP.sub [0, 1] rfl) (hD.sub [0, 1] rfl rfl) hS (lv_sub hl [2, 3, 1, 0] rfl)
  · intro x2_x4 H locs ls hF hP hD hS hl
    refine lv_iload_n hx hb dX10_paysAt_56 rfl (lv_at hl 0 rfl) ?_
    cases hF
    exact ret_i C0 hP hD hS [0, 1] rfl rfl rfl dX10_paysAt_57 rfl

theorem dAX10_pays : ∀ q ∈ ([(0, (.aload_n 0, 1)), (1, (.invokevirtual 159, 3)), (4, (.aload_n 0, 1)), (5, (.getfield 176, 3)), (8, (.ifCond .ne 9, 3)), (11, (.aload_n 0, 1)), (12, (.iconst 1, 1)), (13, (.invokevirtual 162, 3)), (16, (.ireturn, 1)), (17, (.iload_n 1, 1)), (18, (.iconst 0, 1)), (19, (.bipush 99, 2)), (21, (.invokestatic 144, 3)), (24, (.ifCond .eq 11, 3)), (27, (.aload_n 0, 1)), (28, (.iload_n 1, 1)), (29, (.invokevirtual 365, 3)), (32, (.goto 8, 3)), (35, (.aload_n 0, 1)), (36, (.iconst 2, 1)), (37, (.invokevirtual 162, 3)), (40, (.ireturn, 1))] : List (Nat × (Instr × Nat))), decode cX10_pays q.1 = .ok q.2 := by decide +kernel
theorem dX10_pays_0 : decode cX10_pays 0 = .ok (.aload_n 0, 1) := dAX10_pays (0, (.aload_n 0, 1)) (List.mem_of_getElem? (i := 0) rfl)
theorem dX10_pays_1 : decode cX10_pays 1 = .ok (.invokevirtual 159, 3) := dAX10_pays (1, (.invokevirtual 159, 3)) (List.mem_of_getElem? (i := 1) rfl)
theorem dX10_pays_4 : decode cX10_pays 4 = .ok (.aload_n 0, 1) := dAX10_pays (4, (.aload_n 0, 1)) (List.mem_of_getElem? (i := 2) rfl)
theorem dX10_pays_5 : decode cX10_pays 5 = .ok (.getfield 176, 3) := dAX10_pays (5, (.getfield 176, 3)) (List.mem_of_getElem? (i := 3) rfl)
theorem dX10_pays_8 : decode cX10_pays 8 = .ok (.ifCond .ne 9, 3) := dAX10_pays (8, (.ifCond .ne 9, 3)) (List.mem_of_getElem? (i := 4) rfl)
theorem dX10_pays_11 : decode cX10_pays 11 = .ok (.aload_n 0, 1) := dAX10_pays (11, (.aload_n 0, 1)) (List.mem_of_getElem? (i := 5) rfl)
theorem dX10_pays_12 : decode cX10_pays 12 = .ok (.iconst 1, 1) := dAX10_pays (12, (.iconst 1, 1)) (List.mem_of_getElem? (i := 6) rfl)
theorem dX10_pays_13 : decode cX10_pays 13 = .ok (.invokevirtual 162, 3) := dAX10_pays (13, (.invokevirtual 162, 3)) (List.mem_of_getElem? (i := 7) rfl)
theorem dX10_pays_16 : decode cX10_pays 16 = .ok (.ireturn, 1) := dAX10_pays (16, (.ireturn, 1)) (List.mem_of_getElem? (i := 8) rfl)
theorem dX10_pays_17 : decode cX10_pays 17 = .ok (.iload_n 1, 1) := dAX10_pays (17, (.iload_n 1, 1)) (List.mem_of_getElem? (i := 9) rfl)
theorem dX10_pays_18 : decode cX10_pays 18 = .ok (.iconst 0, 1) := dAX10_pays (18, (.iconst 0, 1)) (List.mem_of_getElem? (i := 10) rfl)
theorem dX10_pays_19 : decode cX10_pays 19 = .ok (.bipush 99, 2) := dAX10_pays (19, (.bipush 99, 2)) (List.mem_of_getElem? (i := 11) rfl)
theorem dX10_pays_21 : decode cX10_pays 21 = .ok (.invokestatic 144, 3) := dAX10_pays (21, (.invokestatic 144, 3)) (List.mem_of_getElem? (i := 12) rfl)
theorem dX10_pays_24 : decode cX10_pays 24 = .ok (.ifCond .eq 11, 3) := dAX10_pays (24, (.ifCond .eq 11, 3)) (List.mem_of_getElem? (i := 13) rfl)
theorem dX10_pays_27 : decode cX10_pays 27 = .ok (.aload_n 0, 1) := dAX10_pays (27, (.aload_n 0, 1)) (List.mem_of_getElem? (i := 14) rfl)
theorem dX10_pays_28 : decode cX10_pays 28 = .ok (.iload_n 1, 1) := dAX10_pays (28, (.iload_n 1, 1)) (List.mem_of_getElem? (i := 15) rfl)
theorem dX10_pays_29 : decode cX10_pays 29 = .ok (.invokevirtual 365, 3) := dAX10_pays (29, (.invokevirtual 365, 3)) (List.mem_of_getElem? (i := 16) rfl)
theorem dX10_pays_32 : decode cX10_pays 32 = .ok (.goto 8, 3) := dAX10_pays (32, (.goto 8, 3)) (List.mem_of_getElem? (i := 17) rfl)
theorem dX10_pays_35 : decode cX10_pays 35 = .ok (.aload_n 0, 1) := dAX10_pays (35, (.aload_n 0, 1)) (List.mem_of_getElem? (i := 18) rfl)
theorem dX10_pays_36 : decode cX10_pays 36 = .ok (.iconst 2, 1) := dAX10_pays (36, (.iconst 2, 1)) (List.mem_of_getElem? (i := 19) rfl)
theorem dX10_pays_37 : decode cX10_pays 37 = .ok (.invokevirtual 162, 3) := dAX10_pays (37, (.invokevirtual 162, 3)) (List.mem_of_getElem? (i := 20) rfl)
theorem dX10_pays_40 : decode cX10_pays 40 = .ok (.ireturn, 1) := dAX10_pays (40, (.ireturn, 1)) (List.mem_of_getElem? (i := 21) rfl)
set_option maxRecDepth 20000 in
theorem ggX10_pays_X10_good : GoodIn wsX10_pays wsX10_good := goodIn_r _ [6, 7, 8, 21, 22, 23, 24, 25, 26, 27, 28, 29, 30, 31, 32, 33, 34, 35, 36, 37, 38, 39, 40, 41, 42, 43, 44, 45, 46, 47, 48, 49, 50, 51, 52, 53, 54, 55] rfl (by decide +kernel)
set_option maxRecDepth 20000 in
theorem gX10_pays_X10_good : GoodIn wsX10_pays (wsV RX10 159 RX10 yX10_good wsX10_good) := goodIn_app (goodIn_of _ (by decide +kernel)) ggX10_pays_X10_good
set_option maxRecDepth 20000 in
theorem ggX10_pays_X10_no : GoodIn wsX10_pays wsX10_no := goodIn_r _ [12, 8, 21, 22, 23, 24, 25, 26, 27, 28, 29, 30, 31, 32, 33, 34, 35, 36, 37, 38, 39, 40, 41, 42, 43, 44, 45, 46, 47, 48, 49, 50, 51, 52, 53, 54, 55] rfl (by decide +kernel)
set_option maxRecDepth 20000 in
theorem gX10_pays_X10_no : GoodIn wsX10_pays (wsV RX10 162 RX10 yX10_no wsX10_no) := goodIn_app (goodIn_of _ (by decide +kernel)) ggX10_pays_X10_no
set_option maxRecDepth 20000 in
theorem ggX10_pays_X10_in : GoodIn wsX10_pays wsX10_in := goodIn_r _ [15] rfl (by decide +kernel)
set_option maxRecDepth 20000 in
theorem gX10_pays_X10_in : GoodIn wsX10_pays (va_wsS RX10 144 yX10_in wsX10_in) := goodIn_app (goodIn_of _ (by decide +kernel)) ggX10_pays_X10_in
set_option maxRecDepth 20000 in
theorem ggX10_pays_X10_paysAt : GoodIn wsX10_pays wsX10_paysAt := goodIn_r _ [19, 20, 21, 22, 23, 24, 25, 26, 27, 28, 29, 30, 31, 32, 33, 34, 35, 36, 37, 38, 39, 40, 41, 42, 43, 44, 45, 46, 47, 48, 49, 50, 51, 52, 53, 54, 55] rfl (by decide +kernel)
set_option maxRecDepth 20000 in
theorem gX10_pays_X10_paysAt : GoodIn wsX10_pays (wsV RX10 365 RX10 yX10_paysAt wsX10_paysAt) := goodIn_app (goodIn_of _ (by decide +kernel)) ggX10_pays_X10_paysAt
theorem kX10_pays_176 : Cond.fieldLink RX10 176 "EveningVowModel" "hasEvening" "Z" ∈ wsX10_pays := List.mem_of_getElem? (i := 1) rfl
theorem iX10_pays_X10 : ∀ w ∈ u_ws RX10 TX10 35, w ∈ wsX10_pays := fun w h => (List.mem_cons_of_mem _ (List.mem_append_right _ h))
set_option maxHeartbeats 4000000 in
set_option maxRecDepth 100000 in
theorem mX10_pays (l : Launch) (g : GG) (a_t : Nat) (p_t : Nat → Nat) (n : Nat) (x1 : Int32) (o_t : Nat → Int32) (f_t_15 : Nat → Int32) (r : Int32) (o_t' : Nat → Int32) (hF : fX10_pays n x1 o_t f_t_15 = some (r, o_t')) : MI l g yX10_pays wsX10_pays ({ frames := 1, cells := 0, slots := 0, locals := 23 } : Room) [.ref a_t, .int x1] [oX10 a_t p_t o_t, aI g (p_t 15) 266 f_t_15] r [oX10 a_t p_t o_t', aI g (p_t 15) 266 f_t_15] := by
  refine MI.of (cc := cX10_pays) (maxL := 2) (rt := .int) (own := RX10) rfl rfl (by decide) (Nat.le_of_ble_eq_true rfl) ?_
  intro p e s m args below meth c A C0 hP hD hS ls hl
  obtain ⟨hx, hb, hml, hown, hts, hr, hlk, hK, hA, hSW⟩ := id C0
  have hl : lv_has ls 2 [(0, .ref a_t), (1, .int x1)] := hl
  rw [fX10_pays] at hF
  refine lv_aload_n hx hb dX10_pays_0 rfl (lv_at hl 0 rfl) ?_
  obtain ⟨u_1, hu_2, hF⟩ := ob1_some hF
  refine call_v (wr := [aI g (p_t 15) 266 f_t_15]) (As := []) (rest := []) (ci := 10) (q0 := 0) C0 (mX10_good l g a_t p_t n o_t u_1 hu_2) (cwV 0 hts gX10_pays_X10_good rfl rfl rfl (by decide +kernel) ⟨Nat.le_of_ble_eq_true rfl, Nat.le_of_ble_eq_true rfl⟩) hP hD hS [0] [1] rfl rfl rfl rfl rfl (by decide) rfl rfl hl.1 rfl rfl (Nat.le_of_ble_eq_true rfl) ⟨Nat.zero_le _, Nat.zero_le _⟩ dX10_pays_1 ?_
  intro H locs hP hD hS
  refine lv_aload_n hx hb dX10_pays_4 rfl (lv_at hl 0 rfl) ?_
  refine va_get (D := g.1) (ci := 10) (v := .int (u_1 14)) (C := RX10) (T := TX10) (N := 35) hx hb hts iX10_pays_X10 hown hK.1 hP 1 rfl rfl 14 (by decide) (hts _ kX10_pays_176) (fun _ h9 => h9) rfl dX10_pays_5 ?_
  refine lv_if_ne (tgt := 17) hx hb dX10_pays_8 (by decide) (fun c_3 => ?_) (fun c_3 => ?_)
  · have hF := it_n c_3 hF
    refine lv_iload_n hx hb dX10_pays_17 rfl (lv_at hl 1 rfl) ?_
    refine lv_iconst (v := (0 : Int32)) hx hb dX10_pays_18 (by decide) ?_
    refine lv_bipush (v := (99 : Int32)) hx hb dX10_pays_19 (by decide) ?_
    obtain ⟨u_4, hu_5, hF⟩ := ob1_some hF
    refine call_si (wr := [aI g (p_t 15) 266 f_t_15, oX10 a_t p_t u_1]) (As := [.int x1, .int (0 : Int32), .int (99 : Int32)]) (rest := []) C0 (mX10_in l g n x1 (0 : Int32) (99 : Int32) u_4 hu_5) (va_cwS 3 hts gX10_pays_X10_in rfl rfl rfl (by decide +kernel) ⟨Nat.le_of_ble_eq_true rfl, Nat.le_of_ble_eq_true rfl⟩) hP hD hS [] [0, 1] rfl rfl rfl rfl rfl (by decide) hl.1 rfl rfl (Nat.le_of_ble_eq_true rfl) ⟨Nat.zero_le _, Nat.zero_le _⟩ dX10_pays_21 ?_
    intro H locs hP hD hS
    refine lv_if_eq (tgt := 35) hx hb dX10_pays_24 (by decide) (fun c_6 => ?_) (fun c_6 => ?_)
    · have hF := it_p c_6 hF
      refine lv_aload_n hx hb dX10_pays_35 rfl (lv_at hl 0 rfl) ?_
      refine lv_iconst (v := (2 : Int32)) hx hb dX10_pays_36 (by decide) ?_
      obtain ⟨u_7, u_8, hu_9, hF⟩ := ob2_some hF
      refine call_i (wr := [aI g (p_t 15) 266 f_t_15]) (As := [.int (2 : Int32)]) (rest := []) (ci := 10) (q0 := 0) C0 (mX10_no l g a_t p_t n (2 : Int32) u_1 u_7 u_8 hu_9) (cwV 1 hts gX10_pays_X10_no rfl rfl rfl (by decide +kernel) ⟨Nat.le_of_ble_eq_true rfl, Nat.le_of_ble_eq_true rfl⟩) hP hD hS [1] [0] rfl rfl rfl rfl rfl (by decide) rfl rfl hl.1 rfl rfl (Nat.le_of_ble_eq_true rfl) ⟨Nat.zero_le _, Nat.zero_le _⟩ dX10_pays_37 ?_
      intro H locs hP hD hS
      cases hF
      exact ret_i C0 hP hD hS [1, 0] rfl rfl rfl dX10_pays_40 rfl
    · have hF := it_n c_6 hF
      refine lv_aload_n hx hb dX10_pays_27 rfl (lv_at hl 0 rfl) ?_
      refine lv_iload_n hx hb dX10_pays_28 rfl (lv_at hl 1 rfl) ?_
      obtain ⟨u_10, hu_11, hF⟩ := ob1_some hF
      refine call_i (wr := []) (As := [.int x1]) (rest := []) (ci := 10) (q0 := 0) C0 (mX10_paysAt l g a_t p_t n x1 u_1 f_t_15 u_10 hu_11) (cwV 1 hts gX10_pays_X10_paysAt rfl rfl rfl (by decide +kernel) ⟨Nat.le_of_ble_eq_true rfl, Nat.le_of_ble_eq_true rfl⟩) hP hD hS [1, 0] [] rfl rfl rfl rfl rfl (by decide) rfl rfl hl.1 rfl rfl (Nat.le_of_ble_eq_true rfl) ⟨Nat.zero_le _, Nat.zero_le _⟩ dX10_pays_29 ?_
      intro H locs hP hD hS
      refine lv_goto (tgt := 40) hx hb dX10_pays_32 (by decide) ?_
      cases hF
      exact ret_i C0 hP hD hS [0, 1] rfl rfl rfl dX10_pays_40 rfl
  · have hF := it_p c_3 hF
    refine lv_aload_n hx hb dX10_pays_11 rfl (lv_at hl 0 rfl) ?_
    refine lv_iconst (v := (1 : Int32)) hx hb dX10_pays_12 (by decide) ?_
    obtain ⟨u_12, u_13, hu_14, hF⟩ := ob2_some hF
    refine call_i (wr := [aI g (p_t 15) 266 f_t_15]) (As := [.int (1 : Int32)]) (rest := []) (ci := 10) (q0 := 0) C0 (mX10_no l g a_t p_t n (1 : Int32) u_1 u_12 u_13 hu_14) (cwV 1 hts gX10_pays_X10_no rfl rfl rfl (by decide +kernel) ⟨Nat.le_of_ble_eq_true rfl, Nat.le_of_ble_eq_true rfl⟩) hP hD hS [1] [0] rfl rfl rfl rfl rfl (by decide) rfl rfl hl.1 rfl rfl (Nat.le_of_ble_eq_true rfl) ⟨Nat.zero_le _, Nat.zero_le _⟩ dX10_pays_13 ?_
    intro H locs hP hD hS
    cases hF
    exact ret_i C0 hP hD hS [1, 0] rfl rfl rfl dX10_pays_16 rfl

theorem dAX10_paid : ∀ q ∈ ([(0, (.aload_n 0, 1)), (1, (.invokevirtual 159, 3)), (4, (.aload_n 0, 1)), (5, (.getfield 176, 3)), (8, (.ifCond .ne 9, 3)), (11, (.aload_n 0, 1)), (12, (.iconst 1, 1)), (13, (.invokevirtual 162, 3)), (16, (.ireturn, 1)), (17, (.aload_n 0, 1)), (18, (.invokevirtual 309, 3)), (21, (.istore_n 1, 1)), (22, (.iload_n 1, 1)), (23, (.ifCond .ge 7, 3)), (26, (.iconst 0, 1)), (27, (.goto 16, 3)), (30, (.aload_n 0, 1)), (31, (.aload_n 0, 1)), (32, (.getfield 26, 3)), (35, (.bipush 14, 2)), (37, (.iaload, 1)), (38, (.iload_n 1, 1)), (39, (.iadd, 1)), (40, (.invokevirtual 365, 3)), (43, (.ireturn, 1))] : List (Nat × (Instr × Nat))), decode cX10_paid q.1 = .ok q.2 := by decide +kernel
theorem dX10_paid_0 : decode cX10_paid 0 = .ok (.aload_n 0, 1) := dAX10_paid (0, (.aload_n 0, 1)) (List.mem_of_getElem? (i := 0) rfl)
theorem dX10_paid_1 : decode cX10_paid 1 = .ok (.invokevirtual 159, 3) := dAX10_paid (1, (.invokevirtual 159, 3)) (List.mem_of_getElem? (i := 1) rfl)
theorem dX10_paid_4 : decode cX10_paid 4 = .ok (.aload_n 0, 1) := dAX10_paid (4, (.aload_n 0, 1)) (List.mem_of_getElem? (i := 2) rfl)
theorem dX10_paid_5 : decode cX10_paid 5 = .ok (.getfield 176, 3) := dAX10_paid (5, (.getfield 176, 3)) (List.mem_of_getElem? (i := 3) rfl)
theorem dX10_paid_8 : decode cX10_paid 8 = .ok (.ifCond .ne 9, 3) := dAX10_paid (8, (.ifCond .ne 9, 3)) (List.mem_of_getElem? (i := 4) rfl)
theorem dX10_paid_11 : decode cX10_paid 11 = .ok (.aload_n 0, 1) := dAX10_paid (11, (.aload_n 0, 1)) (List.mem_of_getElem? (i := 5) rfl)
theorem dX10_paid_12 : decode cX10_paid 12 = .ok (.iconst 1, 1) := dAX10_paid (12, (.iconst 1, 1)) (List.mem_of_getElem? (i := 6) rfl)
theorem dX10_paid_13 : decode cX10_paid 13 = .ok (.invokevirtual 162, 3) := dAX10_paid (13, (.invokevirtual 162, 3)) (List.mem_of_getElem? (i := 7) rfl)
theorem dX10_paid_16 : decode cX10_paid 16 = .ok (.ireturn, 1) := dAX10_paid (16, (.ireturn, 1)) (List.mem_of_getElem? (i := 8) rfl)
theorem dX10_paid_17 : decode cX10_paid 17 = .ok (.aload_n 0, 1) := dAX10_paid (17, (.aload_n 0, 1)) (List.mem_of_getElem? (i := 9) rfl)
theorem dX10_paid_18 : decode cX10_paid 18 = .ok (.invokevirtual 309, 3) := dAX10_paid (18, (.invokevirtual 309, 3)) (List.mem_of_getElem? (i := 10) rfl)
theorem dX10_paid_21 : decode cX10_paid 21 = .ok (.istore_n 1, 1) := dAX10_paid (21, (.istore_n 1, 1)) (List.mem_of_getElem? (i := 11) rfl)
theorem dX10_paid_22 : decode cX10_paid 22 = .ok (.iload_n 1, 1) := dAX10_paid (22, (.iload_n 1, 1)) (List.mem_of_getElem? (i := 12) rfl)
theorem dX10_paid_23 : decode cX10_paid 23 = .ok (.ifCond .ge 7, 3) := dAX10_paid (23, (.ifCond .ge 7, 3)) (List.mem_of_getElem? (i := 13) rfl)
theorem dX10_paid_26 : decode cX10_paid 26 = .ok (.iconst 0, 1) := dAX10_paid (26, (.iconst 0, 1)) (List.mem_of_getElem? (i := 14) rfl)
theorem dX10_paid_27 : decode cX10_paid 27 = .ok (.goto 16, 3) := dAX10_paid (27, (.goto 16, 3)) (List.mem_of_getElem? (i := 15) rfl)
theorem dX10_paid_30 : decode cX10_paid 30 = .ok (.aload_n 0, 1) := dAX10_paid (30, (.aload_n 0, 1)) (List.mem_of_getElem? (i := 16) rfl)
theorem dX10_paid_31 : decode cX10_paid 31 = .ok (.aload_n 0, 1) := dAX10_paid (31, (.aload_n 0, 1)) (List.mem_of_getElem? (i := 17) rfl)
theorem dX10_paid_32 : decode cX10_paid 32 = .ok (.getfield 26, 3) := dAX10_paid (32, (.getfield 26, 3)) (List.mem_of_getElem? (i := 18) rfl)
theorem dX10_paid_35 : decode cX10_paid 35 = .ok (.bipush 14, 2) := dAX10_paid (35, (.bipush 14, 2)) (List.mem_of_getElem? (i := 19) rfl)
theorem dX10_paid_37 : decode cX10_paid 37 = .ok (.iaload, 1) := dAX10_paid (37, (.iaload, 1)) (List.mem_of_getElem? (i := 20) rfl)
theorem dX10_paid_38 : decode cX10_paid 38 = .ok (.iload_n 1, 1) := dAX10_paid (38, (.iload_n 1, 1)) (List.mem_of_getElem? (i := 21) rfl)
theorem dX10_paid_39 : decode cX10_paid 39 = .ok (.iadd, 1) := dAX10_paid (39, (.iadd, 1)) (List.mem_of_getElem? (i := 22) rfl)
theorem dX10_paid_40 : decode cX10_paid 40 = .ok (.invokevirtual 365, 3) := dAX10_paid (40, (.invokevirtual 365, 3)) (List.mem_of_getElem? (i := 23) rfl)
theorem dX10_paid_43 : decode cX10_paid 43 = .ok (.ireturn, 1) := dAX10_paid (43, (.ireturn, 1)) (List.mem_of_getElem? (i := 24) rfl)
set_option maxRecDepth 20000 in
theorem ggX10_paid_X10_good : GoodIn wsX10_paid wsX10_good := goodIn_r _ [7, 8, 9, 77, 78, 79, 80, 81, 82, 83, 84, 85, 86, 87, 88, 89, 90, 91, 92, 93, 94, 95, 96, 97, 98, 99, 100, 101, 102, 103, 104, 105, 106, 107, 108, 109, 110, 111] rfl (by decide +kernel)
set_option maxRecDepth 20000 in
theorem gX10_paid_X10_good : GoodIn wsX10_paid (wsV RX10 159 RX10 yX10_good wsX10_good) := goodIn_app (goodIn_of _ (by decide +kernel)) ggX10_paid_X10_good
set_option maxRecDepth 20000 in
theorem ggX10_paid_X10_no : GoodIn wsX10_paid wsX10_no := goodIn_r _ [13, 9, 77, 78, 79, 80, 81, 82, 83, 84, 85, 86, 87, 88, 89, 90, 91, 92, 93, 94, 95, 96, 97, 98, 99, 100, 101, 102, 103, 104, 105, 106, 107, 108, 109, 110, 111] rfl (by decide +kernel)
set_option maxRecDepth 20000 in
theorem gX10_paid_X10_no : GoodIn wsX10_paid (wsV RX10 162 RX10 yX10_no wsX10_no) := goodIn_app (goodIn_of _ (by decide +kernel)) ggX10_paid_X10_no
set_option maxRecDepth 20000 in
theorem ggX10_paid_X10_endsNow : GoodIn wsX10_paid wsX10_endsNow := goodIn_r _ [17, 2, 18, 19, 20, 6, 21, 22, 23, 24, 25, 26, 27, 28, 29, 30, 31, 32, 33, 34, 35, 36, 37, 38, 39, 40, 41, 42, 43, 44, 45, 46, 47, 48, 49, 50, 51, 52, 53, 54, 55, 56, 57, 58, 59, 60, 61, 62, 63, 64, 65, 66, 67, 68, 69, 70, 71, 72, 77, 78, 79, 80, 81, 82, 83, 84, 85, 86, 87, 88, 89, 90, 91, 92, 93, 94, 95, 96, 97, 98, 99, 100, 101, 102, 103, 104, 105, 106, 107, 108, 109, 110, 111] rfl (by decide +kernel)
set_option maxRecDepth 20000 in
theorem gX10_paid_X10_endsNow : GoodIn wsX10_paid (wsV RX10 309 RX10 yX10_endsNow wsX10_endsNow) := goodIn_app (goodIn_of _ (by decide +kernel)) ggX10_paid_X10_endsNow
set_option maxRecDepth 20000 in
theorem ggX10_paid_X10_paysAt : GoodIn wsX10_paid wsX10_paysAt := goodIn_r _ [76, 31, 77, 78, 79, 80, 81, 82, 83, 84, 85, 86, 87, 88, 89, 90, 91, 92, 93, 94, 95, 96, 97, 98, 99, 100, 101, 102, 103, 104, 105, 106, 107, 108, 109, 110, 111] rfl (by decide +kernel)
set_option maxRecDepth 20000 in
theorem gX10_paid_X10_paysAt : GoodIn wsX10_paid (wsV RX10 365 RX10 yX10_paysAt wsX10_paysAt) := goodIn_app (goodIn_of _ (by decide +kernel)) ggX10_paid_X10_paysAt
theorem kX10_paid_176 : Cond.fieldLink RX10 176 "EveningVowModel" "hasEvening" "Z" ∈ wsX10_paid := List.mem_of_getElem? (i := 1) rfl
theorem iX10_paid_X10 : ∀ w ∈ u_ws RX10 TX10 35, w ∈ wsX10_paid := fun w h => (List.mem_cons_of_mem _ (List.mem_append_right _ h))
theorem kX10_paid_26 : Cond.fieldLink RX10 26 "EveningVowModel" "st" "[I" ∈ wsX10_paid := List.mem_of_getElem? (i := 2) rfl
set_option maxHeartbeats 4000000 in
set_option maxRecDepth 100000 in
theorem mX10_paid (l : Launch) (g : GG) (a_t : Nat) (p_t : Nat → Nat) (n : Nat) (o_t : Nat → Int32) (f_t_15 : Nat → Int32) (f_t_17 : Nat → Int32) (f_t_25 : Nat → Int32) (r : Int32) (o_t' : Nat → Int32) (f_t_25' : Nat → Int32) (hF : fX10_paid n o_t f_t_15 f_t_17 f_t_25 = some (r, o_t', f_t_25')) : MI l g yX10_paid wsX10_paid ({ frames := 6, cells := 0, slots := 0, locals := 136 } : Room) [.ref a_t] [oX10 a_t p_t o_t, aI g (p_t 15) 266 f_t_15, aI g (p_t 17) 17 f_t_17, aI g (p_t 25) 17 f_t_25] r [oX10 a_t p_t o_t', aI g (p_t 15) 266 f_t_15, aI g (p_t 17) 17 f_t_17, aI g (p_t 25) 17 f_t_25'] := by
  refine MI.of (cc := cX10_paid) (maxL := 2) (rt := .int) (own := RX10) rfl rfl (by decide) (Nat.le_of_ble_eq_true rfl) ?_
  intro p e s m args below meth c A C0 hP hD hS ls hl
  obtain ⟨hx, hb, hml, hown, hts, hr, hlk, hK, hA, hSW⟩ := id C0
  have hl : lv_has ls 2 [(0, .ref a_t)] := hl
  rw [fX10_paid] at hF
  refine lv_aload_n hx hb dX10_paid_0 rfl (lv_at hl 0 rfl) ?_
  obtain ⟨u_1, hu_2, hF⟩ := ob1_some hF
  refine call_v (wr := [aI g (p_t 15) 266 f_t_15, aI g (p_t 17) 17 f_t_17, aI g (p_t 25) 17 f_t_25]) (As := []) (rest := []) (ci := 10) (q0 := 0) C0 (mX10_good l g a_t p_t n o_t u_1 hu_2) (cwV 0 hts gX10_paid_X10_good rfl rfl rfl (by decide +kernel) ⟨Nat.le_of_ble_eq_true rfl, Nat.le_of_ble_eq_true rfl⟩) hP hD hS [0] [1, 2, 3] rfl rfl rfl rfl rfl (by decide) rfl rfl hl.1 rfl rfl (Nat.le_of_ble_eq_true rfl) ⟨Nat.zero_le _, Nat.zero_le _⟩ dX10_paid_1 ?_
  intro H locs hP hD hS
  refine lv_aload_n hx hb dX10_paid_4 rfl (lv_at hl 0 rfl) ?_
  refine va_get (D := g.1) (ci := 10) (v := .int (u_1 14)) (C := RX10) (T := TX10) (N := 35) hx hb hts iX10_paid_X10 hown hK.1 hP 3 rfl rfl 14 (by decide) (hts _ kX10_paid_176) (fun _ h9 => h9) rfl dX10_paid_5 ?_
  refine lv_if_ne (tgt := 17) hx hb dX10_paid_8 (by decide) (fun c_3 => ?_) (fun c_3 => ?_)
  · have hF := it_n c_3 hF
    refine lv_aload_n hx hb dX10_paid_17 rfl (lv_at hl 0 rfl) ?_
    obtain ⟨u_4, u_5, u_6, hu_7, hF⟩ := ob3_some hF
    refine call_i (wr := []) (As := []) (rest := []) (ci := 10) (q0 := 0) C0 (mX10_endsNow l g a_t p_t n u_1 f_t_15 f_t_17 f_t_25 u_4 u_5 u_6 hu_7) (cwV 0 hts gX10_paid_X10_endsNow rfl rfl rfl (by decide +kernel) ⟨Nat.le_of_ble_eq_true rfl, Nat.le_of_ble_eq_true rfl⟩) hP hD hS [3, 0, 1, 2] [] rfl rfl rfl rfl rfl (by decide) rfl rfl hl.1 rfl rfl (Nat.le_of_ble_eq_true rfl) ⟨Nat.zero_le _, Nat.zero_le _⟩ dX10_paid_18 ?_
    intro H locs hP hD hS
    refine lv_istore_n (lv' := [(1, .int u_4), (0, .ref a_t)]) hx hb dX10_paid_21 rfl hl (by decide) rfl (fun ls hl => ?_)
    refine lv_iload_n hx hb dX10_paid_22 rfl (lv_at hl 0 rfl) ?_
    refine lv_if_ge (tgt := 30) hx hb dX10_paid_23 (by decide) (fun c_8 => ?_) (fun c_8 => ?_)
    · have hF := it_p c_8 hF
      refine lv_aload_n hx hb dX10_paid_30 rfl (lv_at hl 1 rfl) ?_
      refine lv_aload_n hx hb dX10_paid_31 rfl (lv_at hl 1 rfl) ?_
      refine va_get (D := g.1) (ci := 10) (v := .ref (p_t 17)) (C := RX10) (T := TX10) (N := 35) hx hb hts iX10_paid_X10 hown hK.1 hP 0 rfl rfl 17 (by decide) (hts _ kX10_paid_26) (fun _ h9 => h9) rfl dX10_paid_32 ?_
      refine lv_bipush (v := (14 : Int32)) hx hb dX10_paid_35 (by decide) ?_
      refine va_iald_k (j := 14) hx hb hK.1 hP 2 0 rfl rfl (by unfold vp_in; decide) rfl dX10_paid_37 ?_
      refine lv_iload_n hx hb dX10_paid_38 rfl (lv_at hl 0 rfl) ?_
      refine lv_iadd hx hb dX10_paid_39 ?_
      obtain ⟨u_9, hu_10, hF⟩ := ob1_some hF
      refine call_i (wr := [aI g (p_t 17) 17 f_t_17, aI g (p_t 25) 17 u_6]) (As := [.int ((f_t_17 14) + u_4)]) (rest := []) (ci := 10) (q0 := 0) C0 (mX10_paysAt l g a_t p_t n ((f_t_17 14) + u_4) u_5 f_t_15 u_9 hu_10) (cwV 1 hts gX10_paid_X10_paysAt rfl rfl rfl (by decide +kernel) ⟨Nat.le_of_ble_eq_true rfl, Nat.le_of_ble_eq_true rfl⟩) hP hD hS [0, 1] [2, 3] rfl rfl rfl rfl rfl (by decide) rfl rfl hl.1 rfl rfl (Nat.le_of_ble_eq_true rfl) ⟨Nat.zero_le _, Nat.zero_le _⟩ dX10_paid_40 ?_
      intro H locs hP hD hS
      cases hF
      exact ret_i C0 hP hD hS [2, 3, 0, 1] rfl rfl rfl dX10_paid_43 rfl
    · have hF := it_n c_8 hF
      refine lv_iconst (v := (0 : Int32)) hx hb dX10_paid_26 (by decide) ?_
      refine lv_goto (tgt := 43) hx hb dX10_paid_27 (by decide) ?_
      cases hF
      exact ret_i C0 hP hD hS [0, 1, 2, 3] rfl rfl rfl dX10_paid_43 rfl
  · have hF := it_p c_3 hF
    refine lv_aload_n hx hb dX10_paid_11 rfl (lv_at hl 0 rfl) ?_
    refine lv_iconst (v := (1 : Int32)) hx hb dX10_paid_12 (by decide) ?_
    obtain ⟨u_11, u_12, hu_13, hF⟩ := ob2_some hF
    refine call_i (wr := [aI g (p_t 15) 266 f_t_15, aI g (p_t 17) 17 f_t_17, aI g (p_t 25) 17 f_t_25]) (As := [.int (1 : Int32)]) (rest := []) (ci := 10) (q0 := 0) C0 (mX10_no l g a_t p_t n (1 : Int32) u_1 u_11 u_12 hu_13) (cwV 1 hts gX10_paid_X10_no rfl rfl rfl (by decide +kernel) ⟨Nat.le_of_ble_eq_true rfl, Nat.le_of_ble_eq_true rfl⟩) hP hD hS [3] [0, 1, 2] rfl rfl rfl rfl rfl (by decide) rfl rfl hl.1 rfl rfl (Nat.le_of_ble_eq_true rfl) ⟨Nat.zero_le _, Nat.zero_le _⟩ dX10_paid_13 ?_
    intro H locs hP hD hS
    cases hF
    exact ret_i C0 hP hD hS [3, 0, 1, 2] rfl rfl rfl dX10_paid_16 rfl

theorem dAX10_houseOf : ∀ q ∈ ([(0, (.iload_n 0, 1)), (1, (.iload_n 1, 1)), (2, (.if_icmp .le 9, 3)), (5, (.iconst 3, 1)), (6, (.iload_n 1, 1)), (7, (.imul, 1)), (8, (.goto 16, 3)), (11, (.iload_n 0, 1)), (12, (.iload_n 1, 1)), (13, (.if_icmp .ge 10, 3)), (16, (.bipush (-3), 2)), (18, (.iload_n 0, 1)), (19, (.imul, 1)), (20, (.goto 4, 3)), (23, (.iconst 0, 1)), (24, (.iload_n 0, 1)), (25, (.isub, 1)), (26, (.ireturn, 1))] : List (Nat × (Instr × Nat))), decode cX10_houseOf q.1 = .ok q.2 := by decide +kernel
theorem dX10_houseOf_0 : decode cX10_houseOf 0 = .ok (.iload_n 0, 1) := dAX10_houseOf (0, (.iload_n 0, 1)) (List.mem_of_getElem? (i := 0) rfl)
theorem dX10_houseOf_1 : decode cX10_houseOf 1 = .ok (.iload_n 1, 1) := dAX10_houseOf (1, (.iload_n 1, 1)) (List.mem_of_getElem? (i := 1) rfl)
theorem dX10_houseOf_2 : decode cX10_houseOf 2 = .ok (.if_icmp .le 9, 3) := dAX10_houseOf (2, (.if_icmp .le 9, 3)) (List.mem_of_getElem? (i := 2) rfl)
theorem dX10_houseOf_5 : decode cX10_houseOf 5 = .ok (.iconst 3, 1) := dAX10_houseOf (5, (.iconst 3, 1)) (List.mem_of_getElem? (i := 3) rfl)
theorem dX10_houseOf_6 : decode cX10_houseOf 6 = .ok (.iload_n 1, 1) := dAX10_houseOf (6, (.iload_n 1, 1)) (List.mem_of_getElem? (i := 4) rfl)
theorem dX10_houseOf_7 : decode cX10_houseOf 7 = .ok (.imul, 1) := dAX10_houseOf (7, (.imul, 1)) (List.mem_of_getElem? (i := 5) rfl)
theorem dX10_houseOf_8 : decode cX10_houseOf 8 = .ok (.goto 16, 3) := dAX10_houseOf (8, (.goto 16, 3)) (List.mem_of_getElem? (i := 6) rfl)
theorem dX10_houseOf_11 : decode cX10_houseOf 11 = .ok (.iload_n 0, 1) := dAX10_houseOf (11, (.iload_n 0, 1)) (List.mem_of_getElem? (i := 7) rfl)
theorem dX10_houseOf_12 : decode cX10_houseOf 12 = .ok (.iload_n 1, 1) := dAX10_houseOf (12, (.iload_n 1, 1)) (List.mem_of_getElem? (i := 8) rfl)
theorem dX10_houseOf_13 : decode cX10_houseOf 13 = .ok (.if_icmp .ge 10, 3) := dAX10_houseOf (13, (.if_icmp .ge 10, 3)) (List.mem_of_getElem? (i := 9) rfl)
theorem dX10_houseOf_16 : decode cX10_houseOf 16 = .ok (.bipush (-3), 2) := dAX10_houseOf (16, (.bipush (-3), 2)) (List.mem_of_getElem? (i := 10) rfl)
theorem dX10_houseOf_18 : decode cX10_houseOf 18 = .ok (.iload_n 0, 1) := dAX10_houseOf (18, (.iload_n 0, 1)) (List.mem_of_getElem? (i := 11) rfl)
theorem dX10_houseOf_19 : decode cX10_houseOf 19 = .ok (.imul, 1) := dAX10_houseOf (19, (.imul, 1)) (List.mem_of_getElem? (i := 12) rfl)
theorem dX10_houseOf_20 : decode cX10_houseOf 20 = .ok (.goto 4, 3) := dAX10_houseOf (20, (.goto 4, 3)) (List.mem_of_getElem? (i := 13) rfl)
theorem dX10_houseOf_23 : decode cX10_houseOf 23 = .ok (.iconst 0, 1) := dAX10_houseOf (23, (.iconst 0, 1)) (List.mem_of_getElem? (i := 14) rfl)
theorem dX10_houseOf_24 : decode cX10_houseOf 24 = .ok (.iload_n 0, 1) := dAX10_houseOf (24, (.iload_n 0, 1)) (List.mem_of_getElem? (i := 15) rfl)
theorem dX10_houseOf_25 : decode cX10_houseOf 25 = .ok (.isub, 1) := dAX10_houseOf (25, (.isub, 1)) (List.mem_of_getElem? (i := 16) rfl)
theorem dX10_houseOf_26 : decode cX10_houseOf 26 = .ok (.ireturn, 1) := dAX10_houseOf (26, (.ireturn, 1)) (List.mem_of_getElem? (i := 17) rfl)
set_option maxHeartbeats 4000000 in
set_option maxRecDepth 100000 in
theorem mX10_houseOf (l : Launch) (g : GG)   (n : Nat) (x0 : Int32) (x1 : Int32) (r : Int32) (hF : fX10_houseOf n x0 x1 = some (r)) : MI l g yX10_houseOf wsX10_houseOf ({ frames := 0, cells := 0, slots := 0, locals := 0 } : Room) [.int x0, .int x1] [] r [] := by
  refine MI.of (cc := cX10_houseOf) (maxL := 2) (rt := .int) (own := RX10) rfl rfl (by decide) (Nat.le_of_ble_eq_true rfl) ?_
  intro p e s m args below meth c A C0 hP hD hS ls hl
  obtain ⟨hx, hb, hml, hown, hts, hr, hlk, hK, hA, hSW⟩ := id C0
  have hl : lv_has ls 2 [(0, .int x0), (1, .int x1)] := hl
  rw [fX10_houseOf] at hF
  refine lv_iload_n hx hb dX10_houseOf_0 rfl (lv_at hl 0 rfl) ?_
  refine lv_iload_n hx hb dX10_houseOf_1 rfl (lv_at hl 1 rfl) ?_
  refine lv_icmp_le (tgt := 11) hx hb dX10_houseOf_2 (by decide) (fun c_1 => ?_) (fun c_1 => ?_)
  · have hF := it_p c_1 hF
    refine lv_iload_n hx hb dX10_houseOf_11 rfl (lv_at hl 0 rfl) ?_
    refine lv_iload_n hx hb dX10_houseOf_12 rfl (lv_at hl 1 rfl) ?_
    refine lv_icmp_ge (tgt := 23) hx hb dX10_houseOf_13 (by decide) (fun c_2 => ?_) (fun c_2 => ?_)
    · have hF := it_p c_2 hF
      refine lv_iconst (v := (0 : Int32)) hx hb dX10_houseOf_23 (by decide) ?_
      refine lv_iload_n hx hb dX10_houseOf_24 rfl (lv_at hl 0 rfl) ?_
      refine lv_isub hx hb dX10_houseOf_25 ?_
      cases hF
      exact ret_i C0 hP hD hS [] rfl rfl rfl dX10_houseOf_26 rfl
    · have hF := it_n c_2 hF
      refine lv_bipush (v := (-3 : Int32)) hx hb dX10_houseOf_16 (by decide) ?_
      refine lv_iload_n hx hb dX10_houseOf_18 rfl (lv_at hl 0 rfl) ?_
      refine lv_imul hx hb dX10_houseOf_19 ?_
      refine lv_goto (tgt := 24) hx hb dX10_houseOf_20 (by decide) ?_
      refine lv_iload_n hx hb dX10_houseOf_24 rfl (lv_at hl 0 rfl) ?_
      refine lv_isub hx hb dX10_houseOf_25 ?_
      cases hF
      exact ret_i C0 hP hD hS [] rfl rfl rfl dX10_houseOf_26 rfl
  · have hF := it_n c_1 hF
    refine lv_iconst (v := (3 : Int32)) hx hb dX10_houseOf_5 (by decide) ?_
    refine lv_iload_n hx hb dX10_houseOf_6 rfl (lv_at hl 1 rfl) ?_
    refine lv_imul hx hb dX10_houseOf_7 ?_
    refine lv_goto (tgt := 24) hx hb dX10_houseOf_8 (by decide) ?_
    refine lv_iload_n hx hb dX10_houseOf_24 rfl (lv_at hl 0 rfl) ?_
    refine lv_isub hx hb dX10_houseOf_25 ?_
    cases hF
    exact ret_i C0 hP hD hS [] rfl rfl rfl dX10_houseOf_26 rfl

theorem dAX10_house : ∀ q ∈ ([(0, (.aload_n 0, 1)), (1, (.invokevirtual 159, 3)), (4, (.aload_n 0, 1)), (5, (.getfield 176, 3)), (8, (.ifCond .eq 41, 3)), (11, (.iload_n 1, 1)), (12, (.iconst 0, 1)), (13, (.bipush 6, 2)), (15, (.invokestatic 144, 3)), (18, (.ifCond .eq 31, 3)), (21, (.iload_n 2, 1)), (22, (.iconst 0, 1)), (23, (.bipush 6, 2)), (25, (.invokestatic 144, 3)), (28, (.ifCond .eq 21, 3)), (31, (.iload_n 3, 1)), (32, (.ifCond .eq 11, 3)), (35, (.iload_n 2, 1)), (36, (.iload_n 1, 1)), (37, (.invokestatic 368, 3)), (40, (.goto 8, 3)), (43, (.iload_n 1, 1)), (44, (.iload_n 2, 1)), (45, (.invokestatic 368, 3)), (48, (.ireturn, 1)), (49, (.aload_n 0, 1)), (50, (.aload_n 0, 1)), (51, (.getfield 176, 3)), (54, (.ifCond .eq 7, 3)), (57, (.iconst 2, 1)), (58, (.goto 4, 3)), (61, (.iconst 1, 1)), (62, (.putfield 56, 3)), (65, (.bipush (-100), 2)), (67, (.ireturn, 1))] : List (Nat × (Instr × Nat))), decode cX10_house q.1 = .ok q.2 := by decide +kernel
theorem dX10_house_0 : decode cX10_house 0 = .ok (.aload_n 0, 1) := dAX10_house (0, (.aload_n 0, 1)) (List.mem_of_getElem? (i := 0) rfl)
theorem dX10_house_1 : decode cX10_house 1 = .ok (.invokevirtual 159, 3) := dAX10_house (1, (.invokevirtual 159, 3)) (List.mem_of_getElem? (i := 1) rfl)
theorem dX10_house_4 : decode cX10_house 4 = .ok (.aload_n 0, 1) := dAX10_house (4, (.aload_n 0, 1)) (List.mem_of_getElem? (i := 2) rfl)
theorem dX10_house_5 : decode cX10_house 5 = .ok (.getfield 176, 3) := dAX10_house (5, (.getfield 176, 3)) (List.mem_of_getElem? (i := 3) rfl)
theorem dX10_house_8 : decode cX10_house 8 = .ok (.ifCond .eq 41, 3) := dAX10_house (8, (.ifCond .eq 41, 3)) (List.mem_of_getElem? (i := 4) rfl)
theorem dX10_house_11 : decode cX10_house 11 = .ok (.iload_n 1, 1) := dAX10_house (11, (.iload_n 1, 1)) (List.mem_of_getElem? (i := 5) rfl)
theorem dX10_house_12 : decode cX10_house 12 = .ok (.iconst 0, 1) := dAX10_house (12, (.iconst 0, 1)) (List.mem_of_getElem? (i := 6) rfl)
theorem dX10_house_13 : decode cX10_house 13 = .ok (.bipush 6, 2) := dAX10_house (13, (.bipush 6, 2)) (List.mem_of_getElem? (i := 7) rfl)
theorem dX10_house_15 : decode cX10_house 15 = .ok (.invokestatic 144, 3) := dAX10_house (15, (.invokestatic 144, 3)) (List.mem_of_getElem? (i := 8) rfl)
theorem dX10_house_18 : decode cX10_house 18 = .ok (.ifCond .eq 31, 3) := dAX10_house (18, (.ifCond .eq 31, 3)) (List.mem_of_getElem? (i := 9) rfl)
theorem dX10_house_21 : decode cX10_house 21 = .ok (.iload_n 2, 1) := dAX10_house (21, (.iload_n 2, 1)) (List.mem_of_getElem? (i := 10) rfl)
theorem dX10_house_22 : decode cX10_house 22 = .ok (.iconst 0, 1) := dAX10_house (22, (.iconst 0, 1)) (List.mem_of_getElem? (i := 11) rfl)
theorem dX10_house_23 : decode cX10_house 23 = .ok (.bipush 6, 2) := dAX10_house (23, (.bipush 6, 2)) (List.mem_of_getElem? (i := 12) rfl)
theorem dX10_house_25 : decode cX10_house 25 = .ok (.invokestatic 144, 3) := dAX10_house (25, (.invokestatic 144, 3)) (List.mem_of_getElem? (i := 13) rfl)
theorem dX10_house_28 : decode cX10_house 28 = .ok (.ifCond .eq 21, 3) := dAX10_house (28, (.ifCond .eq 21, 3)) (List.mem_of_getElem? (i := 14) rfl)
theorem dX10_house_31 : decode cX10_house 31 = .ok (.iload_n 3, 1) := dAX10_house (31, (.iload_n 3, 1)) (List.mem_of_getElem? (i := 15) rfl)
theorem dX10_house_32 : decode cX10_house 32 = .ok (.ifCond .eq 11, 3) := dAX10_house (32, (.ifCond .eq 11, 3)) (List.mem_of_getElem? (i := 16) rfl)
theorem dX10_house_35 : decode cX10_house 35 = .ok (.iload_n 2, 1) := dAX10_house (35, (.iload_n 2, 1)) (List.mem_of_getElem? (i := 17) rfl)
theorem dX10_house_36 : decode cX10_house 36 = .ok (.iload_n 1, 1) := dAX10_house (36, (.iload_n 1, 1)) (List.mem_of_getElem? (i := 18) rfl)
theorem dX10_house_37 : decode cX10_house 37 = .ok (.invokestatic 368, 3) := dAX10_house (37, (.invokestatic 368, 3)) (List.mem_of_getElem? (i := 19) rfl)
theorem dX10_house_40 : decode cX10_house 40 = .ok (.goto 8, 3) := dAX10_house (40, (.goto 8, 3)) (List.mem_of_getElem? (i := 20) rfl)
theorem dX10_house_43 : decode cX10_house 43 = .ok (.iload_n 1, 1) := dAX10_house (43, (.iload_n 1, 1)) (List.mem_of_getElem? (i := 21) rfl)
theorem dX10_house_44 : decode cX10_house 44 = .ok (.iload_n 2, 1) := dAX10_house (44, (.iload_n 2, 1)) (List.mem_of_getElem? (i := 22) rfl)
theorem dX10_house_45 : decode cX10_house 45 = .ok (.invokestatic 368, 3) := dAX10_house (45, (.invokestatic 368, 3)) (List.mem_of_getElem? (i := 23) rfl)
theorem dX10_house_48 : decode cX10_house 48 = .ok (.ireturn, 1) := dAX10_house (48, (.ireturn, 1)) (List.mem_of_getElem? (i := 24) rfl)
theorem dX10_house_49 : decode cX10_house 49 = .ok (.aload_n 0, 1) := dAX10_house (49, (.aload_n 0, 1)) (List.mem_of_getElem? (i := 25) rfl)
theorem dX10_house_50 : decode cX10_house 50 = .ok (.aload_n 0, 1) := dAX10_house (50, (.aload_n 0, 1)) (List.mem_of_getElem? (i := 26) rfl)
theorem dX10_house_51 : decode cX10_house 51 = .ok (.getfield 176, 3) := dAX10_house (51, (.getfield 176, 3)) (List.mem_of_getElem? (i := 27) rfl)
theorem dX10_house_54 : decode cX10_house 54 = .ok (.ifCond .eq 7, 3) := dAX10_house (54, (.ifCond .eq 7, 3)) (List.mem_of_getElem? (i := 28) rfl)
theorem dX10_house_57 : decode cX10_house 57 = .ok (.iconst 2, 1) := dAX10_house (57, (.iconst 2, 1)) (List.mem_of_getElem? (i := 29) rfl)
theorem dX10_house_58 : decode cX10_house 58 = .ok (.goto 4, 3) := dAX10_house (58, (.goto 4, 3)) (List.mem_of_getElem? (i := 30) rfl)
theorem dX10_house_61 : decode cX10_house 61 = .ok (.iconst 1, 1) := dAX10_house (61, (.iconst 1, 1)) (List.mem_of_getElem? (i := 31) rfl)
theorem dX10_house_62 : decode cX10_house 62 = .ok (.putfield 56, 3) := dAX10_house (62, (.putfield 56, 3)) (List.mem_of_getElem? (i := 32) rfl)
theorem dX10_house_65 : decode cX10_house 65 = .ok (.bipush (-100), 2) := dAX10_house (65, (.bipush (-100), 2)) (List.mem_of_getElem? (i := 33) rfl)
theorem dX10_house_67 : decode cX10_house 67 = .ok (.ireturn, 1) := dAX10_house (67, (.ireturn, 1)) (List.mem_of_getElem? (i := 34) rfl)
set_option maxRecDepth 20000 in
theorem ggX10_house_X10_good : GoodIn wsX10_house wsX10_good := goodIn_r _ [7, 8, 2, 15, 16, 17, 18, 19, 20, 21, 22, 23, 24, 25, 26, 27, 28, 29, 30, 31, 32, 33, 34, 35, 36, 37, 38, 39, 40, 41, 42, 43, 44, 45, 46, 47, 48, 49] rfl (by decide +kernel)
set_option maxRecDepth 20000 in
theorem gX10_house_X10_good : GoodIn wsX10_house (wsV RX10 159 RX10 yX10_good wsX10_good) := goodIn_app (goodIn_of _ (by decide +kernel)) ggX10_house_X10_good
set_option maxRecDepth 20000 in
theorem ggX10_house_X10_in : GoodIn wsX10_house wsX10_in := goodIn_r _ [11] rfl (by decide +kernel)
set_option maxRecDepth 20000 in
theorem gX10_house_X10_in : GoodIn wsX10_house (va_wsS RX10 144 yX10_in wsX10_in) := goodIn_app (goodIn_of _ (by decide +kernel)) ggX10_house_X10_in
set_option maxRecDepth 20000 in
theorem ggX10_house_X10_houseOf : GoodIn wsX10_house wsX10_houseOf := goodIn_r _ [14] rfl (by decide +kernel)
set_option maxRecDepth 20000 in
theorem gX10_house_X10_houseOf : GoodIn wsX10_house (va_wsS RX10 368 yX10_houseOf wsX10_houseOf) := goodIn_app (goodIn_of _ (by decide +kernel)) ggX10_house_X10_houseOf
theorem kX10_house_176 : Cond.fieldLink RX10 176 "EveningVowModel" "hasEvening" "Z" ∈ wsX10_house := List.mem_of_getElem? (i := 1) rfl
theorem iX10_house_X10 : ∀ w ∈ u_ws RX10 TX10 35, w ∈ wsX10_house := fun w h => (List.mem_cons_of_mem _ (List.mem_append_right _ h))
theorem kX10_house_56 : Cond.fieldLink RX10 56 "EveningVowModel" "trouble" "I" ∈ wsX10_house := List.mem_of_getElem? (i := 2) rfl
set_option maxHeartbeats 4000000 in
set_option maxRecDepth 100000 in
theorem mX10_house (l : Launch) (g : GG) (a_t : Nat) (p_t : Nat → Nat) (n : Nat) (x1 : Int32) (x2 : Int32) (x3 : Int32) (o_t : Nat → Int32) (r : Int32) (o_t' : Nat → Int32) (hF : fX10_house n x1 x2 x3 o_t = some (r, o_t')) : MI l g yX10_house wsX10_house ({ frames := 1, cells := 0, slots := 0, locals := 22 } : Room) [.ref a_t, .int x1, .int x2, .int x3] [oX10 a_t p_t o_t] r [oX10 a_t p_t o_t'] := by
  refine MI.of (cc := cX10_house) (maxL := 4) (rt := .int) (own := RX10) rfl rfl (by decide) (Nat.le_of_ble_eq_true rfl) ?_
  intro p e s m args below meth c A C0 hP hD hS ls hl
  obtain ⟨hx, hb, hml, hown, hts, hr, hlk, hK, hA, hSW⟩ := id C0
  have hl : lv_has ls 4 [(0, .ref a_t), (1, .int x1), (2, .int x2), (3, .int x3)] := hl
  rw [fX10_house] at hF
  refine lv_aload_n hx hb dX10_house_0 rfl (lv_at hl 0 rfl) ?_
  obtain ⟨u_1, hu_2, hF⟩ := ob1_some hF
  refine call_v (wr := []) (As := []) (rest := []) (ci := 10) (q0 := 0) C0 (mX10_good l g a_t p_t n o_t u_1 hu_2) (cwV 0 hts gX10_house_X10_good rfl rfl rfl (by decide +kernel) ⟨Nat.le_of_ble_eq_true rfl, Nat.le_of_ble_eq_true rfl⟩) hP hD hS [0] [] rfl rfl rfl rfl rfl (by decide) rfl rfl hl.1 rfl rfl (Nat.le_of_ble_eq_true rfl) ⟨Nat.zero_le _, Nat.zero_le _⟩ dX10_house_1 ?_
  intro H locs hP hD hS
  refine lv_aload_n hx hb dX10_house_4 rfl (lv_at hl 0 rfl) ?_
  refine va_get (D := g.1) (ci := 10) (v := .int (u_1 14)) (C := RX10) (T := TX10) (N := 35) hx hb hts iX10_house_X10 hown hK.1 hP 0 rfl rfl 14 (by decide) (hts _ kX10_house_176) (fun _ h9 => h9) rfl dX10_house_5 ?_
  refine lv_if_eq (tgt := 49) hx hb dX10_house_8 (by decide) (fun c_3 => ?_) (fun c_3 => ?_)
  · have hF := it_p c_3 hF
    refine lv_aload_n hx hb dX10_house_49 rfl (lv_at hl 0 rfl) ?_
    refine lv_aload_n hx hb dX10_house_50 rfl (lv_at hl 0 rfl) ?_
    refine va_get (D := g.1) (ci := 10) (v := .int (u_1 14)) (C := RX10) (T := TX10) (N := 35) hx hb hts iX10_house_X10 hown hK.1 hP 0 rfl rfl 14 (by decide) (hts _ kX10_house_176) (fun _ h9 => h9) rfl dX10_house_51 ?_
    refine lv_if_eq (tgt := 61) hx hb dX10_house_54 (by decide) (fun c_4 => ?_) (fun c_4 => ?_)
    · have hF := it_p c_4 hF
      refine lv_iconst (v := (1 : Int32)) hx hb dX10_house_61 (by decide) ?_
      refine va_put (D := g.1) (ci := 10) (v := .int (1 : Int32)) (ty := .int) (C := RX10) (T := TX10) (N := 35) hx hb hts iX10_house_X10 tyX10 tyX10_ok nmX10 hown hK.1 hP hD hS 0 rfl rfl 11 (by decide) (hts _ kX10_house_56) (fun _ h9 => h9) rfl (by decide +kernel) rfl rfl (Nat.le_of_ble_eq_true rfl) dX10_house_62 (fun H locs hP hD hS => ?_)
      have hP : va_P g.1 vwCl [oX10 a_t p_t (upd u_1 11 (1 : Int32))] H := hP
      have hD : va_D A [oX10 a_t p_t (upd u_1 11 (1 : Int32))] := hD
      refine lv_bipush (v := (-100 : Int32)) hx hb dX10_house_65 (by decide) ?_
      cases hF
      exact ret_i C0 hP hD hS [0] rfl rfl rfl dX10_house_67 rfl
    · have hF := it_n c_4 hF
      refine lv_iconst (v := (2 : Int32)) hx hb dX10_house_57 (by decide) ?_
      refine lv_goto (tgt := 62) hx hb dX10_house_58 (by decide) ?_
      refine va_put (D := g.1) (ci := 10) (v := .int (2 : Int32)) (ty := .int) (C := RX10) (T := TX10) (N := 35) hx hb hts iX10_house_X10 tyX10 tyX10_ok nmX10 hown hK.1 hP hD hS 0 rfl rfl 11 (by decide) (hts _ kX10_house_56) (fun _ h9 => h9) rfl (by decide +kernel) rfl rfl (Nat.le_of_ble_eq_true rfl) dX10_house_62 (fun H locs hP hD hS => ?_)
      have hP : va_P g.1 vwCl [oX10 a_t p_t (upd u_1 11 (2 : Int32))] H := hP
      have hD : va_D A [oX10 a_t p_t (upd u_1 11 (2 : Int32))] := hD
      refine lv_bipush (v := (-100 : Int32)) hx hb dX10_house_65 (by decide) ?_
      cases hF
      exact ret_i C0 hP hD hS [0] rfl rfl rfl dX10_house_67 rfl
  · have hF := it_n c_3 hF
    refine lv_iload_n hx hb dX10_house_11 rfl (lv_at hl 1 rfl) ?_
    refine lv_iconst (v := (0 : Int32)) hx hb dX10_house_12 (by decide) ?_
    refine lv_bipush (v := (6 : Int32)) hx hb dX10_house_13 (by decide) ?_
    obtain ⟨u_5, hu_6, hF⟩ := ob1_some hF
    refine call_si (wr := [oX10 a_t p_t u_1]) (As := [.int x1, .int (0 : Int32), .int (6 : Int32)]) (rest := []) C0 (mX10_in l g n x1 (0 : Int32) (6 : Int32) u_5 hu_6) (va_cwS 3 hts gX10_house_X10_in rfl rfl rfl (by decide +kernel) ⟨Nat.le_of_ble_eq_true rfl, Nat.le_of_ble_eq_true rfl⟩) hP hD hS [] [0] rfl rfl rfl rfl rfl (by decide) hl.1 rfl rfl (Nat.le_of_ble_eq_true rfl) ⟨Nat.zero_le _, Nat.zero_le _⟩ dX10_house_15 ?_
    intro H locs hP hD hS
    refine lv_if_eq (tgt := 49) hx hb dX10_house_18 (by decide) (fun c_7 => ?_) (fun c_7 => ?_)
    · have hF := it_p c_7 hF
      refine lv_aload_n hx hb dX10_house_49 rfl (lv_at hl 0 rfl) ?_
      refine lv_aload_n hx hb dX10_house_50 rfl (lv_at hl 0 rfl) ?_
      refine va_get (D := g.1) (ci := 10) (v := .int (u_1 14)) (C := RX10) (T := TX10) (N := 35) hx hb hts iX10_house_X10 hown hK.1 hP 0 rfl rfl 14 (by decide) (hts _ kX10_house_176) (fun _ h9 => h9) rfl dX10_house_51 ?_
      refine lv_if_eq (tgt := 61) hx hb dX10_house_54 (by decide) (fun c_8 => ?_) (fun c_8 => ?_)
      · have hF := it_p c_8 hF
        refine lv_iconst (v := (1 : Int32)) hx hb dX10_house_61 (by decide) ?_
        refine va_put (D := g.1) (ci := 10) (v := .int (1 : Int32)) (ty := .int) (C := RX10) (T := TX10) (N := 35) hx hb hts iX10_house_X10 tyX10 tyX10_ok nmX10 hown hK.1 hP hD hS 0 rfl rfl 11 (by decide) (hts _ kX10_house_56) (fun _ h9 => h9) rfl (by decide +kernel) rfl rfl (Nat.le_of_ble_eq_true rfl) dX10_house_62 (fun H locs hP hD hS => ?_)
        have hP : va_P g.1 vwCl [oX10 a_t p_t (upd u_1 11 (1 : Int32))] H := hP
        have hD : va_D A [oX10 a_t p_t (upd u_1 11 (1 : Int32))] := hD
        refine lv_bipush (v := (-100 : Int32)) hx hb dX10_house_65 (by decide) ?_
        cases hF
        exact ret_i C0 hP hD hS [0] rfl rfl rfl dX10_house_67 rfl
      · have hF := it_n c_8 hF
        refine lv_iconst (v := (2 : Int32)) hx hb dX10_house_57 (by decide) ?_
        refine lv_goto (tgt := 62) hx hb dX10_house_58 (by decide) ?_
        refine va_put (D := g.1) (ci := 10) (v := .int (2 : Int32)) (ty := .int) (C := RX10) (T := TX10) (N := 35) hx hb hts iX10_house_X10 tyX10 tyX10_ok nmX10 hown hK.1 hP hD hS 0 rfl rfl 11 (by decide) (hts _ kX10_house_56) (fun _ h9 => h9) rfl (by decide +kernel) rfl rfl (Nat.le_of_ble_eq_true rfl) dX10_house_62 (fun H locs hP hD hS => ?_)
        have hP : va_P g.1 vwCl [oX10 a_t p_t (upd u_1 11 (2 : Int32))] H := hP
        have hD : va_D A [oX10 a_t p_t (upd u_1 11 (2 : Int32))] := hD
        refine lv_bipush (v := (-100 : Int32)) hx hb dX10_house_65 (by decide) ?_
        cases hF
        exact ret_i C0 hP hD hS [0] rfl rfl rfl dX10_house_67 rfl
    · have hF := it_n c_7 hF
      refine lv_iload_n hx hb dX10_house_21 rfl (lv_at hl 2 rfl) ?_
      refine lv_iconst (v := (0 : Int32)) hx hb dX10_house_22 (by decide) ?_
      refine lv_bipush (v := (6 : Int32)) hx hb dX10_house_23 (by decide) ?_
      obtain ⟨u_9, hu_10, hF⟩ := ob1_some hF
      refine call_si (wr := [oX10 a_t p_t u_1]) (As := [.int x2, .int (0 : Int32), .int (6 : Int32)]) (rest := []) C0 (mX10_in l g n x2 (0 : Int32) (6 : Int32) u_9 hu_10) (va_cwS 3 hts gX10_house_X10_in rfl rfl rfl (by decide +kernel) ⟨Nat.le_of_ble_eq_true rfl, Nat.le_of_ble_eq_true rfl⟩) hP hD hS [] [0] rfl rfl rfl rfl rfl (by decide) hl.1 rfl rfl (Nat.le_of_ble_eq_true rfl) ⟨Nat.zero_le _, Nat.zero_le _⟩ dX10_house_25 ?_
      intro H locs hP hD hS
      refine lv_if_eq (tgt := 49) hx hb dX10_house_28 (by decide) (fun c_11 => ?_) (fun c_11 => ?_)
      · have hF := it_p c_11 hF
        refine lv_aload_n hx hb dX10_house_49 rfl (lv_at hl 0 rfl) ?_
        refine lv_aload_n hx hb dX10_house_50 rfl (lv_at hl 0 rfl) ?_
        refine va_get (D := g.1) (ci := 10) (v := .int (u_1 14)) (C := RX10) (T := TX10) (N := 35) hx hb hts iX10_house_X10 hown hK.1 hP 0 rfl rfl 14 (by decide) (hts _ kX10_house_176) (fun _ h9 => h9) rfl dX10_house_51 ?_
        refine lv_if_eq (tgt := 61) hx hb dX10_house_54 (by decide) (fun c_12 => ?_) (fun c_12 => ?_)
        · have hF := it_p c_12 hF
          refine lv_iconst (v := (1 : Int32)) hx hb dX10_house_61 (by decide) ?_
          refine va_put (D := g.1) (ci := 10) (v := .int (1 : Int32)) (ty := .int) (C := RX10) (T := TX10) (N := 35) hx hb hts iX10_house_X10 tyX10 tyX10_ok nmX10 hown hK.1 hP hD hS 0 rfl rfl 11 (by decide) (hts _ kX10_house_56) (fun _ h9 => h9) rfl (by decide +kernel) rfl rfl (Nat.le_of_ble_eq_true rfl) dX10_house_62 (fun H locs hP hD hS => ?_)
          have hP : va_P g.1 vwCl [oX10 a_t p_t (upd u_1 11 (1 : Int32))] H := hP
          have hD : va_D A [oX10 a_t p_t (upd u_1 11 (1 : Int32))] := hD
          refine lv_bipush (v := (-100 : Int32)) hx hb dX10_house_65 (by decide) ?_
          cases hF
          exact ret_i C0 hP hD hS [0] rfl rfl rfl dX10_house_67 rfl
        · have hF := it_n c_12 hF
          refine lv_iconst (v := (2 : Int32)) hx hb dX10_house_57 (by decide) ?_
          refine lv_goto (tgt := 62) hx hb dX10_house_58 (by decide) ?_
          refine va_put (D := g.1) (ci := 10) (v := .int (2 : Int32)) (ty := .int) (C := RX10) (T := TX10) (N := 35) hx hb hts iX10_house_X10 tyX10 tyX10_ok nmX10 hown hK.1 hP hD hS 0 rfl rfl 11 (by decide) (hts _ kX10_house_56) (fun _ h9 => h9) rfl (by decide +kernel) rfl rfl (Nat.le_of_ble_eq_true rfl) dX10_house_62 (fun H locs hP hD hS => ?_)
          have hP : va_P g.1 vwCl [oX10 a_t p_t (upd u_1 11 (2 : Int32))] H := hP
          have hD : va_D A [oX10 a_t p_t (upd u_1 11 (2 : Int32))] := hD
          refine lv_bipush (v := (-100 : Int32)) hx hb dX10_house_65 (by decide) ?_
          cases hF
          exact ret_i C0 hP hD hS [0] rfl rfl rfl dX10_house_67 rfl
      · have hF := it_n c_11 hF
        refine lv_iload_n hx hb dX10_house_31 rfl (lv_at hl 3 rfl) ?_
        refine lv_if_eq (tgt := 43) hx hb dX10_house_32 (by decide) (fun c_13 => ?_) (fun c_13 => ?_)
        · have hF := it_p c_13 hF
          refine lv_iload_n hx hb dX10_house_43 rfl (lv_at hl 1 rfl) ?_
          refine lv_iload_n hx hb dX10_house_44 rfl (lv_at hl 2 rfl) ?_
          obtain ⟨u_14, hu_15, hF⟩ := ob1_some hF
          refine call_si (wr := [oX10 a_t p_t u_1]) (As := [.int x1, .int x2]) (rest := []) C0 (mX10_houseOf l g n x1 x2 u_14 hu_15) (va_cwS 2 hts gX10_house_X10_houseOf rfl rfl rfl (by decide +kernel) ⟨Nat.le_of_ble_eq_true rfl, Nat.le_of_ble_eq_true rfl⟩) hP hD hS [] [0] rfl rfl rfl rfl rfl (by decide) hl.1 rfl rfl (Nat.le_of_ble_eq_true rfl) ⟨Nat.zero_le _, Nat.zero_le _⟩ dX10_house_45 ?_
          intro H locs hP hD hS
          cases hF
          exact ret_i C0 hP hD hS [0] rfl rfl rfl dX10_house_48 rfl
        · have hF := it_n c_13 hF
          refine lv_iload_n hx hb dX10_house_35 rfl (lv_at hl 2 rfl) ?_
          refine lv_iload_n hx hb dX10_house_36 rfl (lv_at hl 1 rfl) ?_
          obtain ⟨u_16, hu_17, hF⟩ := ob1_some hF
          refine call_si (wr := [oX10 a_t p_t u_1]) (As := [.int x2, .int x1]) (rest := []) C0 (mX10_houseOf l g n x2 x1 u_16 hu_17) (va_cwS 2 hts gX10_house_X10_houseOf rfl rfl rfl (by decide +kernel) ⟨Nat.le_of_ble_eq_true rfl, Nat.le_of_ble_eq_true rfl⟩) hP hD hS [] [0] rfl rfl rfl rfl rfl (by decide) hl.1 rfl rfl (Nat.le_of_ble_eq_true rfl) ⟨Nat.zero_le _, Nat.zero_le _⟩ dX10_house_37 ?_
          intro H locs hP hD hS
          refine lv_goto (tgt := 48) hx hb dX10_house_40 (by decide) ?_
          cases hF
          exact ret_i C0 hP hD hS [0] rfl rfl rfl dX10_house_48 rfl

theorem dAX10_isRest : ∀ q ∈ ([(0, (.iconst 1, 1)), (1, (.istore_n 2, 1)), (2, (.iconst 0, 1)), (3, (.istore_n 3, 1)), (4, (.iload_n 3, 1)), (5, (.bipush 6, 2)), (7, (.if_icmp .gt 45, 3)), (10, (.iload_n 2, 1)), (11, (.ifCond .eq 33, 3)), (14, (.iload_n 3, 1)), (15, (.iload_n 1, 1)), (16, (.invokestatic 368, 3)), (19, (.iload_n 0, 1)), (20, (.iload_n 1, 1)), (21, (.invokestatic 368, 3)), (24, (.if_icmp .gt 20, 3)), (27, (.iload_n 3, 1)), (28, (.iload_n 0, 1)), (29, (.invokestatic 368, 3)), (32, (.iload_n 1, 1)), (33, (.iload_n 0, 1)), (34, (.invokestatic 368, 3)), (37, (.if_icmp .gt 7, 3)), (40, (.iconst 1, 1)), (41, (.goto 4, 3)), (44, (.iconst 0, 1)), (45, (.istore_n 2, 1)), (46, (.iinc 3 1, 3)), (49, (.goto (-45), 3)), (52, (.iload_n 2, 1)), (53, (.ireturn, 1))] : List (Nat × (Instr × Nat))), decode cX10_isRest q.1 = .ok q.2 := by decide +kernel
theorem dX10_isRest_0 : decode cX10_isRest 0 = .ok (.iconst 1, 1) := dAX10_isRest (0, (.iconst 1, 1)) (List.mem_of_getElem? (i := 0) rfl)
theorem dX10_isRest_1 : decode cX10_isRest 1 = .ok (.istore_n 2, 1) := dAX10_isRest (1, (.istore_n 2, 1)) (List.mem_of_getElem? (i := 1) rfl)
theorem dX10_isRest_2 : decode cX10_isRest 2 = .ok (.iconst 0, 1) := dAX10_isRest (2, (.iconst 0, 1)) (List.mem_of_getElem? (i := 2) rfl)
theorem dX10_isRest_3 : decode cX10_isRest 3 = .ok (.istore_n 3, 1) := dAX10_isRest (3, (.istore_n 3, 1)) (List.mem_of_getElem? (i := 3) rfl)
theorem dX10_isRest_4 : decode cX10_isRest 4 = .ok (.iload_n 3, 1) := dAX10_isRest (4, (.iload_n 3, 1)) (List.mem_of_getElem? (i := 4) rfl)
theorem dX10_isRest_5 : decode cX10_isRest 5 = .ok (.bipush 6, 2) := dAX10_isRest (5, (.bipush 6, 2)) (List.mem_of_getElem? (i := 5) rfl)
theorem dX10_isRest_7 : decode cX10_isRest 7 = .ok (.if_icmp .gt 45, 3) := dAX10_isRest (7, (.if_icmp .gt 45, 3)) (List.mem_of_getElem? (i := 6) rfl)
theorem dX10_isRest_10 : decode cX10_isRest 10 = .ok (.iload_n 2, 1) := dAX10_isRest (10, (.iload_n 2, 1)) (List.mem_of_getElem? (i := 7) rfl)
theorem dX10_isRest_11 : decode cX10_isRest 11 = .ok (.ifCond .eq 33, 3) := dAX10_isRest (11, (.ifCond .eq 33, 3)) (List.mem_of_getElem? (i := 8) rfl)
theorem dX10_isRest_14 : decode cX10_isRest 14 = .ok (.iload_n 3, 1) := dAX10_isRest (14, (.iload_n 3, 1)) (List.mem_of_getElem? (i := 9) rfl)
theorem dX10_isRest_15 : decode cX10_isRest 15 = .ok (.iload_n 1, 1) := dAX10_isRest (15, (.iload_n 1, 1)) (List.mem_of_getElem? (i := 10) rfl)
theorem dX10_isRest_16 : decode cX10_isRest 16 = .ok (.invokestatic 368, 3) := dAX10_isRest (16, (.invokestatic 368, 3)) (List.mem_of_getElem? (i := 11) rfl)
theorem dX10_isRest_19 : decode cX10_isRest 19 = .ok (.iload_n 0, 1) := dAX10_isRest (19, (.iload_n 0, 1)) (List.mem_of_getElem? (i := 12) rfl)
theorem dX10_isRest_20 : decode cX10_isRest 20 = .ok (.iload_n 1, 1) := dAX10_isRest (20, (.iload_n 1, 1)) (List.mem_of_getElem? (i := 13) rfl)
theorem dX10_isRest_21 : decode cX10_isRest 21 = .ok (.invokestatic 368, 3) := dAX10_isRest (21, (.invokestatic 368, 3)) (List.mem_of_getElem? (i := 14) rfl)
theorem dX10_isRest_24 : decode cX10_isRest 24 = .ok (.if_icmp .gt 20, 3) := dAX10_isRest (24, (.if_icmp .gt 20, 3)) (List.mem_of_getElem? (i := 15) rfl)
theorem dX10_isRest_27 : decode cX10_isRest 27 = .ok (.iload_n 3, 1) := dAX10_isRest (27, (.iload_n 3, 1)) (List.mem_of_getElem? (i := 16) rfl)
theorem dX10_isRest_28 : decode cX10_isRest 28 = .ok (.iload_n 0, 1) := dAX10_isRest (28, (.iload_n 0, 1)) (List.mem_of_getElem? (i := 17) rfl)
theorem dX10_isRest_29 : decode cX10_isRest 29 = .ok (.invokestatic 368, 3) := dAX10_isRest (29, (.invokestatic 368, 3)) (List.mem_of_getElem? (i := 18) rfl)
theorem dX10_isRest_32 : decode cX10_isRest 32 = .ok (.iload_n 1, 1) := dAX10_isRest (32, (.iload_n 1, 1)) (List.mem_of_getElem? (i := 19) rfl)
theorem dX10_isRest_33 : decode cX10_isRest 33 = .ok (.iload_n 0, 1) := dAX10_isRest (33, (.iload_n 0, 1)) (List.mem_of_getElem? (i := 20) rfl)
theorem dX10_isRest_34 : decode cX10_isRest 34 = .ok (.invokestatic 368, 3) := dAX10_isRest (34, (.invokestatic 368, 3)) (List.mem_of_getElem? (i := 21) rfl)
theorem dX10_isRest_37 : decode cX10_isRest 37 = .ok (.if_icmp .gt 7, 3) := dAX10_isRest (37, (.if_icmp .gt 7, 3)) (List.mem_of_getElem? (i := 22) rfl)
theorem dX10_isRest_40 : decode cX10_isRest 40 = .ok (.iconst 1, 1) := dAX10_isRest (40, (.iconst 1, 1)) (List.mem_of_getElem? (i := 23) rfl)
theorem dX10_isRest_41 : decode cX10_isRest 41 = .ok (.goto 4, 3) := dAX10_isRest (41, (.goto 4, 3)) (List.mem_of_getElem? (i := 24) rfl)
theorem dX10_isRest_44 : decode cX10_isRest 44 = .ok (.iconst 0, 1) := dAX10_isRest (44, (.iconst 0, 1)) (List.mem_of_getElem? (i := 25) rfl)
theorem dX10_isRest_45 : decode cX10_isRest 45 = .ok (.istore_n 2, 1) := dAX10_isRest (45, (.istore_n 2, 1)) (List.mem_of_getElem? (i := 26) rfl)
theorem dX10_isRest_46 : decode cX10_isRest 46 = .ok (.iinc 3 1, 3) := dAX10_isRest (46, (.iinc 3 1, 3)) (List.mem_of_getElem? (i := 27) rfl)
theorem dX10_isRest_49 : decode cX10_isRest 49 = .ok (.goto (-45), 3) := dAX10_isRest (49, (.goto (-45), 3)) (List.mem_of_getElem? (i := 28) rfl)
theorem dX10_isRest_52 : decode cX10_isRest 52 = .ok (.iload_n 2, 1) := dAX10_isRest (52, (.iload_n 2, 1)) (List.mem_of_getElem? (i := 29) rfl)
theorem dX10_isRest_53 : decode cX10_isRest 53 = .ok (.ireturn, 1) := dAX10_isRest (53, (.ireturn, 1)) (List.mem_of_getElem? (i := 30) rfl)
set_option maxRecDepth 20000 in
theorem ggX10_isRest_X10_houseOf : GoodIn wsX10_isRest wsX10_houseOf := goodIn_r _ [4] rfl (by decide +kernel)
set_option maxRecDepth 20000 in
theorem gX10_isRest_X10_houseOf : GoodIn wsX10_isRest (va_wsS RX10 368 yX10_houseOf wsX10_houseOf) := goodIn_app (goodIn_of _ (by decide +kernel)) ggX10_isRest_X10_houseOf
set_option maxHeartbeats 4000000 in
set_option maxRecDepth 100000 in
theorem wX10_isRest_L4 {p : Program} {l : Launch} {e : Env} {s : State} {m : MethodId} {args : Array Value} {below : List Frame} {meth : Method} {c : Code} {g : GG} {A : Nat → Prop} (C0 : Cx p s m args meth c cX10_isRest 4 (some .boolean) RX10 wsX10_isRest g A)   (n : Nat) (x0 : Int32) (x1 : Int32)  (r : Int32) (K : Int32 → Option (Int32)) (hKx : ∀ (x2 : Int32) (H : Heap) (locs : List Loc) (ls : Array Slot), K x2 = some (r) → va_P g.1 vwCl [] H → va_D A [] → va_S A s.heap H locs → lv_has ls 4 [(2, .int x2)] → W p l e ({ frames := 1, cells := 0, slots := 0, locals := 21 } : Room) s m args below meth c H locs 0 0 (MQ below (EndI g r [] A) args s 0 0 A) (F0 m 52 ls [])) : ∀ (k : Nat) (x2 : Int32) (x3 : Int32), fX10_isRest_L4 n x0 x1 K k x2 x3 = some (r) → ∀ (H : Heap) (locs : List Loc) (ls : Array Slot), va_P g.1 vwCl [] H → va_D A [] → va_S A s.heap H locs → lv_has ls 4 [(0, .int x0), (1, .int x1), (2, .int x2), (3, .int x3)] → W p l e ({ frames := 1, cells := 0, slots := 0, locals := 21 } : Room) s m args below meth c H locs 0 0 (MQ below (EndI g r [] A) args s 0 0 A) (F0 m 4 ls []) := by
  obtain ⟨hx, hb, hml, hown, hts, hr, hlk, hK, hA, hSW⟩ := id C0
  intro k
  induction k with
  | zero =>
    intro x2 x3 hF
    exact absurd hF (by simp [fX10_isRest_L4])
  | succ k ih =>
    intro x2 x3 hF H locs ls hP hD hS hl
    rw [fX10_isRest_L4] at hF
    refine lv_iload_n hx hb dX10_isRest_4 rfl (lv_at hl 3 rfl) ?_
    refine lv_bipush (v := (6 : Int32)) hx hb dX10_isRest_5 (by decide) ?_
    refine lv_icmp_gt (tgt := 52) hx hb dX10_isRest_7 (by decide) (fun c_1 => ?_) (fun c_1 => ?_)
    · have hF := it_p c_1 hF
      exact hKx x2 _ _ _ hF (hP.sub [] rfl) (hD.sub [] rfl rfl) hS (lv_sub hl [2] rfl)
    · have hF := it_n c_1 hF
      refine lv_iload_n hx hb dX10_isRest_10 rfl (lv_at hl 2 rfl) ?_
      refine lv_if_eq (tgt := 44) hx hb dX10_isRest_11 (by decide) (fun c_2 => ?_) (fun c_2 => ?_)
      · have hF := it_p c_2 hF
        refine lv_iconst (v := (0 : Int32)) hx hb dX10_isRest_44 (by decide) ?_
        refine lv_istore_n (lv' := [(2, .int (0 : Int32)), (0, .int x0), (1, .int x1), (3, .int x3)]) hx hb dX10_isRest_45 rfl hl (by decide) rfl (fun ls hl => ?_)
        refine lv_iinc (v := (x3 + (1 : Int32))) (lv' := [(3, .int (x3 + (1 : Int32))), (2, .int (0 : Int32)), (0, .int x0), (1, .int x1)]) hx hb dX10_isRest_46 hl (k := 3) rfl rfl (by decide) rfl (fun ls hl => ?_)
        refine lv_goto (tgt := 4) hx hb dX10_isRest_49 (by decide) ?_
        exact ih (0 : Int32) (x3 + (1 : Int32)) hF _ _ _ (hP.sub [] rfl) (hD.sub [] rfl rfl) hS (lv_sub hl [2, 3, 1, 0] rfl)
      · have hF := it_n c_2 hF
        refine lv_iload_n hx hb dX10_isRest_14 rfl (lv_at hl 3 rfl) ?_
        refine lv_iload_n hx hb dX10_isRest_15 rfl (lv_at hl 1 rfl) ?_
        obtain ⟨u_3, hu_4, hF⟩ := ob1_some hF
        refine call_si (wr := []) (As := [.int x3, .int x1]) (rest := []) C0 (mX10_houseOf l g n x3 x1 u_3 hu_4) (va_cwS 2 hts gX10_isRest_X10_houseOf rfl rfl rfl (by decide +kernel) ⟨Nat.le_of_ble_eq_true rfl, Nat.le_of_ble_eq_true rfl⟩) hP hD hS [] [] rfl rfl rfl rfl rfl (by decide) hl.1 rfl rfl (Nat.le_of_ble_eq_true rfl) ⟨Nat.zero_le _, Nat.zero_le _⟩ dX10_isRest_16 ?_
        intro H locs hP hD hS
        refine lv_iload_n hx hb dX10_isRest_19 rfl (lv_at hl 0 rfl) ?_
        refine lv_iload_n hx hb dX10_isRest_20 rfl (lv_at hl 1 rfl) ?_
        obtain ⟨u_5, hu_6, hF⟩ := ob1_some hF
        refine call_si (wr := []) (As := [.int x0, .int x1]) (rest := [.int u_3]) C0 (mX10_houseOf l g n x0 x1 u_5 hu_6) (va_cwS 2 hts gX10_isRest_X10_houseOf rfl rfl rfl (by decide +kernel) ⟨Nat.le_of_ble_eq_true rfl, Nat.le_of_ble_eq_true rfl⟩) hP hD hS [] [] rfl rfl rfl rfl rfl (by decide) hl.1 rfl rfl (Nat.le_of_ble_eq_true rfl) ⟨Nat.zero_le _, Nat.zero_le _⟩ dX10_isRest_21 ?_
        intro H locs hP hD hS
        refine lv_icmp_gt (tgt := 44) hx hb dX10_isRest_24 (by decide) (fun c_7 => ?_) (fun c_7 => ?_)
        · have hF := it_p c_7 hF
          refine lv_iconst (v := (0 : Int32)) hx hb dX10_isRest_44 (by decide) ?_
          refine lv_istore_n (lv' := [(2, .int (0 : Int32)), (0, .int x0), (1, .int x1), (3, .int x3)]) hx hb dX10_isRest_45 rfl hl (by decide) rfl (fun ls hl => ?_)
          refine lv_iinc (v := (x3 + (1 : Int32))) (lv' := [(3, .int (x3 + (1 : Int32))), (2, .int (0 : Int32)), (0, .int x0), (1, .int x1)]) hx hb dX10_isRest_46 hl (k := 3) rfl rfl (by decide) rfl (fun ls hl => ?_)
          refine lv_goto (tgt := 4) hx hb dX10_isRest_49 (by decide) ?_
          exact ih (0 : Int32) (x3 + (1 : Int32)) hF _ _ _ (hP.sub [] rfl) (hD.sub [] rfl rfl) hS (lv_sub hl [2, 3, 1, 0] rfl)
        · have hF := it_n c_7 hF
          refine lv_iload_n hx hb dX10_isRest_27 rfl (lv_at hl 3 rfl) ?_
          refine lv_iload_n hx hb dX10_isRest_28 rfl (lv_at hl 0 rfl) ?_
          obtain ⟨u_8, hu_9, hF⟩ := ob1_some hF
          refine call_si (wr := []) (As := [.int x3, .int x0]) (rest := []) C0 (mX10_houseOf l g n x3 x0 u_8 hu_9) (va_cwS 2 hts gX10_isRest_X10_houseOf rfl rfl rfl (by decide +kernel) ⟨Nat.le_of_ble_eq_true rfl, Nat.le_of_ble_eq_true rfl⟩) hP hD hS [] [] rfl rfl rfl rfl rfl (by decide) hl.1 rfl rfl (Nat.le_of_ble_eq_true rfl) ⟨Nat.zero_le _, Nat.zero_le _⟩ dX10_isRest_29 ?_
          intro H locs hP hD hS
          refine lv_iload_n hx hb dX10_isRest_32 rfl (lv_at hl 1 rfl) ?_
          refine lv_iload_n hx hb dX10_isRest_33 rfl (lv_at hl 0 rfl) ?_
          obtain ⟨u_10, hu_11, hF⟩ := ob1_some hF
          refine call_si (wr := []) (As := [.int x1, .int x0]) (rest := [.int u_8]) C0 (mX10_houseOf l g n x1 x0 u_10 hu_11) (va_cwS 2 hts gX10_isRest_X10_houseOf rfl rfl rfl (by decide +kernel) ⟨Nat.le_of_ble_eq_true rfl, Nat.le_of_ble_eq_true rfl⟩) hP hD hS [] [] rfl rfl rfl rfl rfl (by decide) hl.1 rfl rfl (Nat.le_of_ble_eq_true rfl) ⟨Nat.zero_le _, Nat.zero_le _⟩ dX10_isRest_34 ?_
          intro H locs hP hD hS
          refine lv_icmp_gt (tgt := 44) hx hb dX10_isRest_37 (by decide) (fun c_12 => ?_) (fun c_12 => ?_)
          · have hF := it_p c_12 hF
            refine lv_iconst (v := (0 : Int32)) hx hb dX10_isRest_44 (by decide) ?_
            refine lv_istore_n (lv' := [(2, .int (0 : Int32)), (0, .int x0), (1, .int x1), (3, .int x3)]) hx hb dX10_isRest_45 rfl hl (by decide) rfl (fun ls hl => ?_)
            refine lv_iinc (v := (x3 + (1 : Int32))) (lv' := [(3, .int (x3 + (1 : Int32))), (2, .int (0 : Int32)), (0, .int x0), (1, .int x1)]) hx hb dX10_isRest_46 hl (k := 3) rfl rfl (by decide) rfl (fun ls hl => ?_)
            refine lv_goto (tgt := 4) hx hb dX10_isRest_49 (by decide) ?_
            exact ih (0 : Int32) (x3 + (1 : Int32)) hF _ _ _ (hP.sub [] rfl) (hD.sub [] rfl rfl) hS (lv_sub hl [2, 3, 1, 0] rfl)
          · have hF := it_n c_12 hF
            refine lv_iconst (v := (1 : Int32)) hx hb dX10_isRest_40 (by decide) ?_
            refine lv_goto (tgt := 45) hx hb dX10_isRest_41 (by decide) ?_
            refine lv_istore_n (lv' := [(2, .int (1 : Int32)), (0, .int x0), (1, .int x1), (3, .int x3)]) hx hb dX10_isRest_45 rfl hl (by decide) rfl (fun ls hl => ?_)
            refine lv_iinc (v := (x3 + (1 : Int32))) (lv' := [(3, .int (x3 + (1 : Int32))), (2, .int (1 : Int32)), (0, .int x0), (1, .int x1)]) hx hb dX10_isRest_46 hl (k := 3) rfl rfl (by decide) rfl (fun ls hl => ?_)
            refine lv_goto (tgt := 4) hx hb dX10_isRest_49 (by decide) ?_
            exact ih (1 : Int32) (x3 + (1 : Int32)) hF _ _ _ (hP.sub [] rfl) (hD.sub [] rfl rfl) hS (lv_sub hl [2, 3, 1, 0] rfl)
set_option maxHeartbeats 4000000 in
set_option maxRecDepth 100000 in
theorem mX10_isRest (l : Launch) (g : GG)   (n : Nat) (x0 : Int32) (x1 : Int32) (r : Int32) (hF : fX10_isRest n x0 x1 = some (r)) : MI l g yX10_isRest wsX10_isRest ({ frames := 1, cells := 0, slots := 0, locals := 21 } : Room) [.int x0, .int x1] [] r [] := by
  refine MI.of (cc := cX10_isRest) (maxL := 4) (rt := .boolean) (own := RX10) rfl rfl (by decide) (Nat.le_of_ble_eq_true rfl) ?_
  intro p e s m args below meth c A C0 hP hD hS ls hl
  obtain ⟨hx, hb, hml, hown, hts, hr, hlk, hK, hA, hSW⟩ := id C0
  have hl : lv_has ls 4 [(0, .int x0), (1, .int x1)] := hl
  rw [fX10_isRest] at hF
  refine lv_iconst (v := (1 : Int32)) hx hb dX10_isRest_0 (by decide) ?_
  refine lv_istore_n (lv' := [(2, .int (1 : Int32)), (0, .int x0), (1, .int x1)]) hx hb dX10_isRest_1 rfl hl (by decide) rfl (fun ls hl => ?_)
  refine lv_iconst (v := (0 : Int32)) hx hb dX10_isRest_2 (by decide) ?_
  refine lv_istore_n (lv' := [(3, .int (0 : Int32)), (2, .int (1 : Int32)), (0, .int x0), (1, .int x1)]) hx hb dX10_isRest_3 rfl hl (by decide) rfl (fun ls hl => ?_)
  refine wX10_isRest_L4 C0 n x0 x1 r _ ?_ n (1 : Int32) (0 : Int32) hF _ _ _ (hP.sub [] rfl) (hD.sub [] rfl rfl) hS (lv_sub hl [2, 3, 1, 0] rfl)
  · intro x2_x4 H locs ls hF hP hD hS hl
    refine lv_iload_n hx hb dX10_isRest_52 rfl (lv_at hl 0 rfl) ?_
    obtain ⟨h_13, hF⟩ := it_ck hF
    cases hF
    exact ret_z C0 hP hD hS [] rfl rfl rfl dX10_isRest_53 (nar01 h_13) rfl

theorem dAX10_seekRests : ∀ q ∈ ([(0, (.iconst 0, 1)), (1, (.istore_n 1, 1)), (2, (.aload_n 0, 1)), (3, (.bipush (-2), 2)), (5, (.putfield 371, 3)), (8, (.iconst 0, 1)), (9, (.istore_n 2, 1)), (10, (.iload_n 2, 1)), (11, (.bipush 6, 2)), (13, (.if_icmp .gt 51, 3)), (16, (.iconst 0, 1)), (17, (.istore_n 3, 1)), (18, (.iload_n 3, 1)), (19, (.bipush 6, 2)), (21, (.if_icmp .gt 37, 3)), (24, (.iload_n 2, 1)), (25, (.iload_n 3, 1)), (26, (.invokestatic 374, 3)), (29, (.ifCond .ne 6, 3)), (32, (.goto 20, 3)), (35, (.iload_n 1, 1)), (36, (.ifCond .ne 13, 3)), (39, (.aload_n 0, 1)), (40, (.bipush 10, 2)), (42, (.iload_n 2, 1)), (43, (.imul, 1)), (44, (.iload_n 3, 1)), (45, (.iadd, 1)), (46, (.putfield 371, 3)), (49, (.iinc 1 1, 3)), (52, (.iinc 3 1, 3)), (55, (.goto (-37), 3)), (58, (.iinc 2 1, 3)), (61, (.goto (-51), 3)), (64, (.iload_n 1, 1)), (65, (.ireturn, 1))] : List (Nat × (Instr × Nat))), decode cX10_seekRests q.1 = .ok q.2 := by decide +kernel
theorem dX10_seekRests_0 : decode cX10_seekRests 0 = .ok (.iconst 0, 1) := dAX10_seekRests (0, (.iconst 0, 1)) (List.mem_of_getElem? (i := 0) rfl)
theorem dX10_seekRests_1 : decode cX10_seekRests 1 = .ok (.istore_n 1, 1) := dAX10_seekRests (1, (.istore_n 1, 1)) (List.mem_of_getElem? (i := 1) rfl)
theorem dX10_seekRests_2 : decode cX10_seekRests 2 = .ok (.aload_n 0, 1) := dAX10_seekRests (2, (.aload_n 0, 1)) (List.mem_of_getElem? (i := 2) rfl)
theorem dX10_seekRests_3 : decode cX10_seekRests 3 = .ok (.bipush (-2), 2) := dAX10_seekRests (3, (.bipush (-2), 2)) (List.mem_of_getElem? (i := 3) rfl)
theorem dX10_seekRests_5 : decode cX10_seekRests 5 = .ok (.putfield 371, 3) := dAX10_seekRests (5, (.putfield 371, 3)) (List.mem_of_getElem? (i := 4) rfl)
theorem dX10_seekRests_8 : decode cX10_seekRests 8 = .ok (.iconst 0, 1) := dAX10_seekRests (8, (.iconst 0, 1)) (List.mem_of_getElem? (i := 5) rfl)
theorem dX10_seekRests_9 : decode cX10_seekRests 9 = .ok (.istore_n 2, 1) := dAX10_seekRests (9, (.istore_n 2, 1)) (List.mem_of_getElem? (i := 6) rfl)
theorem dX10_seekRests_10 : decode cX10_seekRests 10 = .ok (.iload_n 2, 1) := dAX10_seekRests (10, (.iload_n 2, 1)) (List.mem_of_getElem? (i := 7) rfl)
theorem dX10_seekRests_11 : decode cX10_seekRests 11 = .ok (.bipush 6, 2) := dAX10_seekRests (11, (.bipush 6, 2)) (List.mem_of_getElem? (i := 8) rfl)
theorem dX10_seekRests_13 : decode cX10_seekRests 13 = .ok (.if_icmp .gt 51, 3) := dAX10_seekRests (13, (.if_icmp .gt 51, 3)) (List.mem_of_getElem? (i := 9) rfl)
theorem dX10_seekRests_16 : decode cX10_seekRests 16 = .ok (.iconst 0, 1) := dAX10_seekRests (16, (.iconst 0, 1)) (List.mem_of_getElem? (i := 10) rfl)
theorem dX10_seekRests_17 : decode cX10_seekRests 17 = .ok (.istore_n 3, 1) := dAX10_seekRests (17, (.istore_n 3, 1)) (List.mem_of_getElem? (i := 11) rfl)
theorem dX10_seekRests_18 : decode cX10_seekRests 18 = .ok (.iload_n 3, 1) := dAX10_seekRests (18, (.iload_n 3, 1)) (List.mem_of_getElem? (i := 12) rfl)
theorem dX10_seekRests_19 : decode cX10_seekRests 19 = .ok (.bipush 6, 2) := dAX10_seekRests (19, (.bipush 6, 2)) (List.mem_of_getElem? (i := 13) rfl)
theorem dX10_seekRests_21 : decode cX10_seekRests 21 = .ok (.if_icmp .gt 37, 3) := dAX10_seekRests (21, (.if_icmp .gt 37, 3)) (List.mem_of_getElem? (i := 14) rfl)
theorem dX10_seekRests_24 : decode cX10_seekRests 24 = .ok (.iload_n 2, 1) := dAX10_seekRests (24, (.iload_n 2, 1)) (List.mem_of_getElem? (i := 15) rfl)
theorem dX10_seekRests_25 : decode cX10_seekRests 25 = .ok (.iload_n 3, 1) := dAX10_seekRests (25, (.iload_n 3, 1)) (List.mem_of_getElem? (i := 16) rfl)
theorem dX10_seekRests_26 : decode cX10_seekRests 26 = .ok (.invokestatic 374, 3) := dAX10_seekRests (26, (.invokestatic 374, 3)) (List.mem_of_getElem? (i := 17) rfl)
theorem dX10_seekRests_29 : decode cX10_seekRests 29 = .ok (.ifCond .ne 6, 3) := dAX10_seekRests (29, (.ifCond .ne 6, 3)) (List.mem_of_getElem? (i := 18) rfl)
theorem dX10_seekRests_32 : decode cX10_seekRests 32 = .ok (.goto 20, 3) := dAX10_seekRests (32, (.goto 20, 3)) (List.mem_of_getElem? (i := 19) rfl)
theorem dX10_seekRests_35 : decode cX10_seekRests 35 = .ok (.iload_n 1, 1) := dAX10_seekRests (35, (.iload_n 1, 1)) (List.mem_of_getElem? (i := 20) rfl)
theorem dX10_seekRests_36 : decode cX10_seekRests 36 = .ok (.ifCond .ne 13, 3) := dAX10_seekRests (36, (.ifCond .ne 13, 3)) (List.mem_of_getElem? (i := 21) rfl)
theorem dX10_seekRests_39 : decode cX10_seekRests 39 = .ok (.aload_n 0, 1) := dAX10_seekRests (39, (.aload_n 0, 1)) (List.mem_of_getElem? (i := 22) rfl)
theorem dX10_seekRests_40 : decode cX10_seekRests 40 = .ok (.bipush 10, 2) := dAX10_seekRests (40, (.bipush 10, 2)) (List.mem_of_getElem? (i := 23) rfl)
theorem dX10_seekRests_42 : decode cX10_seekRests 42 = .ok (.iload_n 2, 1) := dAX10_seekRests (42, (.iload_n 2, 1)) (List.mem_of_getElem? (i := 24) rfl)
theorem dX10_seekRests_43 : decode cX10_seekRests 43 = .ok (.imul, 1) := dAX10_seekRests (43, (.imul, 1)) (List.mem_of_getElem? (i := 25) rfl)
theorem dX10_seekRests_44 : decode cX10_seekRests 44 = .ok (.iload_n 3, 1) := dAX10_seekRests (44, (.iload_n 3, 1)) (List.mem_of_getElem? (i := 26) rfl)
theorem dX10_seekRests_45 : decode cX10_seekRests 45 = .ok (.iadd, 1) := dAX10_seekRests (45, (.iadd, 1)) (List.mem_of_getElem? (i := 27) rfl)
theorem dX10_seekRests_46 : decode cX10_seekRests 46 = .ok (.putfield 371, 3) := dAX10_seekRests (46, (.putfield 371, 3)) (List.mem_of_getElem? (i := 28) rfl)
theorem dX10_seekRests_49 : decode cX10_seekRests 49 = .ok (.iinc 1 1, 3) := dAX10_seekRests (49, (.iinc 1 1, 3)) (List.mem_of_getElem? (i := 29) rfl)
theorem dX10_seekRests_52 : decode cX10_seekRests 52 = .ok (.iinc 3 1, 3) := dAX10_seekRests (52, (.iinc 3 1, 3)) (List.mem_of_getElem? (i := 30) rfl)
theorem dX10_seekRests_55 : decode cX10_seekRests 55 = .ok (.goto (-37), 3) := dAX10_seekRests (55, (.goto (-37), 3)) (List.mem_of_getElem? (i := 31) rfl)
theorem dX10_seekRests_58 : decode cX10_seekRests 58 = .ok (.iinc 2 1, 3) := dAX10_seekRests (58, (.iinc 2 1, 3)) (List.mem_of_getElem? (i := 32) rfl)
theorem dX10_seekRests_61 : decode cX10_seekRests 61 = .ok (.goto (-51), 3) := dAX10_seekRests (61, (.goto (-51), 3)) (List.mem_of_getElem? (i := 33) rfl)
theorem dX10_seekRests_64 : decode cX10_seekRests 64 = .ok (.iload_n 1, 1) := dAX10_seekRests (64, (.iload_n 1, 1)) (List.mem_of_getElem? (i := 34) rfl)
theorem dX10_seekRests_65 : decode cX10_seekRests 65 = .ok (.ireturn, 1) := dAX10_seekRests (65, (.ireturn, 1)) (List.mem_of_getElem? (i := 35) rfl)
set_option maxRecDepth 20000 in
theorem ggX10_seekRests_X10_isRest : GoodIn wsX10_seekRests wsX10_isRest := goodIn_r _ [5, 6, 7, 4, 8] rfl (by decide +kernel)
set_option maxRecDepth 20000 in
theorem gX10_seekRests_X10_isRest : GoodIn wsX10_seekRests (va_wsS RX10 374 yX10_isRest wsX10_isRest) := goodIn_app (goodIn_of _ (by decide +kernel)) ggX10_seekRests_X10_isRest
theorem kX10_seekRests_371 : Cond.fieldLink RX10 371 "EveningVowModel" "firstRest" "I" ∈ wsX10_seekRests := List.mem_of_getElem? (i := 1) rfl
theorem iX10_seekRests_X10 : ∀ w ∈ u_ws RX10 TX10 35, w ∈ wsX10_seekRests := fun w h => (List.mem_cons_of_mem _ (List.mem_append_right _ h))
set_option maxHeartbeats 4000000 in
set_option maxRecDepth 100000 in
theorem wX10_seekRests_L18 {p : Program} {l : Launch} {e : Env} {s : State} {m : MethodId} {args : Array Value} {below : List Frame} {meth : Method} {c : Code} {g : GG} {A : Nat → Prop} (C0 : Cx p s m args meth c cX10_seekRests 4 (some .int) RX10 wsX10_seekRests g A) (a_t : Nat) (p_t : Nat → Nat) (n : Nat) (x2 : Int32)  (r : Int32) (o_t' : Nat → Int32) (K : Int32 → (Nat → Int32) → Option (Int32 × (Nat → Int32))) (hKx : ∀ (x1 : Int32) (o_t : Nat → Int32) (H : Heap) (locs : List Loc) (ls : Array Slot), K x1 o_t = some (r, o_t') → va_P g.1 vwCl [oX10 a_t p_t o_t] H → va_D A [oX10 a_t p_t o_t] → va_S A s.heap H locs → lv_has ls 4 [(0, .ref a_t), (1, .int x1), (2, .int x2)] → W p l e ({ frames := 2, cells := 0, slots := 0, locals := 44 } : Room) s m args below meth c H locs 0 0 (MQ below (EndI g r [oX10 a_t p_t o_t'] A) args s 0 0 A) (F0 m 58 ls [])) : ∀ (k : Nat) (x1 : Int32) (x3 : Int32) (o_t : Nat → Int32), fX10_seekRests_L18 n x2 K k x1 x3 o_t = some (r, o_t') → ∀ (H : Heap) (locs : List Loc) (ls : Array Slot), va_P g.1 vwCl [oX10 a_t p_t o_t] H → va_D A [oX10 a_t p_t o_t] → va_S A s.heap H locs → lv_has ls 4 [(0, .ref a_t), (1, .int x1), (2, .int x2), (3, .int x3)] → W p l e ({ frames := 2, cells := 0, slots := 0, locals := 44 } : Room) s m args below meth c H locs 0 0 (MQ below (EndI g r [oX10 a_t p_t o_t'] A) args s 0 0 A) (F0 m 18 ls []) := by
  obtain ⟨hx, hb, hml, hown, hts, hr, hlk, hK, hA, hSW⟩ := id C0
  intro k
  induction k with
  | zero =>
    intro x1 x3 o_t hF
    exact absurd hF (by simp [fX10_seekRests_L18])
  | succ k ih =>
    intro x1 x3 o_t hF H locs ls hP hD hS hl
    rw [fX10_seekRests_L18] at hF
    refine lv_iload_n hx hb dX10_seekRests_18 rfl (lv_at hl 3 rfl) ?_
    refine lv_bipush (v := (6 : Int32)) hx hb dX10_seekRests_19 (by decide) ?_
    refine lv_icmp_gt (tgt := 58) hx hb dX10_seekRests_21 (by decide) (fun c_2 => ?_) (fun c_2 => ?_)
    · have hF := it_p c_2 hF
      exact hKx x1 o_t _ _ _ hF (hP.sub [0] rfl) (hD.sub [0] rfl rfl) hS (lv_sub hl [0, 1, 2] rfl)
    · have hF := it_n c_2 hF
      refine lv_iload_n hx hb dX10_seekRests_24 rfl (lv_at hl 2 rfl) ?_
      refine lv_iload_n hx hb dX10_seekRests_25 rfl (lv_at hl 3 rfl) ?_
      obtain ⟨u_3, hu_4, hF⟩ := ob1_some hF
      refine call_si (wr := [oX10 a_t p_t o_t]) (As := [.int x2, .int x3]) (rest := []) C0 (mX10_isRest l g n x2 x3 u_3 hu_4) (va_cwS 2 hts gX10_seekRests_X10_isRest rfl rfl rfl (by decide +kernel) ⟨Nat.le_of_ble_eq_true rfl, Nat.le_of_ble_eq_true rfl⟩) hP hD hS [] [0] rfl rfl rfl rfl rfl (by decide) hl.1 rfl rfl (Nat.le_of_ble_eq_true rfl) ⟨Nat.zero_le _, Nat.zero_le _⟩ dX10_seekRests_26 ?_
      intro H locs hP hD hS
      refine lv_if_ne (tgt := 35) hx hb dX10_seekRests_29 (by decide) (fun c_5 => ?_) (fun c_5 => ?_)
      · have hF := it_n c_5 hF
        refine lv_iload_n hx hb dX10_seekRests_35 rfl (lv_at hl 1 rfl) ?_
        refine lv_if_ne (tgt := 49) hx hb dX10_seekRests_36 (by decide) (fun c_6 => ?_) (fun c_6 => ?_)
        · have hF := it_n c_6 hF
          refine lv_iinc (v := (x1 + (1 : Int32))) (lv' := [(1, .int (x1 + (1 : Int32))), (0, .ref a_t), (2, .int x2), (3, .int x3)]) hx hb dX10_seekRests_49 hl (k := 1) rfl rfl (by decide) rfl (fun ls hl => ?_)
          refine lv_iinc (v := (x3 + (1 : Int32))) (lv' := [(3, .int (x3 + (1 : Int32))), (1, .int (x1 + (1 : Int32))), (0, .ref a_t), (2, .int x2)]) hx hb dX10_seekRests_52 hl (k := 3) rfl rfl (by decide) rfl (fun ls hl => ?_)
          refine lv_goto (tgt := 18) hx hb dX10_seekRests_55 (by decide) ?_
          exact ih (x1 + (1 : Int32)) (x3 + (1 : Int32)) o_t hF _ _ _ (hP.sub [0] rfl) (hD.sub [0] rfl rfl) hS (lv_sub hl [2, 1, 3, 0] rfl)
        · have hF := it_p c_6 hF
          refine lv_aload_n hx hb dX10_seekRests_39 rfl (lv_at hl 0 rfl) ?_
          refine lv_bipush (v := (10 : Int32)) hx hb dX10_seekRests_40 (by decide) ?_
          refine lv_iload_n hx hb dX10_seekRests_42 rfl (lv_at hl 2 rfl) ?_
          refine lv_imul hx hb dX10_seekRests_43 ?_
          refine lv_iload_n hx hb dX10_seekRests_44 rfl (lv_at hl 3 rfl) ?_
          refine lv_iadd hx hb dX10_seekRests_45 ?_
          refine va_put (D := g.1) (ci := 10) (v := .int (((10 : Int32) * x2) + x3)) (ty := .int) (C := RX10) (T := TX10) (N := 35) hx hb hts iX10_seekRests_X10 tyX10 tyX10_ok nmX10 hown hK.1 hP hD hS 0 rfl rfl 34 (by decide) (hts _ kX10_seekRests_371) (fun _ h9 => h9) rfl (by decide +kernel) rfl rfl (Nat.le_of_ble_eq_true rfl) dX10_seekRests_46 (fun H locs hP hD hS => ?_)
          have hP : va_P g.1 vwCl [oX10 a_t p_t (upd o_t 34 (((10 : Int32) * x2) + x3))] H := hP
          have hD : va_D A [oX10 a_t p_t (upd o_t 34 (((10 : Int32) * x2) + x3))] := hD
          refine lv_iinc (v := (x1 + (1 : Int32))) (lv' := [(1, .int (x1 + (1 : Int32))), (0, .ref a_t), (2, .int x2), (3, .int x3)]) hx hb dX10_seekRests_49 hl (k := 1) rfl rfl (by decide) rfl (fun ls hl => ?_)
          refine lv_iinc (v := (x3 + (1 : Int32))) (lv' := [(3, .int (x3 + (1 : Int32))), (1, .int (x1 + (1 : Int32))), (0, .ref a_t), (2, .int x2)]) hx hb dX10_seekRests_52 hl (k := 3) rfl rfl (by decide) rfl (fun ls hl => ?_)
          refine lv_goto (tgt := 18) hx hb dX10_seekRests_55 (by decide) ?_
          exact ih (x1 + (1 : Int32)) (x3 + (1 : Int32)) (upd o_t 34 (((10 : Int32) * x2) + x3)) hF _ _ _ (hP.sub [0] rfl) (hD.sub [0] rfl rfl) hS (lv_sub hl [2, 1, 3, 0] rfl)
      · have hF := it_p c_5 hF
        refine lv_goto (tgt := 52) hx hb dX10_seekRests_32 (by decide) ?_
        refine lv_iinc (v := (x3 + (1 : Int32))) (lv' := [(3, .int (x3 + (1 : Int32))), (0, .ref a_t), (1, .int x1), (2, .int x2)]) hx hb dX10_seekRests_52 hl (k := 3) rfl rfl (by decide) rfl (fun ls hl => ?_)
        refine lv_goto (tgt := 18) hx hb dX10_seekRests_55 (by decide) ?_
        exact ih x1 (x3 + (1 : Int32)) o_t hF _ _ _ (hP.sub [0] rfl) (hD.sub [0] rfl rfl) hS (lv_sub hl [1, 2, 3, 0] rfl)
set_option maxHeartbeats 4000000 in
set_option maxRecDepth 100000 in
theorem wX10_seekRests_L10 {p : Program} {l : Launch} {e : Env} {s : State} {m : MethodId} {args : Array Value} {below : List Frame} {meth : Method} {c : Code} {g : GG} {A : Nat → Prop} (C0 : Cx p s m args meth c cX10_seekRests 4 (some .int) RX10 wsX10_seekRests g A) (a_t : Nat) (p_t : Nat → Nat) (n : Nat)  (r : Int32) (o_t' : Nat → Int32) (K : Int32 → (Nat → Int32) → Option (Int32 × (Nat → Int32))) (hKx : ∀ (x1 : Int32) (o_t : Nat → Int32) (H : Heap) (locs : List Loc) (ls : Array Slot), K x1 o_t = some (r, o_t') → va_P g.1 vwCl [oX10 a_t p_t o_t] H → va_D A [oX10 a_t p_t o_t] → va_S A s.heap H locs → lv_has ls 4 [(1, .int x1)] → W p l e ({ frames := 2, cells := 0, slots := 0, locals := 44 } : Room) s m args below meth c H locs 0 0 (MQ below (EndI g r [oX10 a_t p_t o_t'] A) args s 0 0 A) (F0 m 64 ls [])) : ∀ (k : Nat) (x1 : Int32) (x2 : Int32) (o_t : Nat → Int32), fX10_seekRests_L10 n K k x1 x2 o_t = some (r, o_t') → ∀ (H : Heap) (locs : List Loc) (ls : Array Slot), va_P g.1 vwCl [oX10 a_t p_t o_t] H → va_D A [oX10 a_t p_t o_t] → va_S A s.heap H locs → lv_has ls 4 [(0, .ref a_t), (1, .int x1), (2, .int x2)] → W p l e ({ frames := 2, cells := 0, slots := 0, locals := 44 } : Room) s m args below meth c H locs 0 0 (MQ below (EndI g r [oX10 a_t p_t o_t'] A) args s 0 0 A) (F0 m 10 ls []) := by
  obtain ⟨hx, hb, hml, hown, hts, hr, hlk, hK, hA, hSW⟩ := id C0
  intro k
  induction k with
  | zero =>
    intro x1 x2 o_t hF
    exact absurd hF (by simp [fX10_seekRests_L10])
  | succ k ih =>
    intro x1 x2 o_t hF H locs ls hP hD hS hl
    rw [fX10_seekRests_L10] at hF
    refine lv_iload_n hx hb dX10_seekRests_10 rfl (lv_at hl 2 rfl) ?_
    refine lv_bipush (v := (6 : Int32)) hx hb dX10_seekRests_11 (by decide) ?_
    refine lv_icmp_gt (tgt := 64) hx hb dX10_seekRests_13 (by decide) (fun c_1 => ?_) (fun c_1 => ?_)
    · have hF := it_p c_1 hF
      exact hKx x1 o_t _ _ _ hF (hP.sub [0] rfl) (hD.sub [0] rfl rfl) hS (lv_sub hl [1] rfl)
    · have hF := it_n c_1 hF
      refine lv_iconst (v := (0 : Int32)) hx hb dX10_seekRests_16 (by decide) ?_
      refine lv_istore_n (lv' := [(3, .int (0 : Int32)), (0, .ref a_t), (1, .int x1), (2, .int x2)]) hx hb dX10_seekRests_17 rfl hl (by decide) rfl (fun ls hl => ?_)
      refine wX10_seekRests_L18 C0 a_t p_t n x2 r o_t' _ ?_ n x1 (0 : Int32) o_t hF _ _ _ (hP.sub [0] rfl) (hD.sub [0] rfl rfl) hS (lv_sub hl [1, 2, 3, 0] rfl)
      · intro x1_x18 o_t_x18 H locs ls hF hP hD hS hl
        refine lv_iinc (v := (x2 + (1 : Int32))) (lv' := [(2, .int (x2 + (1 : Int32))), (0, .ref a_t), (1, .int x1_x18)]) hx hb dX10_seekRests_58 hl (k := 2) rfl rfl (by decide) rfl (fun ls hl => ?_)
        refine lv_goto (tgt := 10) hx hb dX10_seekRests_61 (by decide) ?_
        exact ih x1_x18 (x2 + (1 : Int32)) o_t_x18 hF _ _ _ (hP.sub [0] rfl) (hD.sub [0] rfl rfl) hS (lv_sub hl [1, 2, 0] rfl)
set_option maxHeartbeats 4000000 in
set_option maxRecDepth 100000 in
theorem mX10_seekRests (l : Launch) (g : GG) (a_t : Nat) (p_t : Nat → Nat) (n : Nat) (o_t : Nat → Int32) (r : Int32) (o_t' : Nat → Int32) (hF : fX10_seekRests n o_t = some (r, o_t')) : MI l g yX10_seekRests wsX10_seekRests ({ frames := 2, cells := 0, slots := 0, locals := 44 } : Room) [.ref a_t] [oX10 a_t p_t o_t] r [oX10 a_t p_t o_t'] := by
  refine MI.of (cc := cX10_seekRests) (maxL := 4) (rt := .int) (own := RX10) rfl rfl (by decide) (Nat.le_of_ble_eq_true rfl) ?_
  intro p e s m args below meth c A C0 hP hD hS ls hl
  obtain ⟨hx, hb, hml, hown, hts, hr, hlk, hK, hA, hSW⟩ := id C0
  have hl : lv_has ls 4 [(0, .ref a_t)] := hl
  rw [fX10_seekRests] at hF
  refine lv_iconst (v := (0 : Int32)) hx hb dX10_seekRests_0 (by decide) ?_
  refine lv_istore_n (lv' := [(1, .int (0 : Int32)), (0, .ref a_t)]) hx hb dX10_seekRests_1 rfl hl (by decide) rfl (fun ls hl => ?_)
  refine lv_aload_n hx hb dX10_seekRests_2 rfl (lv_at hl 1 rfl) ?_
  refine lv_bipush (v := (-2 : Int32)) hx hb dX10_seekRests_3 (by decide) ?_
  refine va_put (D := g.1) (ci := 10) (v := .int (-2 : Int32)) (ty := .int) (C := RX10) (T := TX10) (N := 35) hx hb hts iX10_seekRests_X10 tyX10 tyX10_ok nmX10 hown hK.1 hP hD hS 0 rfl rfl 34 (by decide) (hts _ kX10_seekRests_371) (fun _ h9 => h9) rfl (by decide +kernel) rfl rfl (Nat.le_of_ble_eq_true rfl) dX10_seekRests_5 (fun H locs hP hD hS => ?_)
  have hP : va_P g.1 vwCl [oX10 a_t p_t (upd o_t 34 (-2 : Int32))] H := hP
  have hD : va_D A [oX10 a_t p_t (upd o_t 34 (-2 : Int32))] := hD
  refine lv_iconst (v := (0 : Int32)) hx hb dX10_seekRests_8 (by decide) ?_
  refine lv_istore_n (lv' := [(2, .int (0 : Int32)), (1, .int (0 : Int32)), (0, .ref a_t)]) hx hb dX10_seekRests_9 rfl hl (by decide) rfl (fun ls hl => ?_)
  refine wX10_seekRests_L10 C0 a_t p_t n r o_t' _ ?_ n (0 : Int32) (0 : Int32) (upd o_t 34 (-2 : Int32)) hF _ _ _ (hP.sub [0] rfl) (hD.sub [0] rfl rfl) hS (lv_sub hl [2, 1, 0] rfl)
  · intro x1_x10 o_t_x10 H locs ls hF hP hD hS hl
    refine lv_iload_n hx hb dX10_seekRests_64 rfl (lv_at hl 0 rfl) ?_
    cases hF
    exact ret_i C0 hP hD hS [0] rfl rfl rfl dX10_seekRests_65 rfl

theorem dAX10_rests : ∀ q ∈ ([(0, (.aload_n 0, 1)), (1, (.invokevirtual 159, 3)), (4, (.aload_n 0, 1)), (5, (.getfield 176, 3)), (8, (.ifCond .eq 10, 3)), (11, (.aload_n 0, 1)), (12, (.invokevirtual 377, 3)), (15, (.goto 8, 3)), (18, (.aload_n 0, 1)), (19, (.iconst 1, 1)), (20, (.invokevirtual 162, 3)), (23, (.ireturn, 1))] : List (Nat × (Instr × Nat))), decode cX10_rests q.1 = .ok q.2 := by decide +kernel
theorem dX10_rests_0 : decode cX10_rests 0 = .ok (.aload_n 0, 1) := dAX10_rests (0, (.aload_n 0, 1)) (List.mem_of_getElem? (i := 0) rfl)
theorem dX10_rests_1 : decode cX10_rests 1 = .ok (.invokevirtual 159, 3) := dAX10_rests (1, (.invokevirtual 159, 3)) (List.mem_of_getElem? (i := 1) rfl)
theorem dX10_rests_4 : decode cX10_rests 4 = .ok (.aload_n 0, 1) := dAX10_rests (4, (.aload_n 0, 1)) (List.mem_of_getElem? (i := 2) rfl)
theorem dX10_rests_5 : decode cX10_rests 5 = .ok (.getfield 176, 3) := dAX10_rests (5, (.getfield 176, 3)) (List.mem_of_getElem? (i := 3) rfl)
theorem dX10_rests_8 : decode cX10_rests 8 = .ok (.ifCond .eq 10, 3) := dAX10_rests (8, (.ifCond .eq 10, 3)) (List.mem_of_getElem? (i := 4) rfl)
theorem dX10_rests_11 : decode cX10_rests 11 = .ok (.aload_n 0, 1) := dAX10_rests (11, (.aload_n 0, 1)) (List.mem_of_getElem? (i := 5) rfl)
theorem dX10_rests_12 : decode cX10_rests 12 = .ok (.invokevirtual 377, 3) := dAX10_rests (12, (.invokevirtual 377, 3)) (List.mem_of_getElem? (i := 6) rfl)
theorem dX10_rests_15 : decode cX10_rests 15 = .ok (.goto 8, 3) := dAX10_rests (15, (.goto 8, 3)) (List.mem_of_getElem? (i := 7) rfl)
theorem dX10_rests_18 : decode cX10_rests 18 = .ok (.aload_n 0, 1) := dAX10_rests (18, (.aload_n 0, 1)) (List.mem_of_getElem? (i := 8) rfl)
theorem dX10_rests_19 : decode cX10_rests 19 = .ok (.iconst 1, 1) := dAX10_rests (19, (.iconst 1, 1)) (List.mem_of_getElem? (i := 9) rfl)
theorem dX10_rests_20 : decode cX10_rests 20 = .ok (.invokevirtual 162, 3) := dAX10_rests (20, (.invokevirtual 162, 3)) (List.mem_of_getElem? (i := 10) rfl)
theorem dX10_rests_23 : decode cX10_rests 23 = .ok (.ireturn, 1) := dAX10_rests (23, (.ireturn, 1)) (List.mem_of_getElem? (i := 11) rfl)
set_option maxRecDepth 20000 in
theorem ggX10_rests_X10_good : GoodIn wsX10_rests wsX10_good := goodIn_r _ [6, 7, 8, 24, 25, 26, 27, 28, 29, 30, 31, 32, 33, 34, 35, 36, 37, 38, 39, 40, 41, 42, 43, 44, 45, 46, 47, 48, 49, 50, 51, 52, 53, 54, 55, 56, 57, 58] rfl (by decide +kernel)
set_option maxRecDepth 20000 in
theorem gX10_rests_X10_good : GoodIn wsX10_rests (wsV RX10 159 RX10 yX10_good wsX10_good) := goodIn_app (goodIn_of _ (by decide +kernel)) ggX10_rests_X10_good
set_option maxRecDepth 20000 in
theorem ggX10_rests_X10_seekRests : GoodIn wsX10_rests wsX10_seekRests := goodIn_r _ [12, 13, 14, 15, 5, 16, 17, 18, 19, 24, 25, 26, 27, 28, 29, 30, 31, 32, 33, 34, 35, 36, 37, 38, 39, 40, 41, 42, 43, 44, 45, 46, 47, 48, 49, 50, 51, 52, 53, 54, 55, 56, 57, 58] rfl (by decide +kernel)
set_option maxRecDepth 20000 in
theorem gX10_rests_X10_seekRests : GoodIn wsX10_rests (wsV RX10 377 RX10 yX10_seekRests wsX10_seekRests) := goodIn_app (goodIn_of _ (by decide +kernel)) ggX10_rests_X10_seekRests
set_option maxRecDepth 20000 in
theorem ggX10_rests_X10_no : GoodIn wsX10_rests wsX10_no := goodIn_r _ [23, 8, 24, 25, 26, 27, 28, 29, 30, 31, 32, 33, 34, 35, 36, 37, 38, 39, 40, 41, 42, 43, 44, 45, 46, 47, 48, 49, 50, 51, 52, 53, 54, 55, 56, 57, 58] rfl (by decide +kernel)
set_option maxRecDepth 20000 in
theorem gX10_rests_X10_no : GoodIn wsX10_rests (wsV RX10 162 RX10 yX10_no wsX10_no) := goodIn_app (goodIn_of _ (by decide +kernel)) ggX10_rests_X10_no
theorem kX10_rests_176 : Cond.fieldLink RX10 176 "EveningVowModel" "hasEvening" "Z" ∈ wsX10_rests := List.mem_of_getElem? (i := 1) rfl
theorem iX10_rests_X10 : ∀ w ∈ u_ws RX10 TX10 35, w ∈ wsX10_rests := fun w h => (List.mem_cons_of_mem _ (List.mem_append_right _ h))
set_option maxHeartbeats 4000000 in
set_option maxRecDepth 100000 in
theorem mX10_rests (l : Launch) (g : GG) (a_t : Nat) (p_t : Nat → Nat) (n : Nat) (o_t : Nat → Int32) (r : Int32) (o_t' : Nat → Int32) (hF : fX10_rests n o_t = some (r, o_t')) : MI l g yX10_rests wsX10_rests ({ frames := 3, cells := 0, slots := 0, locals := 67 } : Room) [.ref a_t] [oX10 a_t p_t o_t] r [oX10 a_t p_t o_t'] := by
  refine MI.of (cc := cX10_rests) (maxL := 1) (rt := .int) (own := RX10) rfl rfl (by decide) (Nat.le_of_ble_eq_true rfl) ?_
  intro p e s m args below meth c A C0 hP hD hS ls hl
  obtain ⟨hx, hb, hml, hown, hts, hr, hlk, hK, hA, hSW⟩ := id C0
  have hl : lv_has ls 1 [(0, .ref a_t)] := hl
  rw [fX10_rests] at hF
  refine lv_aload_n hx hb dX10_rests_0 rfl (lv_at hl 0 rfl) ?_
  obtain ⟨u_1, hu_2, hF⟩ := ob1_some hF
  refine call_v (wr := []) (As := []) (rest := []) (ci := 10) (q0 := 0) C0 (mX10_good l g a_t p_t n o_t u_1 hu_2) (cwV 0 hts gX10_rests_X10_good rfl rfl rfl (by decide +kernel) ⟨Nat.le_of_ble_eq_true rfl, Nat.le_of_ble_eq_true rfl⟩) hP hD hS [0] [] rfl rfl rfl rfl rfl (by decide) rfl rfl hl.1 rfl rfl (Nat.le_of_ble_eq_true rfl) ⟨Nat.zero_le _, Nat.zero_le _⟩ dX10_rests_1 ?_
  intro H locs hP hD hS
  refine lv_aload_n hx hb dX10_rests_4 rfl (lv_at hl 0 rfl) ?_
  refine va_get (D := g.1) (ci := 10) (v := .int (u_1 14)) (C := RX10) (T := TX10) (N := 35) hx hb hts iX10_rests_X10 hown hK.1 hP 0 rfl rfl 14 (by decide) (hts _ kX10_rests_176) (fun _ h9 => h9) rfl dX10_rests_5 ?_
  refine lv_if_eq (tgt := 18) hx hb dX10_rests_8 (by decide) (fun c_3 => ?_) (fun c_3 => ?_)
  · have hF := it_p c_3 hF
    refine lv_aload_n hx hb dX10_rests_18 rfl (lv_at hl 0 rfl) ?_
    refine lv_iconst (v := (1 : Int32)) hx hb dX10_rests_19 (by decide) ?_
    obtain ⟨u_4, u_5, hu_6, hF⟩ := ob2_some hF
    refine call_i (wr := []) (As := [.int (1 : Int32)]) (rest := []) (ci := 10) (q0 := 0) C0 (mX10_no l g a_t p_t n (1 : Int32) u_1 u_4 u_5 hu_6) (cwV 1 hts gX10_rests_X10_no rfl rfl rfl (by decide +kernel) ⟨Nat.le_of_ble_eq_true rfl, Nat.le_of_ble_eq_true rfl⟩) hP hD hS [0] [] rfl rfl rfl rfl rfl (by decide) rfl rfl hl.1 rfl rfl (Nat.le_of_ble_eq_true rfl) ⟨Nat.zero_le _, Nat.zero_le _⟩ dX10_rests_20 ?_
    intro H locs hP hD hS
    cases hF
    exact ret_i C0 hP hD hS [0] rfl rfl rfl dX10_rests_23 rfl
  · have hF := it_n c_3 hF
    refine lv_aload_n hx hb dX10_rests_11 rfl (lv_at hl 0 rfl) ?_
    obtain ⟨u_7, u_8, hu_9, hF⟩ := ob2_some hF
    refine call_i (wr := []) (As := []) (rest := []) (ci := 10) (q0 := 0) C0 (mX10_seekRests l g a_t p_t n u_1 u_7 u_8 hu_9) (cwV 0 hts gX10_rests_X10_seekRests rfl rfl rfl (by decide +kernel) ⟨Nat.le_of_ble_eq_true rfl, Nat.le_of_ble_eq_true rfl⟩) hP hD hS [0] [] rfl rfl rfl rfl rfl (by decide) rfl rfl hl.1 rfl rfl (Nat.le_of_ble_eq_true rfl) ⟨Nat.zero_le _, Nat.zero_le _⟩ dX10_rests_12 ?_
    intro H locs hP hD hS
    refine lv_goto (tgt := 23) hx hb dX10_rests_15 (by decide) ?_
    cases hF
    exact ret_i C0 hP hD hS [0] rfl rfl rfl dX10_rests_23 rfl

theorem dAX10_rest : ∀ q ∈ ([(0, (.aload_n 0, 1)), (1, (.invokevirtual 159, 3)), (4, (.aload_n 0, 1)), (5, (.getfield 176, 3)), (8, (.ifCond .ne 9, 3)), (11, (.aload_n 0, 1)), (12, (.iconst 1, 1)), (13, (.invokevirtual 162, 3)), (16, (.ireturn, 1)), (17, (.aload_n 0, 1)), (18, (.invokevirtual 377, 3)), (21, (.pop, 1)), (22, (.aload_n 0, 1)), (23, (.getfield 371, 3)), (26, (.ireturn, 1))] : List (Nat × (Instr × Nat))), decode cX10_rest q.1 = .ok q.2 := by decide +kernel
theorem dX10_rest_0 : decode cX10_rest 0 = .ok (.aload_n 0, 1) := dAX10_rest (0, (.aload_n 0, 1)) (List.mem_of_getElem? (i := 0) rfl)
theorem dX10_rest_1 : decode cX10_rest 1 = .ok (.invokevirtual 159, 3) := dAX10_rest (1, (.invokevirtual 159, 3)) (List.mem_of_getElem? (i := 1) rfl)
theorem dX10_rest_4 : decode cX10_rest 4 = .ok (.aload_n 0, 1) := dAX10_rest (4, (.aload_n 0, 1)) (List.mem_of_getElem? (i := 2) rfl)
theorem dX10_rest_5 : decode cX10_rest 5 = .ok (.getfield 176, 3) := dAX10_rest (5, (.getfield 176, 3)) (List.mem_of_getElem? (i := 3) rfl)
theorem dX10_rest_8 : decode cX10_rest 8 = .ok (.ifCond .ne 9, 3) := dAX10_rest (8, (.ifCond .ne 9, 3)) (List.mem_of_getElem? (i := 4) rfl)
theorem dX10_rest_11 : decode cX10_rest 11 = .ok (.aload_n 0, 1) := dAX10_rest (11, (.aload_n 0, 1)) (List.mem_of_getElem? (i := 5) rfl)
theorem dX10_rest_12 : decode cX10_rest 12 = .ok (.iconst 1, 1) := dAX10_rest (12, (.iconst 1, 1)) (List.mem_of_getElem? (i := 6) rfl)
theorem dX10_rest_13 : decode cX10_rest 13 = .ok (.invokevirtual 162, 3) := dAX10_rest (13, (.invokevirtual 162, 3)) (List.mem_of_getElem? (i := 7) rfl)
theorem dX10_rest_16 : decode cX10_rest 16 = .ok (.ireturn, 1) := dAX10_rest (16, (.ireturn, 1)) (List.mem_of_getElem? (i := 8) rfl)
theorem dX10_rest_17 : decode cX10_rest 17 = .ok (.aload_n 0, 1) := dAX10_rest (17, (.aload_n 0, 1)) (List.mem_of_getElem? (i := 9) rfl)
theorem dX10_rest_18 : decode cX10_rest 18 = .ok (.invokevirtual 377, 3) := dAX10_rest (18, (.invokevirtual 377, 3)) (List.mem_of_getElem? (i := 10) rfl)
theorem dX10_rest_21 : decode cX10_rest 21 = .ok (.pop, 1) := dAX10_rest (21, (.pop, 1)) (List.mem_of_getElem? (i := 11) rfl)
theorem dX10_rest_22 : decode cX10_rest 22 = .ok (.aload_n 0, 1) := dAX10_rest (22, (.aload_n 0, 1)) (List.mem_of_getElem? (i := 12) rfl)
theorem dX10_rest_23 : decode cX10_rest 23 = .ok (.getfield 371, 3) := dAX10_rest (23, (.getfield 371, 3)) (List.mem_of_getElem? (i := 13) rfl)
theorem dX10_rest_26 : decode cX10_rest 26 = .ok (.ireturn, 1) := dAX10_rest (26, (.ireturn, 1)) (List.mem_of_getElem? (i := 14) rfl)
set_option maxRecDepth 20000 in
theorem ggX10_rest_X10_good : GoodIn wsX10_rest wsX10_good := goodIn_r _ [7, 8, 9, 24, 25, 26, 27, 28, 29, 30, 31, 32, 33, 34, 35, 36, 37, 38, 39, 40, 41, 42, 43, 44, 45, 46, 47, 48, 49, 50, 51, 52, 53, 54, 55, 56, 57, 58] rfl (by decide +kernel)
set_option maxRecDepth 20000 in
theorem gX10_rest_X10_good : GoodIn wsX10_rest (wsV RX10 159 RX10 yX10_good wsX10_good) := goodIn_app (goodIn_of _ (by decide +kernel)) ggX10_rest_X10_good
set_option maxRecDepth 20000 in
theorem ggX10_rest_X10_no : GoodIn wsX10_rest wsX10_no := goodIn_r _ [13, 9, 24, 25, 26, 27, 28, 29, 30, 31, 32, 33, 34, 35, 36, 37, 38, 39, 40, 41, 42, 43, 44, 45, 46, 47, 48, 49, 50, 51, 52, 53, 54, 55, 56, 57, 58] rfl (by decide +kernel)
set_option maxRecDepth 20000 in
theorem gX10_rest_X10_no : GoodIn wsX10_rest (wsV RX10 162 RX10 yX10_no wsX10_no) := goodIn_app (goodIn_of _ (by decide +kernel)) ggX10_rest_X10_no
set_option maxRecDepth 20000 in
theorem ggX10_rest_X10_seekRests : GoodIn wsX10_rest wsX10_seekRests := goodIn_r _ [17, 2, 18, 19, 6, 20, 21, 22, 23, 24, 25, 26, 27, 28, 29, 30, 31, 32, 33, 34, 35, 36, 37, 38, 39, 40, 41, 42, 43, 44, 45, 46, 47, 48, 49, 50, 51, 52, 53, 54, 55, 56, 57, 58] rfl (by decide +kernel)
set_option maxRecDepth 20000 in
theorem gX10_rest_X10_seekRests : GoodIn wsX10_rest (wsV RX10 377 RX10 yX10_seekRests wsX10_seekRests) := goodIn_app (goodIn_of _ (by decide +kernel)) ggX10_rest_X10_seekRests
theorem kX10_rest_176 : Cond.fieldLink RX10 176 "EveningVowModel" "hasEvening" "Z" ∈ wsX10_rest := List.mem_of_getElem? (i := 1) rfl
theorem iX10_rest_X10 : ∀ w ∈ u_ws RX10 TX10 35, w ∈ wsX10_rest := fun w h => (List.mem_cons_of_mem _ (List.mem_append_right _ h))
theorem kX10_rest_371 : Cond.fieldLink RX10 371 "EveningVowModel" "firstRest" "I" ∈ wsX10_rest := List.mem_of_getElem? (i := 2) rfl
set_option maxHeartbeats 4000000 in
set_option maxRecDepth 100000 in
theorem mX10_rest (l : Launch) (g : GG) (a_t : Nat) (p_t : Nat → Nat) (n : Nat) (o_t : Nat → Int32) (r : Int32) (o_t' : Nat → Int32) (hF : fX10_rest n o_t = some (r, o_t')) : MI l g yX10_rest wsX10_rest ({ frames := 3, cells := 0, slots := 0, locals := 67 } : Room) [.ref a_t] [oX10 a_t p_t o_t] r [oX10 a_t p_t o_t'] := by
  refine MI.of (cc := cX10_rest) (maxL := 1) (rt := .int) (own := RX10) rfl rfl (by decide) (Nat.le_of_ble_eq_true rfl) ?_
  intro p e s m args below meth c A C0 hP hD hS ls hl
  obtain ⟨hx, hb, hml, hown, hts, hr, hlk, hK, hA, hSW⟩ := id C0
  have hl : lv_has ls 1 [(0, .ref a_t)] := hl
  rw [fX10_rest] at hF
  refine lv_aload_n hx hb dX10_rest_0 rfl (lv_at hl 0 rfl) ?_
  obtain ⟨u_1, hu_2, hF⟩ := ob1_some hF
  refine call_v (wr := []) (As := []) (rest := []) (ci := 10) (q0 := 0) C0 (mX10_good l g a_t p_t n o_t u_1 hu_2) (cwV 0 hts gX10_rest_X10_good rfl rfl rfl (by decide +kernel) ⟨Nat.le_of_ble_eq_true rfl, Nat.le_of_ble_eq_true rfl⟩) hP hD hS [0] [] rfl rfl rfl rfl rfl (by decide) rfl rfl hl.1 rfl rfl (Nat.le_of_ble_eq_true rfl) ⟨Nat.zero_le _, Nat.zero_le _⟩ dX10_rest_1 ?_
  intro H locs hP hD hS
  refine lv_aload_n hx hb dX10_rest_4 rfl (lv_at hl 0 rfl) ?_
  refine va_get (D := g.1) (ci := 10) (v := .int (u_1 14)) (C := RX10) (T := TX10) (N := 35) hx hb hts iX10_rest_X10 hown hK.1 hP 0 rfl rfl 14 (by decide) (hts _ kX10_rest_176) (fun _ h9 => h9) rfl dX10_rest_5 ?_
  refine lv_if_ne (tgt := 17) hx hb dX10_rest_8 (by decide) (fun c_3 => ?_) (fun c_3 => ?_)
  · have hF := it_n c_3 hF
    refine lv_aload_n hx hb dX10_rest_17 rfl (lv_at hl 0 rfl) ?_
    obtain ⟨u_4, u_5, hu_6, hF⟩ := ob2_some hF
    refine call_i (wr := []) (As := []) (rest := []) (ci := 10) (q0 := 0) C0 (mX10_seekRests l g a_t p_t n u_1 u_4 u_5 hu_6) (cwV 0 hts gX10_rest_X10_seekRests rfl rfl rfl (by decide +kernel) ⟨Nat.le_of_ble_eq_true rfl, Nat.le_of_ble_eq_true rfl⟩) hP hD hS [0] [] rfl rfl rfl rfl rfl (by decide) rfl rfl hl.1 rfl rfl (Nat.le_of_ble_eq_true rfl) ⟨Nat.zero_le _, Nat.zero_le _⟩ dX10_rest_18 ?_
    intro H locs hP hD hS
    refine lv_pop hx hb dX10_rest_21 rfl ?_
    refine lv_aload_n hx hb dX10_rest_22 rfl (lv_at hl 0 rfl) ?_
    refine va_get (D := g.1) (ci := 10) (v := .int (u_5 34)) (C := RX10) (T := TX10) (N := 35) hx hb hts iX10_rest_X10 hown hK.1 hP 0 rfl rfl 34 (by decide) (hts _ kX10_rest_371) (fun _ h9 => h9) rfl dX10_rest_23 ?_
    cases hF
    exact ret_i C0 hP hD hS [0] rfl rfl rfl dX10_rest_26 rfl
  · have hF := it_p c_3 hF
    refine lv_aload_n hx hb dX10_rest_11 rfl (lv_at hl 0 rfl) ?_
    refine lv_iconst (v := (1 : Int32)) hx hb dX10_rest_12 (by decide) ?_
    obtain ⟨u_7, u_8, hu_9, hF⟩ := ob2_some hF
    refine call_i (wr := []) (As := [.int (1 : Int32)]) (rest := []) (ci := 10) (q0 := 0) C0 (mX10_no l g a_t p_t n (1 : Int32) u_1 u_7 u_8 hu_9) (cwV 1 hts gX10_rest_X10_no rfl rfl rfl (by decide +kernel) ⟨Nat.le_of_ble_eq_true rfl, Nat.le_of_ble_eq_true rfl⟩) hP hD hS [0] [] rfl rfl rfl rfl rfl (by decide) rfl rfl hl.1 rfl rfl (Nat.le_of_ble_eq_true rfl) ⟨Nat.zero_le _, Nat.zero_le _⟩ dX10_rest_13 ?_
    intro H locs hP hD hS
    cases hF
    exact ret_i C0 hP hD hS [0] rfl rfl rfl dX10_rest_16 rfl

theorem dAX10_drawsWhy : ∀ q ∈ ([(0, (.iload_n 1, 1)), (1, (.ifCond .ne 7, 3)), (4, (.iconst 1, 1)), (5, (.goto 29, 3)), (8, (.iload_n 2, 1)), (9, (.iconst 0, 1)), (10, (.ldc_w 380, 3)), (13, (.invokestatic 144, 3)), (16, (.ifCond .eq 17, 3)), (19, (.iload_n 3, 1)), (20, (.iconst 1, 1)), (21, (.bipush 90, 2)), (23, (.invokestatic 144, 3)), (26, (.ifCond .eq 7, 3)), (29, (.iconst 0, 1)), (30, (.goto 4, 3)), (33, (.iconst 2, 1)), (34, (.ireturn, 1))] : List (Nat × (Instr × Nat))), decode cX10_drawsWhy q.1 = .ok q.2 := by decide +kernel
theorem dX10_drawsWhy_0 : decode cX10_drawsWhy 0 = .ok (.iload_n 1, 1) := dAX10_drawsWhy (0, (.iload_n 1, 1)) (List.mem_of_getElem? (i := 0) rfl)
theorem dX10_drawsWhy_1 : decode cX10_drawsWhy 1 = .ok (.ifCond .ne 7, 3) := dAX10_drawsWhy (1, (.ifCond .ne 7, 3)) (List.mem_of_getElem? (i := 1) rfl)
theorem dX10_drawsWhy_4 : decode cX10_drawsWhy 4 = .ok (.iconst 1, 1) := dAX10_drawsWhy (4, (.iconst 1, 1)) (List.mem_of_getElem? (i := 2) rfl)
theorem dX10_drawsWhy_5 : decode cX10_drawsWhy 5 = .ok (.goto 29, 3) := dAX10_drawsWhy (5, (.goto 29, 3)) (List.mem_of_getElem? (i := 3) rfl)
theorem dX10_drawsWhy_8 : decode cX10_drawsWhy 8 = .ok (.iload_n 2, 1) := dAX10_drawsWhy (8, (.iload_n 2, 1)) (List.mem_of_getElem? (i := 4) rfl)
theorem dX10_drawsWhy_9 : decode cX10_drawsWhy 9 = .ok (.iconst 0, 1) := dAX10_drawsWhy (9, (.iconst 0, 1)) (List.mem_of_getElem? (i := 5) rfl)
theorem dX10_drawsWhy_10 : decode cX10_drawsWhy 10 = .ok (.ldc_w 380, 3) := dAX10_drawsWhy (10, (.ldc_w 380, 3)) (List.mem_of_getElem? (i := 6) rfl)
theorem dX10_drawsWhy_13 : decode cX10_drawsWhy 13 = .ok (.invokestatic 144, 3) := dAX10_drawsWhy (13, (.invokestatic 144, 3)) (List.mem_of_getElem? (i := 7) rfl)
theorem dX10_drawsWhy_16 : decode cX10_drawsWhy 16 = .ok (.ifCond .eq 17, 3) := dAX10_drawsWhy (16, (.ifCond .eq 17, 3)) (List.mem_of_getElem? (i := 8) rfl)
theorem dX10_drawsWhy_19 : decode cX10_drawsWhy 19 = .ok (.iload_n 3, 1) := dAX10_drawsWhy (19, (.iload_n 3, 1)) (List.mem_of_getElem? (i := 9) rfl)
theorem dX10_drawsWhy_20 : decode cX10_drawsWhy 20 = .ok (.iconst 1, 1) := dAX10_drawsWhy (20, (.iconst 1, 1)) (List.mem_of_getElem? (i := 10) rfl)
theorem dX10_drawsWhy_21 : decode cX10_drawsWhy 21 = .ok (.bipush 90, 2) := dAX10_drawsWhy (21, (.bipush 90, 2)) (List.mem_of_getElem? (i := 11) rfl)
theorem dX10_drawsWhy_23 : decode cX10_drawsWhy 23 = .ok (.invokestatic 144, 3) := dAX10_drawsWhy (23, (.invokestatic 144, 3)) (List.mem_of_getElem? (i := 12) rfl)
theorem dX10_drawsWhy_26 : decode cX10_drawsWhy 26 = .ok (.ifCond .eq 7, 3) := dAX10_drawsWhy (26, (.ifCond .eq 7, 3)) (List.mem_of_getElem? (i := 13) rfl)
theorem dX10_drawsWhy_29 : decode cX10_drawsWhy 29 = .ok (.iconst 0, 1) := dAX10_drawsWhy (29, (.iconst 0, 1)) (List.mem_of_getElem? (i := 14) rfl)
theorem dX10_drawsWhy_30 : decode cX10_drawsWhy 30 = .ok (.goto 4, 3) := dAX10_drawsWhy (30, (.goto 4, 3)) (List.mem_of_getElem? (i := 15) rfl)
theorem dX10_drawsWhy_33 : decode cX10_drawsWhy 33 = .ok (.iconst 2, 1) := dAX10_drawsWhy (33, (.iconst 2, 1)) (List.mem_of_getElem? (i := 16) rfl)
theorem dX10_drawsWhy_34 : decode cX10_drawsWhy 34 = .ok (.ireturn, 1) := dAX10_drawsWhy (34, (.ireturn, 1)) (List.mem_of_getElem? (i := 17) rfl)
set_option maxRecDepth 20000 in
theorem ggX10_drawsWhy_X10_in : GoodIn wsX10_drawsWhy wsX10_in := goodIn_r _ [5] rfl (by decide +kernel)
set_option maxRecDepth 20000 in
theorem gX10_drawsWhy_X10_in : GoodIn wsX10_drawsWhy (va_wsS RX10 144 yX10_in wsX10_in) := goodIn_app (goodIn_of _ (by decide +kernel)) ggX10_drawsWhy_X10_in
theorem kX10_drawsWhy_380 : Cond.constant RX10 380 (65536 : Int32) ∈ wsX10_drawsWhy := by decide +kernel
set_option maxHeartbeats 4000000 in
set_option maxRecDepth 100000 in
theorem mX10_drawsWhy (l : Launch) (g : GG) (a_t : Nat) (p_t : Nat → Nat) (n : Nat) (x1 : Int32) (x2 : Int32) (x3 : Int32) (o_t : Nat → Int32) (r : Int32) (hF : fX10_drawsWhy n x1 x2 x3 o_t = some (r)) : MI l g yX10_drawsWhy wsX10_drawsWhy ({ frames := 1, cells := 0, slots := 0, locals := 22 } : Room) [.ref a_t, .int x1, .int x2, .int x3] [oX10 a_t p_t o_t] r [oX10 a_t p_t o_t] := by
  refine MI.of (cc := cX10_drawsWhy) (maxL := 4) (rt := .int) (own := RX10) rfl rfl (by decide) (Nat.le_of_ble_eq_true rfl) ?_
  intro p e s m args below meth c A C0 hP hD hS ls hl
  obtain ⟨hx, hb, hml, hown, hts, hr, hlk, hK, hA, hSW⟩ := id C0
  have hl : lv_has ls 4 [(0, .ref a_t), (1, .int x1), (2, .int x2), (3, .int x3)] := hl
  rw [fX10_drawsWhy] at hF
  refine lv_iload_n hx hb dX10_drawsWhy_0 rfl (lv_at hl 1 rfl) ?_
  refine lv_if_ne (tgt := 8) hx hb dX10_drawsWhy_1 (by decide) (fun c_1 => ?_) (fun c_1 => ?_)
  · have hF := it_n c_1 hF
    refine lv_iload_n hx hb dX10_drawsWhy_8 rfl (lv_at hl 2 rfl) ?_
    refine lv_iconst (v := (0 : Int32)) hx hb dX10_drawsWhy_9 (by decide) ?_
    refine lv_ldcw (v := (65536 : Int32)) hx hb hown (hts _ kX10_drawsWhy_380) dX10_drawsWhy_10 ?_
    obtain ⟨u_2, hu_3, hF⟩ := ob1_some hF
    refine call_si (wr := [oX10 a_t p_t o_t]) (As := [.int x2, .int (0 : Int32), .int (65536 : Int32)]) (rest := []) C0 (mX10_in l g n x2 (0 : Int32) (65536 : Int32) u_2 hu_3) (va_cwS 3 hts gX10_drawsWhy_X10_in rfl rfl rfl (by decide +kernel) ⟨Nat.le_of_ble_eq_true rfl, Nat.le_of_ble_eq_true rfl⟩) hP hD hS [] [0] rfl rfl rfl rfl rfl (by decide) hl.1 rfl rfl (Nat.le_of_ble_eq_true rfl) ⟨Nat.zero_le _, Nat.zero_le _⟩ dX10_drawsWhy_13 ?_
    intro H locs hP hD hS
    refine lv_if_eq (tgt := 33) hx hb dX10_drawsWhy_16 (by decide) (fun c_4 => ?_) (fun c_4 => ?_)
    · have hF := it_p c_4 hF
      refine lv_iconst (v := (2 : Int32)) hx hb dX10_drawsWhy_33 (by decide) ?_
      cases hF
      exact ret_i C0 hP hD hS [0] rfl rfl rfl dX10_drawsWhy_34 rfl
    · have hF := it_n c_4 hF
      refine lv_iload_n hx hb dX10_drawsWhy_19 rfl (lv_at hl 3 rfl) ?_
      refine lv_iconst (v := (1 : Int32)) hx hb dX10_drawsWhy_20 (by decide) ?_
      refine lv_bipush (v := (90 : Int32)) hx hb dX10_drawsWhy_21 (by decide) ?_
      obtain ⟨u_5, hu_6, hF⟩ := ob1_some hF
      refine call_si (wr := [oX10 a_t p_t o_t]) (As := [.int x3, .int (1 : Int32), .int (90 : Int32)]) (rest := []) C0 (mX10_in l g n x3 (1 : Int32) (90 : Int32) u_5 hu_6) (va_cwS 3 hts gX10_drawsWhy_X10_in rfl rfl rfl (by decide +kernel) ⟨Nat.le_of_ble_eq_true rfl, Nat.le_of_ble_eq_true rfl⟩) hP hD hS [] [0] rfl rfl rfl rfl rfl (by decide) hl.1 rfl rfl (Nat.le_of_ble_eq_true rfl) ⟨Nat.zero_le _, Nat.zero_le _⟩ dX10_drawsWhy_23 ?_
      intro H locs hP hD hS
      refine lv_if_eq (tgt := 33) hx hb dX10_drawsWhy_26 (by decide) (fun c_7 => ?_) (fun c_7 => ?_)
      · have hF := it_p c_7 hF
        refine lv_iconst (v := (2 : Int32)) hx hb dX10_drawsWhy_33 (by decide) ?_
        cases hF
        exact ret_i C0 hP hD hS [0] rfl rfl rfl dX10_drawsWhy_34 rfl
      · have hF := it_n c_7 hF
        refine lv_iconst (v := (0 : Int32)) hx hb dX10_drawsWhy_29 (by decide) ?_
        refine lv_goto (tgt := 34) hx hb dX10_drawsWhy_30 (by decide) ?_
        cases hF
        exact ret_i C0 hP hD hS [0] rfl rfl rfl dX10_drawsWhy_34 rfl
  · have hF := it_p c_1 hF
    refine lv_iconst (v := (1 : Int32)) hx hb dX10_drawsWhy_4 (by decide) ?_
    refine lv_goto (tgt := 34) hx hb dX10_drawsWhy_5 (by decide) ?_
    cases hF
    exact ret_i C0 hP hD hS [0] rfl rfl rfl dX10_drawsWhy_34 rfl

theorem dAX10_endsDrawn : ∀ q ∈ ([(0, (.aload_n 0, 1)), (1, (.getfield 26, 3)), (4, (.iconst 0, 1)), (5, (.aload_n 0, 1)), (6, (.getfield 35, 3)), (9, (.iconst 0, 1)), (10, (.bipush 17, 2)), (12, (.invokestatic 168, 3)), (15, (.aload_n 0, 1)), (16, (.aload_n 0, 1)), (17, (.getfield 35, 3)), (20, (.iconst 1, 1)), (21, (.invokevirtual 296, 3)), (24, (.ireturn, 1))] : List (Nat × (Instr × Nat))), decode cX10_endsDrawn q.1 = .ok q.2 := by decide +kernel
theorem dX10_endsDrawn_0 : decode cX10_endsDrawn 0 = .ok (.aload_n 0, 1) := dAX10_endsDrawn (0, (.aload_n 0, 1)) (List.mem_of_getElem? (i := 0) rfl)
theorem dX10_endsDrawn_1 : decode cX10_endsDrawn 1 = .ok (.getfield 26, 3) := dAX10_endsDrawn (1, (.getfield 26, 3)) (List.mem_of_getElem? (i := 1) rfl)
theorem dX10_endsDrawn_4 : decode cX10_endsDrawn 4 = .ok (.iconst 0, 1) := dAX10_endsDrawn (4, (.iconst 0, 1)) (List.mem_of_getElem? (i := 2) rfl)
theorem dX10_endsDrawn_5 : decode cX10_endsDrawn 5 = .ok (.aload_n 0, 1) := dAX10_endsDrawn (5, (.aload_n 0, 1)) (List.mem_of_getElem? (i := 3) rfl)
theorem dX10_endsDrawn_6 : decode cX10_endsDrawn 6 = .ok (.getfield 35, 3) := dAX10_endsDrawn (6, (.getfield 35, 3)) (List.mem_of_getElem? (i := 4) rfl)
theorem dX10_endsDrawn_9 : decode cX10_endsDrawn 9 = .ok (.iconst 0, 1) := dAX10_endsDrawn (9, (.iconst 0, 1)) (List.mem_of_getElem? (i := 5) rfl)
theorem dX10_endsDrawn_10 : decode cX10_endsDrawn 10 = .ok (.bipush 17, 2) := dAX10_endsDrawn (10, (.bipush 17, 2)) (List.mem_of_getElem? (i := 6) rfl)
theorem dX10_endsDrawn_12 : decode cX10_endsDrawn 12 = .ok (.invokestatic 168, 3) := dAX10_endsDrawn (12, (.invokestatic 168, 3)) (List.mem_of_getElem? (i := 7) rfl)
theorem dX10_endsDrawn_15 : decode cX10_endsDrawn 15 = .ok (.aload_n 0, 1) := dAX10_endsDrawn (15, (.aload_n 0, 1)) (List.mem_of_getElem? (i := 8) rfl)
theorem dX10_endsDrawn_16 : decode cX10_endsDrawn 16 = .ok (.aload_n 0, 1) := dAX10_endsDrawn (16, (.aload_n 0, 1)) (List.mem_of_getElem? (i := 9) rfl)
theorem dX10_endsDrawn_17 : decode cX10_endsDrawn 17 = .ok (.getfield 35, 3) := dAX10_endsDrawn (17, (.getfield 35, 3)) (List.mem_of_getElem? (i := 10) rfl)
theorem dX10_endsDrawn_20 : decode cX10_endsDrawn 20 = .ok (.iconst 1, 1) := dAX10_endsDrawn (20, (.iconst 1, 1)) (List.mem_of_getElem? (i := 11) rfl)
theorem dX10_endsDrawn_21 : decode cX10_endsDrawn 21 = .ok (.invokevirtual 296, 3) := dAX10_endsDrawn (21, (.invokevirtual 296, 3)) (List.mem_of_getElem? (i := 12) rfl)
theorem dX10_endsDrawn_24 : decode cX10_endsDrawn 24 = .ok (.ireturn, 1) := dAX10_endsDrawn (24, (.ireturn, 1)) (List.mem_of_getElem? (i := 13) rfl)
set_option maxRecDepth 20000 in
theorem ggX10_endsDrawn_X10_copy : GoodIn wsX10_endsDrawn wsX10_copy := goodIn_r _ [6] rfl (by decide +kernel)
set_option maxRecDepth 20000 in
theorem gX10_endsDrawn_X10_copy : GoodIn wsX10_endsDrawn (va_wsS RX10 168 yX10_copy wsX10_copy) := goodIn_app (goodIn_of _ (by decide +kernel)) ggX10_endsDrawn_X10_copy
set_option maxRecDepth 20000 in
theorem ggX10_endsDrawn_X10_endsOn : GoodIn wsX10_endsDrawn wsX10_endsOn := goodIn_r _ [10, 11, 12, 13, 14, 5, 15, 16, 17, 18, 19, 20, 21, 22, 23, 24, 25, 26, 27, 28, 29, 30, 31, 32, 33, 34, 35, 36, 37, 38, 39, 40, 41, 42, 43, 44, 45, 46, 47, 48, 49, 50, 51, 52, 53, 54, 55, 56, 57, 58, 59, 60, 61, 62, 63, 64, 65, 66, 67, 68, 69, 70, 71, 72, 73, 74, 75, 76, 77, 78, 79, 80, 81, 82, 83, 84, 85, 86, 87, 88, 89, 90, 91, 92] rfl (by decide +kernel)
set_option maxRecDepth 20000 in
theorem gX10_endsDrawn_X10_endsOn : GoodIn wsX10_endsDrawn (wsV RX10 296 RX10 yX10_endsOn wsX10_endsOn) := goodIn_app (goodIn_of _ (by decide +kernel)) ggX10_endsDrawn_X10_endsOn
theorem kX10_endsDrawn_26 : Cond.fieldLink RX10 26 "EveningVowModel" "st" "[I" ∈ wsX10_endsDrawn := List.mem_of_getElem? (i := 1) rfl
theorem iX10_endsDrawn_X10 : ∀ w ∈ u_ws RX10 TX10 35, w ∈ wsX10_endsDrawn := fun w h => (List.mem_cons_of_mem _ (List.mem_append_right _ h))
theorem kX10_endsDrawn_35 : Cond.fieldLink RX10 35 "EveningVowModel" "trial" "[I" ∈ wsX10_endsDrawn := List.mem_of_getElem? (i := 2) rfl
set_option maxHeartbeats 4000000 in
set_option maxRecDepth 100000 in
theorem mX10_endsDrawn (l : Launch) (g : GG) (a_t : Nat) (p_t : Nat → Nat) (n : Nat) (o_t : Nat → Int32) (f_t_15 : Nat → Int32) (f_t_17 : Nat → Int32) (f_t_25 : Nat → Int32) (r : Int32) (o_t' : Nat → Int32) (f_t_25' : Nat → Int32) (hF : fX10_endsDrawn n o_t f_t_15 f_t_17 f_t_25 = some (r, o_t', f_t_25')) : MI l g yX10_endsDrawn wsX10_endsDrawn ({ frames := 5, cells := 0, slots := 0, locals := 116 } : Room) [.ref a_t] [oX10 a_t p_t o_t, aI g (p_t 15) 266 f_t_15, aI g (p_t 17) 17 f_t_17, aI g (p_t 25) 17 f_t_25] r [oX10 a_t p_t o_t', aI g (p_t 15) 266 f_t_15, aI g (p_t 17) 17 f_t_17, aI g (p_t 25) 17 f_t_25'] := by
  refine MI.of (cc := cX10_endsDrawn) (maxL := 1) (rt := .int) (own := RX10) rfl rfl (by decide) (Nat.le_of_ble_eq_true rfl) ?_
  intro p e s m args below meth c A C0 hP hD hS ls hl
  obtain ⟨hx, hb, hml, hown, hts, hr, hlk, hK, hA, hSW⟩ := id C0
  have hl : lv_has ls 1 [(0, .ref a_t)] := hl
  rw [fX10_endsDrawn] at hF
  refine lv_aload_n hx hb dX10_endsDrawn_0 rfl (lv_at hl 0 rfl) ?_
  refine va_get (D := g.1) (ci := 10) (v := .ref (p_t 17)) (C := RX10) (T := TX10) (N := 35) hx hb hts iX10_endsDrawn_X10 hown hK.1 hP 0 rfl rfl 17 (by decide) (hts _ kX10_endsDrawn_26) (fun _ h9 => h9) rfl dX10_endsDrawn_1 ?_
  refine lv_iconst (v := (0 : Int32)) hx hb dX10_endsDrawn_4 (by decide) ?_
  refine lv_aload_n hx hb dX10_endsDrawn_5 rfl (lv_at hl 0 rfl) ?_
  refine va_get (D := g.1) (ci := 10) (v := .ref (p_t 25)) (C := RX10) (T := TX10) (N := 35) hx hb hts iX10_endsDrawn_X10 hown hK.1 hP 0 rfl rfl 25 (by decide) (hts _ kX10_endsDrawn_35) (fun _ h9 => h9) rfl dX10_endsDrawn_6 ?_
  refine lv_iconst (v := (0 : Int32)) hx hb dX10_endsDrawn_9 (by decide) ?_
  refine lv_bipush (v := (17 : Int32)) hx hb dX10_endsDrawn_10 (by decide) ?_
  obtain ⟨u_1, hu_2, hF⟩ := ob1_some hF
  refine call_sv (wr := [oX10 a_t p_t o_t, aI g (p_t 15) 266 f_t_15]) (As := [.ref (p_t 17), .int (0 : Int32), .ref (p_t 25), .int (0 : Int32), .int (17 : Int32)]) (rest := []) C0 (mX10_copy l g (p_t 17) (p_t 25) n (0 : Int32) (0 : Int32) (17 : Int32) 17 17 f_t_17 f_t_25 u_1 hu_2) (va_cwS 5 hts gX10_endsDrawn_X10_copy rfl rfl rfl (by decide +kernel) ⟨Nat.le_of_ble_eq_true rfl, Nat.le_of_ble_eq_true rfl⟩) hP hD hS [2, 3] [0, 1] rfl rfl rfl rfl rfl (by decide) hl.1 rfl rfl (Nat.le_of_ble_eq_true rfl) ⟨Nat.zero_le _, Nat.zero_le _⟩ dX10_endsDrawn_12 ?_
  intro H locs hP hD hS
  refine lv_aload_n hx hb dX10_endsDrawn_15 rfl (lv_at hl 0 rfl) ?_
  refine lv_aload_n hx hb dX10_endsDrawn_16 rfl (lv_at hl 0 rfl) ?_
  refine va_get (D := g.1) (ci := 10) (v := .ref (p_t 25)) (C := RX10) (T := TX10) (N := 35) hx hb hts iX10_endsDrawn_X10 hown hK.1 hP 0 rfl rfl 25 (by decide) (hts _ kX10_endsDrawn_35) (fun _ h9 => h9) rfl dX10_endsDrawn_17 ?_
  refine lv_iconst (v := (1 : Int32)) hx hb dX10_endsDrawn_20 (by decide) ?_
  obtain ⟨u_3, u_4, u_5, hu_6, hF⟩ := ob3_some hF
  refine call_i (wr := [aI g (p_t 17) 17 f_t_17]) (As := [.ref (p_t 25), .int (1 : Int32)]) (rest := []) (ci := 10) (q0 := 0) C0 (mX10_endsOn l g a_t (p_t 25) p_t n (1 : Int32) o_t f_t_15 u_1 u_3 u_4 u_5 hu_6) (cwV 2 hts gX10_endsDrawn_X10_endsOn rfl rfl rfl (by decide +kernel) ⟨Nat.le_of_ble_eq_true rfl, Nat.le_of_ble_eq_true rfl⟩) hP hD hS [0, 1, 3] [2] rfl rfl rfl rfl rfl (by decide) rfl rfl hl.1 rfl rfl (Nat.le_of_ble_eq_true rfl) ⟨Nat.zero_le _, Nat.zero_le _⟩ dX10_endsDrawn_21 ?_
  intro H locs hP hD hS
  cases hF
  exact ret_i C0 hP hD hS [1, 2, 0, 3] rfl rfl rfl dX10_endsDrawn_24 rfl

theorem dAX10_endsBy : ∀ q ∈ ([(0, (.aload_n 0, 1)), (1, (.invokevirtual 159, 3)), (4, (.aload_n 0, 1)), (5, (.aload_n 0, 1)), (6, (.getfield 176, 3)), (9, (.iload_n 1, 1)), (10, (.iconst 1, 1)), (11, (.invokevirtual 381, 3)), (14, (.istore_n 2, 1)), (15, (.iload_n 2, 1)), (16, (.ifCond .eq 9, 3)), (19, (.aload_n 0, 1)), (20, (.iload_n 2, 1)), (21, (.invokevirtual 162, 3)), (24, (.ireturn, 1)), (25, (.aload_n 0, 1)), (26, (.iload_n 1, 1)), (27, (.putfield 283, 3)), (30, (.aload_n 0, 1)), (31, (.invokevirtual 385, 3)), (34, (.ireturn, 1))] : List (Nat × (Instr × Nat))), decode cX10_endsBy q.1 = .ok q.2 := by decide +kernel
theorem dX10_endsBy_0 : decode cX10_endsBy 0 = .ok (.aload_n 0, 1) := dAX10_endsBy (0, (.aload_n 0, 1)) (List.mem_of_getElem? (i := 0) rfl)
theorem dX10_endsBy_1 : decode cX10_endsBy 1 = .ok (.invokevirtual 159, 3) := dAX10_endsBy (1, (.invokevirtual 159, 3)) (List.mem_of_getElem? (i := 1) rfl)
theorem dX10_endsBy_4 : decode cX10_endsBy 4 = .ok (.aload_n 0, 1) := dAX10_endsBy (4, (.aload_n 0, 1)) (List.mem_of_getElem? (i := 2) rfl)
theorem dX10_endsBy_5 : decode cX10_endsBy 5 = .ok (.aload_n 0, 1) := dAX10_endsBy (5, (.aload_n 0, 1)) (List.mem_of_getElem? (i := 3) rfl)
theorem dX10_endsBy_6 : decode cX10_endsBy 6 = .ok (.getfield 176, 3) := dAX10_endsBy (6, (.getfield 176, 3)) (List.mem_of_getElem? (i := 4) rfl)
theorem dX10_endsBy_9 : decode cX10_endsBy 9 = .ok (.iload_n 1, 1) := dAX10_endsBy (9, (.iload_n 1, 1)) (List.mem_of_getElem? (i := 5) rfl)
theorem dX10_endsBy_10 : decode cX10_endsBy 10 = .ok (.iconst 1, 1) := dAX10_endsBy (10, (.iconst 1, 1)) (List.mem_of_getElem? (i := 6) rfl)
theorem dX10_endsBy_11 : decode cX10_endsBy 11 = .ok (.invokevirtual 381, 3) := dAX10_endsBy (11, (.invokevirtual 381, 3)) (List.mem_of_getElem? (i := 7) rfl)
theorem dX10_endsBy_14 : decode cX10_endsBy 14 = .ok (.istore_n 2, 1) := dAX10_endsBy (14, (.istore_n 2, 1)) (List.mem_of_getElem? (i := 8) rfl)
theorem dX10_endsBy_15 : decode cX10_endsBy 15 = .ok (.iload_n 2, 1) := dAX10_endsBy (15, (.iload_n 2, 1)) (List.mem_of_getElem? (i := 9) rfl)
theorem dX10_endsBy_16 : decode cX10_endsBy 16 = .ok (.ifCond .eq 9, 3) := dAX10_endsBy (16, (.ifCond .eq 9, 3)) (List.mem_of_getElem? (i := 10) rfl)
theorem dX10_endsBy_19 : decode cX10_endsBy 19 = .ok (.aload_n 0, 1) := dAX10_endsBy (19, (.aload_n 0, 1)) (List.mem_of_getElem? (i := 11) rfl)
theorem dX10_endsBy_20 : decode cX10_endsBy 20 = .ok (.iload_n 2, 1) := dAX10_endsBy (20, (.iload_n 2, 1)) (List.mem_of_getElem? (i := 12) rfl)
theorem dX10_endsBy_21 : decode cX10_endsBy 21 = .ok (.invokevirtual 162, 3) := dAX10_endsBy (21, (.invokevirtual 162, 3)) (List.mem_of_getElem? (i := 13) rfl)
theorem dX10_endsBy_24 : decode cX10_endsBy 24 = .ok (.ireturn, 1) := dAX10_endsBy (24, (.ireturn, 1)) (List.mem_of_getElem? (i := 14) rfl)
theorem dX10_endsBy_25 : decode cX10_endsBy 25 = .ok (.aload_n 0, 1) := dAX10_endsBy (25, (.aload_n 0, 1)) (List.mem_of_getElem? (i := 15) rfl)
theorem dX10_endsBy_26 : decode cX10_endsBy 26 = .ok (.iload_n 1, 1) := dAX10_endsBy (26, (.iload_n 1, 1)) (List.mem_of_getElem? (i := 16) rfl)
theorem dX10_endsBy_27 : decode cX10_endsBy 27 = .ok (.putfield 283, 3) := dAX10_endsBy (27, (.putfield 283, 3)) (List.mem_of_getElem? (i := 17) rfl)
theorem dX10_endsBy_30 : decode cX10_endsBy 30 = .ok (.aload_n 0, 1) := dAX10_endsBy (30, (.aload_n 0, 1)) (List.mem_of_getElem? (i := 18) rfl)
theorem dX10_endsBy_31 : decode cX10_endsBy 31 = .ok (.invokevirtual 385, 3) := dAX10_endsBy (31, (.invokevirtual 385, 3)) (List.mem_of_getElem? (i := 19) rfl)
theorem dX10_endsBy_34 : decode cX10_endsBy 34 = .ok (.ireturn, 1) := dAX10_endsBy (34, (.ireturn, 1)) (List.mem_of_getElem? (i := 20) rfl)
set_option maxRecDepth 20000 in
theorem ggX10_endsBy_X10_good : GoodIn wsX10_endsBy wsX10_good := goodIn_r _ [7, 8, 9, 81, 82, 83, 84, 85, 86, 87, 88, 89, 90, 91, 92, 93, 94, 95, 96, 97, 98, 99, 100, 101, 102, 103, 104, 105, 106, 107, 108, 109, 110, 111, 112, 113, 114, 115] rfl (by decide +kernel)
set_option maxRecDepth 20000 in
theorem gX10_endsBy_X10_good : GoodIn wsX10_endsBy (wsV RX10 159 RX10 yX10_good wsX10_good) := goodIn_app (goodIn_of _ (by decide +kernel)) ggX10_endsBy_X10_good
set_option maxRecDepth 20000 in
theorem ggX10_endsBy_X10_drawsWhy : GoodIn wsX10_endsBy wsX10_drawsWhy := goodIn_r _ [13, 14, 15, 16, 6, 17] rfl (by decide +kernel)
set_option maxRecDepth 20000 in
theorem gX10_endsBy_X10_drawsWhy : GoodIn wsX10_endsBy (wsV RX10 381 RX10 yX10_drawsWhy wsX10_drawsWhy) := goodIn_app (goodIn_of _ (by decide +kernel)) ggX10_endsBy_X10_drawsWhy
set_option maxRecDepth 20000 in
theorem ggX10_endsBy_X10_no : GoodIn wsX10_endsBy wsX10_no := goodIn_r _ [21, 9, 81, 82, 83, 84, 85, 86, 87, 88, 89, 90, 91, 92, 93, 94, 95, 96, 97, 98, 99, 100, 101, 102, 103, 104, 105, 106, 107, 108, 109, 110, 111, 112, 113, 114, 115] rfl (by decide +kernel)
set_option maxRecDepth 20000 in
theorem gX10_endsBy_X10_no : GoodIn wsX10_endsBy (wsV RX10 162 RX10 yX10_no wsX10_no) := goodIn_app (goodIn_of _ (by decide +kernel)) ggX10_endsBy_X10_no
set_option maxRecDepth 20000 in
theorem ggX10_endsBy_X10_endsDrawn : GoodIn wsX10_endsBy wsX10_endsDrawn := goodIn_r _ [25, 26, 27, 28, 29, 6, 30, 31, 32, 33, 34, 35, 36, 37, 38, 39, 40, 41, 42, 43, 44, 45, 46, 47, 2, 48, 49, 50, 51, 52, 53, 54, 55, 56, 57, 58, 59, 60, 61, 62, 63, 64, 65, 66, 67, 68, 69, 70, 71, 72, 73, 74, 75, 76, 77, 78, 79, 80, 81, 82, 83, 84, 85, 86, 87, 88, 89, 90, 91, 92, 93, 94, 95, 96, 97, 98, 99, 100, 101, 102, 103, 104, 105, 106, 107, 108, 109, 110, 111, 112, 113, 114, 115] rfl (by decide +kernel)
set_option maxRecDepth 20000 in
theorem gX10_endsBy_X10_endsDrawn : GoodIn wsX10_endsBy (wsV RX10 385 RX10 yX10_endsDrawn wsX10_endsDrawn) := goodIn_app (goodIn_of _ (by decide +kernel)) ggX10_endsBy_X10_endsDrawn
theorem kX10_endsBy_176 : Cond.fieldLink RX10 176 "EveningVowModel" "hasEvening" "Z" ∈ wsX10_endsBy := List.mem_of_getElem? (i := 1) rfl
theorem iX10_endsBy_X10 : ∀ w ∈ u_ws RX10 TX10 35, w ∈ wsX10_endsBy := fun w h => (List.mem_cons_of_mem _ (List.mem_append_right _ h))
theorem kX10_endsBy_283 : Cond.fieldLink RX10 283 "EveningVowModel" "seedNow" "I" ∈ wsX10_endsBy := List.mem_of_getElem? (i := 2) rfl
set_option maxHeartbeats 4000000 in
set_option maxRecDepth 100000 in
theorem mX10_endsBy (l : Launch) (g : GG) (a_t : Nat) (p_t : Nat → Nat) (n : Nat) (x1 : Int32) (o_t : Nat → Int32) (f_t_15 : Nat → Int32) (f_t_17 : Nat → Int32) (f_t_25 : Nat → Int32) (r : Int32) (o_t' : Nat → Int32) (f_t_25' : Nat → Int32) (hF : fX10_endsBy n x1 o_t f_t_15 f_t_17 f_t_25 = some (r, o_t', f_t_25')) : MI l g yX10_endsBy wsX10_endsBy ({ frames := 6, cells := 0, slots := 0, locals := 136 } : Room) [.ref a_t, .int x1] [oX10 a_t p_t o_t, aI g (p_t 15) 266 f_t_15, aI g (p_t 17) 17 f_t_17, aI g (p_t 25) 17 f_t_25] r [oX10 a_t p_t o_t', aI g (p_t 15) 266 f_t_15, aI g (p_t 17) 17 f_t_17, aI g (p_t 25) 17 f_t_25'] := by
  refine MI.of (cc := cX10_endsBy) (maxL := 3) (rt := .int) (own := RX10) rfl rfl (by decide) (Nat.le_of_ble_eq_true rfl) ?_
  intro p e s m args below meth c A C0 hP hD hS ls hl
  obtain ⟨hx, hb, hml, hown, hts, hr, hlk, hK, hA, hSW⟩ := id C0
  have hl : lv_has ls 3 [(0, .ref a_t), (1, .int x1)] := hl
  rw [fX10_endsBy] at hF
  refine lv_aload_n hx hb dX10_endsBy_0 rfl (lv_at hl 0 rfl) ?_
  obtain ⟨u_1, hu_2, hF⟩ := ob1_some hF
  refine call_v (wr := [aI g (p_t 15) 266 f_t_15, aI g (p_t 17) 17 f_t_17, aI g (p_t 25) 17 f_t_25]) (As := []) (rest := []) (ci := 10) (q0 := 0) C0 (mX10_good l g a_t p_t n o_t u_1 hu_2) (cwV 0 hts gX10_endsBy_X10_good rfl rfl rfl (by decide +kernel) ⟨Nat.le_of_ble_eq_true rfl, Nat.le_of_ble_eq_true rfl⟩) hP hD hS [0] [1, 2, 3] rfl rfl rfl rfl rfl (by decide) rfl rfl hl.1 rfl rfl (Nat.le_of_ble_eq_true rfl) ⟨Nat.zero_le _, Nat.zero_le _⟩ dX10_endsBy_1 ?_
  intro H locs hP hD hS
  refine lv_aload_n hx hb dX10_endsBy_4 rfl (lv_at hl 0 rfl) ?_
  refine lv_aload_n hx hb dX10_endsBy_5 rfl (lv_at hl 0 rfl) ?_
  refine va_get (D := g.1) (ci := 10) (v := .int (u_1 14)) (C := RX10) (T := TX10) (N := 35) hx hb hts iX10_endsBy_X10 hown hK.1 hP 3 rfl rfl 14 (by decide) (hts _ kX10_endsBy_176) (fun _ h9 => h9) rfl dX10_endsBy_6 ?_
  refine lv_iload_n hx hb dX10_endsBy_9 rfl (lv_at hl 1 rfl) ?_
  refine lv_iconst (v := (1 : Int32)) hx hb dX10_endsBy_10 (by decide) ?_
  obtain ⟨u_3, hu_4, hF⟩ := ob1_some hF
  refine call_i (wr := [aI g (p_t 15) 266 f_t_15, aI g (p_t 17) 17 f_t_17, aI g (p_t 25) 17 f_t_25]) (As := [.int (u_1 14), .int x1, .int (1 : Int32)]) (rest := []) (ci := 10) (q0 := 0) C0 (mX10_drawsWhy l g a_t p_t n (u_1 14) x1 (1 : Int32) u_1 u_3 hu_4) (cwV 3 hts gX10_endsBy_X10_drawsWhy rfl rfl rfl (by decide +kernel) ⟨Nat.le_of_ble_eq_true rfl, Nat.le_of_ble_eq_true rfl⟩) hP hD hS [3] [0, 1, 2] rfl rfl rfl rfl rfl (by decide) rfl rfl hl.1 rfl rfl (Nat.le_of_ble_eq_true rfl) ⟨Nat.zero_le _, Nat.zero_le _⟩ dX10_endsBy_11 ?_
  intro H locs hP hD hS
  refine lv_istore_n (lv' := [(2, .int u_3), (0, .ref a_t), (1, .int x1)]) hx hb dX10_endsBy_14 rfl hl (by decide) rfl (fun ls hl => ?_)
  refine lv_iload_n hx hb dX10_endsBy_15 rfl (lv_at hl 0 rfl) ?_
  refine lv_if_eq (tgt := 25) hx hb dX10_endsBy_16 (by decide) (fun c_5 => ?_) (fun c_5 => ?_)
  · have hF := it_p c_5 hF
    refine lv_aload_n hx hb dX10_endsBy_25 rfl (lv_at hl 1 rfl) ?_
    refine lv_iload_n hx hb dX10_endsBy_26 rfl (lv_at hl 2 rfl) ?_
    refine va_put (D := g.1) (ci := 10) (v := .int x1) (ty := .int) (C := RX10) (T := TX10) (N := 35) hx hb hts iX10_endsBy_X10 tyX10 tyX10_ok nmX10 hown hK.1 hP hD hS 3 rfl rfl 23 (by decide) (hts _ kX10_endsBy_283) (fun _ h9 => h9) rfl (by decide +kernel) rfl rfl (Nat.le_of_ble_eq_true rfl) dX10_endsBy_27 (fun H locs hP hD hS => ?_)
    have hP : va_P g.1 vwCl [aI g (p_t 15) 266 f_t_15, aI g (p_t 17) 17 f_t_17, aI g (p_t 25) 17 f_t_25, oX10 a_t p_t (upd u_1 23 x1)] H := hP
    have hD : va_D A [aI g (p_t 15) 266 f_t_15, aI g (p_t 17) 17 f_t_17, aI g (p_t 25) 17 f_t_25, oX10 a_t p_t (upd u_1 23 x1)] := hD
    refine lv_aload_n hx hb dX10_endsBy_30 rfl (lv_at hl 1 rfl) ?_
    obtain ⟨u_6, u_7, u_8, hu_9, hF⟩ := ob3_some hF
    refine call_i (wr := []) (As := []) (rest := []) (ci := 10) (q0 := 0) C0 (mX10_endsDrawn l g a_t p_t n (upd u_1 23 x1) f_t_15 f_t_17 f_t_25 u_6 u_7 u_8 hu_9) (cwV 0 hts gX10_endsBy_X10_endsDrawn rfl rfl rfl (by decide +kernel) ⟨Nat.le_of_ble_eq_true rfl, Nat.le_of_ble_eq_true rfl⟩) hP hD hS [3, 0, 1, 2] [] rfl rfl rfl rfl rfl (by decide) rfl rfl hl.1 rfl rfl (Nat.le_of_ble_eq_true rfl) ⟨Nat.zero_le _, Nat.zero_le _⟩ dX10_endsBy_31 ?_
    intro H locs hP hD hS
    cases hF
    exact ret_i C0 hP hD hS [0, 1, 2, 3] rfl rfl rfl dX10_endsBy_34 rfl
  · have hF := it_n c_5 hF
    refine lv_aload_n hx hb dX10_endsBy_19 rfl (lv_at hl 1 rfl) ?_
    refine lv_iload_n hx hb dX10_endsBy_20 rfl (lv_at hl 0 rfl) ?_
    obtain ⟨u_10, u_11, hu_12, hF⟩ := ob2_some hF
    refine call_i (wr := [aI g (p_t 15) 266 f_t_15, aI g (p_t 17) 17 f_t_17, aI g (p_t 25) 17 f_t_25]) (As := [.int u_3]) (rest := []) (ci := 10) (q0 := 0) C0 (mX10_no l g a_t p_t n u_3 u_1 u_10 u_11 hu_12) (cwV 1 hts gX10_endsBy_X10_no rfl rfl rfl (by decide +kernel) ⟨Nat.le_of_ble_eq_true rfl, Nat.le_of_ble_eq_true rfl⟩) hP hD hS [3] [0, 1, 2] rfl rfl rfl rfl rfl (by decide) rfl rfl hl.1 rfl rfl (Nat.le_of_ble_eq_true rfl) ⟨Nat.zero_le _, Nat.zero_le _⟩ dX10_endsBy_21 ?_
    intro H locs hP hD hS
    cases hF
    exact ret_i C0 hP hD hS [3, 0, 1, 2] rfl rfl rfl dX10_endsBy_24 rfl

theorem dAX10_lowest : ∀ q ∈ ([(0, (.lload_n 2, 1)), (1, (.lstore 5, 2)), (3, (.lload_n 0, 1)), (4, (.lstore 7, 2)), (6, (.lload 7, 2)), (8, (.lconst 0, 1)), (9, (.lcmp, 1)), (10, (.ifCond .eq 21, 3)), (13, (.lload 5, 2)), (15, (.lload 7, 2)), (17, (.lrem, 1)), (18, (.lstore 9, 2)), (20, (.lload 7, 2)), (22, (.lstore 5, 2)), (24, (.lload 9, 2)), (26, (.lstore 7, 2)), (28, (.goto (-22), 3)), (31, (.iload 4, 2)), (33, (.ifCond .eq 7, 3)), (36, (.lload_n 2, 1)), (37, (.goto 4, 3)), (40, (.lload_n 0, 1)), (41, (.lload 5, 2)), (43, (.ldiv, 1)), (44, (.lreturn, 1))] : List (Nat × (Instr × Nat))), decode cX10_lowest q.1 = .ok q.2 := by decide +kernel
theorem dX10_lowest_0 : decode cX10_lowest 0 = .ok (.lload_n 2, 1) := dAX10_lowest (0, (.lload_n 2, 1)) (List.mem_of_getElem? (i := 0) rfl)
theorem dX10_lowest_1 : decode cX10_lowest 1 = .ok (.lstore 5, 2) := dAX10_lowest (1, (.lstore 5, 2)) (List.mem_of_getElem? (i := 1) rfl)
theorem dX10_lowest_3 : decode cX10_lowest 3 = .ok (.lload_n 0, 1) := dAX10_lowest (3, (.lload_n 0, 1)) (List.mem_of_getElem? (i := 2) rfl)
theorem dX10_lowest_4 : decode cX10_lowest 4 = .ok (.lstore 7, 2) := dAX10_lowest (4, (.lstore 7, 2)) (List.mem_of_getElem? (i := 3) rfl)
theorem dX10_lowest_6 : decode cX10_lowest 6 = .ok (.lload 7, 2) := dAX10_lowest (6, (.lload 7, 2)) (List.mem_of_getElem? (i := 4) rfl)
theorem dX10_lowest_8 : decode cX10_lowest 8 = .ok (.lconst 0, 1) := dAX10_lowest (8, (.lconst 0, 1)) (List.mem_of_getElem? (i := 5) rfl)
theorem dX10_lowest_9 : decode cX10_lowest 9 = .ok (.lcmp, 1) := dAX10_lowest (9, (.lcmp, 1)) (List.mem_of_getElem? (i := 6) rfl)
theorem dX10_lowest_10 : decode cX10_lowest 10 = .ok (.ifCond .eq 21, 3) := dAX10_lowest (10, (.ifCond .eq 21, 3)) (List.mem_of_getElem? (i := 7) rfl)
theorem dX10_lowest_13 : decode cX10_lowest 13 = .ok (.lload 5, 2) := dAX10_lowest (13, (.lload 5, 2)) (List.mem_of_getElem? (i := 8) rfl)
theorem dX10_lowest_15 : decode cX10_lowest 15 = .ok (.lload 7, 2) := dAX10_lowest (15, (.lload 7, 2)) (List.mem_of_getElem? (i := 9) rfl)
theorem dX10_lowest_17 : decode cX10_lowest 17 = .ok (.lrem, 1) := dAX10_lowest (17, (.lrem, 1)) (List.mem_of_getElem? (i := 10) rfl)
theorem dX10_lowest_18 : decode cX10_lowest 18 = .ok (.lstore 9, 2) := dAX10_lowest (18, (.lstore 9, 2)) (List.mem_of_getElem? (i := 11) rfl)
theorem dX10_lowest_20 : decode cX10_lowest 20 = .ok (.lload 7, 2) := dAX10_lowest (20, (.lload 7, 2)) (List.mem_of_getElem? (i := 12) rfl)
theorem dX10_lowest_22 : decode cX10_lowest 22 = .ok (.lstore 5, 2) := dAX10_lowest (22, (.lstore 5, 2)) (List.mem_of_getElem? (i := 13) rfl)
theorem dX10_lowest_24 : decode cX10_lowest 24 = .ok (.lload 9, 2) := dAX10_lowest (24, (.lload 9, 2)) (List.mem_of_getElem? (i := 14) rfl)
theorem dX10_lowest_26 : decode cX10_lowest 26 = .ok (.lstore 7, 2) := dAX10_lowest (26, (.lstore 7, 2)) (List.mem_of_getElem? (i := 15) rfl)
theorem dX10_lowest_28 : decode cX10_lowest 28 = .ok (.goto (-22), 3) := dAX10_lowest (28, (.goto (-22), 3)) (List.mem_of_getElem? (i := 16) rfl)
theorem dX10_lowest_31 : decode cX10_lowest 31 = .ok (.iload 4, 2) := dAX10_lowest (31, (.iload 4, 2)) (List.mem_of_getElem? (i := 17) rfl)
theorem dX10_lowest_33 : decode cX10_lowest 33 = .ok (.ifCond .eq 7, 3) := dAX10_lowest (33, (.ifCond .eq 7, 3)) (List.mem_of_getElem? (i := 18) rfl)
theorem dX10_lowest_36 : decode cX10_lowest 36 = .ok (.lload_n 2, 1) := dAX10_lowest (36, (.lload_n 2, 1)) (List.mem_of_getElem? (i := 19) rfl)
theorem dX10_lowest_37 : decode cX10_lowest 37 = .ok (.goto 4, 3) := dAX10_lowest (37, (.goto 4, 3)) (List.mem_of_getElem? (i := 20) rfl)
theorem dX10_lowest_40 : decode cX10_lowest 40 = .ok (.lload_n 0, 1) := dAX10_lowest (40, (.lload_n 0, 1)) (List.mem_of_getElem? (i := 21) rfl)
theorem dX10_lowest_41 : decode cX10_lowest 41 = .ok (.lload 5, 2) := dAX10_lowest (41, (.lload 5, 2)) (List.mem_of_getElem? (i := 22) rfl)
theorem dX10_lowest_43 : decode cX10_lowest 43 = .ok (.ldiv, 1) := dAX10_lowest (43, (.ldiv, 1)) (List.mem_of_getElem? (i := 23) rfl)
theorem dX10_lowest_44 : decode cX10_lowest 44 = .ok (.lreturn, 1) := dAX10_lowest (44, (.lreturn, 1)) (List.mem_of_getElem? (i := 24) rfl)
set_option maxHeartbeats 4000000 in
set_option maxRecDepth 100000 in
theorem wX10_lowest_L6 {p : Program} {l : Launch} {e : Env} {s : State} {m : MethodId} {args : Array Value} {below : List Frame} {meth : Method} {c : Code} {g : GG} {A : Nat → Prop} (C0 : Cx p s m args meth c cX10_lowest 11 (some .long) RX10 wsX10_lowest g A)   (n : Nat) (x0 : Int64) (x2 : Int64) (x4 : Int32)  (r : Int64) (K : Int64 → Option (Int64)) (hKx : ∀ (x5 : Int64) (H : Heap) (locs : List Loc) (ls : Array Slot), K x5 = some (r) → va_P g.1 vwCl [] H → va_D A [] → va_S A s.heap H locs → lv_has ls 11 [(0, .long x0), (2, .long x2), (4, .int x4), (5, .long x5)] → W p l e ({ frames := 0, cells := 0, slots := 0, locals := 0 } : Room) s m args below meth c H locs 0 0 (MQ below (EndL g r [] A) args s 0 0 A) (F0 m 31 ls [])) : ∀ (k : Nat) (x5 : Int64) (x7 : Int64), fX10_lowest_L6 n x0 x2 x4 K k x5 x7 = some (r) → ∀ (H : Heap) (locs : List Loc) (ls : Array Slot), va_P g.1 vwCl [] H → va_D A [] → va_S A s.heap H locs → lv_has ls 11 [(0, .long x0), (2, .long x2), (4, .int x4), (5, .long x5), (7, .long x7)] → W p l e ({ frames := 0, cells := 0, slots := 0, locals := 0 } : Room) s m args below meth c H locs 0 0 (MQ below (EndL g r [] A) args s 0 0 A) (F0 m 6 ls []) := by
  obtain ⟨hx, hb, hml, hown, hts, hr, hlk, hK, hA, hSW⟩ := id C0
  intro k
  induction k with
  | zero =>
    intro x5 x7 hF
    exact absurd hF (by simp [fX10_lowest_L6])
  | succ k ih =>
    intro x5 x7 hF H locs ls hP hD hS hl
    rw [fX10_lowest_L6] at hF
    refine lv_lload hx hb dX10_lowest_6 (lv_at hl 4 rfl) ?_
    refine lv_lconst (v := (0 : Int64)) hx hb dX10_lowest_8 (by decide) ?_
    refine W.lcmp hx hb dX10_lowest_9 ?_
    refine lv_if_eq (tgt := 31) hx hb dX10_lowest_10 (by decide) (fun c_1 => ?_) (fun c_1 => ?_)
    · have hF := it_p c_1 hF
      exact hKx x5 _ _ _ hF (hP.sub [] rfl) (hD.sub [] rfl rfl) hS (lv_sub hl [0, 1, 2, 3] rfl)
    · have hF := it_n c_1 hF
      refine lv_lload hx hb dX10_lowest_13 (lv_at hl 3 rfl) ?_
      refine lv_lload hx hb dX10_lowest_15 (lv_at hl 4 rfl) ?_
      obtain ⟨h_2, hF⟩ := it_ck hF
      refine lv_lrem hx hb dX10_lowest_17 h_2 ?_
      refine lv_lstore (lv' := [(9, .long (x5 - x5 / x7 * x7)), (0, .long x0), (2, .long x2), (4, .int x4), (5, .long x5), (7, .long x7)]) hx hb dX10_lowest_18 hl (by decide) rfl (fun ls hl => ?_)
      refine lv_lload hx hb dX10_lowest_20 (lv_at hl 5 rfl) ?_
      refine lv_lstore (lv' := [(5, .long x7), (9, .long (x5 - x5 / x7 * x7)), (0, .long x0), (2, .long x2), (4, .int x4), (7, .long x7)]) hx hb dX10_lowest_22 hl (by decide) rfl (fun ls hl => ?_)
      refine lv_lload hx hb dX10_lowest_24 (lv_at hl 1 rfl) ?_
      refine lv_lstore (lv' := [(7, .long (x5 - x5 / x7 * x7)), (5, .long x7), (9, .long (x5 - x5 / x7 * x7)), (0, .long x0), (2, .long x2), (4, .int x4)]) hx hb dX10_lowest_26 hl (by decide) rfl (fun ls hl => ?_)
      refine lv_goto (tgt := 6) hx hb dX10_lowest_28 (by decide) ?_
      exact ih x7 (x5 - x5 / x7 * x7) hF _ _ _ (hP.sub [] rfl) (hD.sub [] rfl rfl) hS (lv_sub hl [3, 4, 5, 1, 0] rfl)
set_option maxHeartbeats 4000000 in
set_option maxRecDepth 100000 in
theorem mX10_lowest (l : Launch) (g : GG)   (n : Nat) (x0 : Int64) (x2 : Int64) (x4 : Int32) (r : Int64) (hF : fX10_lowest n x0 x2 x4 = some (r)) : ML l g yX10_lowest wsX10_lowest ({ frames := 0, cells := 0, slots := 0, locals := 0 } : Room) [.long x0, .long x2, .int x4] [] r [] := by
  refine ML.of (cc := cX10_lowest) (maxL := 11) (rt := .long) (own := RX10) rfl rfl (by decide) (Nat.le_of_ble_eq_true rfl) ?_
  intro p e s m args below meth c A C0 hP hD hS ls hl
  obtain ⟨hx, hb, hml, hown, hts, hr, hlk, hK, hA, hSW⟩ := id C0
  have hl : lv_has ls 11 [(0, .long x0), (2, .long x2), (4, .int x4)] := hl
  rw [fX10_lowest] at hF
  refine lv_lload_n hx hb dX10_lowest_0 rfl (lv_at hl 1 rfl) ?_
  refine lv_lstore (lv' := [(5, .long x2), (0, .long x0), (2, .long x2), (4, .int x4)]) hx hb dX10_lowest_1 hl (by decide) rfl (fun ls hl => ?_)
  refine lv_lload_n hx hb dX10_lowest_3 rfl (lv_at hl 1 rfl) ?_
  refine lv_lstore (lv' := [(7, .long x0), (5, .long x2), (0, .long x0), (2, .long x2), (4, .int x4)]) hx hb dX10_lowest_4 hl (by decide) rfl (fun ls hl => ?_)
  refine wX10_lowest_L6 C0 n x0 x2 x4 r _ ?_ n x2 x0 hF _ _ _ (hP.sub [] rfl) (hD.sub [] rfl rfl) hS (lv_sub hl [2, 3, 4, 1, 0] rfl)
  · intro x5_x6 H locs ls hF hP hD hS hl
    refine lv_iload hx hb dX10_lowest_31 (lv_at hl 2 rfl) ?_
    refine lv_if_eq (tgt := 40) hx hb dX10_lowest_33 (by decide) (fun c_3 => ?_) (fun c_3 => ?_)
    · have hF := it_p c_3 hF
      refine lv_lload_n hx hb dX10_lowest_40 rfl (lv_at hl 0 rfl) ?_
      refine lv_lload hx hb dX10_lowest_41 (lv_at hl 3 rfl) ?_
      obtain ⟨h_4, hF⟩ := it_ck hF
      refine lv_ldiv hx hb dX10_lowest_43 h_4 ?_
      cases hF
      exact ret_l C0 hP hD hS [] rfl rfl rfl dX10_lowest_44 rfl
    · have hF := it_n c_3 hF
      refine lv_lload_n hx hb dX10_lowest_36 rfl (lv_at hl 1 rfl) ?_
      refine lv_goto (tgt := 41) hx hb dX10_lowest_37 (by decide) ?_
      refine lv_lload hx hb dX10_lowest_41 (lv_at hl 3 rfl) ?_
      obtain ⟨h_5, hF⟩ := it_ck hF
      refine lv_ldiv hx hb dX10_lowest_43 h_5 ?_
      cases hF
      exact ret_l C0 hP hD hS [] rfl rfl rfl dX10_lowest_44 rfl

theorem dAX10_mean : ∀ q ∈ ([(0, (.aload_n 0, 1)), (1, (.invokevirtual 159, 3)), (4, (.aload_n 0, 1)), (5, (.aload_n 0, 1)), (6, (.getfield 176, 3)), (9, (.iload_n 1, 1)), (10, (.iload_n 2, 1)), (11, (.invokevirtual 381, 3)), (14, (.istore 4, 2)), (16, (.iload 4, 2)), (18, (.ifCond .eq 11, 3)), (21, (.aload_n 0, 1)), (22, (.iload 4, 2)), (24, (.invokevirtual 162, 3)), (27, (.i2l, 1)), (28, (.lreturn, 1)), (29, (.aload_n 0, 1)), (30, (.iload_n 1, 1)), (31, (.putfield 283, 3)), (34, (.lconst 0, 1)), (35, (.lstore 5, 2)), (37, (.lconst 0, 1)), (38, (.lstore 7, 2)), (40, (.iconst 0, 1)), (41, (.istore 9, 2)), (43, (.iload 9, 2)), (45, (.iload_n 2, 1)), (46, (.if_icmp .ge 47, 3)), (49, (.aload_n 0, 1)), (50, (.invokevirtual 385, 3)), (53, (.istore 10, 2)), (55, (.lload 5, 2)), (57, (.iload 10, 2)), (59, (.ifCond .ge 7, 3)), (62, (.lconst 0, 1)), (63, (.goto 6, 3)), (66, (.iload 10, 2)), (68, (.i2l, 1)), (69, (.ladd, 1)), (70, (.lstore 5, 2)), (72, (.lload 7, 2)), (74, (.iload 10, 2)), (76, (.ifCond .ge 7, 3)), (79, (.lconst 0, 1)), (80, (.goto 4, 3)), (83, (.lconst 1, 1)), (84, (.ladd, 1)), (85, (.lstore 7, 2)), (87, (.iinc 9 1, 3)), (90, (.goto (-47), 3)), (93, (.lload 5, 2)), (95, (.lload 7, 2)), (97, (.lconst 0, 1)), (98, (.lcmp, 1)), (99, (.ifCond .ne 7, 3)), (102, (.lconst 1, 1)), (103, (.goto 5, 3)), (106, (.lload 7, 2)), (108, (.iload_n 3, 1)), (109, (.invokestatic 388, 3)), (112, (.lreturn, 1))] : List (Nat × (Instr × Nat))), decode cX10_mean q.1 = .ok q.2 := by decide +kernel
theorem dX10_mean_0 : decode cX10_mean 0 = .ok (.aload_n 0, 1) := dAX10_mean (0, (.aload_n 0, 1)) (List.mem_of_getElem? (i := 0) rfl)
theorem dX10_mean_1 : decode cX10_mean 1 = .ok (.invokevirtual 159, 3) := dAX10_mean (1, (.invokevirtual 159, 3)) (List.mem_of_getElem? (i := 1) rfl)
theorem dX10_mean_4 : decode cX10_mean 4 = .ok (.aload_n 0, 1) := dAX10_mean (4, (.aload_n 0, 1)) (List.mem_of_getElem? (i := 2) rfl)
theorem dX10_mean_5 : decode cX10_mean 5 = .ok (.aload_n 0, 1) := dAX10_mean (5, (.aload_n 0, 1)) (List.mem_of_getElem? (i := 3) rfl)
theorem dX10_mean_6 : decode cX10_mean 6 = .ok (.getfield 176, 3) := dAX10_mean (6, (.getfield 176, 3)) (List.mem_of_getElem? (i := 4) rfl)
theorem dX10_mean_9 : decode cX10_mean 9 = .ok (.iload_n 1, 1) := dAX10_mean (9, (.iload_n 1, 1)) (List.mem_of_getElem? (i := 5) rfl)
theorem dX10_mean_10 : decode cX10_mean 10 = .ok (.iload_n 2, 1) := dAX10_mean (10, (.iload_n 2, 1)) (List.mem_of_getElem? (i := 6) rfl)
theorem dX10_mean_11 : decode cX10_mean 11 = .ok (.invokevirtual 381, 3) := dAX10_mean (11, (.invokevirtual 381, 3)) (List.mem_of_getElem? (i := 7) rfl)
theorem dX10_mean_14 : decode cX10_mean 14 = .ok (.istore 4, 2) := dAX10_mean (14, (.istore 4, 2)) (List.mem_of_getElem? (i := 8) rfl)
theorem dX10_mean_16 : decode cX10_mean 16 = .ok (.iload 4, 2) := dAX10_mean (16, (.iload 4, 2)) (List.mem_of_getElem? (i := 9) rfl)
theorem dX10_mean_18 : decode cX10_mean 18 = .ok (.ifCond .eq 11, 3) := dAX10_mean (18, (.ifCond .eq 11, 3)) (List.mem_of_getElem? (i := 10) rfl)
theorem dX10_mean_21 : decode cX10_mean 21 = .ok (.aload_n 0, 1) := dAX10_mean (21, (.aload_n 0, 1)) (List.mem_of_getElem? (i := 11) rfl)
theorem dX10_mean_22 : decode cX10_mean 22 = .ok (.iload 4, 2) := dAX10_mean (22, (.iload 4, 2)) (List.mem_of_getElem? (i := 12) rfl)
theorem dX10_mean_24 : decode cX10_mean 24 = .ok (.invokevirtual 162, 3) := dAX10_mean (24, (.invokevirtual 162, 3)) (List.mem_of_getElem? (i := 13) rfl)
theorem dX10_mean_27 : decode cX10_mean 27 = .ok (.i2l, 1) := dAX10_mean (27, (.i2l, 1)) (List.mem_of_getElem? (i := 14) rfl)
theorem dX10_mean_28 : decode cX10_mean 28 = .ok (.lreturn, 1) := dAX10_mean (28, (.lreturn, 1)) (List.mem_of_getElem? (i := 15) rfl)
theorem dX10_mean_29 : decode cX10_mean 29 = .ok (.aload_n 0, 1) := dAX10_mean (29, (.aload_n 0, 1)) (List.mem_of_getElem? (i := 16) rfl)
theorem dX10_mean_30 : decode cX10_mean 30 = .ok (.iload_n 1, 1) := dAX10_mean (30, (.iload_n 1, 1)) (List.mem_of_getElem? (i := 17) rfl)
theorem dX10_mean_31 : decode cX10_mean 31 = .ok (.putfield 283, 3) := dAX10_mean (31, (.putfield 283, 3)) (List.mem_of_getElem? (i := 18) rfl)
theorem dX10_mean_34 : decode cX10_mean 34 = .ok (.lconst 0, 1) := dAX10_mean (34, (.lconst 0, 1)) (List.mem_of_getElem? (i := 19) rfl)
theorem dX10_mean_35 : decode cX10_mean 35 = .ok (.lstore 5, 2) := dAX10_mean (35, (.lstore 5, 2)) (List.mem_of_getElem? (i := 20) rfl)
theorem dX10_mean_37 : decode cX10_mean 37 = .ok (.lconst 0, 1) := dAX10_mean (37, (.lconst 0, 1)) (List.mem_of_getElem? (i := 21) rfl)
theorem dX10_mean_38 : decode cX10_mean 38 = .ok (.lstore 7, 2) := dAX10_mean (38, (.lstore 7, 2)) (List.mem_of_getElem? (i := 22) rfl)
theorem dX10_mean_40 : decode cX10_mean 40 = .ok (.iconst 0, 1) := dAX10_mean (40, (.iconst 0, 1)) (List.mem_of_getElem? (i := 23) rfl)
theorem dX10_mean_41 : decode cX10_mean 41 = .ok (.istore 9, 2) := dAX10_mean (41, (.istore 9, 2)) (List.mem_of_getElem? (i := 24) rfl)
theorem dX10_mean_43 : decode cX10_mean 43 = .ok (.iload 9, 2) := dAX10_mean (43, (.iload 9, 2)) (List.mem_of_getElem? (i := 25) rfl)
theorem dX10_mean_45 : decode cX10_mean 45 = .ok (.iload_n 2, 1) := dAX10_mean (45, (.iload_n 2, 1)) (List.mem_of_getElem? (i := 26) rfl)
theorem dX10_mean_46 : decode cX10_mean 46 = .ok (.if_icmp .ge 47, 3) := dAX10_mean (46, (.if_icmp .ge 47, 3)) (List.mem_of_getElem? (i := 27) rfl)
theorem dX10_mean_49 : decode cX10_mean 49 = .ok (.aload_n 0, 1) := dAX10_mean (49, (.aload_n 0, 1)) (List.mem_of_getElem? (i := 28) rfl)
theorem dX10_mean_50 : decode cX10_mean 50 = .ok (.invokevirtual 385, 3) := dAX10_mean (50, (.invokevirtual 385, 3)) (List.mem_of_getElem? (i := 29) rfl)
theorem dX10_mean_53 : decode cX10_mean 53 = .ok (.istore 10, 2) := dAX10_mean (53, (.istore 10, 2)) (List.mem_of_getElem? (i := 30) rfl)
theorem dX10_mean_55 : decode cX10_mean 55 = .ok (.lload 5, 2) := dAX10_mean (55, (.lload 5, 2)) (List.mem_of_getElem? (i := 31) rfl)
theorem dX10_mean_57 : decode cX10_mean 57 = .ok (.iload 10, 2) := dAX10_mean (57, (.iload 10, 2)) (List.mem_of_getElem? (i := 32) rfl)
theorem dX10_mean_59 : decode cX10_mean 59 = .ok (.ifCond .ge 7, 3) := dAX10_mean (59, (.ifCond .ge 7, 3)) (List.mem_of_getElem? (i := 33) rfl)
theorem dX10_mean_62 : decode cX10_mean 62 = .ok (.lconst 0, 1) := dAX10_mean (62, (.lconst 0, 1)) (List.mem_of_getElem? (i := 34) rfl)
theorem dX10_mean_63 : decode cX10_mean 63 = .ok (.goto 6, 3) := dAX10_mean (63, (.goto 6, 3)) (List.mem_of_getElem? (i := 35) rfl)
theorem dX10_mean_66 : decode cX10_mean 66 = .ok (.iload 10, 2) := dAX10_mean (66, (.iload 10, 2)) (List.mem_of_getElem? (i := 36) rfl)
theorem dX10_mean_68 : decode cX10_mean 68 = .ok (.i2l, 1) := dAX10_mean (68, (.i2l, 1)) (List.mem_of_getElem? (i := 37) rfl)
theorem dX10_mean_69 : decode cX10_mean 69 = .ok (.ladd, 1) := dAX10_mean (69, (.ladd, 1)) (List.mem_of_getElem? (i := 38) rfl)
theorem dX10_mean_70 : decode cX10_mean 70 = .ok (.lstore 5, 2) := dAX10_mean (70, (.lstore 5, 2)) (List.mem_of_getElem? (i := 39) rfl)
theorem dX10_mean_72 : decode cX10_mean 72 = .ok (.lload 7, 2) := dAX10_mean (72, (.lload 7, 2)) (List.mem_of_getElem? (i := 40) rfl)
theorem dX10_mean_74 : decode cX10_mean 74 = .ok (.iload 10, 2) := dAX10_mean (74, (.iload 10, 2)) (List.mem_of_getElem? (i := 41) rfl)
theorem dX10_mean_76 : decode cX10_mean 76 = .ok (.ifCond .ge 7, 3) := dAX10_mean (76, (.ifCond .ge 7, 3)) (List.mem_of_getElem? (i := 42) rfl)
theorem dX10_mean_79 : decode cX10_mean 79 = .ok (.lconst 0, 1) := dAX10_mean (79, (.lconst 0, 1)) (List.mem_of_getElem? (i := 43) rfl)
theorem dX10_mean_80 : decode cX10_mean 80 = .ok (.goto 4, 3) := dAX10_mean (80, (.goto 4, 3)) (List.mem_of_getElem? (i := 44) rfl)
theorem dX10_mean_83 : decode cX10_mean 83 = .ok (.lconst 1, 1) := dAX10_mean (83, (.lconst 1, 1)) (List.mem_of_getElem? (i := 45) rfl)
theorem dX10_mean_84 : decode cX10_mean 84 = .ok (.ladd, 1) := dAX10_mean (84, (.ladd, 1)) (List.mem_of_getElem? (i := 46) rfl)
theorem dX10_mean_85 : decode cX10_mean 85 = .ok (.lstore 7, 2) := dAX10_mean (85, (.lstore 7, 2)) (List.mem_of_getElem? (i := 47) rfl)
theorem dX10_mean_87 : decode cX10_mean 87 = .ok (.iinc 9 1, 3) := dAX10_mean (87, (.iinc 9 1, 3)) (List.mem_of_getElem? (i := 48) rfl)
theorem dX10_mean_90 : decode cX10_mean 90 = .ok (.goto (-47), 3) := dAX10_mean (90, (.goto (-47), 3)) (List.mem_of_getElem? (i := 49) rfl)
theorem dX10_mean_93 : decode cX10_mean 93 = .ok (.lload 5, 2) := dAX10_mean (93, (.lload 5, 2)) (List.mem_of_getElem? (i := 50) rfl)
theorem dX10_mean_95 : decode cX10_mean 95 = .ok (.lload 7, 2) := dAX10_mean (95, (.lload 7, 2)) (List.mem_of_getElem? (i := 51) rfl)
theorem dX10_mean_97 : decode cX10_mean 97 = .ok (.lconst 0, 1) := dAX10_mean (97, (.lconst 0, 1)) (List.mem_of_getElem? (i := 52) rfl)
theorem dX10_mean_98 : decode cX10_mean 98 = .ok (.lcmp, 1) := dAX10_mean (98, (.lcmp, 1)) (List.mem_of_getElem? (i := 53) rfl)
theorem dX10_mean_99 : decode cX10_mean 99 = .ok (.ifCond .ne 7, 3) := dAX10_mean (99, (.ifCond .ne 7, 3)) (List.mem_of_getElem? (i := 54) rfl)
theorem dX10_mean_102 : decode cX10_mean 102 = .ok (.lconst 1, 1) := dAX10_mean (102, (.lconst 1, 1)) (List.mem_of_getElem? (i := 55) rfl)
theorem dX10_mean_103 : decode cX10_mean 103 = .ok (.goto 5, 3) := dAX10_mean (103, (.goto 5, 3)) (List.mem_of_getElem? (i := 56) rfl)
theorem dX10_mean_106 : decode cX10_mean 106 = .ok (.lload 7, 2) := dAX10_mean (106, (.lload 7, 2)) (List.mem_of_getElem? (i := 57) rfl)
theorem dX10_mean_108 : decode cX10_mean 108 = .ok (.iload_n 3, 1) := dAX10_mean (108, (.iload_n 3, 1)) (List.mem_of_getElem? (i := 58) rfl)
theorem dX10_mean_109 : decode cX10_mean 109 = .ok (.invokestatic 388, 3) := dAX10_mean (109, (.invokestatic 388, 3)) (List.mem_of_getElem? (i := 59) rfl)
theorem dX10_mean_112 : decode cX10_mean 112 = .ok (.lreturn, 1) := dAX10_mean (112, (.lreturn, 1)) (List.mem_of_getElem? (i := 60) rfl)
set_option maxRecDepth 20000 in
theorem ggX10_mean_X10_good : GoodIn wsX10_mean wsX10_good := goodIn_r _ [7, 8, 9, 84, 85, 86, 87, 88, 89, 90, 91, 92, 93, 94, 95, 96, 97, 98, 99, 100, 101, 102, 103, 104, 105, 106, 107, 108, 109, 110, 111, 112, 113, 114, 115, 116, 117, 118] rfl (by decide +kernel)
set_option maxRecDepth 20000 in
theorem gX10_mean_X10_good : GoodIn wsX10_mean (wsV RX10 159 RX10 yX10_good wsX10_good) := goodIn_app (goodIn_of _ (by decide +kernel)) ggX10_mean_X10_good
set_option maxRecDepth 20000 in
theorem ggX10_mean_X10_drawsWhy : GoodIn wsX10_mean wsX10_drawsWhy := goodIn_r _ [13, 14, 15, 16, 6, 17] rfl (by decide +kernel)
set_option maxRecDepth 20000 in
theorem gX10_mean_X10_drawsWhy : GoodIn wsX10_mean (wsV RX10 381 RX10 yX10_drawsWhy wsX10_drawsWhy) := goodIn_app (goodIn_of _ (by decide +kernel)) ggX10_mean_X10_drawsWhy
set_option maxRecDepth 20000 in
theorem ggX10_mean_X10_no : GoodIn wsX10_mean wsX10_no := goodIn_r _ [21, 9, 84, 85, 86, 87, 88, 89, 90, 91, 92, 93, 94, 95, 96, 97, 98, 99, 100, 101, 102, 103, 104, 105, 106, 107, 108, 109, 110, 111, 112, 113, 114, 115, 116, 117, 118] rfl (by decide +kernel)
set_option maxRecDepth 20000 in
theorem gX10_mean_X10_no : GoodIn wsX10_mean (wsV RX10 162 RX10 yX10_no wsX10_no) := goodIn_app (goodIn_of _ (by decide +kernel)) ggX10_mean_X10_no
set_option maxRecDepth 20000 in
theorem ggX10_mean_X10_endsDrawn : GoodIn wsX10_mean wsX10_endsDrawn := goodIn_r _ [25, 26, 27, 28, 29, 6, 30, 31, 32, 33, 34, 35, 36, 37, 38, 39, 40, 41, 42, 43, 44, 45, 46, 47, 2, 48, 49, 50, 51, 52, 53, 54, 55, 56, 57, 58, 59, 60, 61, 62, 63, 64, 65, 66, 67, 68, 69, 70, 71, 72, 73, 74, 75, 76, 77, 78, 79, 80, 84, 85, 86, 87, 88, 89, 90, 91, 92, 93, 94, 95, 96, 97, 98, 99, 100, 101, 102, 103, 104, 105, 106, 107, 108, 109, 110, 111, 112, 113, 114, 115, 116, 117, 118] rfl (by decide +kernel)
set_option maxRecDepth 20000 in
theorem gX10_mean_X10_endsDrawn : GoodIn wsX10_mean (wsV RX10 385 RX10 yX10_endsDrawn wsX10_endsDrawn) := goodIn_app (goodIn_of _ (by decide +kernel)) ggX10_mean_X10_endsDrawn
set_option maxRecDepth 20000 in
theorem ggX10_mean_X10_lowest : GoodIn wsX10_mean wsX10_lowest := goodIn_r _ [83] rfl (by decide +kernel)
set_option maxRecDepth 20000 in
theorem gX10_mean_X10_lowest : GoodIn wsX10_mean (va_wsS RX10 388 yX10_lowest wsX10_lowest) := goodIn_app (goodIn_of _ (by decide +kernel)) ggX10_mean_X10_lowest
theorem kX10_mean_176 : Cond.fieldLink RX10 176 "EveningVowModel" "hasEvening" "Z" ∈ wsX10_mean := List.mem_of_getElem? (i := 1) rfl
theorem iX10_mean_X10 : ∀ w ∈ u_ws RX10 TX10 35, w ∈ wsX10_mean := fun w h => (List.mem_cons_of_mem _ (List.mem_append_right _ h))
theorem kX10_mean_283 : Cond.fieldLink RX10 283 "EveningVowModel" "seedNow" "I" ∈ wsX10_mean := List.mem_of_getElem? (i := 2) rfl
set_option maxHeartbeats 4000000 in
set_option maxRecDepth 100000 in
theorem wX10_mean_L43 {p : Program} {l : Launch} {e : Env} {s : State} {m : MethodId} {args : Array Value} {below : List Frame} {meth : Method} {c : Code} {g : GG} {A : Nat → Prop} (C0 : Cx p s m args meth c cX10_mean 11 (some .long) RX10 wsX10_mean g A) (a_t : Nat) (p_t : Nat → Nat) (n : Nat) (x2 : Int32) (x3 : Int32) (f_t_15 : Nat → Int32) (f_t_17 : Nat → Int32)  (r : Int64) (o_t' : Nat → Int32) (f_t_25' : Nat → Int32) (K : Int64 → Int64 → (Nat → Int32) → (Nat → Int32) → Option (Int64 × (Nat → Int32) × (Nat → Int32))) (hKx : ∀ (x5 : Int64) (x7 : Int64) (o_t : Nat → Int32) (f_t_25 : Nat → Int32) (H : Heap) (locs : List Loc) (ls : Array Slot), K x5 x7 o_t f_t_25 = some (r, o_t', f_t_25') → va_P g.1 vwCl [oX10 a_t p_t o_t, aI g (p_t 15) 266 f_t_15, aI g (p_t 17) 17 f_t_17, aI g (p_t 25) 17 f_t_25] H → va_D A [oX10 a_t p_t o_t, aI g (p_t 15) 266 f_t_15, aI g (p_t 17) 17 f_t_17, aI g (p_t 25) 17 f_t_25] → va_S A s.heap H locs → lv_has ls 11 [(3, .int x3), (5, .long x5), (7, .long x7)] → W p l e ({ frames := 6, cells := 0, slots := 0, locals := 136 } : Room) s m args below meth c H locs 0 0 (MQ below (EndL g r [oX10 a_t p_t o_t', aI g (p_t 15) 266 f_t_15, aI g (p_t 17) 17 f_t_17, aI g (p_t 25) 17 f_t_25'] A) args s 0 0 A) (F0 m 93 ls [])) : ∀ (k : Nat) (x5 : Int64) (x7 : Int64) (x9 : Int32) (o_t : Nat → Int32) (f_t_25 : Nat → Int32), fX10_mean_L43 n x2 x3 f_t_15 f_t_17 K k x5 x7 x9 o_t f_t_25 = some (r, o_t', f_t_25') → ∀ (H : Heap) (locs : List Loc) (ls : Array Slot), va_P g.1 vwCl [oX10 a_t p_t o_t, aI g (p_t 15) 266 f_t_15, aI g (p_t 17) 17 f_t_17, aI g (p_t 25) 17 f_t_25] H → va_D A [oX10 a_t p_t o_t, aI g (p_t 15) 266 f_t_15, aI g (p_t 17) 17 f_t_17, aI g (p_t 25) 17 f_t_25] → va_S A s.heap H locs → lv_has ls 11 [(0, .ref a_t), (2, .int x2), (3, .int x3), (5, .long x5), (7, .long x7), (9, .int x9)] → W p l e ({ frames := 6, cells := 0, slots := 0, locals := 136 } : Room) s m args below meth c H locs 0 0 (MQ below (EndL g r [oX10 a_t p_t o_t', aI g (p_t 15) 266 f_t_15, aI g (p_t 17) 17 f_t_17, aI g (p_t 25) 17 f_t_25'] A) args s 0 0 A) (F0 m 43 ls []) := by
  obtain ⟨hx, hb, hml, hown, hts, hr, hlk, hK, hA, hSW⟩ := id C0
  intro k
  induction k with
  | zero =>
    intro x5 x7 x9 o_t f_t_25 hF
    exact absurd hF (by simp [fX10_mean_L43])
  | succ k ih =>
    intro x5 x7 x9 o_t f_t_25 hF H locs ls hP hD hS hl
    rw [fX10_mean_L43] at hF
    refine lv_iload hx hb dX10_mean_43 (lv_at hl 5 rfl) ?_
    refine lv_iload_n hx hb dX10_mean_45 rfl (lv_at hl 1 rfl) ?_
    refine lv_icmp_ge (tgt := 93) hx hb dX10_mean_46 (by decide) (fun c_6 => ?_) (fun c_6 => ?_)
    · have hF := it_p c_6 hF
      exact hKx x5 x7 o_t f_t_25 _ _ _ hF (hP.sub [0, 1, 2, 3] rfl) (hD.sub [0, 1, 2, 3] rfl rfl) hS (lv_sub hl [2, 3, 4] rfl)
    · have hF := it_n c_6 hF
      refine lv_aload_n hx hb dX10_mean_49 rfl (lv_at hl 0 rfl) ?_
      obtain ⟨u_7, u_8, u_9, hu_10, hF⟩ := ob3_some hF
      refine call_i (wr := []) (As := []) (rest := []) (ci := 10) (q0 := 0) C0 (mX10_endsDrawn l g a_t p_t n o_t f_t_15 f_t_17 f_t_25 u_7 u_8 u_9 hu_10) (cwV 0 hts gX10_mean_X10_endsDrawn rfl rfl rfl (by decide +kernel) ⟨Nat.le_of_ble_eq_true rfl, Nat.le_of_ble_eq_true rfl⟩) hP hD hS [0, 1, 2, 3] [] rfl rfl rfl rfl rfl (by decide) rfl rfl hl.1 rfl rfl (Nat.le_of_ble_eq_true rfl) ⟨Nat.zero_le _, Nat.zero_le _⟩ dX10_mean_50 ?_
      intro H locs hP hD hS
      refine lv_istore (lv' := [(10, .int u_7), (0, .ref a_t), (2, .int x2), (3, .int x3), (5, .long x5), (7, .long x7), (9, .int x9)]) hx hb dX10_mean_53 hl (by decide) rfl (fun ls hl => ?_)
      refine lv_lload hx hb dX10_mean_55 (lv_at hl 4 rfl) ?_
      refine lv_iload hx hb dX10_mean_57 (lv_at hl 0 rfl) ?_
      refine lv_if_ge (tgt := 66) hx hb dX10_mean_59 (by decide) (fun c_11 => ?_) (fun c_11 => ?_)
      · have hF := it_p c_11 hF
        refine lv_iload hx hb dX10_mean_66 (lv_at hl 0 rfl) ?_
        refine lv_i2l (v := ((u_7).toInt64)) hx hb dX10_mean_68 rfl ?_
        refine lv_ladd hx hb dX10_mean_69 ?_
        refine lv_lstore (lv' := [(5, .long (x5 + ((u_7).toInt64))), (10, .int u_7), (0, .ref a_t), (2, .int x2), (3, .int x3), (7, .long x7), (9, .int x9)]) hx hb dX10_mean_70 hl (by decide) rfl (fun ls hl => ?_)
        refine lv_lload hx hb dX10_mean_72 (lv_at hl 5 rfl) ?_
        refine lv_iload hx hb dX10_mean_74 (lv_at hl 1 rfl) ?_
        refine lv_if_ge (tgt := 83) hx hb dX10_mean_76 (by decide) (fun c_12 => ?_) (fun c_12 => ?_)
        · have hF := it_p c_12 hF
          refine lv_lconst (v := (1 : Int64)) hx hb dX10_mean_83 (by decide) ?_
          refine lv_ladd hx hb dX10_mean_84 ?_
          refine lv_lstore (lv' := [(7, .long (x7 + (1 : Int64))), (5, .long (x5 + ((u_7).toInt64))), (10, .int u_7), (0, .ref a_t), (2, .int x2), (3, .int x3), (9, .int x9)]) hx hb dX10_mean_85 hl (by decide) rfl (fun ls hl => ?_)
          refine lv_iinc (v := (x9 + (1 : Int32))) (lv' := [(9, .int (x9 + (1 : Int32))), (7, .long (x7 + (1 : Int64))), (5, .long (x5 + ((u_7).toInt64))), (10, .int u_7), (0, .ref a_t), (2, .int x2), (3, .int x3)]) hx hb dX10_mean_87 hl (k := 6) rfl rfl (by decide) rfl (fun ls hl => ?_)
          refine lv_goto (tgt := 43) hx hb dX10_mean_90 (by decide) ?_
          exact ih (x5 + ((u_7).toInt64)) (x7 + (1 : Int64)) (x9 + (1 : Int32)) u_8 u_9 hF _ _ _ (hP.sub [0, 1, 2, 3] rfl) (hD.sub [0, 1, 2, 3] rfl rfl) hS (lv_sub hl [4, 5, 6, 2, 1, 0] rfl)
        · have hF := it_n c_12 hF
          refine lv_lconst (v := (0 : Int64)) hx hb dX10_mean_79 (by decide) ?_
          refine lv_goto (tgt := 84) hx hb dX10_mean_80 (by decide) ?_
          refine lv_ladd hx hb dX10_mean_84 ?_
          refine lv_lstore (lv' := [(7, .long (x7 + (0 : Int64))), (5, .long (x5 + ((u_7).toInt64))), (10, .int u_7), (0, .ref a_t), (2, .int x2), (3, .int x3), (9, .int x9)]) hx hb dX10_mean_85 hl (by decide) rfl (fun ls hl => ?_)
          refine lv_iinc (v := (x9 + (1 : Int32))) (lv' := [(9, .int (x9 + (1 : Int32))), (7, .long (x7 + (0 : Int64))), (5, .long (x5 + ((u_7).toInt64))), (10, .int u_7), (0, .ref a_t), (2, .int x2), (3, .int x3)]) hx hb dX10_mean_87 hl (k := 6) rfl rfl (by decide) rfl (fun ls hl => ?_)
          refine lv_goto (tgt := 43) hx hb dX10_mean_90 (by decide) ?_
          exact ih (x5 + ((u_7).toInt64)) (x7 + (0 : Int64)) (x9 + (1 : Int32)) u_8 u_9 hF _ _ _ (hP.sub [0, 1, 2, 3] rfl) (hD.sub [0, 1, 2, 3] rfl rfl) hS (lv_sub hl [4, 5, 6, 2, 1, 0] rfl)
      · have hF := it_n c_11 hF
        refine lv_lconst (v := (0 : Int64)) hx hb dX10_mean_62 (by decide) ?_
        refine lv_goto (tgt := 69) hx hb dX10_mean_63 (by decide) ?_
        refine lv_ladd hx hb dX10_mean_69 ?_
        refine lv_lstore (lv' := [(5, .long (x5 + (0 : Int64))), (10, .int u_7), (0, .ref a_t), (2, .int x2), (3, .int x3), (7, .long x7), (9, .int x9)]) hx hb dX10_mean_70 hl (by decide) rfl (fun ls hl => ?_)
        refine lv_lload hx hb dX10_mean_72 (lv_at hl 5 rfl) ?_
        refine lv_iload hx hb dX10_mean_74 (lv_at hl 1 rfl) ?_
        refine lv_if_ge (tgt := 83) hx hb dX10_mean_76 (by decide) (fun c_13 => ?_) (fun c_13 => ?_)
        · have hF := it_p c_13 hF
          refine lv_lconst (v := (1 : Int64)) hx hb dX10_mean_83 (by decide) ?_
          refine lv_ladd hx hb dX10_mean_84 ?_
          refine lv_lstore (lv' := [(7, .long (x7 + (1 : Int64))), (5, .long (x5 + (0 : Int64))), (10, .int u_7), (0, .ref a_t), (2, .int x2), (3, .int x3), (9, .int x9)]) hx hb dX10_mean_85 hl (by decide) rfl (fun ls hl => ?_)
          refine lv_iinc (v := (x9 + (1 : Int32))) (lv' := [(9, .int (x9 + (1 : Int32))), (7, .long (x7 + (1 : Int64))), (5, .long (x5 + (0 : Int64))), (10, .int u_7), (0, .ref a_t), (2, .int x2), (3, .int x3)]) hx hb dX10_mean_87 hl (k := 6) rfl rfl (by decide) rfl (fun ls hl => ?_)
          refine lv_goto (tgt := 43) hx hb dX10_mean_90 (by decide) ?_
          exact ih (x5 + (0 : Int64)) (x7 + (1 : Int64)) (x9 + (1 : Int32)) u_8 u_9 hF _ _ _ (hP.sub [0, 1, 2, 3] rfl) (hD.sub [0, 1, 2, 3] rfl rfl) hS (lv_sub hl [4, 5, 6, 2, 1, 0] rfl)
        · have hF := it_n c_13 hF
          refine lv_lconst (v := (0 : Int64)) hx hb dX10_mean_79 (by decide) ?_
          refine lv_goto (tgt := 84) hx hb dX10_mean_80 (by decide) ?_
          refine lv_ladd hx hb dX10_mean_84 ?_
          refine lv_lstore (lv' := [(7, .long (x7 + (0 : Int64))), (5, .long (x5 + (0 : Int64))), (10, .int u_7), (0, .ref a_t), (2, .int x2), (3, .int x3), (9, .int x9)]) hx hb dX10_mean_85 hl (by decide) rfl (fun ls hl => ?_)
          refine lv_iinc (v := (x9 + (1 : Int32))) (lv' := [(9, .int (x9 + (1 : Int32))), (7, .long (x7 + (0 : Int64))), (5, .long (x5 + (0 : Int64))), (10, .int u_7), (0, .ref a_t), (2, .int x2), (3, .int x3)]) hx hb dX10_mean_87 hl (k := 6) rfl rfl (by decide) rfl (fun ls hl => ?_)
          refine lv_goto (tgt := 43) hx hb dX10_mean_90 (by decide) ?_
          exact ih (x5 + (0 : Int64)) (x7 + (0 : Int64)) (x9 + (1 : Int32)) u_8 u_9 hF _ _ _ (hP.sub [0, 1, 2, 3] rfl) (hD.sub [0, 1, 2, 3] rfl rfl) hS (lv_sub hl [4, 5, 6, 2, 1, 0] rfl)
set_option maxHeartbeats 4000000 in
set_option maxRecDepth 100000 in
theorem mX10_mean (l : Launch) (g : GG) (a_t : Nat) (p_t : Nat → Nat) (n : Nat) (x1 : Int32) (x2 : Int32) (x3 : Int32) (o_t : Nat → Int32) (f_t_15 : Nat → Int32) (f_t_17 : Nat → Int32) (f_t_25 : Nat → Int32) (r : Int64) (o_t' : Nat → Int32) (f_t_25' : Nat → Int32) (hF : fX10_mean n x1 x2 x3 o_t f_t_15 f_t_17 f_t_25 = some (r, o_t', f_t_25')) : ML l g yX10_mean wsX10_mean ({ frames := 6, cells := 0, slots := 0, locals := 136 } : Room) [.ref a_t, .int x1, .int x2, .int x3] [oX10 a_t p_t o_t, aI g (p_t 15) 266 f_t_15, aI g (p_t 17) 17 f_t_17, aI g (p_t 25) 17 f_t_25] r [oX10 a_t p_t o_t', aI g (p_t 15) 266 f_t_15, aI g (p_t 17) 17 f_t_17, aI g (p_t 25) 17 f_t_25'] := by
  refine ML.of (cc := cX10_mean) (maxL := 11) (rt := .long) (own := RX10) rfl rfl (by decide) (Nat.le_of_ble_eq_true rfl) ?_
  intro p e s m args below meth c A C0 hP hD hS ls hl
  obtain ⟨hx, hb, hml, hown, hts, hr, hlk, hK, hA, hSW⟩ := id C0
  have hl : lv_has ls 11 [(0, .ref a_t), (1, .int x1), (2, .int x2), (3, .int x3)] := hl
  rw [fX10_mean] at hF
  refine lv_aload_n hx hb dX10_mean_0 rfl (lv_at hl 0 rfl) ?_
  obtain ⟨u_1, hu_2, hF⟩ := ob1_some hF
  refine call_v (wr := [aI g (p_t 15) 266 f_t_15, aI g (p_t 17) 17 f_t_17, aI g (p_t 25) 17 f_t_25]) (As := []) (rest := []) (ci := 10) (q0 := 0) C0 (mX10_good l g a_t p_t n o_t u_1 hu_2) (cwV 0 hts gX10_mean_X10_good rfl rfl rfl (by decide +kernel) ⟨Nat.le_of_ble_eq_true rfl, Nat.le_of_ble_eq_true rfl⟩) hP hD hS [0] [1, 2, 3] rfl rfl rfl rfl rfl (by decide) rfl rfl hl.1 rfl rfl (Nat.le_of_ble_eq_true rfl) ⟨Nat.zero_le _, Nat.zero_le _⟩ dX10_mean_1 ?_
  intro H locs hP hD hS
  refine lv_aload_n hx hb dX10_mean_4 rfl (lv_at hl 0 rfl) ?_
  refine lv_aload_n hx hb dX10_mean_5 rfl (lv_at hl 0 rfl) ?_
  refine va_get (D := g.1) (ci := 10) (v := .int (u_1 14)) (C := RX10) (T := TX10) (N := 35) hx hb hts iX10_mean_X10 hown hK.1 hP 3 rfl rfl 14 (by decide) (hts _ kX10_mean_176) (fun _ h9 => h9) rfl dX10_mean_6 ?_
  refine lv_iload_n hx hb dX10_mean_9 rfl (lv_at hl 1 rfl) ?_
  refine lv_iload_n hx hb dX10_mean_10 rfl (lv_at hl 2 rfl) ?_
  obtain ⟨u_3, hu_4, hF⟩ := ob1_some hF
  refine call_i (wr := [aI g (p_t 15) 266 f_t_15, aI g (p_t 17) 17 f_t_17, aI g (p_t 25) 17 f_t_25]) (As := [.int (u_1 14), .int x1, .int x2]) (rest := []) (ci := 10) (q0 := 0) C0 (mX10_drawsWhy l g a_t p_t n (u_1 14) x1 x2 u_1 u_3 hu_4) (cwV 3 hts gX10_mean_X10_drawsWhy rfl rfl rfl (by decide +kernel) ⟨Nat.le_of_ble_eq_true rfl, Nat.le_of_ble_eq_true rfl⟩) hP hD hS [3] [0, 1, 2] rfl rfl rfl rfl rfl (by decide) rfl rfl hl.1 rfl rfl (Nat.le_of_ble_eq_true rfl) ⟨Nat.zero_le _, Nat.zero_le _⟩ dX10_mean_11 ?_
  intro H locs hP hD hS
  refine lv_istore (lv' := [(4, .int u_3), (0, .ref a_t), (1, .int x1), (2, .int x2), (3, .int x3)]) hx hb dX10_mean_14 hl (by decide) rfl (fun ls hl => ?_)
  refine lv_iload hx hb dX10_mean_16 (lv_at hl 0 rfl) ?_
  refine lv_if_eq (tgt := 29) hx hb dX10_mean_18 (by decide) (fun c_5 => ?_) (fun c_5 => ?_)
  · have hF := it_p c_5 hF
    refine lv_aload_n hx hb dX10_mean_29 rfl (lv_at hl 1 rfl) ?_
    refine lv_iload_n hx hb dX10_mean_30 rfl (lv_at hl 2 rfl) ?_
    refine va_put (D := g.1) (ci := 10) (v := .int x1) (ty := .int) (C := RX10) (T := TX10) (N := 35) hx hb hts iX10_mean_X10 tyX10 tyX10_ok nmX10 hown hK.1 hP hD hS 3 rfl rfl 23 (by decide) (hts _ kX10_mean_283) (fun _ h9 => h9) rfl (by decide +kernel) rfl rfl (Nat.le_of_ble_eq_true rfl) dX10_mean_31 (fun H locs hP hD hS => ?_)
    have hP : va_P g.1 vwCl [aI g (p_t 15) 266 f_t_15, aI g (p_t 17) 17 f_t_17, aI g (p_t 25) 17 f_t_25, oX10 a_t p_t (upd u_1 23 x1)] H := hP
    have hD : va_D A [aI g (p_t 15) 266 f_t_15, aI g (p_t 17) 17 f_t_17, aI g (p_t 25) 17 f_t_25, oX10 a_t p_t (upd u_1 23 x1)] := hD
    refine lv_lconst (v := (0 : Int64)) hx hb dX10_mean_34 (by decide) ?_
    refine lv_lstore (lv' := [(5, .long (0 : Int64)), (4, .int u_3), (0, .ref a_t), (1, .int x1), (2, .int x2), (3, .int x3)]) hx hb dX10_mean_35 hl (by decide) rfl (fun ls hl => ?_)
    refine lv_lconst (v := (0 : Int64)) hx hb dX10_mean_37 (by decide) ?_
    refine lv_lstore (lv' := [(7, .long (0 : Int64)), (5, .long (0 : Int64)), (4, .int u_3), (0, .ref a_t), (1, .int x1), (2, .int x2), (3, .int x3)]) hx hb dX10_mean_38 hl (by decide) rfl (fun ls hl => ?_)
    refine lv_iconst (v := (0 : Int32)) hx hb dX10_mean_40 (by decide) ?_
    refine lv_istore (lv' := [(9, .int (0 : Int32)), (7, .long (0 : Int64)), (5, .long (0 : Int64)), (4, .int u_3), (0, .ref a_t), (1, .int x1), (2, .int x2), (3, .int x3)]) hx hb dX10_mean_41 hl (by decide) rfl (fun ls hl => ?_)
    refine wX10_mean_L43 C0 a_t p_t n x2 x3 f_t_15 f_t_17 r o_t' f_t_25' _ ?_ n (0 : Int64) (0 : Int64) (0 : Int32) (upd u_1 23 x1) f_t_25 hF _ _ _ (hP.sub [3, 0, 1, 2] rfl) (hD.sub [3, 0, 1, 2] rfl rfl) hS (lv_sub hl [4, 6, 7, 2, 1, 0] rfl)
    · intro x5_x43 x7_x43 o_t_x43 f_t_25_x43 H locs ls hF hP hD hS hl
      refine lv_lload hx hb dX10_mean_93 (lv_at hl 1 rfl) ?_
      refine lv_lload hx hb dX10_mean_95 (lv_at hl 2 rfl) ?_
      refine lv_lconst (v := (0 : Int64)) hx hb dX10_mean_97 (by decide) ?_
      refine W.lcmp hx hb dX10_mean_98 ?_
      refine lv_if_ne (tgt := 106) hx hb dX10_mean_99 (by decide) (fun c_14 => ?_) (fun c_14 => ?_)
      · have hF := it_n c_14 hF
        refine lv_lload hx hb dX10_mean_106 (lv_at hl 2 rfl) ?_
        refine lv_iload_n hx hb dX10_mean_108 rfl (lv_at hl 0 rfl) ?_
        obtain ⟨u_15, hu_16, hF⟩ := ob1_some hF
        refine call_sl (wr := [oX10 a_t p_t o_t_x43, aI g (p_t 15) 266 f_t_15, aI g (p_t 17) 17 f_t_17, aI g (p_t 25) 17 f_t_25_x43]) (As := [.long x5_x43, .long x7_x43, .int x3]) (rest := []) C0 (mX10_lowest l g n x5_x43 x7_x43 x3 u_15 hu_16) (va_cwS 3 hts gX10_mean_X10_lowest rfl rfl rfl (by decide +kernel) ⟨Nat.le_of_ble_eq_true rfl, Nat.le_of_ble_eq_true rfl⟩) hP hD hS [] [0, 1, 2, 3] rfl rfl rfl rfl rfl (by decide) hl.1 rfl rfl (Nat.le_of_ble_eq_true rfl) ⟨Nat.zero_le _, Nat.zero_le _⟩ dX10_mean_109 ?_
        intro H locs hP hD hS
        cases hF
        exact ret_l C0 hP hD hS [0, 1, 2, 3] rfl rfl rfl dX10_mean_112 rfl
      · have hF := it_p c_14 hF
        refine lv_lconst (v := (1 : Int64)) hx hb dX10_mean_102 (by decide) ?_
        refine lv_goto (tgt := 108) hx hb dX10_mean_103 (by decide) ?_
        refine lv_iload_n hx hb dX10_mean_108 rfl (lv_at hl 0 rfl) ?_
        obtain ⟨u_17, hu_18, hF⟩ := ob1_some hF
        refine call_sl (wr := [oX10 a_t p_t o_t_x43, aI g (p_t 15) 266 f_t_15, aI g (p_t 17) 17 f_t_17, aI g (p_t 25) 17 f_t_25_x43]) (As := [.long x5_x43, .long (1 : Int64), .int x3]) (rest := []) C0 (mX10_lowest l g n x5_x43 (1 : Int64) x3 u_17 hu_18) (va_cwS 3 hts gX10_mean_X10_lowest rfl rfl rfl (by decide +kernel) ⟨Nat.le_of_ble_eq_true rfl, Nat.le_of_ble_eq_true rfl⟩) hP hD hS [] [0, 1, 2, 3] rfl rfl rfl rfl rfl (by decide) hl.1 rfl rfl (Nat.le_of_ble_eq_true rfl) ⟨Nat.zero_le _, Nat.zero_le _⟩ dX10_mean_109 ?_
        intro H locs hP hD hS
        cases hF
        exact ret_l C0 hP hD hS [0, 1, 2, 3] rfl rfl rfl dX10_mean_112 rfl
  · have hF := it_n c_5 hF
    refine lv_aload_n hx hb dX10_mean_21 rfl (lv_at hl 1 rfl) ?_
    refine lv_iload hx hb dX10_mean_22 (lv_at hl 0 rfl) ?_
    obtain ⟨u_19, u_20, hu_21, hF⟩ := ob2_some hF
    refine call_i (wr := [aI g (p_t 15) 266 f_t_15, aI g (p_t 17) 17 f_t_17, aI g (p_t 25) 17 f_t_25]) (As := [.int u_3]) (rest := []) (ci := 10) (q0 := 0) C0 (mX10_no l g a_t p_t n u_3 u_1 u_19 u_20 hu_21) (cwV 1 hts gX10_mean_X10_no rfl rfl rfl (by decide +kernel) ⟨Nat.le_of_ble_eq_true rfl, Nat.le_of_ble_eq_true rfl⟩) hP hD hS [3] [0, 1, 2] rfl rfl rfl rfl rfl (by decide) rfl rfl hl.1 rfl rfl (Nat.le_of_ble_eq_true rfl) ⟨Nat.zero_le _, Nat.zero_le _⟩ dX10_mean_24 ?_
    intro H locs hP hD hS
    refine lv_i2l (v := ((u_19).toInt64)) hx hb dX10_mean_27 rfl ?_
    cases hF
    exact ret_l C0 hP hD hS [3, 0, 1, 2] rfl rfl rfl dX10_mean_28 rfl

theorem dAX10_often : ∀ q ∈ ([(0, (.aload_n 0, 1)), (1, (.invokevirtual 159, 3)), (4, (.aload_n 0, 1)), (5, (.aload_n 0, 1)), (6, (.getfield 176, 3)), (9, (.iload_n 1, 1)), (10, (.iload_n 2, 1)), (11, (.invokevirtual 381, 3)), (14, (.istore 4, 2)), (16, (.iload 4, 2)), (18, (.ifCond .ne 16, 3)), (21, (.iload_n 3, 1)), (22, (.iconst 0, 1)), (23, (.bipush 60, 2)), (25, (.invokestatic 144, 3)), (28, (.ifCond .ne 6, 3)), (31, (.iconst 2, 1)), (32, (.istore 4, 2)), (34, (.iload 4, 2)), (36, (.ifCond .eq 10, 3)), (39, (.aload_n 0, 1)), (40, (.iload 4, 2)), (42, (.invokevirtual 162, 3)), (45, (.ireturn, 1)), (46, (.aload_n 0, 1)), (47, (.iload_n 1, 1)), (48, (.putfield 283, 3)), (51, (.iconst 0, 1)), (52, (.istore 5, 2)), (54, (.iconst 0, 1)), (55, (.istore 6, 2)), (57, (.iload 6, 2)), (59, (.iload_n 2, 1)), (60, (.if_icmp .ge 31, 3)), (63, (.iload 5, 2)), (65, (.aload_n 0, 1)), (66, (.invokevirtual 385, 3)), (69, (.iconst 0, 1)), (70, (.iload_n 3, 1)), (71, (.invokestatic 144, 3)), (74, (.ifCond .eq 7, 3)), (77, (.iconst 1, 1)), (78, (.goto 4, 3)), (81, (.iconst 0, 1)), (82, (.iadd, 1)), (83, (.istore 5, 2)), (85, (.iinc 6 1, 3)), (88, (.goto (-31), 3)), (91, (.iload 5, 2)), (93, (.ireturn, 1))] : List (Nat × (Instr × Nat))), decode cX10_often q.1 = .ok q.2 := by decide +kernel
theorem dX10_often_0 : decode cX10_often 0 = .ok (.aload_n 0, 1) := dAX10_often (0, (.aload_n 0, 1)) (List.mem_of_getElem? (i := 0) rfl)
theorem dX10_often_1 : decode cX10_often 1 = .ok (.invokevirtual 159, 3) := dAX10_often (1, (.invokevirtual 159, 3)) (List.mem_of_getElem? (i := 1) rfl)
theorem dX10_often_4 : decode cX10_often 4 = .ok (.aload_n 0, 1) := dAX10_often (4, (.aload_n 0, 1)) (List.mem_of_getElem? (i := 2) rfl)
theorem dX10_often_5 : decode cX10_often 5 = .ok (.aload_n 0, 1) := dAX10_often (5, (.aload_n 0, 1)) (List.mem_of_getElem? (i := 3) rfl)
theorem dX10_often_6 : decode cX10_often 6 = .ok (.getfield 176, 3) := dAX10_often (6, (.getfield 176, 3)) (List.mem_of_getElem? (i := 4) rfl)
theorem dX10_often_9 : decode cX10_often 9 = .ok (.iload_n 1, 1) := dAX10_often (9, (.iload_n 1, 1)) (List.mem_of_getElem? (i := 5) rfl)
theorem dX10_often_10 : decode cX10_often 10 = .ok (.iload_n 2, 1) := dAX10_often (10, (.iload_n 2, 1)) (List.mem_of_getElem? (i := 6) rfl)
theorem dX10_often_11 : decode cX10_often 11 = .ok (.invokevirtual 381, 3) := dAX10_often (11, (.invokevirtual 381, 3)) (List.mem_of_getElem? (i := 7) rfl)
theorem dX10_often_14 : decode cX10_often 14 = .ok (.istore 4, 2) := dAX10_often (14, (.istore 4, 2)) (List.mem_of_getElem? (i := 8) rfl)
theorem dX10_often_16 : decode cX10_often 16 = .ok (.iload 4, 2) := dAX10_often (16, (.iload 4, 2)) (List.mem_of_getElem? (i := 9) rfl)
theorem dX10_often_18 : decode cX10_often 18 = .ok (.ifCond .ne 16, 3) := dAX10_often (18, (.ifCond .ne 16, 3)) (List.mem_of_getElem? (i := 10) rfl)
theorem dX10_often_21 : decode cX10_often 21 = .ok (.iload_n 3, 1) := dAX10_often (21, (.iload_n 3, 1)) (List.mem_of_getElem? (i := 11) rfl)
theorem dX10_often_22 : decode cX10_often 22 = .ok (.iconst 0, 1) := dAX10_often (22, (.iconst 0, 1)) (List.mem_of_getElem? (i := 12) rfl)
theorem dX10_often_23 : decode cX10_often 23 = .ok (.bipush 60, 2) := dAX10_often (23, (.bipush 60, 2)) (List.mem_of_getElem? (i := 13) rfl)
theorem dX10_often_25 : decode cX10_often 25 = .ok (.invokestatic 144, 3) := dAX10_often (25, (.invokestatic 144, 3)) (List.mem_of_getElem? (i := 14) rfl)
theorem dX10_often_28 : decode cX10_often 28 = .ok (.ifCond .ne 6, 3) := dAX10_often (28, (.ifCond .ne 6, 3)) (List.mem_of_getElem? (i := 15) rfl)
theorem dX10_often_31 : decode cX10_often 31 = .ok (.iconst 2, 1) := dAX10_often (31, (.iconst 2, 1)) (List.mem_of_getElem? (i := 16) rfl)
theorem dX10_often_32 : decode cX10_often 32 = .ok (.istore 4, 2) := dAX10_often (32, (.istore 4, 2)) (List.mem_of_getElem? (i := 17) rfl)
theorem dX10_often_34 : decode cX10_often 34 = .ok (.iload 4, 2) := dAX10_often (34, (.iload 4, 2)) (List.mem_of_getElem? (i := 18) rfl)
theorem dX10_often_36 : decode cX10_often 36 = .ok (.ifCond .eq 10, 3) := dAX10_often (36, (.ifCond .eq 10, 3)) (List.mem_of_getElem? (i := 19) rfl)
theorem dX10_often_39 : decode cX10_often 39 = .ok (.aload_n 0, 1) := dAX10_often (39, (.aload_n 0, 1)) (List.mem_of_getElem? (i := 20) rfl)
theorem dX10_often_40 : decode cX10_often 40 = .ok (.iload 4, 2) := dAX10_often (40, (.iload 4, 2)) (List.mem_of_getElem? (i := 21) rfl)
theorem dX10_often_42 : decode cX10_often 42 = .ok (.invokevirtual 162, 3) := dAX10_often (42, (.invokevirtual 162, 3)) (List.mem_of_getElem? (i := 22) rfl)
theorem dX10_often_45 : decode cX10_often 45 = .ok (.ireturn, 1) := dAX10_often (45, (.ireturn, 1)) (List.mem_of_getElem? (i := 23) rfl)
theorem dX10_often_46 : decode cX10_often 46 = .ok (.aload_n 0, 1) := dAX10_often (46, (.aload_n 0, 1)) (List.mem_of_getElem? (i := 24) rfl)
theorem dX10_often_47 : decode cX10_often 47 = .ok (.iload_n 1, 1) := dAX10_often (47, (.iload_n 1, 1)) (List.mem_of_getElem? (i := 25) rfl)
theorem dX10_often_48 : decode cX10_often 48 = .ok (.putfield 283, 3) := dAX10_often (48, (.putfield 283, 3)) (List.mem_of_getElem? (i := 26) rfl)
theorem dX10_often_51 : decode cX10_often 51 = .ok (.iconst 0, 1) := dAX10_often (51, (.iconst 0, 1)) (List.mem_of_getElem? (i := 27) rfl)
theorem dX10_often_52 : decode cX10_often 52 = .ok (.istore 5, 2) := dAX10_often (52, (.istore 5, 2)) (List.mem_of_getElem? (i := 28) rfl)
theorem dX10_often_54 : decode cX10_often 54 = .ok (.iconst 0, 1) := dAX10_often (54, (.iconst 0, 1)) (List.mem_of_getElem? (i := 29) rfl)
theorem dX10_often_55 : decode cX10_often 55 = .ok (.istore 6, 2) := dAX10_often (55, (.istore 6, 2)) (List.mem_of_getElem? (i := 30) rfl)
theorem dX10_often_57 : decode cX10_often 57 = .ok (.iload 6, 2) := dAX10_often (57, (.iload 6, 2)) (List.mem_of_getElem? (i := 31) rfl)
theorem dX10_often_59 : decode cX10_often 59 = .ok (.iload_n 2, 1) := dAX10_often (59, (.iload_n 2, 1)) (List.mem_of_getElem? (i := 32) rfl)
theorem dX10_often_60 : decode cX10_often 60 = .ok (.if_icmp .ge 31, 3) := dAX10_often (60, (.if_icmp .ge 31, 3)) (List.mem_of_getElem? (i := 33) rfl)
theorem dX10_often_63 : decode cX10_often 63 = .ok (.iload 5, 2) := dAX10_often (63, (.iload 5, 2)) (List.mem_of_getElem? (i := 34) rfl)
theorem dX10_often_65 : decode cX10_often 65 = .ok (.aload_n 0, 1) := dAX10_often (65, (.aload_n 0, 1)) (List.mem_of_getElem? (i := 35) rfl)
theorem dX10_often_66 : decode cX10_often 66 = .ok (.invokevirtual 385, 3) := dAX10_often (66, (.invokevirtual 385, 3)) (List.mem_of_getElem? (i := 36) rfl)
theorem dX10_often_69 : decode cX10_often 69 = .ok (.iconst 0, 1) := dAX10_often (69, (.iconst 0, 1)) (List.mem_of_getElem? (i := 37) rfl)
theorem dX10_often_70 : decode cX10_often 70 = .ok (.iload_n 3, 1) := dAX10_often (70, (.iload_n 3, 1)) (List.mem_of_getElem? (i := 38) rfl)
theorem dX10_often_71 : decode cX10_often 71 = .ok (.invokestatic 144, 3) := dAX10_often (71, (.invokestatic 144, 3)) (List.mem_of_getElem? (i := 39) rfl)
theorem dX10_often_74 : decode cX10_often 74 = .ok (.ifCond .eq 7, 3) := dAX10_often (74, (.ifCond .eq 7, 3)) (List.mem_of_getElem? (i := 40) rfl)
theorem dX10_often_77 : decode cX10_often 77 = .ok (.iconst 1, 1) := dAX10_often (77, (.iconst 1, 1)) (List.mem_of_getElem? (i := 41) rfl)
theorem dX10_often_78 : decode cX10_often 78 = .ok (.goto 4, 3) := dAX10_often (78, (.goto 4, 3)) (List.mem_of_getElem? (i := 42) rfl)
theorem dX10_often_81 : decode cX10_often 81 = .ok (.iconst 0, 1) := dAX10_often (81, (.iconst 0, 1)) (List.mem_of_getElem? (i := 43) rfl)
theorem dX10_often_82 : decode cX10_often 82 = .ok (.iadd, 1) := dAX10_often (82, (.iadd, 1)) (List.mem_of_getElem? (i := 44) rfl)
theorem dX10_often_83 : decode cX10_often 83 = .ok (.istore 5, 2) := dAX10_often (83, (.istore 5, 2)) (List.mem_of_getElem? (i := 45) rfl)
theorem dX10_often_85 : decode cX10_often 85 = .ok (.iinc 6 1, 3) := dAX10_often (85, (.iinc 6 1, 3)) (List.mem_of_getElem? (i := 46) rfl)
theorem dX10_often_88 : decode cX10_often 88 = .ok (.goto (-31), 3) := dAX10_often (88, (.goto (-31), 3)) (List.mem_of_getElem? (i := 47) rfl)
theorem dX10_often_91 : decode cX10_often 91 = .ok (.iload 5, 2) := dAX10_often (91, (.iload 5, 2)) (List.mem_of_getElem? (i := 48) rfl)
theorem dX10_often_93 : decode cX10_often 93 = .ok (.ireturn, 1) := dAX10_often (93, (.ireturn, 1)) (List.mem_of_getElem? (i := 49) rfl)
set_option maxRecDepth 20000 in
theorem ggX10_often_X10_good : GoodIn wsX10_often wsX10_good := goodIn_r _ [7, 8, 9, 81, 82, 83, 84, 85, 86, 87, 88, 89, 90, 91, 92, 93, 94, 95, 96, 97, 98, 99, 100, 101, 102, 103, 104, 105, 106, 107, 108, 109, 110, 111, 112, 113, 114, 115] rfl (by decide +kernel)
set_option maxRecDepth 20000 in
theorem gX10_often_X10_good : GoodIn wsX10_often (wsV RX10 159 RX10 yX10_good wsX10_good) := goodIn_app (goodIn_of _ (by decide +kernel)) ggX10_often_X10_good
set_option maxRecDepth 20000 in
theorem ggX10_often_X10_drawsWhy : GoodIn wsX10_often wsX10_drawsWhy := goodIn_r _ [13, 14, 15, 16, 6, 17] rfl (by decide +kernel)
set_option maxRecDepth 20000 in
theorem gX10_often_X10_drawsWhy : GoodIn wsX10_often (wsV RX10 381 RX10 yX10_drawsWhy wsX10_drawsWhy) := goodIn_app (goodIn_of _ (by decide +kernel)) ggX10_often_X10_drawsWhy
set_option maxRecDepth 20000 in
theorem ggX10_often_X10_in : GoodIn wsX10_often wsX10_in := goodIn_r _ [17] rfl (by decide +kernel)
set_option maxRecDepth 20000 in
theorem gX10_often_X10_in : GoodIn wsX10_often (va_wsS RX10 144 yX10_in wsX10_in) := goodIn_app (goodIn_of _ (by decide +kernel)) ggX10_often_X10_in
set_option maxRecDepth 20000 in
theorem ggX10_often_X10_no : GoodIn wsX10_often wsX10_no := goodIn_r _ [21, 9, 81, 82, 83, 84, 85, 86, 87, 88, 89, 90, 91, 92, 93, 94, 95, 96, 97, 98, 99, 100, 101, 102, 103, 104, 105, 106, 107, 108, 109, 110, 111, 112, 113, 114, 115] rfl (by decide +kernel)
set_option maxRecDepth 20000 in
theorem gX10_often_X10_no : GoodIn wsX10_often (wsV RX10 162 RX10 yX10_no wsX10_no) := goodIn_app (goodIn_of _ (by decide +kernel)) ggX10_often_X10_no
set_option maxRecDepth 20000 in
theorem ggX10_often_X10_endsDrawn : GoodIn wsX10_often wsX10_endsDrawn := goodIn_r _ [25, 26, 27, 28, 29, 6, 30, 31, 32, 33, 34, 35, 36, 37, 38, 39, 40, 41, 42, 43, 44, 45, 46, 47, 2, 48, 49, 50, 51, 52, 53, 54, 55, 56, 57, 58, 59, 60, 61, 62, 63, 64, 65, 66, 67, 68, 69, 70, 71, 72, 73, 74, 75, 76, 77, 78, 79, 80, 81, 82, 83, 84, 85, 86, 87, 88, 89, 90, 91, 92, 93, 94, 95, 96, 97, 98, 99, 100, 101, 102, 103, 104, 105, 106, 107, 108, 109, 110, 111, 112, 113, 114, 115] rfl (by decide +kernel)
set_option maxRecDepth 20000 in
theorem gX10_often_X10_endsDrawn : GoodIn wsX10_often (wsV RX10 385 RX10 yX10_endsDrawn wsX10_endsDrawn) := goodIn_app (goodIn_of _ (by decide +kernel)) ggX10_often_X10_endsDrawn
theorem kX10_often_176 : Cond.fieldLink RX10 176 "EveningVowModel" "hasEvening" "Z" ∈ wsX10_often := List.mem_of_getElem? (i := 1) rfl
theorem iX10_often_X10 : ∀ w ∈ u_ws RX10 TX10 35, w ∈ wsX10_often := fun w h => (List.mem_cons_of_mem _ (List.mem_append_right _ h))
theorem kX10_often_283 : Cond.fieldLink RX10 283 "EveningVowModel" "seedNow" "I" ∈ wsX10_often := List.mem_of_getElem? (i := 2) rfl
set_option maxHeartbeats 4000000 in
set_option maxRecDepth 100000 in
theorem wX10_often_L57 {p : Program} {l : Launch} {e : Env} {s : State} {m : MethodId} {args : Array Value} {below : List Frame} {meth : Method} {c : Code} {g : GG} {A : Nat → Prop} (C0 : Cx p s m args meth c cX10_often 7 (some .int) RX10 wsX10_often g A) (a_t : Nat) (p_t : Nat → Nat) (n : Nat) (x2 : Int32) (x3 : Int32) (f_t_15 : Nat → Int32) (f_t_17 : Nat → Int32)  (r : Int32) (o_t' : Nat → Int32) (f_t_25' : Nat → Int32) (K : Int32 → (Nat → Int32) → (Nat → Int32) → Option (Int32 × (Nat → Int32) × (Nat → Int32))) (hKx : ∀ (x5 : Int32) (o_t : Nat → Int32) (f_t_25 : Nat → Int32) (H : Heap) (locs : List Loc) (ls : Array Slot), K x5 o_t f_t_25 = some (r, o_t', f_t_25') → va_P g.1 vwCl [oX10 a_t p_t o_t, aI g (p_t 15) 266 f_t_15, aI g (p_t 17) 17 f_t_17, aI g (p_t 25) 17 f_t_25] H → va_D A [oX10 a_t p_t o_t, aI g (p_t 15) 266 f_t_15, aI g (p_t 17) 17 f_t_17, aI g (p_t 25) 17 f_t_25] → va_S A s.heap H locs → lv_has ls 7 [(5, .int x5)] → W p l e ({ frames := 6, cells := 0, slots := 0, locals := 136 } : Room) s m args below meth c H locs 0 0 (MQ below (EndI g r [oX10 a_t p_t o_t', aI g (p_t 15) 266 f_t_15, aI g (p_t 17) 17 f_t_17, aI g (p_t 25) 17 f_t_25'] A) args s 0 0 A) (F0 m 91 ls [])) : ∀ (k : Nat) (x5 : Int32) (x6 : Int32) (o_t : Nat → Int32) (f_t_25 : Nat → Int32), fX10_often_L57 n x2 x3 f_t_15 f_t_17 K k x5 x6 o_t f_t_25 = some (r, o_t', f_t_25') → ∀ (H : Heap) (locs : List Loc) (ls : Array Slot), va_P g.1 vwCl [oX10 a_t p_t o_t, aI g (p_t 15) 266 f_t_15, aI g (p_t 17) 17 f_t_17, aI g (p_t 25) 17 f_t_25] H → va_D A [oX10 a_t p_t o_t, aI g (p_t 15) 266 f_t_15, aI g (p_t 17) 17 f_t_17, aI g (p_t 25) 17 f_t_25] → va_S A s.heap H locs → lv_has ls 7 [(0, .ref a_t), (2, .int x2), (3, .int x3), (5, .int x5), (6, .int x6)] → W p l e ({ frames := 6, cells := 0, slots := 0, locals := 136 } : Room) s m args below meth c H locs 0 0 (MQ below (EndI g r [oX10 a_t p_t o_t', aI g (p_t 15) 266 f_t_15, aI g (p_t 17) 17 f_t_17, aI g (p_t 25) 17 f_t_25'] A) args s 0 0 A) (F0 m 57 ls []) := by
  obtain ⟨hx, hb, hml, hown, hts, hr, hlk, hK, hA, hSW⟩ := id C0
  intro k
  induction k with
  | zero =>
    intro x5 x6 o_t f_t_25 hF
    exact absurd hF (by simp [fX10_often_L57])
  | succ k ih =>
    intro x5 x6 o_t f_t_25 hF H locs ls hP hD hS hl
    rw [fX10_often_L57] at hF
    refine lv_iload hx hb dX10_often_57 (lv_at hl 4 rfl) ?_
    refine lv_iload_n hx hb dX10_often_59 rfl (lv_at hl 1 rfl) ?_
    refine lv_icmp_ge (tgt := 91) hx hb dX10_often_60 (by decide) (fun c_6 => ?_) (fun c_6 => ?_)
    · have hF := it_p c_6 hF
      exact hKx x5 o_t f_t_25 _ _ _ hF (hP.sub [0, 1, 2, 3] rfl) (hD.sub [0, 1, 2, 3] rfl rfl) hS (lv_sub hl [3] rfl)
    · have hF := it_n c_6 hF
      refine lv_iload hx hb dX10_often_63 (lv_at hl 3 rfl) ?_
      refine lv_aload_n hx hb dX10_often_65 rfl (lv_at hl 0 rfl) ?_
      obtain ⟨u_7, u_8, u_9, hu_10, hF⟩ := ob3_some hF
      refine call_i (wr := []) (As := []) (rest := [.int x5]) (ci := 10) (q0 := 0) C0 (mX10_endsDrawn l g a_t p_t n o_t f_t_15 f_t_17 f_t_25 u_7 u_8 u_9 hu_10) (cwV 0 hts gX10_often_X10_endsDrawn rfl rfl rfl (by decide +kernel) ⟨Nat.le_of_ble_eq_true rfl, Nat.le_of_ble_eq_true rfl⟩) hP hD hS [0, 1, 2, 3] [] rfl rfl rfl rfl rfl (by decide) rfl rfl hl.1 rfl rfl (Nat.le_of_ble_eq_true rfl) ⟨Nat.zero_le _, Nat.zero_le _⟩ dX10_often_66 ?_
      intro H locs hP hD hS
      refine lv_iconst (v := (0 : Int32)) hx hb dX10_often_69 (by decide) ?_
      refine lv_iload_n hx hb dX10_often_70 rfl (lv_at hl 2 rfl) ?_
      obtain ⟨u_11, hu_12, hF⟩ := ob1_some hF
      refine call_si (wr := [oX10 a_t p_t u_8, aI g (p_t 15) 266 f_t_15, aI g (p_t 17) 17 f_t_17, aI g (p_t 25) 17 u_9]) (As := [.int u_7, .int (0 : Int32), .int x3]) (rest := [.int x5]) C0 (mX10_in l g n u_7 (0 : Int32) x3 u_11 hu_12) (va_cwS 3 hts gX10_often_X10_in rfl rfl rfl (by decide +kernel) ⟨Nat.le_of_ble_eq_true rfl, Nat.le_of_ble_eq_true rfl⟩) hP hD hS [] [0, 1, 2, 3] rfl rfl rfl rfl rfl (by decide) hl.1 rfl rfl (Nat.le_of_ble_eq_true rfl) ⟨Nat.zero_le _, Nat.zero_le _⟩ dX10_often_71 ?_
      intro H locs hP hD hS
      refine lv_if_eq (tgt := 81) hx hb dX10_often_74 (by decide) (fun c_13 => ?_) (fun c_13 => ?_)
      · have hF := it_p c_13 hF
        refine lv_iconst (v := (0 : Int32)) hx hb dX10_often_81 (by decide) ?_
        refine lv_iadd hx hb dX10_often_82 ?_
        refine lv_istore (lv' := [(5, .int (x5 + (0 : Int32))), (0, .ref a_t), (2, .int x2), (3, .int x3), (6, .int x6)]) hx hb dX10_often_83 hl (by decide) rfl (fun ls hl => ?_)
        refine lv_iinc (v := (x6 + (1 : Int32))) (lv' := [(6, .int (x6 + (1 : Int32))), (5, .int (x5 + (0 : Int32))), (0, .ref a_t), (2, .int x2), (3, .int x3)]) hx hb dX10_often_85 hl (k := 4) rfl rfl (by decide) rfl (fun ls hl => ?_)
        refine lv_goto (tgt := 57) hx hb dX10_often_88 (by decide) ?_
        exact ih (x5 + (0 : Int32)) (x6 + (1 : Int32)) u_8 u_9 hF _ _ _ (hP.sub [0, 1, 2, 3] rfl) (hD.sub [0, 1, 2, 3] rfl rfl) hS (lv_sub hl [2, 3, 4, 1, 0] rfl)
      · have hF := it_n c_13 hF
        refine lv_iconst (v := (1 : Int32)) hx hb dX10_often_77 (by decide) ?_
        refine lv_goto (tgt := 82) hx hb dX10_often_78 (by decide) ?_
        refine lv_iadd hx hb dX10_often_82 ?_
        refine lv_istore (lv' := [(5, .int (x5 + (1 : Int32))), (0, .ref a_t), (2, .int x2), (3, .int x3), (6, .int x6)]) hx hb dX10_often_83 hl (by decide) rfl (fun ls hl => ?_)
        refine lv_iinc (v := (x6 + (1 : Int32))) (lv' := [(6, .int (x6 + (1 : Int32))), (5, .int (x5 + (1 : Int32))), (0, .ref a_t), (2, .int x2), (3, .int x3)]) hx hb dX10_often_85 hl (k := 4) rfl rfl (by decide) rfl (fun ls hl => ?_)
        refine lv_goto (tgt := 57) hx hb dX10_often_88 (by decide) ?_
        exact ih (x5 + (1 : Int32)) (x6 + (1 : Int32)) u_8 u_9 hF _ _ _ (hP.sub [0, 1, 2, 3] rfl) (hD.sub [0, 1, 2, 3] rfl rfl) hS (lv_sub hl [2, 3, 4, 1, 0] rfl)
set_option maxHeartbeats 4000000 in
set_option maxRecDepth 100000 in
theorem mX10_often (l : Launch) (g : GG) (a_t : Nat) (p_t : Nat → Nat) (n : Nat) (x1 : Int32) (x2 : Int32) (x3 : Int32) (o_t : Nat → Int32) (f_t_15 : Nat → Int32) (f_t_17 : Nat → Int32) (f_t_25 : Nat → Int32) (r : Int32) (o_t' : Nat → Int32) (f_t_25' : Nat → Int32) (hF : fX10_often n x1 x2 x3 o_t f_t_15 f_t_17 f_t_25 = some (r, o_t', f_t_25')) : MI l g yX10_often wsX10_often ({ frames := 6, cells := 0, slots := 0, locals := 136 } : Room) [.ref a_t, .int x1, .int x2, .int x3] [oX10 a_t p_t o_t, aI g (p_t 15) 266 f_t_15, aI g (p_t 17) 17 f_t_17, aI g (p_t 25) 17 f_t_25] r [oX10 a_t p_t o_t', aI g (p_t 15) 266 f_t_15, aI g (p_t 17) 17 f_t_17, aI g (p_t 25) 17 f_t_25'] := by
  refine MI.of (cc := cX10_often) (maxL := 7) (rt := .int) (own := RX10) rfl rfl (by decide) (Nat.le_of_ble_eq_true rfl) ?_
  intro p e s m args below meth c A C0 hP hD hS ls hl
  obtain ⟨hx, hb, hml, hown, hts, hr, hlk, hK, hA, hSW⟩ := id C0
  have hl : lv_has ls 7 [(0, .ref a_t), (1, .int x1), (2, .int x2), (3, .int x3)] := hl
  rw [fX10_often] at hF
  refine lv_aload_n hx hb dX10_often_0 rfl (lv_at hl 0 rfl) ?_
  obtain ⟨u_1, hu_2, hF⟩ := ob1_some hF
  refine call_v (wr := [aI g (p_t 15) 266 f_t_15, aI g (p_t 17) 17 f_t_17, aI g (p_t 25) 17 f_t_25]) (As := []) (rest := []) (ci := 10) (q0 := 0) C0 (mX10_good l g a_t p_t n o_t u_1 hu_2) (cwV 0 hts gX10_often_X10_good rfl rfl rfl (by decide +kernel) ⟨Nat.le_of_ble_eq_true rfl, Nat.le_of_ble_eq_true rfl⟩) hP hD hS [0] [1, 2, 3] rfl rfl rfl rfl rfl (by decide) rfl rfl hl.1 rfl rfl (Nat.le_of_ble_eq_true rfl) ⟨Nat.zero_le _, Nat.zero_le _⟩ dX10_often_1 ?_
  intro H locs hP hD hS
  refine lv_aload_n hx hb dX10_often_4 rfl (lv_at hl 0 rfl) ?_
  refine lv_aload_n hx hb dX10_often_5 rfl (lv_at hl 0 rfl) ?_
  refine va_get (D := g.1) (ci := 10) (v := .int (u_1 14)) (C := RX10) (T := TX10) (N := 35) hx hb hts iX10_often_X10 hown hK.1 hP 3 rfl rfl 14 (by decide) (hts _ kX10_often_176) (fun _ h9 => h9) rfl dX10_often_6 ?_
  refine lv_iload_n hx hb dX10_often_9 rfl (lv_at hl 1 rfl) ?_
  refine lv_iload_n hx hb dX10_often_10 rfl (lv_at hl 2 rfl) ?_
  obtain ⟨u_3, hu_4, hF⟩ := ob1_some hF
  refine call_i (wr := [aI g (p_t 15) 266 f_t_15, aI g (p_t 17) 17 f_t_17, aI g (p_t 25) 17 f_t_25]) (As := [.int (u_1 14), .int x1, .int x2]) (rest := []) (ci := 10) (q0 := 0) C0 (mX10_drawsWhy l g a_t p_t n (u_1 14) x1 x2 u_1 u_3 hu_4) (cwV 3 hts gX10_often_X10_drawsWhy rfl rfl rfl (by decide +kernel) ⟨Nat.le_of_ble_eq_true rfl, Nat.le_of_ble_eq_true rfl⟩) hP hD hS [3] [0, 1, 2] rfl rfl rfl rfl rfl (by decide) rfl rfl hl.1 rfl rfl (Nat.le_of_ble_eq_true rfl) ⟨Nat.zero_le _, Nat.zero_le _⟩ dX10_often_11 ?_
  intro H locs hP hD hS
  refine lv_istore (lv' := [(4, .int u_3), (0, .ref a_t), (1, .int x1), (2, .int x2), (3, .int x3)]) hx hb dX10_often_14 hl (by decide) rfl (fun ls hl => ?_)
  refine lv_iload hx hb dX10_often_16 (lv_at hl 0 rfl) ?_
  obtain ⟨J34, eJ34, hF⟩ := jn_some hF
  have hJ34 : ∀ (x4_34 : Int32) (H : Heap) (locs : List Loc) (ls : Array Slot), J34 x4_34 = some (r, o_t', f_t_25') → va_P g.1 vwCl [aI g (p_t 15) 266 f_t_15, aI g (p_t 17) 17 f_t_17, aI g (p_t 25) 17 f_t_25, oX10 a_t p_t u_1] H → va_D A [aI g (p_t 15) 266 f_t_15, aI g (p_t 17) 17 f_t_17, aI g (p_t 25) 17 f_t_25, oX10 a_t p_t u_1] → va_S A s.heap H locs → lv_has ls 7 [(0, .ref a_t), (1, .int x1), (2, .int x2), (3, .int x3), (4, .int x4_34)] → W p l e ({ frames := 6, cells := 0, slots := 0, locals := 136 } : Room) s m args below meth c H locs 0 0 (MQ below (EndI g r [oX10 a_t p_t o_t', aI g (p_t 15) 266 f_t_15, aI g (p_t 17) 17 f_t_17, aI g (p_t 25) 17 f_t_25'] A) args s 0 0 A) (F0 m 34 ls []) := by
    intro x4_34 H locs ls hF hP hD hS hl
    have hF := jj1 eJ34 hF
    refine lv_iload hx hb dX10_often_34 (lv_at hl 4 rfl) ?_
    refine lv_if_eq (tgt := 46) hx hb dX10_often_36 (by decide) (fun c_5 => ?_) (fun c_5 => ?_)
    · have hF := it_p c_5 hF
      refine lv_aload_n hx hb dX10_often_46 rfl (lv_at hl 0 rfl) ?_
      refine lv_iload_n hx hb dX10_often_47 rfl (lv_at hl 1 rfl) ?_
      refine va_put (D := g.1) (ci := 10) (v := .int x1) (ty := .int) (C := RX10) (T := TX10) (N := 35) hx hb hts iX10_often_X10 tyX10 tyX10_ok nmX10 hown hK.1 hP hD hS 3 rfl rfl 23 (by decide) (hts _ kX10_often_283) (fun _ h9 => h9) rfl (by decide +kernel) rfl rfl (Nat.le_of_ble_eq_true rfl) dX10_often_48 (fun H locs hP hD hS => ?_)
      have hP : va_P g.1 vwCl [aI g (p_t 15) 266 f_t_15, aI g (p_t 17) 17 f_t_17, aI g (p_t 25) 17 f_t_25, oX10 a_t p_t (upd u_1 23 x1)] H := hP
      have hD : va_D A [aI g (p_t 15) 266 f_t_15, aI g (p_t 17) 17 f_t_17, aI g (p_t 25) 17 f_t_25, oX10 a_t p_t (upd u_1 23 x1)] := hD
      refine lv_iconst (v := (0 : Int32)) hx hb dX10_often_51 (by decide) ?_
      refine lv_istore (lv' := [(5, .int (0 : Int32)), (0, .ref a_t), (1, .int x1), (2, .int x2), (3, .int x3), (4, .int x4_34)]) hx hb dX10_often_52 hl (by decide) rfl (fun ls hl => ?_)
      refine lv_iconst (v := (0 : Int32)) hx hb dX10_often_54 (by decide) ?_
      refine lv_istore (lv' := [(6, .int (0 : Int32)), (5, .int (0 : Int32)), (0, .ref a_t), (1, .int x1), (2, .int x2), (3, .int x3), (4, .int x4_34)]) hx hb dX10_often_55 hl (by decide) rfl (fun ls hl => ?_)
      refine wX10_often_L57 C0 a_t p_t n x2 x3 f_t_15 f_t_17 r o_t' f_t_25' _ ?_ n (0 : Int32) (0 : Int32) (upd u_1 23 x1) f_t_25 hF _ _ _ (hP.sub [3, 0, 1, 2] rfl) (hD.sub [3, 0, 1, 2] rfl rfl) hS (lv_sub hl [2, 4, 5, 1, 0] rfl)
      · intro x5_x57 o_t_x57 f_t_25_x57 H locs ls hF hP hD hS hl
        refine lv_iload hx hb dX10_often_91 (lv_at hl 0 rfl) ?_
        cases hF
        exact ret_i C0 hP hD hS [0, 1, 2, 3] rfl rfl rfl dX10_often_93 rfl
    · have hF := it_n c_5 hF
      refine lv_aload_n hx hb dX10_often_39 rfl (lv_at hl 0 rfl) ?_
      refine lv_iload hx hb dX10_often_40 (lv_at hl 4 rfl) ?_
      obtain ⟨u_14, u_15, hu_16, hF⟩ := ob2_some hF
      refine call_i (wr := [aI g (p_t 15) 266 f_t_15, aI g (p_t 17) 17 f_t_17, aI g (p_t 25) 17 f_t_25]) (As := [.int x4_34]) (rest := []) (ci := 10) (q0 := 0) C0 (mX10_no l g a_t p_t n x4_34 u_1 u_14 u_15 hu_16) (cwV 1 hts gX10_often_X10_no rfl rfl rfl (by decide +kernel) ⟨Nat.le_of_ble_eq_true rfl, Nat.le_of_ble_eq_true rfl⟩) hP hD hS [3] [0, 1, 2] rfl rfl rfl rfl rfl (by decide) rfl rfl hl.1 rfl rfl (Nat.le_of_ble_eq_true rfl) ⟨Nat.zero_le _, Nat.zero_le _⟩ dX10_often_42 ?_
      intro H locs hP hD hS
      cases hF
      exact ret_i C0 hP hD hS [3, 0, 1, 2] rfl rfl rfl dX10_often_45 rfl
  refine lv_if_ne (tgt := 34) hx hb dX10_often_18 (by decide) (fun c_17 => ?_) (fun c_17 => ?_)
  · have hF := it_n c_17 hF
    exact hJ34 u_3 _ _ _ hF (hP.sub [0, 1, 2, 3] rfl) (hD.sub [0, 1, 2, 3] rfl rfl) hS (lv_sub hl [1, 2, 3, 4, 0] rfl)
  · have hF := it_p c_17 hF
    refine lv_iload_n hx hb dX10_often_21 rfl (lv_at hl 4 rfl) ?_
    refine lv_iconst (v := (0 : Int32)) hx hb dX10_often_22 (by decide) ?_
    refine lv_bipush (v := (60 : Int32)) hx hb dX10_often_23 (by decide) ?_
    obtain ⟨u_18, hu_19, hF⟩ := ob1_some hF
    refine call_si (wr := [aI g (p_t 15) 266 f_t_15, aI g (p_t 17) 17 f_t_17, aI g (p_t 25) 17 f_t_25, oX10 a_t p_t u_1]) (As := [.int x3, .int (0 : Int32), .int (60 : Int32)]) (rest := []) C0 (mX10_in l g n x3 (0 : Int32) (60 : Int32) u_18 hu_19) (va_cwS 3 hts gX10_often_X10_in rfl rfl rfl (by decide +kernel) ⟨Nat.le_of_ble_eq_true rfl, Nat.le_of_ble_eq_true rfl⟩) hP hD hS [] [0, 1, 2, 3] rfl rfl rfl rfl rfl (by decide) hl.1 rfl rfl (Nat.le_of_ble_eq_true rfl) ⟨Nat.zero_le _, Nat.zero_le _⟩ dX10_often_25 ?_
    intro H locs hP hD hS
    refine lv_if_ne (tgt := 34) hx hb dX10_often_28 (by decide) (fun c_20 => ?_) (fun c_20 => ?_)
    · have hF := it_n c_20 hF
      exact hJ34 u_3 _ _ _ hF (hP.sub [0, 1, 2, 3] rfl) (hD.sub [0, 1, 2, 3] rfl rfl) hS (lv_sub hl [1, 2, 3, 4, 0] rfl)
    · have hF := it_p c_20 hF
      refine lv_iconst (v := (2 : Int32)) hx hb dX10_often_31 (by decide) ?_
      refine lv_istore (lv' := [(4, .int (2 : Int32)), (0, .ref a_t), (1, .int x1), (2, .int x2), (3, .int x3)]) hx hb dX10_often_32 hl (by decide) rfl (fun ls hl => ?_)
      exact hJ34 (2 : Int32) _ _ _ hF (hP.sub [0, 1, 2, 3] rfl) (hD.sub [0, 1, 2, 3] rfl rfl) hS (lv_sub hl [1, 2, 3, 4, 0] rfl)

theorem dAX10_keeps : ∀ q ∈ ([(0, (.aload_n 0, 1)), (1, (.invokevirtual 159, 3)), (4, (.aload_n 0, 1)), (5, (.aload_n 0, 1)), (6, (.iload_n 1, 1)), (7, (.invokevirtual 300, 3)), (10, (.iload_n 2, 1)), (11, (.iload_n 3, 1)), (12, (.invokevirtual 381, 3)), (15, (.istore 4, 2)), (17, (.iload 4, 2)), (19, (.ifCond .eq 10, 3)), (22, (.aload_n 0, 1)), (23, (.iload 4, 2)), (25, (.invokevirtual 162, 3)), (28, (.ireturn, 1)), (29, (.aload_n 0, 1)), (30, (.iload_n 2, 1)), (31, (.putfield 283, 3)), (34, (.iconst 0, 1)), (35, (.istore 5, 2)), (37, (.iconst 0, 1)), (38, (.istore 6, 2)), (40, (.iload 6, 2)), (42, (.iload_n 3, 1)), (43, (.if_icmp .ge 37, 3)), (46, (.iload 5, 2)), (48, (.aload_n 0, 1)), (49, (.invokevirtual 385, 3)), (52, (.ifCond .lt 18, 3)), (55, (.aload_n 0, 1)), (56, (.getfield 287, 3)), (59, (.iload_n 1, 1)), (60, (.invokestatic 252, 3)), (63, (.ifCond .eq 7, 3)), (66, (.iconst 1, 1)), (67, (.goto 4, 3)), (70, (.iconst 0, 1)), (71, (.iadd, 1)), (72, (.istore 5, 2)), (74, (.iinc 6 1, 3)), (77, (.goto (-37), 3)), (80, (.iload 5, 2)), (82, (.ireturn, 1))] : List (Nat × (Instr × Nat))), decode cX10_keeps q.1 = .ok q.2 := by decide +kernel
theorem dX10_keeps_0 : decode cX10_keeps 0 = .ok (.aload_n 0, 1) := dAX10_keeps (0, (.aload_n 0, 1)) (List.mem_of_getElem? (i := 0) rfl)
theorem dX10_keeps_1 : decode cX10_keeps 1 = .ok (.invokevirtual 159, 3) := dAX10_keeps (1, (.invokevirtual 159, 3)) (List.mem_of_getElem? (i := 1) rfl)
theorem dX10_keeps_4 : decode cX10_keeps 4 = .ok (.aload_n 0, 1) := dAX10_keeps (4, (.aload_n 0, 1)) (List.mem_of_getElem? (i := 2) rfl)
theorem dX10_keeps_5 : decode cX10_keeps 5 = .ok (.aload_n 0, 1) := dAX10_keeps (5, (.aload_n 0, 1)) (List.mem_of_getElem? (i := 3) rfl)
theorem dX10_keeps_6 : decode cX10_keeps 6 = .ok (.iload_n 1, 1) := dAX10_keeps (6, (.iload_n 1, 1)) (List.mem_of_getElem? (i := 4) rfl)
theorem dX10_keeps_7 : decode cX10_keeps 7 = .ok (.invokevirtual 300, 3) := dAX10_keeps (7, (.invokevirtual 300, 3)) (List.mem_of_getElem? (i := 5) rfl)
theorem dX10_keeps_10 : decode cX10_keeps 10 = .ok (.iload_n 2, 1) := dAX10_keeps (10, (.iload_n 2, 1)) (List.mem_of_getElem? (i := 6) rfl)
theorem dX10_keeps_11 : decode cX10_keeps 11 = .ok (.iload_n 3, 1) := dAX10_keeps (11, (.iload_n 3, 1)) (List.mem_of_getElem? (i := 7) rfl)
theorem dX10_keeps_12 : decode cX10_keeps 12 = .ok (.invokevirtual 381, 3) := dAX10_keeps (12, (.invokevirtual 381, 3)) (List.mem_of_getElem? (i := 8) rfl)
theorem dX10_keeps_15 : decode cX10_keeps 15 = .ok (.istore 4, 2) := dAX10_keeps (15, (.istore 4, 2)) (List.mem_of_getElem? (i := 9) rfl)
theorem dX10_keeps_17 : decode cX10_keeps 17 = .ok (.iload 4, 2) := dAX10_keeps (17, (.iload 4, 2)) (List.mem_of_getElem? (i := 10) rfl)
theorem dX10_keeps_19 : decode cX10_keeps 19 = .ok (.ifCond .eq 10, 3) := dAX10_keeps (19, (.ifCond .eq 10, 3)) (List.mem_of_getElem? (i := 11) rfl)
theorem dX10_keeps_22 : decode cX10_keeps 22 = .ok (.aload_n 0, 1) := dAX10_keeps (22, (.aload_n 0, 1)) (List.mem_of_getElem? (i := 12) rfl)
theorem dX10_keeps_23 : decode cX10_keeps 23 = .ok (.iload 4, 2) := dAX10_keeps (23, (.iload 4, 2)) (List.mem_of_getElem? (i := 13) rfl)
theorem dX10_keeps_25 : decode cX10_keeps 25 = .ok (.invokevirtual 162, 3) := dAX10_keeps (25, (.invokevirtual 162, 3)) (List.mem_of_getElem? (i := 14) rfl)
theorem dX10_keeps_28 : decode cX10_keeps 28 = .ok (.ireturn, 1) := dAX10_keeps (28, (.ireturn, 1)) (List.mem_of_getElem? (i := 15) rfl)
theorem dX10_keeps_29 : decode cX10_keeps 29 = .ok (.aload_n 0, 1) := dAX10_keeps (29, (.aload_n 0, 1)) (List.mem_of_getElem? (i := 16) rfl)
theorem dX10_keeps_30 : decode cX10_keeps 30 = .ok (.iload_n 2, 1) := dAX10_keeps (30, (.iload_n 2, 1)) (List.mem_of_getElem? (i := 17) rfl)
theorem dX10_keeps_31 : decode cX10_keeps 31 = .ok (.putfield 283, 3) := dAX10_keeps (31, (.putfield 283, 3)) (List.mem_of_getElem? (i := 18) rfl)
theorem dX10_keeps_34 : decode cX10_keeps 34 = .ok (.iconst 0, 1) := dAX10_keeps (34, (.iconst 0, 1)) (List.mem_of_getElem? (i := 19) rfl)
theorem dX10_keeps_35 : decode cX10_keeps 35 = .ok (.istore 5, 2) := dAX10_keeps (35, (.istore 5, 2)) (List.mem_of_getElem? (i := 20) rfl)
theorem dX10_keeps_37 : decode cX10_keeps 37 = .ok (.iconst 0, 1) := dAX10_keeps (37, (.iconst 0, 1)) (List.mem_of_getElem? (i := 21) rfl)
theorem dX10_keeps_38 : decode cX10_keeps 38 = .ok (.istore 6, 2) := dAX10_keeps (38, (.istore 6, 2)) (List.mem_of_getElem? (i := 22) rfl)
theorem dX10_keeps_40 : decode cX10_keeps 40 = .ok (.iload 6, 2) := dAX10_keeps (40, (.iload 6, 2)) (List.mem_of_getElem? (i := 23) rfl)
theorem dX10_keeps_42 : decode cX10_keeps 42 = .ok (.iload_n 3, 1) := dAX10_keeps (42, (.iload_n 3, 1)) (List.mem_of_getElem? (i := 24) rfl)
theorem dX10_keeps_43 : decode cX10_keeps 43 = .ok (.if_icmp .ge 37, 3) := dAX10_keeps (43, (.if_icmp .ge 37, 3)) (List.mem_of_getElem? (i := 25) rfl)
theorem dX10_keeps_46 : decode cX10_keeps 46 = .ok (.iload 5, 2) := dAX10_keeps (46, (.iload 5, 2)) (List.mem_of_getElem? (i := 26) rfl)
theorem dX10_keeps_48 : decode cX10_keeps 48 = .ok (.aload_n 0, 1) := dAX10_keeps (48, (.aload_n 0, 1)) (List.mem_of_getElem? (i := 27) rfl)
theorem dX10_keeps_49 : decode cX10_keeps 49 = .ok (.invokevirtual 385, 3) := dAX10_keeps (49, (.invokevirtual 385, 3)) (List.mem_of_getElem? (i := 28) rfl)
theorem dX10_keeps_52 : decode cX10_keeps 52 = .ok (.ifCond .lt 18, 3) := dAX10_keeps (52, (.ifCond .lt 18, 3)) (List.mem_of_getElem? (i := 29) rfl)
theorem dX10_keeps_55 : decode cX10_keeps 55 = .ok (.aload_n 0, 1) := dAX10_keeps (55, (.aload_n 0, 1)) (List.mem_of_getElem? (i := 30) rfl)
theorem dX10_keeps_56 : decode cX10_keeps 56 = .ok (.getfield 287, 3) := dAX10_keeps (56, (.getfield 287, 3)) (List.mem_of_getElem? (i := 31) rfl)
theorem dX10_keeps_59 : decode cX10_keeps 59 = .ok (.iload_n 1, 1) := dAX10_keeps (59, (.iload_n 1, 1)) (List.mem_of_getElem? (i := 32) rfl)
theorem dX10_keeps_60 : decode cX10_keeps 60 = .ok (.invokestatic 252, 3) := dAX10_keeps (60, (.invokestatic 252, 3)) (List.mem_of_getElem? (i := 33) rfl)
theorem dX10_keeps_63 : decode cX10_keeps 63 = .ok (.ifCond .eq 7, 3) := dAX10_keeps (63, (.ifCond .eq 7, 3)) (List.mem_of_getElem? (i := 34) rfl)
theorem dX10_keeps_66 : decode cX10_keeps 66 = .ok (.iconst 1, 1) := dAX10_keeps (66, (.iconst 1, 1)) (List.mem_of_getElem? (i := 35) rfl)
theorem dX10_keeps_67 : decode cX10_keeps 67 = .ok (.goto 4, 3) := dAX10_keeps (67, (.goto 4, 3)) (List.mem_of_getElem? (i := 36) rfl)
theorem dX10_keeps_70 : decode cX10_keeps 70 = .ok (.iconst 0, 1) := dAX10_keeps (70, (.iconst 0, 1)) (List.mem_of_getElem? (i := 37) rfl)
theorem dX10_keeps_71 : decode cX10_keeps 71 = .ok (.iadd, 1) := dAX10_keeps (71, (.iadd, 1)) (List.mem_of_getElem? (i := 38) rfl)
theorem dX10_keeps_72 : decode cX10_keeps 72 = .ok (.istore 5, 2) := dAX10_keeps (72, (.istore 5, 2)) (List.mem_of_getElem? (i := 39) rfl)
theorem dX10_keeps_74 : decode cX10_keeps 74 = .ok (.iinc 6 1, 3) := dAX10_keeps (74, (.iinc 6 1, 3)) (List.mem_of_getElem? (i := 40) rfl)
theorem dX10_keeps_77 : decode cX10_keeps 77 = .ok (.goto (-37), 3) := dAX10_keeps (77, (.goto (-37), 3)) (List.mem_of_getElem? (i := 41) rfl)
theorem dX10_keeps_80 : decode cX10_keeps 80 = .ok (.iload 5, 2) := dAX10_keeps (80, (.iload 5, 2)) (List.mem_of_getElem? (i := 42) rfl)
theorem dX10_keeps_82 : decode cX10_keeps 82 = .ok (.ireturn, 1) := dAX10_keeps (82, (.ireturn, 1)) (List.mem_of_getElem? (i := 43) rfl)
set_option maxRecDepth 20000 in
theorem ggX10_keeps_X10_good : GoodIn wsX10_keeps wsX10_good := goodIn_r _ [7, 8, 9, 85, 86, 87, 88, 89, 90, 91, 92, 93, 94, 95, 96, 97, 98, 99, 100, 101, 102, 103, 104, 105, 106, 107, 108, 109, 110, 111, 112, 113, 114, 115, 116, 117, 118, 119] rfl (by decide +kernel)
set_option maxRecDepth 20000 in
theorem gX10_keeps_X10_good : GoodIn wsX10_keeps (wsV RX10 159 RX10 yX10_good wsX10_good) := goodIn_app (goodIn_of _ (by decide +kernel)) ggX10_keeps_X10_good
set_option maxRecDepth 20000 in
theorem ggX10_keeps_X10_isGuest : GoodIn wsX10_keeps wsX10_isGuest := goodIn_r _ [13, 14, 15, 16, 17, 6, 18, 85, 86, 87, 88, 89, 90, 91, 92, 93, 94, 95, 96, 97, 98, 99, 100, 101, 102, 103, 104, 105, 106, 107, 108, 109, 110, 111, 112, 113, 114, 115, 116, 117, 118, 119] rfl (by decide +kernel)
set_option maxRecDepth 20000 in
theorem gX10_keeps_X10_isGuest : GoodIn wsX10_keeps (wsV RX10 300 RX10 yX10_isGuest wsX10_isGuest) := goodIn_app (goodIn_of _ (by decide +kernel)) ggX10_keeps_X10_isGuest
set_option maxRecDepth 20000 in
theorem ggX10_keeps_X10_drawsWhy : GoodIn wsX10_keeps wsX10_drawsWhy := goodIn_r _ [22, 23, 16, 17, 6, 18] rfl (by decide +kernel)
set_option maxRecDepth 20000 in
theorem gX10_keeps_X10_drawsWhy : GoodIn wsX10_keeps (wsV RX10 381 RX10 yX10_drawsWhy wsX10_drawsWhy) := goodIn_app (goodIn_of _ (by decide +kernel)) ggX10_keeps_X10_drawsWhy
set_option maxRecDepth 20000 in
theorem ggX10_keeps_X10_no : GoodIn wsX10_keeps wsX10_no := goodIn_r _ [27, 9, 85, 86, 87, 88, 89, 90, 91, 92, 93, 94, 95, 96, 97, 98, 99, 100, 101, 102, 103, 104, 105, 106, 107, 108, 109, 110, 111, 112, 113, 114, 115, 116, 117, 118, 119] rfl (by decide +kernel)
set_option maxRecDepth 20000 in
theorem gX10_keeps_X10_no : GoodIn wsX10_keeps (wsV RX10 162 RX10 yX10_no wsX10_no) := goodIn_app (goodIn_of _ (by decide +kernel)) ggX10_keeps_X10_no
set_option maxRecDepth 20000 in
theorem ggX10_keeps_X10_endsDrawn : GoodIn wsX10_keeps wsX10_endsDrawn := goodIn_r _ [31, 32, 33, 34, 35, 6, 36, 37, 38, 39, 40, 2, 41, 42, 43, 44, 15, 45, 46, 47, 48, 49, 50, 51, 1, 52, 53, 54, 55, 56, 57, 58, 59, 60, 61, 62, 63, 64, 65, 66, 67, 68, 69, 70, 71, 72, 73, 74, 75, 76, 77, 78, 79, 80, 81, 82, 83, 84, 85, 86, 87, 88, 89, 90, 91, 92, 93, 94, 95, 96, 97, 98, 99, 100, 101, 102, 103, 104, 105, 106, 107, 108, 109, 110, 111, 112, 113, 114, 115, 116, 117, 118, 119] rfl (by decide +kernel)
set_option maxRecDepth 20000 in
theorem gX10_keeps_X10_endsDrawn : GoodIn wsX10_keeps (wsV RX10 385 RX10 yX10_endsDrawn wsX10_endsDrawn) := goodIn_app (goodIn_of _ (by decide +kernel)) ggX10_keeps_X10_endsDrawn
set_option maxRecDepth 20000 in
theorem ggX10_keeps_X10_hasBit : GoodIn wsX10_keeps wsX10_hasBit := goodIn_r _ [80] rfl (by decide +kernel)
set_option maxRecDepth 20000 in
theorem gX10_keeps_X10_hasBit : GoodIn wsX10_keeps (va_wsS RX10 252 yX10_hasBit wsX10_hasBit) := goodIn_app (goodIn_of _ (by decide +kernel)) ggX10_keeps_X10_hasBit
theorem kX10_keeps_283 : Cond.fieldLink RX10 283 "EveningVowModel" "seedNow" "I" ∈ wsX10_keeps := List.mem_of_getElem? (i := 1) rfl
theorem iX10_keeps_X10 : ∀ w ∈ u_ws RX10 TX10 35, w ∈ wsX10_keeps := fun w h => (List.mem_cons_of_mem _ (List.mem_append_right _ h))
theorem kX10_keeps_287 : Cond.fieldLink RX10 287 "EveningVowModel" "lastOnes" "I" ∈ wsX10_keeps := List.mem_of_getElem? (i := 2) rfl
set_option maxHeartbeats 4000000 in
set_option maxRecDepth 100000 in
theorem wX10_keeps_L40 {p : Program} {l : Launch} {e : Env} {s : State} {m : MethodId} {args : Array Value} {below : List Frame} {meth : Method} {c : Code} {g : GG} {A : Nat → Prop} (C0 : Cx p s m args meth c cX10_keeps 7 (some .int) RX10 wsX10_keeps g A) (a_t : Nat) (p_t : Nat → Nat) (n : Nat) (x1 : Int32) (x3 : Int32) (f_t_15 : Nat → Int32) (f_t_17 : Nat → Int32)  (r : Int32) (o_t' : Nat → Int32) (f_t_25' : Nat → Int32) (K : Int32 → (Nat → Int32) → (Nat → Int32) → Option (Int32 × (Nat → Int32) × (Nat → Int32))) (hKx : ∀ (x5 : Int32) (o_t : Nat → Int32) (f_t_25 : Nat → Int32) (H : Heap) (locs : List Loc) (ls : Array Slot), K x5 o_t f_t_25 = some (r, o_t', f_t_25') → va_P g.1 vwCl [oX10 a_t p_t o_t, aI g (p_t 15) 266 f_t_15, aI g (p_t 17) 17 f_t_17, aI g (p_t 25) 17 f_t_25] H → va_D A [oX10 a_t p_t o_t, aI g (p_t 15) 266 f_t_15, aI g (p_t 17) 17 f_t_17, aI g (p_t 25) 17 f_t_25] → va_S A s.heap H locs → lv_has ls 7 [(5, .int x5)] → W p l e ({ frames := 6, cells := 0, slots := 0, locals := 136 } : Room) s m args below meth c H locs 0 0 (MQ below (EndI g r [oX10 a_t p_t o_t', aI g (p_t 15) 266 f_t_15, aI g (p_t 17) 17 f_t_17, aI g (p_t 25) 17 f_t_25'] A) args s 0 0 A) (F0 m 80 ls [])) : ∀ (k : Nat) (x5 : Int32) (x6 : Int32) (o_t : Nat → Int32) (f_t_25 : Nat → Int32), fX10_keeps_L40 n x1 x3 f_t_15 f_t_17 K k x5 x6 o_t f_t_25 = some (r, o_t', f_t_25') → ∀ (H : Heap) (locs : List Loc) (ls : Array Slot), va_P g.1 vwCl [oX10 a_t p_t o_t, aI g (p_t 15) 266 f_t_15, aI g (p_t 17) 17 f_t_17, aI g (p_t 25) 17 f_t_25] H → va_D A [oX10 a_t p_t o_t, aI g (p_t 15) 266 f_t_15, aI g (p_t 17) 17 f_t_17, aI g (p_t 25) 17 f_t_25] → va_S A s.heap H locs → lv_has ls 7 [(0, .ref a_t), (1, .int x1), (3, .int x3), (5, .int x5), (6, .int x6)] → W p l e ({ frames := 6, cells := 0, slots := 0, locals := 136 } : Room) s m args below meth c H locs 0 0 (MQ below (EndI g r [oX10 a_t p_t o_t', aI g (p_t 15) 266 f_t_15, aI g (p_t 17) 17 f_t_17, aI g (p_t 25) 17 f_t_25'] A) args s 0 0 A) (F0 m 40 ls []) := by
  obtain ⟨hx, hb, hml, hown, hts, hr, hlk, hK, hA, hSW⟩ := id C0
  intro k
  induction k with
  | zero =>
    intro x5 x6 o_t f_t_25 hF
    exact absurd hF (by simp [fX10_keeps_L40])
  | succ k ih =>
    intro x5 x6 o_t f_t_25 hF H locs ls hP hD hS hl
    rw [fX10_keeps_L40] at hF
    refine lv_iload hx hb dX10_keeps_40 (lv_at hl 4 rfl) ?_
    refine lv_iload_n hx hb dX10_keeps_42 rfl (lv_at hl 2 rfl) ?_
    refine lv_icmp_ge (tgt := 80) hx hb dX10_keeps_43 (by decide) (fun c_8 => ?_) (fun c_8 => ?_)
    · have hF := it_p c_8 hF
      exact hKx x5 o_t f_t_25 _ _ _ hF (hP.sub [0, 1, 2, 3] rfl) (hD.sub [0, 1, 2, 3] rfl rfl) hS (lv_sub hl [3] rfl)
    · have hF := it_n c_8 hF
      refine lv_iload hx hb dX10_keeps_46 (lv_at hl 3 rfl) ?_
      refine lv_aload_n hx hb dX10_keeps_48 rfl (lv_at hl 0 rfl) ?_
      obtain ⟨u_9, u_10, u_11, hu_12, hF⟩ := ob3_some hF
      refine call_i (wr := []) (As := []) (rest := [.int x5]) (ci := 10) (q0 := 0) C0 (mX10_endsDrawn l g a_t p_t n o_t f_t_15 f_t_17 f_t_25 u_9 u_10 u_11 hu_12) (cwV 0 hts gX10_keeps_X10_endsDrawn rfl rfl rfl (by decide +kernel) ⟨Nat.le_of_ble_eq_true rfl, Nat.le_of_ble_eq_true rfl⟩) hP hD hS [0, 1, 2, 3] [] rfl rfl rfl rfl rfl (by decide) rfl rfl hl.1 rfl rfl (Nat.le_of_ble_eq_true rfl) ⟨Nat.zero_le _, Nat.zero_le _⟩ dX10_keeps_49 ?_
      intro H locs hP hD hS
      refine lv_if_lt (tgt := 70) hx hb dX10_keeps_52 (by decide) (fun c_13 => ?_) (fun c_13 => ?_)
      · have hF := it_p c_13 hF
        refine lv_iconst (v := (0 : Int32)) hx hb dX10_keeps_70 (by decide) ?_
        refine lv_iadd hx hb dX10_keeps_71 ?_
        refine lv_istore (lv' := [(5, .int (x5 + (0 : Int32))), (0, .ref a_t), (1, .int x1), (3, .int x3), (6, .int x6)]) hx hb dX10_keeps_72 hl (by decide) rfl (fun ls hl => ?_)
        refine lv_iinc (v := (x6 + (1 : Int32))) (lv' := [(6, .int (x6 + (1 : Int32))), (5, .int (x5 + (0 : Int32))), (0, .ref a_t), (1, .int x1), (3, .int x3)]) hx hb dX10_keeps_74 hl (k := 4) rfl rfl (by decide) rfl (fun ls hl => ?_)
        refine lv_goto (tgt := 40) hx hb dX10_keeps_77 (by decide) ?_
        exact ih (x5 + (0 : Int32)) (x6 + (1 : Int32)) u_10 u_11 hF _ _ _ (hP.sub [0, 1, 2, 3] rfl) (hD.sub [0, 1, 2, 3] rfl rfl) hS (lv_sub hl [2, 3, 4, 1, 0] rfl)
      · have hF := it_n c_13 hF
        refine lv_aload_n hx hb dX10_keeps_55 rfl (lv_at hl 0 rfl) ?_
        refine va_get (D := g.1) (ci := 10) (v := .int (u_10 24)) (C := RX10) (T := TX10) (N := 35) hx hb hts iX10_keeps_X10 hown hK.1 hP 0 rfl rfl 24 (by decide) (hts _ kX10_keeps_287) (fun _ h9 => h9) rfl dX10_keeps_56 ?_
        refine lv_iload_n hx hb dX10_keeps_59 rfl (lv_at hl 1 rfl) ?_
        obtain ⟨u_14, hu_15, hF⟩ := ob1_some hF
        refine call_si (wr := [oX10 a_t p_t u_10, aI g (p_t 15) 266 f_t_15, aI g (p_t 17) 17 f_t_17, aI g (p_t 25) 17 u_11]) (As := [.int (u_10 24), .int x1]) (rest := [.int x5]) C0 (mX10_hasBit l g n (u_10 24) x1 u_14 hu_15) (va_cwS 2 hts gX10_keeps_X10_hasBit rfl rfl rfl (by decide +kernel) ⟨Nat.le_of_ble_eq_true rfl, Nat.le_of_ble_eq_true rfl⟩) hP hD hS [] [0, 1, 2, 3] rfl rfl rfl rfl rfl (by decide) hl.1 rfl rfl (Nat.le_of_ble_eq_true rfl) ⟨Nat.zero_le _, Nat.zero_le _⟩ dX10_keeps_60 ?_
        intro H locs hP hD hS
        refine lv_if_eq (tgt := 70) hx hb dX10_keeps_63 (by decide) (fun c_16 => ?_) (fun c_16 => ?_)
        · have hF := it_p c_16 hF
          refine lv_iconst (v := (0 : Int32)) hx hb dX10_keeps_70 (by decide) ?_
          refine lv_iadd hx hb dX10_keeps_71 ?_
          refine lv_istore (lv' := [(5, .int (x5 + (0 : Int32))), (0, .ref a_t), (1, .int x1), (3, .int x3), (6, .int x6)]) hx hb dX10_keeps_72 hl (by decide) rfl (fun ls hl => ?_)
          refine lv_iinc (v := (x6 + (1 : Int32))) (lv' := [(6, .int (x6 + (1 : Int32))), (5, .int (x5 + (0 : Int32))), (0, .ref a_t), (1, .int x1), (3, .int x3)]) hx hb dX10_keeps_74 hl (k := 4) rfl rfl (by decide) rfl (fun ls hl => ?_)
          refine lv_goto (tgt := 40) hx hb dX10_keeps_77 (by decide) ?_
          exact ih (x5 + (0 : Int32)) (x6 + (1 : Int32)) u_10 u_11 hF _ _ _ (hP.sub [0, 1, 2, 3] rfl) (hD.sub [0, 1, 2, 3] rfl rfl) hS (lv_sub hl [2, 3, 4, 1, 0] rfl)
        · have hF := it_n c_16 hF
          refine lv_iconst (v := (1 : Int32)) hx hb dX10_keeps_66 (by decide) ?_
          refine lv_goto (tgt := 71) hx hb dX10_keeps_67 (by decide) ?_
          refine lv_iadd hx hb dX10_keeps_71 ?_
          refine lv_istore (lv' := [(5, .int (x5 + (1 : Int32))), (0, .ref a_t), (1, .int x1), (3, .int x3), (6, .int x6)]) hx hb dX10_keeps_72 hl (by decide) rfl (fun ls hl => ?_)
          refine lv_iinc (v := (x6 + (1 : Int32))) (lv' := [(6, .int (x6 + (1 : Int32))), (5, .int (x5 + (1 : Int32))), (0, .ref a_t), (1, .int x1), (3, .int x3)]) hx hb dX10_keeps_74 hl (k := 4) rfl rfl (by decide) rfl (fun ls hl => ?_)
          refine lv_goto (tgt := 40) hx hb dX10_keeps_77 (by decide) ?_
          exact ih (x5 + (1 : Int32)) (x6 + (1 : Int32)) u_10 u_11 hF _ _ _ (hP.sub [0, 1, 2, 3] rfl) (hD.sub [0, 1, 2, 3] rfl rfl) hS (lv_sub hl [2, 3, 4, 1, 0] rfl)
set_option maxHeartbeats 4000000 in
set_option maxRecDepth 100000 in
theorem mX10_keeps (l : Launch) (g : GG) (a_t : Nat) (p_t : Nat → Nat) (n : Nat) (x1 : Int32) (x2 : Int32) (x3 : Int32) (o_t : Nat → Int32) (f_t_15 : Nat → Int32) (f_t_17 : Nat → Int32) (f_t_25 : Nat → Int32) (r : Int32) (o_t' : Nat → Int32) (f_t_25' : Nat → Int32) (hF : fX10_keeps n x1 x2 x3 o_t f_t_15 f_t_17 f_t_25 = some (r, o_t', f_t_25')) : MI l g yX10_keeps wsX10_keeps ({ frames := 6, cells := 0, slots := 0, locals := 136 } : Room) [.ref a_t, .int x1, .int x2, .int x3] [oX10 a_t p_t o_t, aI g (p_t 15) 266 f_t_15, aI g (p_t 17) 17 f_t_17, aI g (p_t 25) 17 f_t_25] r [oX10 a_t p_t o_t', aI g (p_t 15) 266 f_t_15, aI g (p_t 17) 17 f_t_17, aI g (p_t 25) 17 f_t_25'] := by
  refine MI.of (cc := cX10_keeps) (maxL := 7) (rt := .int) (own := RX10) rfl rfl (by decide) (Nat.le_of_ble_eq_true rfl) ?_
  intro p e s m args below meth c A C0 hP hD hS ls hl
  obtain ⟨hx, hb, hml, hown, hts, hr, hlk, hK, hA, hSW⟩ := id C0
  have hl : lv_has ls 7 [(0, .ref a_t), (1, .int x1), (2, .int x2), (3, .int x3)] := hl
  rw [fX10_keeps] at hF
  refine lv_aload_n hx hb dX10_keeps_0 rfl (lv_at hl 0 rfl) ?_
  obtain ⟨u_1, hu_2, hF⟩ := ob1_some hF
  refine call_v (wr := [aI g (p_t 15) 266 f_t_15, aI g (p_t 17) 17 f_t_17, aI g (p_t 25) 17 f_t_25]) (As := []) (rest := []) (ci := 10) (q0 := 0) C0 (mX10_good l g a_t p_t n o_t u_1 hu_2) (cwV 0 hts gX10_keeps_X10_good rfl rfl rfl (by decide +kernel) ⟨Nat.le_of_ble_eq_true rfl, Nat.le_of_ble_eq_true rfl⟩) hP hD hS [0] [1, 2, 3] rfl rfl rfl rfl rfl (by decide) rfl rfl hl.1 rfl rfl (Nat.le_of_ble_eq_true rfl) ⟨Nat.zero_le _, Nat.zero_le _⟩ dX10_keeps_1 ?_
  intro H locs hP hD hS
  refine lv_aload_n hx hb dX10_keeps_4 rfl (lv_at hl 0 rfl) ?_
  refine lv_aload_n hx hb dX10_keeps_5 rfl (lv_at hl 0 rfl) ?_
  refine lv_iload_n hx hb dX10_keeps_6 rfl (lv_at hl 1 rfl) ?_
  obtain ⟨u_3, hu_4, hF⟩ := ob1_some hF
  refine call_i (wr := [aI g (p_t 17) 17 f_t_17, aI g (p_t 25) 17 f_t_25]) (As := [.int x1]) (rest := [.ref a_t]) (ci := 10) (q0 := 0) C0 (mX10_isGuest l g a_t p_t n x1 u_1 f_t_15 u_3 hu_4) (cwV 1 hts gX10_keeps_X10_isGuest rfl rfl rfl (by decide +kernel) ⟨Nat.le_of_ble_eq_true rfl, Nat.le_of_ble_eq_true rfl⟩) hP hD hS [3, 0] [1, 2] rfl rfl rfl rfl rfl (by decide) rfl rfl hl.1 rfl rfl (Nat.le_of_ble_eq_true rfl) ⟨Nat.zero_le _, Nat.zero_le _⟩ dX10_keeps_7 ?_
  intro H locs hP hD hS
  refine lv_iload_n hx hb dX10_keeps_10 rfl (lv_at hl 2 rfl) ?_
  refine lv_iload_n hx hb dX10_keeps_11 rfl (lv_at hl 3 rfl) ?_
  obtain ⟨u_5, hu_6, hF⟩ := ob1_some hF
  refine call_i (wr := [aI g (p_t 17) 17 f_t_17, aI g (p_t 25) 17 f_t_25, aI g (p_t 15) 266 f_t_15]) (As := [.int u_3, .int x2, .int x3]) (rest := []) (ci := 10) (q0 := 0) C0 (mX10_drawsWhy l g a_t p_t n u_3 x2 x3 u_1 u_5 hu_6) (cwV 3 hts gX10_keeps_X10_drawsWhy rfl rfl rfl (by decide +kernel) ⟨Nat.le_of_ble_eq_true rfl, Nat.le_of_ble_eq_true rfl⟩) hP hD hS [2] [0, 1, 3] rfl rfl rfl rfl rfl (by decide) rfl rfl hl.1 rfl rfl (Nat.le_of_ble_eq_true rfl) ⟨Nat.zero_le _, Nat.zero_le _⟩ dX10_keeps_12 ?_
  intro H locs hP hD hS
  refine lv_istore (lv' := [(4, .int u_5), (0, .ref a_t), (1, .int x1), (2, .int x2), (3, .int x3)]) hx hb dX10_keeps_15 hl (by decide) rfl (fun ls hl => ?_)
  refine lv_iload hx hb dX10_keeps_17 (lv_at hl 0 rfl) ?_
  refine lv_if_eq (tgt := 29) hx hb dX10_keeps_19 (by decide) (fun c_7 => ?_) (fun c_7 => ?_)
  · have hF := it_p c_7 hF
    refine lv_aload_n hx hb dX10_keeps_29 rfl (lv_at hl 1 rfl) ?_
    refine lv_iload_n hx hb dX10_keeps_30 rfl (lv_at hl 3 rfl) ?_
    refine va_put (D := g.1) (ci := 10) (v := .int x2) (ty := .int) (C := RX10) (T := TX10) (N := 35) hx hb hts iX10_keeps_X10 tyX10 tyX10_ok nmX10 hown hK.1 hP hD hS 3 rfl rfl 23 (by decide) (hts _ kX10_keeps_283) (fun _ h9 => h9) rfl (by decide +kernel) rfl rfl (Nat.le_of_ble_eq_true rfl) dX10_keeps_31 (fun H locs hP hD hS => ?_)
    have hP : va_P g.1 vwCl [aI g (p_t 17) 17 f_t_17, aI g (p_t 25) 17 f_t_25, aI g (p_t 15) 266 f_t_15, oX10 a_t p_t (upd u_1 23 x2)] H := hP
    have hD : va_D A [aI g (p_t 17) 17 f_t_17, aI g (p_t 25) 17 f_t_25, aI g (p_t 15) 266 f_t_15, oX10 a_t p_t (upd u_1 23 x2)] := hD
    refine lv_iconst (v := (0 : Int32)) hx hb dX10_keeps_34 (by decide) ?_
    refine lv_istore (lv' := [(5, .int (0 : Int32)), (4, .int u_5), (0, .ref a_t), (1, .int x1), (2, .int x2), (3, .int x3)]) hx hb dX10_keeps_35 hl (by decide) rfl (fun ls hl => ?_)
    refine lv_iconst (v := (0 : Int32)) hx hb dX10_keeps_37 (by decide) ?_
    refine lv_istore (lv' := [(6, .int (0 : Int32)), (5, .int (0 : Int32)), (4, .int u_5), (0, .ref a_t), (1, .int x1), (2, .int x2), (3, .int x3)]) hx hb dX10_keeps_38 hl (by decide) rfl (fun ls hl => ?_)
    refine wX10_keeps_L40 C0 a_t p_t n x1 x3 f_t_15 f_t_17 r o_t' f_t_25' _ ?_ n (0 : Int32) (0 : Int32) (upd u_1 23 x2) f_t_25 hF _ _ _ (hP.sub [3, 2, 0, 1] rfl) (hD.sub [3, 2, 0, 1] rfl rfl) hS (lv_sub hl [3, 4, 6, 1, 0] rfl)
    · intro x5_x40 o_t_x40 f_t_25_x40 H locs ls hF hP hD hS hl
      refine lv_iload hx hb dX10_keeps_80 (lv_at hl 0 rfl) ?_
      cases hF
      exact ret_i C0 hP hD hS [0, 1, 2, 3] rfl rfl rfl dX10_keeps_82 rfl
  · have hF := it_n c_7 hF
    refine lv_aload_n hx hb dX10_keeps_22 rfl (lv_at hl 1 rfl) ?_
    refine lv_iload hx hb dX10_keeps_23 (lv_at hl 0 rfl) ?_
    obtain ⟨u_17, u_18, hu_19, hF⟩ := ob2_some hF
    refine call_i (wr := [aI g (p_t 17) 17 f_t_17, aI g (p_t 25) 17 f_t_25, aI g (p_t 15) 266 f_t_15]) (As := [.int u_5]) (rest := []) (ci := 10) (q0 := 0) C0 (mX10_no l g a_t p_t n u_5 u_1 u_17 u_18 hu_19) (cwV 1 hts gX10_keeps_X10_no rfl rfl rfl (by decide +kernel) ⟨Nat.le_of_ble_eq_true rfl, Nat.le_of_ble_eq_true rfl⟩) hP hD hS [3] [0, 1, 2] rfl rfl rfl rfl rfl (by decide) rfl rfl hl.1 rfl rfl (Nat.le_of_ble_eq_true rfl) ⟨Nat.zero_le _, Nat.zero_le _⟩ dX10_keeps_25 ?_
    intro H locs hP hD hS
    cases hF
    exact ret_i C0 hP hD hS [3, 2, 0, 1] rfl rfl rfl dX10_keeps_28 rfl

theorem dAX10_note : ∀ q ∈ ([(0, (.aload_n 0, 1)), (1, (.getfield 179, 3)), (4, (.bipush 16, 2)), (6, (.if_icmp .ne 43, 3)), (9, (.iconst 0, 1)), (10, (.istore_n 1, 1)), (11, (.iload_n 1, 1)), (12, (.sipush 255, 3)), (15, (.if_icmp .ge 24, 3)), (18, (.aload_n 0, 1)), (19, (.getfield 29, 3)), (22, (.iload_n 1, 1)), (23, (.aload_n 0, 1)), (24, (.getfield 29, 3)), (27, (.iload_n 1, 1)), (28, (.bipush 17, 2)), (30, (.iadd, 1)), (31, (.iaload, 1)), (32, (.iastore, 1)), (33, (.iinc 1 1, 3)), (36, (.goto (-25), 3)), (39, (.aload_n 0, 1)), (40, (.dup, 1)), (41, (.getfield 179, 3)), (44, (.iconst 1, 1)), (45, (.isub, 1)), (46, (.putfield 179, 3)), (49, (.aload_n 0, 1)), (50, (.getfield 26, 3)), (53, (.iconst 0, 1)), (54, (.aload_n 0, 1)), (55, (.getfield 29, 3)), (58, (.bipush 17, 2)), (60, (.aload_n 0, 1)), (61, (.getfield 179, 3)), (64, (.imul, 1)), (65, (.bipush 17, 2)), (67, (.invokestatic 168, 3)), (70, (.aload_n 0, 1)), (71, (.dup, 1)), (72, (.getfield 179, 3)), (75, (.iconst 1, 1)), (76, (.iadd, 1)), (77, (.putfield 179, 3)), (80, (.return_, 1))] : List (Nat × (Instr × Nat))), decode cX10_note q.1 = .ok q.2 := by decide +kernel
theorem dX10_note_0 : decode cX10_note 0 = .ok (.aload_n 0, 1) := dAX10_note (0, (.aload_n 0, 1)) (List.mem_of_getElem? (i := 0) rfl)
theorem dX10_note_1 : decode cX10_note 1 = .ok (.getfield 179, 3) := dAX10_note (1, (.getfield 179, 3)) (List.mem_of_getElem? (i := 1) rfl)
theorem dX10_note_4 : decode cX10_note 4 = .ok (.bipush 16, 2) := dAX10_note (4, (.bipush 16, 2)) (List.mem_of_getElem? (i := 2) rfl)
theorem dX10_note_6 : decode cX10_note 6 = .ok (.if_icmp .ne 43, 3) := dAX10_note (6, (.if_icmp .ne 43, 3)) (List.mem_of_getElem? (i := 3) rfl)
theorem dX10_note_9 : decode cX10_note 9 = .ok (.iconst 0, 1) := dAX10_note (9, (.iconst 0, 1)) (List.mem_of_getElem? (i := 4) rfl)
theorem dX10_note_10 : decode cX10_note 10 = .ok (.istore_n 1, 1) := dAX10_note (10, (.istore_n 1, 1)) (List.mem_of_getElem? (i := 5) rfl)
theorem dX10_note_11 : decode cX10_note 11 = .ok (.iload_n 1, 1) := dAX10_note (11, (.iload_n 1, 1)) (List.mem_of_getElem? (i := 6) rfl)
theorem dX10_note_12 : decode cX10_note 12 = .ok (.sipush 255, 3) := dAX10_note (12, (.sipush 255, 3)) (List.mem_of_getElem? (i := 7) rfl)
theorem dX10_note_15 : decode cX10_note 15 = .ok (.if_icmp .ge 24, 3) := dAX10_note (15, (.if_icmp .ge 24, 3)) (List.mem_of_getElem? (i := 8) rfl)
theorem dX10_note_18 : decode cX10_note 18 = .ok (.aload_n 0, 1) := dAX10_note (18, (.aload_n 0, 1)) (List.mem_of_getElem? (i := 9) rfl)
theorem dX10_note_19 : decode cX10_note 19 = .ok (.getfield 29, 3) := dAX10_note (19, (.getfield 29, 3)) (List.mem_of_getElem? (i := 10) rfl)
theorem dX10_note_22 : decode cX10_note 22 = .ok (.iload_n 1, 1) := dAX10_note (22, (.iload_n 1, 1)) (List.mem_of_getElem? (i := 11) rfl)
theorem dX10_note_23 : decode cX10_note 23 = .ok (.aload_n 0, 1) := dAX10_note (23, (.aload_n 0, 1)) (List.mem_of_getElem? (i := 12) rfl)
theorem dX10_note_24 : decode cX10_note 24 = .ok (.getfield 29, 3) := dAX10_note (24, (.getfield 29, 3)) (List.mem_of_getElem? (i := 13) rfl)
theorem dX10_note_27 : decode cX10_note 27 = .ok (.iload_n 1, 1) := dAX10_note (27, (.iload_n 1, 1)) (List.mem_of_getElem? (i := 14) rfl)
theorem dX10_note_28 : decode cX10_note 28 = .ok (.bipush 17, 2) := dAX10_note (28, (.bipush 17, 2)) (List.mem_of_getElem? (i := 15) rfl)
theorem dX10_note_30 : decode cX10_note 30 = .ok (.iadd, 1) := dAX10_note (30, (.iadd, 1)) (List.mem_of_getElem? (i := 16) rfl)
theorem dX10_note_31 : decode cX10_note 31 = .ok (.iaload, 1) := dAX10_note (31, (.iaload, 1)) (List.mem_of_getElem? (i := 17) rfl)
theorem dX10_note_32 : decode cX10_note 32 = .ok (.iastore, 1) := dAX10_note (32, (.iastore, 1)) (List.mem_of_getElem? (i := 18) rfl)
theorem dX10_note_33 : decode cX10_note 33 = .ok (.iinc 1 1, 3) := dAX10_note (33, (.iinc 1 1, 3)) (List.mem_of_getElem? (i := 19) rfl)
theorem dX10_note_36 : decode cX10_note 36 = .ok (.goto (-25), 3) := dAX10_note (36, (.goto (-25), 3)) (List.mem_of_getElem? (i := 20) rfl)
theorem dX10_note_39 : decode cX10_note 39 = .ok (.aload_n 0, 1) := dAX10_note (39, (.aload_n 0, 1)) (List.mem_of_getElem? (i := 21) rfl)
theorem dX10_note_40 : decode cX10_note 40 = .ok (.dup, 1) := dAX10_note (40, (.dup, 1)) (List.mem_of_getElem? (i := 22) rfl)
theorem dX10_note_41 : decode cX10_note 41 = .ok (.getfield 179, 3) := dAX10_note (41, (.getfield 179, 3)) (List.mem_of_getElem? (i := 23) rfl)
theorem dX10_note_44 : decode cX10_note 44 = .ok (.iconst 1, 1) := dAX10_note (44, (.iconst 1, 1)) (List.mem_of_getElem? (i := 24) rfl)
theorem dX10_note_45 : decode cX10_note 45 = .ok (.isub, 1) := dAX10_note (45, (.isub, 1)) (List.mem_of_getElem? (i := 25) rfl)
theorem dX10_note_46 : decode cX10_note 46 = .ok (.putfield 179, 3) := dAX10_note (46, (.putfield 179, 3)) (List.mem_of_getElem? (i := 26) rfl)
theorem dX10_note_49 : decode cX10_note 49 = .ok (.aload_n 0, 1) := dAX10_note (49, (.aload_n 0, 1)) (List.mem_of_getElem? (i := 27) rfl)
theorem dX10_note_50 : decode cX10_note 50 = .ok (.getfield 26, 3) := dAX10_note (50, (.getfield 26, 3)) (List.mem_of_getElem? (i := 28) rfl)
theorem dX10_note_53 : decode cX10_note 53 = .ok (.iconst 0, 1) := dAX10_note (53, (.iconst 0, 1)) (List.mem_of_getElem? (i := 29) rfl)
theorem dX10_note_54 : decode cX10_note 54 = .ok (.aload_n 0, 1) := dAX10_note (54, (.aload_n 0, 1)) (List.mem_of_getElem? (i := 30) rfl)
theorem dX10_note_55 : decode cX10_note 55 = .ok (.getfield 29, 3) := dAX10_note (55, (.getfield 29, 3)) (List.mem_of_getElem? (i := 31) rfl)
theorem dX10_note_58 : decode cX10_note 58 = .ok (.bipush 17, 2) := dAX10_note (58, (.bipush 17, 2)) (List.mem_of_getElem? (i := 32) rfl)
theorem dX10_note_60 : decode cX10_note 60 = .ok (.aload_n 0, 1) := dAX10_note (60, (.aload_n 0, 1)) (List.mem_of_getElem? (i := 33) rfl)
theorem dX10_note_61 : decode cX10_note 61 = .ok (.getfield 179, 3) := dAX10_note (61, (.getfield 179, 3)) (List.mem_of_getElem? (i := 34) rfl)
theorem dX10_note_64 : decode cX10_note 64 = .ok (.imul, 1) := dAX10_note (64, (.imul, 1)) (List.mem_of_getElem? (i := 35) rfl)
theorem dX10_note_65 : decode cX10_note 65 = .ok (.bipush 17, 2) := dAX10_note (65, (.bipush 17, 2)) (List.mem_of_getElem? (i := 36) rfl)
theorem dX10_note_67 : decode cX10_note 67 = .ok (.invokestatic 168, 3) := dAX10_note (67, (.invokestatic 168, 3)) (List.mem_of_getElem? (i := 37) rfl)
theorem dX10_note_70 : decode cX10_note 70 = .ok (.aload_n 0, 1) := dAX10_note (70, (.aload_n 0, 1)) (List.mem_of_getElem? (i := 38) rfl)
theorem dX10_note_71 : decode cX10_note 71 = .ok (.dup, 1) := dAX10_note (71, (.dup, 1)) (List.mem_of_getElem? (i := 39) rfl)
theorem dX10_note_72 : decode cX10_note 72 = .ok (.getfield 179, 3) := dAX10_note (72, (.getfield 179, 3)) (List.mem_of_getElem? (i := 40) rfl)
theorem dX10_note_75 : decode cX10_note 75 = .ok (.iconst 1, 1) := dAX10_note (75, (.iconst 1, 1)) (List.mem_of_getElem? (i := 41) rfl)
theorem dX10_note_76 : decode cX10_note 76 = .ok (.iadd, 1) := dAX10_note (76, (.iadd, 1)) (List.mem_of_getElem? (i := 42) rfl)
theorem dX10_note_77 : decode cX10_note 77 = .ok (.putfield 179, 3) := dAX10_note (77, (.putfield 179, 3)) (List.mem_of_getElem? (i := 43) rfl)
theorem dX10_note_80 : decode cX10_note 80 = .ok (.return_, 1) := dAX10_note (80, (.return_, 1)) (List.mem_of_getElem? (i := 44) rfl)
set_option maxRecDepth 20000 in
theorem ggX10_note_X10_copy : GoodIn wsX10_note wsX10_copy := goodIn_r _ [7] rfl (by decide +kernel)
set_option maxRecDepth 20000 in
theorem gX10_note_X10_copy : GoodIn wsX10_note (va_wsS RX10 168 yX10_copy wsX10_copy) := goodIn_app (goodIn_of _ (by decide +kernel)) ggX10_note_X10_copy
theorem kX10_note_179 : Cond.fieldLink RX10 179 "EveningVowModel" "undos" "I" ∈ wsX10_note := List.mem_of_getElem? (i := 1) rfl
theorem iX10_note_X10 : ∀ w ∈ u_ws RX10 TX10 35, w ∈ wsX10_note := fun w h => (List.mem_cons_of_mem _ (List.mem_append_right _ h))
theorem kX10_note_26 : Cond.fieldLink RX10 26 "EveningVowModel" "st" "[I" ∈ wsX10_note := List.mem_of_getElem? (i := 3) rfl
theorem kX10_note_29 : Cond.fieldLink RX10 29 "EveningVowModel" "undone" "[I" ∈ wsX10_note := List.mem_of_getElem? (i := 2) rfl
set_option maxHeartbeats 4000000 in
set_option maxRecDepth 100000 in
theorem wX10_note_L11 {p : Program} {l : Launch} {e : Env} {s : State} {m : MethodId} {args : Array Value} {below : List Frame} {meth : Method} {c : Code} {g : GG} {A : Nat → Prop} (C0 : Cx p s m args meth c cX10_note 2 none RX10 wsX10_note g A) (a_t : Nat) (p_t : Nat → Nat) (n : Nat) (o_t : Nat → Int32) (f_t_17 : Nat → Int32) (o_t' : Nat → Int32) (f_t_18' : Nat → Int32) (K : (Nat → Int32) → Option ((Nat → Int32) × (Nat → Int32))) (hKx : ∀ (f_t_18 : Nat → Int32) (H : Heap) (locs : List Loc) (ls : Array Slot), K f_t_18 = some (o_t', f_t_18') → va_P g.1 vwCl [oX10 a_t p_t o_t, aI g (p_t 17) 17 f_t_17, aI g (p_t 18) 272 f_t_18] H → va_D A [oX10 a_t p_t o_t, aI g (p_t 17) 17 f_t_17, aI g (p_t 18) 272 f_t_18] → va_S A s.heap H locs → lv_has ls 2 [(0, .ref a_t)] → W p l e ({ frames := 1, cells := 0, slots := 0, locals := 25 } : Room) s m args below meth c H locs 0 0 (MQ below (EndV g [oX10 a_t p_t o_t', aI g (p_t 17) 17 f_t_17, aI g (p_t 18) 272 f_t_18'] A) args s 0 0 A) (F0 m 39 ls [])) : ∀ (k : Nat) (x1 : Int32) (f_t_18 : Nat → Int32), fX10_note_L11 n o_t K k x1 f_t_18 = some (o_t', f_t_18') → ∀ (H : Heap) (locs : List Loc) (ls : Array Slot), va_P g.1 vwCl [oX10 a_t p_t o_t, aI g (p_t 17) 17 f_t_17, aI g (p_t 18) 272 f_t_18] H → va_D A [oX10 a_t p_t o_t, aI g (p_t 17) 17 f_t_17, aI g (p_t 18) 272 f_t_18] → va_S A s.heap H locs → lv_has ls 2 [(0, .ref a_t), (1, .int x1)] → W p l e ({ frames := 1, cells := 0, slots := 0, locals := 25 } : Room) s m args below meth c H locs 0 0 (MQ below (EndV g [oX10 a_t p_t o_t', aI g (p_t 17) 17 f_t_17, aI g (p_t 18) 272 f_t_18'] A) args s 0 0 A) (F0 m 11 ls []) := by
  obtain ⟨hx, hb, hml, hown, hts, hr, hlk, hK, hA, hSW⟩ := id C0
  intro k
  induction k with
  | zero =>
    intro x1 f_t_18 hF
    exact absurd hF (by simp [fX10_note_L11])
  | succ k ih =>
    intro x1 f_t_18 hF H locs ls hP hD hS hl
    rw [fX10_note_L11] at hF
    refine lv_iload_n hx hb dX10_note_11 rfl (lv_at hl 1 rfl) ?_
    refine lv_sipush (v := (255 : Int32)) hx hb dX10_note_12 (by decide) ?_
    refine lv_icmp_ge (tgt := 39) hx hb dX10_note_15 (by decide) (fun c_4 => ?_) (fun c_4 => ?_)
    · have hF := it_p c_4 hF
      exact hKx f_t_18 _ _ _ hF (hP.sub [0, 1, 2] rfl) (hD.sub [0, 1, 2] rfl rfl) hS (lv_sub hl [0] rfl)
    · have hF := it_n c_4 hF
      refine lv_aload_n hx hb dX10_note_18 rfl (lv_at hl 0 rfl) ?_
      refine va_get (D := g.1) (ci := 10) (v := .ref (p_t 18)) (C := RX10) (T := TX10) (N := 35) hx hb hts iX10_note_X10 hown hK.1 hP 0 rfl rfl 18 (by decide) (hts _ kX10_note_29) (fun _ h9 => h9) rfl dX10_note_19 ?_
      refine lv_iload_n hx hb dX10_note_22 rfl (lv_at hl 1 rfl) ?_
      refine lv_aload_n hx hb dX10_note_23 rfl (lv_at hl 0 rfl) ?_
      refine va_get (D := g.1) (ci := 10) (v := .ref (p_t 18)) (C := RX10) (T := TX10) (N := 35) hx hb hts iX10_note_X10 hown hK.1 hP 0 rfl rfl 18 (by decide) (hts _ kX10_note_29) (fun _ h9 => h9) rfl dX10_note_24 ?_
      refine lv_iload_n hx hb dX10_note_27 rfl (lv_at hl 1 rfl) ?_
      refine lv_bipush (v := (17 : Int32)) hx hb dX10_note_28 (by decide) ?_
      refine lv_iadd hx hb dX10_note_30 ?_
      obtain ⟨h_5, hF⟩ := it_ck hF
      refine va_iald hx hb hK.1 hP 2 0 rfl rfl h_5 dX10_note_31 ?_
      obtain ⟨h_6, hF⟩ := it_ck hF
      refine va_iast hx hb hK.1 hP hD hS 2 0 rfl rfl h_6 dX10_note_32 (fun H locs hP hD hS => ?_)
      have hP : va_P g.1 vwCl [oX10 a_t p_t o_t, aI g (p_t 17) 17 f_t_17, aI g (p_t 18) 272 (upd f_t_18 (x1).toNatClampNeg (f_t_18 ((x1 + (17 : Int32))).toNatClampNeg))] H := hP
      have hD : va_D A [oX10 a_t p_t o_t, aI g (p_t 17) 17 f_t_17, aI g (p_t 18) 272 (upd f_t_18 (x1).toNatClampNeg (f_t_18 ((x1 + (17 : Int32))).toNatClampNeg))] := hD
      refine lv_iinc (v := (x1 + (1 : Int32))) (lv' := [(1, .int (x1 + (1 : Int32))), (0, .ref a_t)]) hx hb dX10_note_33 hl (k := 1) rfl rfl (by decide) rfl (fun ls hl => ?_)
      refine lv_goto (tgt := 11) hx hb dX10_note_36 (by decide) ?_
      exact ih (x1 + (1 : Int32)) (upd f_t_18 (x1).toNatClampNeg (f_t_18 ((x1 + (17 : Int32))).toNatClampNeg)) hF _ _ _ (hP.sub [0, 1, 2] rfl) (hD.sub [0, 1, 2] rfl rfl) hS (lv_sub hl [1, 0] rfl)
set_option maxHeartbeats 4000000 in
set_option maxRecDepth 100000 in
theorem mX10_note (l : Launch) (g : GG) (a_t : Nat) (p_t : Nat → Nat) (n : Nat) (o_t : Nat → Int32) (f_t_17 : Nat → Int32) (f_t_18 : Nat → Int32) (o_t' : Nat → Int32) (f_t_18' : Nat → Int32) (hF : fX10_note n o_t f_t_17 f_t_18 = some (o_t', f_t_18')) : MV l g yX10_note wsX10_note ({ frames := 1, cells := 0, slots := 0, locals := 25 } : Room) [.ref a_t] [oX10 a_t p_t o_t, aI g (p_t 17) 17 f_t_17, aI g (p_t 18) 272 f_t_18] [oX10 a_t p_t o_t', aI g (p_t 17) 17 f_t_17, aI g (p_t 18) 272 f_t_18'] := by
  refine MV.of (cc := cX10_note) (maxL := 2) (own := RX10) rfl rfl (by decide) (Nat.le_of_ble_eq_true rfl) ?_
  intro p e s m args below meth c A C0 hP hD hS ls hl
  obtain ⟨hx, hb, hml, hown, hts, hr, hlk, hK, hA, hSW⟩ := id C0
  have hl : lv_has ls 2 [(0, .ref a_t)] := hl
  rw [fX10_note] at hF
  refine lv_aload_n hx hb dX10_note_0 rfl (lv_at hl 0 rfl) ?_
  refine va_get (D := g.1) (ci := 10) (v := .int (o_t 20)) (C := RX10) (T := TX10) (N := 35) hx hb hts iX10_note_X10 hown hK.1 hP 0 rfl rfl 20 (by decide) (hts _ kX10_note_179) (fun _ h9 => h9) rfl dX10_note_1 ?_
  refine lv_bipush (v := (16 : Int32)) hx hb dX10_note_4 (by decide) ?_
  obtain ⟨J49, eJ49, hF⟩ := jn_some hF
  have hJ49 : ∀ (o_t_49 : Nat → Int32) (f_t_18_49 : Nat → Int32) (H : Heap) (locs : List Loc) (ls : Array Slot), J49 o_t_49 f_t_18_49 = some (o_t', f_t_18') → va_P g.1 vwCl [oX10 a_t p_t o_t_49, aI g (p_t 17) 17 f_t_17, aI g (p_t 18) 272 f_t_18_49] H → va_D A [oX10 a_t p_t o_t_49, aI g (p_t 17) 17 f_t_17, aI g (p_t 18) 272 f_t_18_49] → va_S A s.heap H locs → lv_has ls 2 [(0, .ref a_t)] → W p l e ({ frames := 1, cells := 0, slots := 0, locals := 25 } : Room) s m args below meth c H locs 0 0 (MQ below (EndV g [oX10 a_t p_t o_t', aI g (p_t 17) 17 f_t_17, aI g (p_t 18) 272 f_t_18'] A) args s 0 0 A) (F0 m 49 ls []) := by
    intro o_t_49 f_t_18_49 H locs ls hF hP hD hS hl
    have hF := jj2 eJ49 hF
    refine lv_aload_n hx hb dX10_note_49 rfl (lv_at hl 0 rfl) ?_
    refine va_get (D := g.1) (ci := 10) (v := .ref (p_t 17)) (C := RX10) (T := TX10) (N := 35) hx hb hts iX10_note_X10 hown hK.1 hP 0 rfl rfl 17 (by decide) (hts _ kX10_note_26) (fun _ h9 => h9) rfl dX10_note_50 ?_
    refine lv_iconst (v := (0 : Int32)) hx hb dX10_note_53 (by decide) ?_
    refine lv_aload_n hx hb dX10_note_54 rfl (lv_at hl 0 rfl) ?_
    refine va_get (D := g.1) (ci := 10) (v := .ref (p_t 18)) (C := RX10) (T := TX10) (N := 35) hx hb hts iX10_note_X10 hown hK.1 hP 0 rfl rfl 18 (by decide) (hts _ kX10_note_29) (fun _ h9 => h9) rfl dX10_note_55 ?_
    refine lv_bipush (v := (17 : Int32)) hx hb dX10_note_58 (by decide) ?_
    refine lv_aload_n hx hb dX10_note_60 rfl (lv_at hl 0 rfl) ?_
    refine va_get (D := g.1) (ci := 10) (v := .int (o_t_49 20)) (C := RX10) (T := TX10) (N := 35) hx hb hts iX10_note_X10 hown hK.1 hP 0 rfl rfl 20 (by decide) (hts _ kX10_note_179) (fun _ h9 => h9) rfl dX10_note_61 ?_
    refine lv_imul hx hb dX10_note_64 ?_
    refine lv_bipush (v := (17 : Int32)) hx hb dX10_note_65 (by decide) ?_
    obtain ⟨u_1, hu_2, hF⟩ := ob1_some hF
    refine call_sv (wr := [oX10 a_t p_t o_t_49]) (As := [.ref (p_t 17), .int (0 : Int32), .ref (p_t 18), .int ((17 : Int32) * (o_t_49 20)), .int (17 : Int32)]) (rest := []) C0 (mX10_copy l g (p_t 17) (p_t 18) n (0 : Int32) ((17 : Int32) * (o_t_49 20)) (17 : Int32) 17 272 f_t_17 f_t_18_49 u_1 hu_2) (va_cwS 5 hts gX10_note_X10_copy rfl rfl rfl (by decide +kernel) ⟨Nat.le_of_ble_eq_true rfl, Nat.le_of_ble_eq_true rfl⟩) hP hD hS [1, 2] [0] rfl rfl rfl rfl rfl (by decide) hl.1 rfl rfl (Nat.le_of_ble_eq_true rfl) ⟨Nat.zero_le _, Nat.zero_le _⟩ dX10_note_67 ?_
    intro H locs hP hD hS
    refine lv_aload_n hx hb dX10_note_70 rfl (lv_at hl 0 rfl) ?_
    refine lv_dup hx hb dX10_note_71 rfl ?_
    refine va_get (D := g.1) (ci := 10) (v := .int (o_t_49 20)) (C := RX10) (T := TX10) (N := 35) hx hb hts iX10_note_X10 hown hK.1 hP 0 rfl rfl 20 (by decide) (hts _ kX10_note_179) (fun _ h9 => h9) rfl dX10_note_72 ?_
    refine lv_iconst (v := (1 : Int32)) hx hb dX10_note_75 (by decide) ?_
    refine lv_iadd hx hb dX10_note_76 ?_
    refine va_put (D := g.1) (ci := 10) (v := .int ((o_t_49 20) + (1 : Int32))) (ty := .int) (C := RX10) (T := TX10) (N := 35) hx hb hts iX10_note_X10 tyX10 tyX10_ok nmX10 hown hK.1 hP hD hS 0 rfl rfl 20 (by decide) (hts _ kX10_note_179) (fun _ h9 => h9) rfl (by decide +kernel) rfl rfl (Nat.le_of_ble_eq_true rfl) dX10_note_77 (fun H locs hP hD hS => ?_)
    have hP : va_P g.1 vwCl [oX10 a_t p_t (upd o_t_49 20 ((o_t_49 20) + (1 : Int32))), aI g (p_t 17) 17 f_t_17, aI g (p_t 18) 272 u_1] H := hP
    have hD : va_D A [oX10 a_t p_t (upd o_t_49 20 ((o_t_49 20) + (1 : Int32))), aI g (p_t 17) 17 f_t_17, aI g (p_t 18) 272 u_1] := hD
    cases hF
    exact ret_v C0 hP hD hS [0, 1, 2] rfl rfl rfl dX10_note_80
  refine lv_icmp_ne (tgt := 49) hx hb dX10_note_6 (by decide) (fun c_3 => ?_) (fun c_3 => ?_)
  · have hF := it_n c_3 hF
    exact hJ49 o_t f_t_18 _ _ _ hF (hP.sub [0, 1, 2] rfl) (hD.sub [0, 1, 2] rfl rfl) hS (lv_sub hl [0] rfl)
  · have hF := it_p c_3 hF
    refine lv_iconst (v := (0 : Int32)) hx hb dX10_note_9 (by decide) ?_
    refine lv_istore_n (lv' := [(1, .int (0 : Int32)), (0, .ref a_t)]) hx hb dX10_note_10 rfl hl (by decide) rfl (fun ls hl => ?_)
    refine wX10_note_L11 C0 a_t p_t n o_t f_t_17 o_t' f_t_18' _ ?_ n (0 : Int32) f_t_18 hF _ _ _ (hP.sub [0, 1, 2] rfl) (hD.sub [0, 1, 2] rfl rfl) hS (lv_sub hl [1, 0] rfl)
    · intro f_t_18_x11 H locs ls hF hP hD hS hl
      refine lv_aload_n hx hb dX10_note_39 rfl (lv_at hl 0 rfl) ?_
      refine lv_dup hx hb dX10_note_40 rfl ?_
      refine va_get (D := g.1) (ci := 10) (v := .int (o_t 20)) (C := RX10) (T := TX10) (N := 35) hx hb hts iX10_note_X10 hown hK.1 hP 0 rfl rfl 20 (by decide) (hts _ kX10_note_179) (fun _ h9 => h9) rfl dX10_note_41 ?_
      refine lv_iconst (v := (1 : Int32)) hx hb dX10_note_44 (by decide) ?_
      refine lv_isub hx hb dX10_note_45 ?_
      refine va_put (D := g.1) (ci := 10) (v := .int ((o_t 20) - (1 : Int32))) (ty := .int) (C := RX10) (T := TX10) (N := 35) hx hb hts iX10_note_X10 tyX10 tyX10_ok nmX10 hown hK.1 hP hD hS 0 rfl rfl 20 (by decide) (hts _ kX10_note_179) (fun _ h9 => h9) rfl (by decide +kernel) rfl rfl (Nat.le_of_ble_eq_true rfl) dX10_note_46 (fun H locs hP hD hS => ?_)
      have hP : va_P g.1 vwCl [oX10 a_t p_t (upd o_t 20 ((o_t 20) - (1 : Int32))), aI g (p_t 17) 17 f_t_17, aI g (p_t 18) 272 f_t_18_x11] H := hP
      have hD : va_D A [oX10 a_t p_t (upd o_t 20 ((o_t 20) - (1 : Int32))), aI g (p_t 17) 17 f_t_17, aI g (p_t 18) 272 f_t_18_x11] := hD
      exact hJ49 (upd o_t 20 ((o_t 20) - (1 : Int32))) f_t_18_x11 _ _ _ hF (hP.sub [0, 1, 2] rfl) (hD.sub [0, 1, 2] rfl rfl) hS (lv_sub hl [0] rfl)

theorem dAX10_hour : ∀ q ∈ ([(0, (.aload_n 0, 1)), (1, (.invokevirtual 159, 3)), (4, (.aload_n 0, 1)), (5, (.getfield 176, 3)), (8, (.ifCond .ne 9, 3)), (11, (.aload_n 0, 1)), (12, (.iconst 1, 1)), (13, (.invokevirtual 162, 3)), (16, (.ireturn, 1)), (17, (.aload_n 0, 1)), (18, (.getfield 26, 3)), (21, (.bipush 14, 2)), (23, (.iaload, 1)), (24, (.bipush 99, 2)), (26, (.if_icmp .ne 9, 3)), (29, (.aload_n 0, 1)), (30, (.iconst 3, 1)), (31, (.invokevirtual 162, 3)), (34, (.ireturn, 1)), (35, (.aload_n 0, 1)), (36, (.aload_n 0, 1)), (37, (.getfield 26, 3)), (40, (.invokevirtual 259, 3)), (43, (.ifCond .ne 10, 3)), (46, (.aload_n 0, 1)), (47, (.bipush 6, 2)), (49, (.invokevirtual 162, 3)), (52, (.ireturn, 1)), (53, (.aload_n 0, 1)), (54, (.invokevirtual 392, 3)), (57, (.aload_n 0, 1)), (58, (.aload_n 0, 1)), (59, (.getfield 26, 3)), (62, (.invokevirtual 293, 3)), (65, (.ireturn, 1))] : List (Nat × (Instr × Nat))), decode cX10_hour q.1 = .ok q.2 := by decide +kernel
theorem dX10_hour_0 : decode cX10_hour 0 = .ok (.aload_n 0, 1) := dAX10_hour (0, (.aload_n 0, 1)) (List.mem_of_getElem? (i := 0) rfl)
theorem dX10_hour_1 : decode cX10_hour 1 = .ok (.invokevirtual 159, 3) := dAX10_hour (1, (.invokevirtual 159, 3)) (List.mem_of_getElem? (i := 1) rfl)
theorem dX10_hour_4 : decode cX10_hour 4 = .ok (.aload_n 0, 1) := dAX10_hour (4, (.aload_n 0, 1)) (List.mem_of_getElem? (i := 2) rfl)
theorem dX10_hour_5 : decode cX10_hour 5 = .ok (.getfield 176, 3) := dAX10_hour (5, (.getfield 176, 3)) (List.mem_of_getElem? (i := 3) rfl)
theorem dX10_hour_8 : decode cX10_hour 8 = .ok (.ifCond .ne 9, 3) := dAX10_hour (8, (.ifCond .ne 9, 3)) (List.mem_of_getElem? (i := 4) rfl)
theorem dX10_hour_11 : decode cX10_hour 11 = .ok (.aload_n 0, 1) := dAX10_hour (11, (.aload_n 0, 1)) (List.mem_of_getElem? (i := 5) rfl)
theorem dX10_hour_12 : decode cX10_hour 12 = .ok (.iconst 1, 1) := dAX10_hour (12, (.iconst 1, 1)) (List.mem_of_getElem? (i := 6) rfl)
theorem dX10_hour_13 : decode cX10_hour 13 = .ok (.invokevirtual 162, 3) := dAX10_hour (13, (.invokevirtual 162, 3)) (List.mem_of_getElem? (i := 7) rfl)
theorem dX10_hour_16 : decode cX10_hour 16 = .ok (.ireturn, 1) := dAX10_hour (16, (.ireturn, 1)) (List.mem_of_getElem? (i := 8) rfl)
theorem dX10_hour_17 : decode cX10_hour 17 = .ok (.aload_n 0, 1) := dAX10_hour (17, (.aload_n 0, 1)) (List.mem_of_getElem? (i := 9) rfl)
theorem dX10_hour_18 : decode cX10_hour 18 = .ok (.getfield 26, 3) := dAX10_hour (18, (.getfield 26, 3)) (List.mem_of_getElem? (i := 10) rfl)
theorem dX10_hour_21 : decode cX10_hour 21 = .ok (.bipush 14, 2) := dAX10_hour (21, (.bipush 14, 2)) (List.mem_of_getElem? (i := 11) rfl)
theorem dX10_hour_23 : decode cX10_hour 23 = .ok (.iaload, 1) := dAX10_hour (23, (.iaload, 1)) (List.mem_of_getElem? (i := 12) rfl)
theorem dX10_hour_24 : decode cX10_hour 24 = .ok (.bipush 99, 2) := dAX10_hour (24, (.bipush 99, 2)) (List.mem_of_getElem? (i := 13) rfl)
theorem dX10_hour_26 : decode cX10_hour 26 = .ok (.if_icmp .ne 9, 3) := dAX10_hour (26, (.if_icmp .ne 9, 3)) (List.mem_of_getElem? (i := 14) rfl)
theorem dX10_hour_29 : decode cX10_hour 29 = .ok (.aload_n 0, 1) := dAX10_hour (29, (.aload_n 0, 1)) (List.mem_of_getElem? (i := 15) rfl)
theorem dX10_hour_30 : decode cX10_hour 30 = .ok (.iconst 3, 1) := dAX10_hour (30, (.iconst 3, 1)) (List.mem_of_getElem? (i := 16) rfl)
theorem dX10_hour_31 : decode cX10_hour 31 = .ok (.invokevirtual 162, 3) := dAX10_hour (31, (.invokevirtual 162, 3)) (List.mem_of_getElem? (i := 17) rfl)
theorem dX10_hour_34 : decode cX10_hour 34 = .ok (.ireturn, 1) := dAX10_hour (34, (.ireturn, 1)) (List.mem_of_getElem? (i := 18) rfl)
theorem dX10_hour_35 : decode cX10_hour 35 = .ok (.aload_n 0, 1) := dAX10_hour (35, (.aload_n 0, 1)) (List.mem_of_getElem? (i := 19) rfl)
theorem dX10_hour_36 : decode cX10_hour 36 = .ok (.aload_n 0, 1) := dAX10_hour (36, (.aload_n 0, 1)) (List.mem_of_getElem? (i := 20) rfl)
theorem dX10_hour_37 : decode cX10_hour 37 = .ok (.getfield 26, 3) := dAX10_hour (37, (.getfield 26, 3)) (List.mem_of_getElem? (i := 21) rfl)
theorem dX10_hour_40 : decode cX10_hour 40 = .ok (.invokevirtual 259, 3) := dAX10_hour (40, (.invokevirtual 259, 3)) (List.mem_of_getElem? (i := 22) rfl)
theorem dX10_hour_43 : decode cX10_hour 43 = .ok (.ifCond .ne 10, 3) := dAX10_hour (43, (.ifCond .ne 10, 3)) (List.mem_of_getElem? (i := 23) rfl)
theorem dX10_hour_46 : decode cX10_hour 46 = .ok (.aload_n 0, 1) := dAX10_hour (46, (.aload_n 0, 1)) (List.mem_of_getElem? (i := 24) rfl)
theorem dX10_hour_47 : decode cX10_hour 47 = .ok (.bipush 6, 2) := dAX10_hour (47, (.bipush 6, 2)) (List.mem_of_getElem? (i := 25) rfl)
theorem dX10_hour_49 : decode cX10_hour 49 = .ok (.invokevirtual 162, 3) := dAX10_hour (49, (.invokevirtual 162, 3)) (List.mem_of_getElem? (i := 26) rfl)
theorem dX10_hour_52 : decode cX10_hour 52 = .ok (.ireturn, 1) := dAX10_hour (52, (.ireturn, 1)) (List.mem_of_getElem? (i := 27) rfl)
theorem dX10_hour_53 : decode cX10_hour 53 = .ok (.aload_n 0, 1) := dAX10_hour (53, (.aload_n 0, 1)) (List.mem_of_getElem? (i := 28) rfl)
theorem dX10_hour_54 : decode cX10_hour 54 = .ok (.invokevirtual 392, 3) := dAX10_hour (54, (.invokevirtual 392, 3)) (List.mem_of_getElem? (i := 29) rfl)
theorem dX10_hour_57 : decode cX10_hour 57 = .ok (.aload_n 0, 1) := dAX10_hour (57, (.aload_n 0, 1)) (List.mem_of_getElem? (i := 30) rfl)
theorem dX10_hour_58 : decode cX10_hour 58 = .ok (.aload_n 0, 1) := dAX10_hour (58, (.aload_n 0, 1)) (List.mem_of_getElem? (i := 31) rfl)
theorem dX10_hour_59 : decode cX10_hour 59 = .ok (.getfield 26, 3) := dAX10_hour (59, (.getfield 26, 3)) (List.mem_of_getElem? (i := 32) rfl)
theorem dX10_hour_62 : decode cX10_hour 62 = .ok (.invokevirtual 293, 3) := dAX10_hour (62, (.invokevirtual 293, 3)) (List.mem_of_getElem? (i := 33) rfl)
theorem dX10_hour_65 : decode cX10_hour 65 = .ok (.ireturn, 1) := dAX10_hour (65, (.ireturn, 1)) (List.mem_of_getElem? (i := 34) rfl)
set_option maxRecDepth 20000 in
theorem ggX10_hour_X10_good : GoodIn wsX10_hour wsX10_good := goodIn_r _ [7, 8, 9, 63, 64, 65, 66, 67, 68, 69, 70, 71, 72, 73, 74, 75, 76, 77, 78, 79, 80, 81, 82, 83, 84, 85, 86, 87, 88, 89, 90, 91, 92, 93, 94, 95, 96, 97] rfl (by decide +kernel)
set_option maxRecDepth 20000 in
theorem gX10_hour_X10_good : GoodIn wsX10_hour (wsV RX10 159 RX10 yX10_good wsX10_good) := goodIn_app (goodIn_of _ (by decide +kernel)) ggX10_hour_X10_good
set_option maxRecDepth 20000 in
theorem ggX10_hour_X10_no : GoodIn wsX10_hour wsX10_no := goodIn_r _ [13, 9, 63, 64, 65, 66, 67, 68, 69, 70, 71, 72, 73, 74, 75, 76, 77, 78, 79, 80, 81, 82, 83, 84, 85, 86, 87, 88, 89, 90, 91, 92, 93, 94, 95, 96, 97] rfl (by decide +kernel)
set_option maxRecDepth 20000 in
theorem gX10_hour_X10_no : GoodIn wsX10_hour (wsV RX10 162 RX10 yX10_no wsX10_no) := goodIn_app (goodIn_of _ (by decide +kernel)) ggX10_hour_X10_no
set_option maxRecDepth 20000 in
theorem ggX10_hour_X10_thereOf : GoodIn wsX10_hour wsX10_thereOf := goodIn_r _ [17, 18, 19, 20, 6, 21, 63, 64, 65, 66, 67, 68, 69, 70, 71, 72, 73, 74, 75, 76, 77, 78, 79, 80, 81, 82, 83, 84, 85, 86, 87, 88, 89, 90, 91, 92, 93, 94, 95, 96, 97] rfl (by decide +kernel)
set_option maxRecDepth 20000 in
theorem gX10_hour_X10_thereOf : GoodIn wsX10_hour (wsV RX10 259 RX10 yX10_thereOf wsX10_thereOf) := goodIn_app (goodIn_of _ (by decide +kernel)) ggX10_hour_X10_thereOf
set_option maxRecDepth 20000 in
theorem ggX10_hour_X10_note : GoodIn wsX10_hour wsX10_note := goodIn_r _ [25, 26, 27, 2, 28, 29, 6, 30, 63, 64, 65, 66, 67, 68, 69, 70, 71, 72, 73, 74, 75, 76, 77, 78, 79, 80, 81, 82, 83, 84, 85, 86, 87, 88, 89, 90, 91, 92, 93, 94, 95, 96, 97] rfl (by decide +kernel)
set_option maxRecDepth 20000 in
theorem gX10_hour_X10_note : GoodIn wsX10_hour (wsV RX10 392 RX10 yX10_note wsX10_note) := goodIn_app (goodIn_of _ (by decide +kernel)) ggX10_hour_X10_note
set_option maxRecDepth 20000 in
theorem ggX10_hour_X10_hourOf : GoodIn wsX10_hour wsX10_hourOf := goodIn_r _ [34, 18, 35, 36, 37, 6, 38, 19, 20, 21, 39, 40, 41, 42, 43, 44, 45, 46, 47, 48, 49, 50, 51, 14, 15, 16, 17, 52, 53, 54, 55, 56, 57, 58, 59, 60, 61, 62, 63, 64, 65, 66, 67, 68, 69, 70, 71, 72, 73, 74, 75, 76, 77, 78, 79, 80, 81, 82, 83, 84, 85, 86, 87, 88, 89, 90, 91, 92, 93, 94, 95, 96, 97] rfl (by decide +kernel)
set_option maxRecDepth 20000 in
theorem gX10_hour_X10_hourOf : GoodIn wsX10_hour (wsV RX10 293 RX10 yX10_hourOf wsX10_hourOf) := goodIn_app (goodIn_of _ (by decide +kernel)) ggX10_hour_X10_hourOf
theorem kX10_hour_176 : Cond.fieldLink RX10 176 "EveningVowModel" "hasEvening" "Z" ∈ wsX10_hour := List.mem_of_getElem? (i := 1) rfl
theorem iX10_hour_X10 : ∀ w ∈ u_ws RX10 TX10 35, w ∈ wsX10_hour := fun w h => (List.mem_cons_of_mem _ (List.mem_append_right _ h))
theorem kX10_hour_26 : Cond.fieldLink RX10 26 "EveningVowModel" "st" "[I" ∈ wsX10_hour := List.mem_of_getElem? (i := 2) rfl
set_option maxHeartbeats 4000000 in
set_option maxRecDepth 100000 in
theorem mX10_hour (l : Launch) (g : GG) (a_t : Nat) (p_t : Nat → Nat) (n : Nat) (o_t : Nat → Int32) (f_t_15 : Nat → Int32) (f_t_17 : Nat → Int32) (f_t_18 : Nat → Int32) (r : Int32) (o_t' : Nat → Int32) (f_t_17' : Nat → Int32) (f_t_18' : Nat → Int32) (hF : fX10_hour n o_t f_t_15 f_t_17 f_t_18 = some (r, o_t', f_t_17', f_t_18')) : MI l g yX10_hour wsX10_hour ({ frames := 4, cells := 0, slots := 0, locals := 93 } : Room) [.ref a_t] [oX10 a_t p_t o_t, aI g (p_t 15) 266 f_t_15, aI g (p_t 17) 17 f_t_17, aI g (p_t 18) 272 f_t_18] r [oX10 a_t p_t o_t', aI g (p_t 15) 266 f_t_15, aI g (p_t 17) 17 f_t_17', aI g (p_t 18) 272 f_t_18'] := by
  refine MI.of (cc := cX10_hour) (maxL := 1) (rt := .int) (own := RX10) rfl rfl (by decide) (Nat.le_of_ble_eq_true rfl) ?_
  intro p e s m args below meth c A C0 hP hD hS ls hl
  obtain ⟨hx, hb, hml, hown, hts, hr, hlk, hK, hA, hSW⟩ := id C0
  have hl : lv_has ls 1 [(0, .ref a_t)] := hl
  rw [fX10_hour] at hF
  refine lv_aload_n hx hb dX10_hour_0 rfl (lv_at hl 0 rfl) ?_
  obtain ⟨u_1, hu_2, hF⟩ := ob1_some hF
  refine call_v (wr := [aI g (p_t 15) 266 f_t_15, aI g (p_t 17) 17 f_t_17, aI g (p_t 18) 272 f_t_18]) (As := []) (rest := []) (ci := 10) (q0 := 0) C0 (mX10_good l g a_t p_t n o_t u_1 hu_2) (cwV 0 hts gX10_hour_X10_good rfl rfl rfl (by decide +kernel) ⟨Nat.le_of_ble_eq_true rfl, Nat.le_of_ble_eq_true rfl⟩) hP hD hS [0] [1, 2, 3] rfl rfl rfl rfl rfl (by decide) rfl rfl hl.1 rfl rfl (Nat.le_of_ble_eq_true rfl) ⟨Nat.zero_le _, Nat.zero_le _⟩ dX10_hour_1 ?_
  intro H locs hP hD hS
  refine lv_aload_n hx hb dX10_hour_4 rfl (lv_at hl 0 rfl) ?_
  refine va_get (D := g.1) (ci := 10) (v := .int (u_1 14)) (C := RX10) (T := TX10) (N := 35) hx hb hts iX10_hour_X10 hown hK.1 hP 3 rfl rfl 14 (by decide) (hts _ kX10_hour_176) (fun _ h9 => h9) rfl dX10_hour_5 ?_
  refine lv_if_ne (tgt := 17) hx hb dX10_hour_8 (by decide) (fun c_3 => ?_) (fun c_3 => ?_)
  · have hF := it_n c_3 hF
    refine lv_aload_n hx hb dX10_hour_17 rfl (lv_at hl 0 rfl) ?_
    refine va_get (D := g.1) (ci := 10) (v := .ref (p_t 17)) (C := RX10) (T := TX10) (N := 35) hx hb hts iX10_hour_X10 hown hK.1 hP 3 rfl rfl 17 (by decide) (hts _ kX10_hour_26) (fun _ h9 => h9) rfl dX10_hour_18 ?_
    refine lv_bipush (v := (14 : Int32)) hx hb dX10_hour_21 (by decide) ?_
    refine va_iald_k (j := 14) hx hb hK.1 hP 1 0 rfl rfl (by unfold vp_in; decide) rfl dX10_hour_23 ?_
    refine lv_bipush (v := (99 : Int32)) hx hb dX10_hour_24 (by decide) ?_
    refine lv_icmp_ne (tgt := 35) hx hb dX10_hour_26 (by decide) (fun c_4 => ?_) (fun c_4 => ?_)
    · have hF := it_n c_4 hF
      refine lv_aload_n hx hb dX10_hour_35 rfl (lv_at hl 0 rfl) ?_
      refine lv_aload_n hx hb dX10_hour_36 rfl (lv_at hl 0 rfl) ?_
      refine va_get (D := g.1) (ci := 10) (v := .ref (p_t 17)) (C := RX10) (T := TX10) (N := 35) hx hb hts iX10_hour_X10 hown hK.1 hP 3 rfl rfl 17 (by decide) (hts _ kX10_hour_26) (fun _ h9 => h9) rfl dX10_hour_37 ?_
      obtain ⟨u_5, hu_6, hF⟩ := ob1_some hF
      refine call_i (wr := [aI g (p_t 18) 272 f_t_18]) (As := [.ref (p_t 17)]) (rest := []) (ci := 10) (q0 := 0) C0 (mX10_thereOf l g a_t (p_t 17) p_t n u_1 f_t_15 f_t_17 u_5 hu_6) (cwV 1 hts gX10_hour_X10_thereOf rfl rfl rfl (by decide +kernel) ⟨Nat.le_of_ble_eq_true rfl, Nat.le_of_ble_eq_true rfl⟩) hP hD hS [3, 0, 1] [2] rfl rfl rfl rfl rfl (by decide) rfl rfl hl.1 rfl rfl (Nat.le_of_ble_eq_true rfl) ⟨Nat.zero_le _, Nat.zero_le _⟩ dX10_hour_40 ?_
      intro H locs hP hD hS
      refine lv_if_ne (tgt := 53) hx hb dX10_hour_43 (by decide) (fun c_7 => ?_) (fun c_7 => ?_)
      · have hF := it_n c_7 hF
        refine lv_aload_n hx hb dX10_hour_53 rfl (lv_at hl 0 rfl) ?_
        obtain ⟨u_8, u_9, hu_10, hF⟩ := ob2_some hF
        refine call_v (wr := [aI g (p_t 15) 266 f_t_15]) (As := []) (rest := []) (ci := 10) (q0 := 0) C0 (mX10_note l g a_t p_t n u_1 f_t_17 f_t_18 u_8 u_9 hu_10) (cwV 0 hts gX10_hour_X10_note rfl rfl rfl (by decide +kernel) ⟨Nat.le_of_ble_eq_true rfl, Nat.le_of_ble_eq_true rfl⟩) hP hD hS [1, 3, 0] [2] rfl rfl rfl rfl rfl (by decide) rfl rfl hl.1 rfl rfl (Nat.le_of_ble_eq_true rfl) ⟨Nat.zero_le _, Nat.zero_le _⟩ dX10_hour_54 ?_
        intro H locs hP hD hS
        refine lv_aload_n hx hb dX10_hour_57 rfl (lv_at hl 0 rfl) ?_
        refine lv_aload_n hx hb dX10_hour_58 rfl (lv_at hl 0 rfl) ?_
        refine va_get (D := g.1) (ci := 10) (v := .ref (p_t 17)) (C := RX10) (T := TX10) (N := 35) hx hb hts iX10_hour_X10 hown hK.1 hP 1 rfl rfl 17 (by decide) (hts _ kX10_hour_26) (fun _ h9 => h9) rfl dX10_hour_59 ?_
        obtain ⟨u_11, u_12, u_13, hu_14, hF⟩ := ob3_some hF
        refine call_i (wr := [aI g (p_t 18) 272 u_9]) (As := [.ref (p_t 17)]) (rest := []) (ci := 10) (q0 := 0) C0 (mX10_hourOf l g a_t (p_t 17) p_t n u_8 f_t_15 f_t_17 u_11 u_12 u_13 hu_14) (cwV 1 hts gX10_hour_X10_hourOf rfl rfl rfl (by decide +kernel) ⟨Nat.le_of_ble_eq_true rfl, Nat.le_of_ble_eq_true rfl⟩) hP hD hS [1, 0, 2] [3] rfl rfl rfl rfl rfl (by decide) rfl rfl hl.1 rfl rfl (Nat.le_of_ble_eq_true rfl) ⟨Nat.zero_le _, Nat.zero_le _⟩ dX10_hour_62 ?_
        intro H locs hP hD hS
        cases hF
        exact ret_i C0 hP hD hS [1, 2, 3, 0] rfl rfl rfl dX10_hour_65 rfl
      · have hF := it_p c_7 hF
        refine lv_aload_n hx hb dX10_hour_46 rfl (lv_at hl 0 rfl) ?_
        refine lv_bipush (v := (6 : Int32)) hx hb dX10_hour_47 (by decide) ?_
        obtain ⟨u_15, u_16, hu_17, hF⟩ := ob2_some hF
        refine call_i (wr := [aI g (p_t 18) 272 f_t_18, aI g (p_t 15) 266 f_t_15, aI g (p_t 17) 17 f_t_17]) (As := [.int (6 : Int32)]) (rest := []) (ci := 10) (q0 := 0) C0 (mX10_no l g a_t p_t n (6 : Int32) u_1 u_15 u_16 hu_17) (cwV 1 hts gX10_hour_X10_no rfl rfl rfl (by decide +kernel) ⟨Nat.le_of_ble_eq_true rfl, Nat.le_of_ble_eq_true rfl⟩) hP hD hS [1] [0, 2, 3] rfl rfl rfl rfl rfl (by decide) rfl rfl hl.1 rfl rfl (Nat.le_of_ble_eq_true rfl) ⟨Nat.zero_le _, Nat.zero_le _⟩ dX10_hour_49 ?_
        intro H locs hP hD hS
        cases hF
        exact ret_i C0 hP hD hS [3, 1, 2, 0] rfl rfl rfl dX10_hour_52 rfl
    · have hF := it_p c_4 hF
      refine lv_aload_n hx hb dX10_hour_29 rfl (lv_at hl 0 rfl) ?_
      refine lv_iconst (v := (3 : Int32)) hx hb dX10_hour_30 (by decide) ?_
      obtain ⟨u_18, u_19, hu_20, hF⟩ := ob2_some hF
      refine call_i (wr := [aI g (p_t 15) 266 f_t_15, aI g (p_t 17) 17 f_t_17, aI g (p_t 18) 272 f_t_18]) (As := [.int (3 : Int32)]) (rest := []) (ci := 10) (q0 := 0) C0 (mX10_no l g a_t p_t n (3 : Int32) u_1 u_18 u_19 hu_20) (cwV 1 hts gX10_hour_X10_no rfl rfl rfl (by decide +kernel) ⟨Nat.le_of_ble_eq_true rfl, Nat.le_of_ble_eq_true rfl⟩) hP hD hS [3] [0, 1, 2] rfl rfl rfl rfl rfl (by decide) rfl rfl hl.1 rfl rfl (Nat.le_of_ble_eq_true rfl) ⟨Nat.zero_le _, Nat.zero_le _⟩ dX10_hour_31 ?_
      intro H locs hP hD hS
      cases hF
      exact ret_i C0 hP hD hS [3, 0, 1, 2] rfl rfl rfl dX10_hour_34 rfl
  · have hF := it_p c_3 hF
    refine lv_aload_n hx hb dX10_hour_11 rfl (lv_at hl 0 rfl) ?_
    refine lv_iconst (v := (1 : Int32)) hx hb dX10_hour_12 (by decide) ?_
    obtain ⟨u_21, u_22, hu_23, hF⟩ := ob2_some hF
    refine call_i (wr := [aI g (p_t 15) 266 f_t_15, aI g (p_t 17) 17 f_t_17, aI g (p_t 18) 272 f_t_18]) (As := [.int (1 : Int32)]) (rest := []) (ci := 10) (q0 := 0) C0 (mX10_no l g a_t p_t n (1 : Int32) u_1 u_21 u_22 hu_23) (cwV 1 hts gX10_hour_X10_no rfl rfl rfl (by decide +kernel) ⟨Nat.le_of_ble_eq_true rfl, Nat.le_of_ble_eq_true rfl⟩) hP hD hS [3] [0, 1, 2] rfl rfl rfl rfl rfl (by decide) rfl rfl hl.1 rfl rfl (Nat.le_of_ble_eq_true rfl) ⟨Nat.zero_le _, Nat.zero_le _⟩ dX10_hour_13 ?_
    intro H locs hP hD hS
    cases hF
    exact ret_i C0 hP hD hS [3, 0, 1, 2] rfl rfl rfl dX10_hour_16 rfl

theorem dAX10_tell : ∀ q ∈ ([(0, (.aload_n 0, 1)), (1, (.invokevirtual 159, 3)), (4, (.aload_n 0, 1)), (5, (.getfield 176, 3)), (8, (.ifCond .eq 20, 3)), (11, (.iload_n 1, 1)), (12, (.iconst 0, 1)), (13, (.aload_n 0, 1)), (14, (.getfield 20, 3)), (17, (.bipush 6, 2)), (19, (.iaload, 1)), (20, (.iconst 1, 1)), (21, (.isub, 1)), (22, (.invokestatic 144, 3)), (25, (.ifCond .ne 9, 3)), (28, (.aload_n 0, 1)), (29, (.iconst 1, 1)), (30, (.invokevirtual 162, 3)), (33, (.ireturn, 1)), (34, (.aload_n 0, 1)), (35, (.getfield 26, 3)), (38, (.bipush 14, 2)), (40, (.iaload, 1)), (41, (.aload_n 0, 1)), (42, (.getfield 20, 3)), (45, (.bipush 86, 2)), (47, (.iconst 2, 1)), (48, (.iload_n 1, 1)), (49, (.imul, 1)), (50, (.iadd, 1)), (51, (.iaload, 1)), (52, (.iadd, 1)), (53, (.bipush 99, 2)), (55, (.if_icmp .le 9, 3)), (58, (.aload_n 0, 1)), (59, (.iconst 3, 1)), (60, (.invokevirtual 162, 3)), (63, (.ireturn, 1)), (64, (.aload_n 0, 1)), (65, (.getfield 26, 3)), (68, (.bipush 16, 2)), (70, (.iaload, 1)), (71, (.iload_n 1, 1)), (72, (.invokestatic 252, 3)), (75, (.ifCond .eq 9, 3)), (78, (.aload_n 0, 1)), (79, (.iconst 5, 1)), (80, (.invokevirtual 162, 3)), (83, (.ireturn, 1)), (84, (.aload_n 0, 1)), (85, (.aload_n 0, 1)), (86, (.getfield 26, 3)), (89, (.invokevirtual 259, 3)), (92, (.ifCond .ne 10, 3)), (95, (.aload_n 0, 1)), (96, (.bipush 6, 2)), (98, (.invokevirtual 162, 3)), (101, (.ireturn, 1)), (102, (.aload_n 0, 1)), (103, (.invokevirtual 392, 3)), (106, (.aload_n 0, 1)), (107, (.getfield 26, 3)), (110, (.bipush 16, 2)), (112, (.dup2, 1)), (113, (.iaload, 1)), (114, (.iconst 1, 1)), (115, (.iload_n 1, 1)), (116, (.ishl, 1)), (117, (.ior, 1)), (118, (.iastore, 1)), (119, (.aload_n 0, 1)), (120, (.aload_n 0, 1)), (121, (.getfield 26, 3)), (124, (.iload_n 1, 1)), (125, (.invokevirtual 325, 3)), (128, (.iconst 0, 1)), (129, (.istore_n 2, 1)), (130, (.iconst 0, 1)), (131, (.istore_n 3, 1)), (132, (.iload_n 3, 1)), (133, (.aload_n 0, 1)), (134, (.getfield 20, 3)), (137, (.bipush 86, 2)), (139, (.iconst 2, 1)), (140, (.iload_n 1, 1)), (141, (.imul, 1)), (142, (.iadd, 1)), (143, (.iaload, 1)), (144, (.if_icmp .ge 20, 3)), (147, (.iload_n 2, 1)), (148, (.aload_n 0, 1)), (149, (.aload_n 0, 1)), (150, (.getfield 26, 3)), (153, (.invokevirtual 293, 3)), (156, (.ior, 1)), (157, (.istore_n 2, 1)), (158, (.iinc 3 1, 3)), (161, (.goto (-29), 3)), (164, (.iload_n 2, 1)), (165, (.ireturn, 1))] : List (Nat × (Instr × Nat))), decode cX10_tell q.1 = .ok q.2 := by decide +kernel
theorem dX10_tell_0 : decode cX10_tell 0 = .ok (.aload_n 0, 1) := dAX10_tell (0, (.aload_n 0, 1)) (List.mem_of_getElem? (i := 0) rfl)
theorem dX10_tell_1 : decode cX10_tell 1 = .ok (.invokevirtual 159, 3) := dAX10_tell (1, (.invokevirtual 159, 3)) (List.mem_of_getElem? (i := 1) rfl)
theorem dX10_tell_4 : decode cX10_tell 4 = .ok (.aload_n 0, 1) := dAX10_tell (4, (.aload_n 0, 1)) (List.mem_of_getElem? (i := 2) rfl)
theorem dX10_tell_5 : decode cX10_tell 5 = .ok (.getfield 176, 3) := dAX10_tell (5, (.getfield 176, 3)) (List.mem_of_getElem? (i := 3) rfl)
theorem dX10_tell_8 : decode cX10_tell 8 = .ok (.ifCond .eq 20, 3) := dAX10_tell (8, (.ifCond .eq 20, 3)) (List.mem_of_getElem? (i := 4) rfl)
theorem dX10_tell_11 : decode cX10_tell 11 = .ok (.iload_n 1, 1) := dAX10_tell (11, (.iload_n 1, 1)) (List.mem_of_getElem? (i := 5) rfl)
theorem dX10_tell_12 : decode cX10_tell 12 = .ok (.iconst 0, 1) := dAX10_tell (12, (.iconst 0, 1)) (List.mem_of_getElem? (i := 6) rfl)
theorem dX10_tell_13 : decode cX10_tell 13 = .ok (.aload_n 0, 1) := dAX10_tell (13, (.aload_n 0, 1)) (List.mem_of_getElem? (i := 7) rfl)
theorem dX10_tell_14 : decode cX10_tell 14 = .ok (.getfield 20, 3) := dAX10_tell (14, (.getfield 20, 3)) (List.mem_of_getElem? (i := 8) rfl)
theorem dX10_tell_17 : decode cX10_tell 17 = .ok (.bipush 6, 2) := dAX10_tell (17, (.bipush 6, 2)) (List.mem_of_getElem? (i := 9) rfl)
theorem dX10_tell_19 : decode cX10_tell 19 = .ok (.iaload, 1) := dAX10_tell (19, (.iaload, 1)) (List.mem_of_getElem? (i := 10) rfl)
theorem dX10_tell_20 : decode cX10_tell 20 = .ok (.iconst 1, 1) := dAX10_tell (20, (.iconst 1, 1)) (List.mem_of_getElem? (i := 11) rfl)
theorem dX10_tell_21 : decode cX10_tell 21 = .ok (.isub, 1) := dAX10_tell (21, (.isub, 1)) (List.mem_of_getElem? (i := 12) rfl)
theorem dX10_tell_22 : decode cX10_tell 22 = .ok (.invokestatic 144, 3) := dAX10_tell (22, (.invokestatic 144, 3)) (List.mem_of_getElem? (i := 13) rfl)
theorem dX10_tell_25 : decode cX10_tell 25 = .ok (.ifCond .ne 9, 3) := dAX10_tell (25, (.ifCond .ne 9, 3)) (List.mem_of_getElem? (i := 14) rfl)
theorem dX10_tell_28 : decode cX10_tell 28 = .ok (.aload_n 0, 1) := dAX10_tell (28, (.aload_n 0, 1)) (List.mem_of_getElem? (i := 15) rfl)
theorem dX10_tell_29 : decode cX10_tell 29 = .ok (.iconst 1, 1) := dAX10_tell (29, (.iconst 1, 1)) (List.mem_of_getElem? (i := 16) rfl)
theorem dX10_tell_30 : decode cX10_tell 30 = .ok (.invokevirtual 162, 3) := dAX10_tell (30, (.invokevirtual 162, 3)) (List.mem_of_getElem? (i := 17) rfl)
theorem dX10_tell_33 : decode cX10_tell 33 = .ok (.ireturn, 1) := dAX10_tell (33, (.ireturn, 1)) (List.mem_of_getElem? (i := 18) rfl)
theorem dX10_tell_34 : decode cX10_tell 34 = .ok (.aload_n 0, 1) := dAX10_tell (34, (.aload_n 0, 1)) (List.mem_of_getElem? (i := 19) rfl)
theorem dX10_tell_35 : decode cX10_tell 35 = .ok (.getfield 26, 3) := dAX10_tell (35, (.getfield 26, 3)) (List.mem_of_getElem? (i := 20) rfl)
theorem dX10_tell_38 : decode cX10_tell 38 = .ok (.bipush 14, 2) := dAX10_tell (38, (.bipush 14, 2)) (List.mem_of_getElem? (i := 21) rfl)
theorem dX10_tell_40 : decode cX10_tell 40 = .ok (.iaload, 1) := dAX10_tell (40, (.iaload, 1)) (List.mem_of_getElem? (i := 22) rfl)
theorem dX10_tell_41 : decode cX10_tell 41 = .ok (.aload_n 0, 1) := dAX10_tell (41, (.aload_n 0, 1)) (List.mem_of_getElem? (i := 23) rfl)
theorem dX10_tell_42 : decode cX10_tell 42 = .ok (.getfield 20, 3) := dAX10_tell (42, (.getfield 20, 3)) (List.mem_of_getElem? (i := 24) rfl)
theorem dX10_tell_45 : decode cX10_tell 45 = .ok (.bipush 86, 2) := dAX10_tell (45, (.bipush 86, 2)) (List.mem_of_getElem? (i := 25) rfl)
theorem dX10_tell_47 : decode cX10_tell 47 = .ok (.iconst 2, 1) := dAX10_tell (47, (.iconst 2, 1)) (List.mem_of_getElem? (i := 26) rfl)
theorem dX10_tell_48 : decode cX10_tell 48 = .ok (.iload_n 1, 1) := dAX10_tell (48, (.iload_n 1, 1)) (List.mem_of_getElem? (i := 27) rfl)
theorem dX10_tell_49 : decode cX10_tell 49 = .ok (.imul, 1) := dAX10_tell (49, (.imul, 1)) (List.mem_of_getElem? (i := 28) rfl)
theorem dX10_tell_50 : decode cX10_tell 50 = .ok (.iadd, 1) := dAX10_tell (50, (.iadd, 1)) (List.mem_of_getElem? (i := 29) rfl)
theorem dX10_tell_51 : decode cX10_tell 51 = .ok (.iaload, 1) := dAX10_tell (51, (.iaload, 1)) (List.mem_of_getElem? (i := 30) rfl)
theorem dX10_tell_52 : decode cX10_tell 52 = .ok (.iadd, 1) := dAX10_tell (52, (.iadd, 1)) (List.mem_of_getElem? (i := 31) rfl)
theorem dX10_tell_53 : decode cX10_tell 53 = .ok (.bipush 99, 2) := dAX10_tell (53, (.bipush 99, 2)) (List.mem_of_getElem? (i := 32) rfl)
theorem dX10_tell_55 : decode cX10_tell 55 = .ok (.if_icmp .le 9, 3) := dAX10_tell (55, (.if_icmp .le 9, 3)) (List.mem_of_getElem? (i := 33) rfl)
theorem dX10_tell_58 : decode cX10_tell 58 = .ok (.aload_n 0, 1) := dAX10_tell (58, (.aload_n 0, 1)) (List.mem_of_getElem? (i := 34) rfl)
theorem dX10_tell_59 : decode cX10_tell 59 = .ok (.iconst 3, 1) := dAX10_tell (59, (.iconst 3, 1)) (List.mem_of_getElem? (i := 35) rfl)
theorem dX10_tell_60 : decode cX10_tell 60 = .ok (.invokevirtual 162, 3) := dAX10_tell (60, (.invokevirtual 162, 3)) (List.mem_of_getElem? (i := 36) rfl)
theorem dX10_tell_63 : decode cX10_tell 63 = .ok (.ireturn, 1) := dAX10_tell (63, (.ireturn, 1)) (List.mem_of_getElem? (i := 37) rfl)
theorem dX10_tell_64 : decode cX10_tell 64 = .ok (.aload_n 0, 1) := dAX10_tell (64, (.aload_n 0, 1)) (List.mem_of_getElem? (i := 38) rfl)
theorem dX10_tell_65 : decode cX10_tell 65 = .ok (.getfield 26, 3) := dAX10_tell (65, (.getfield 26, 3)) (List.mem_of_getElem? (i := 39) rfl)
theorem dX10_tell_68 : decode cX10_tell 68 = .ok (.bipush 16, 2) := dAX10_tell (68, (.bipush 16, 2)) (List.mem_of_getElem? (i := 40) rfl)
theorem dX10_tell_70 : decode cX10_tell 70 = .ok (.iaload, 1) := dAX10_tell (70, (.iaload, 1)) (List.mem_of_getElem? (i := 41) rfl)
theorem dX10_tell_71 : decode cX10_tell 71 = .ok (.iload_n 1, 1) := dAX10_tell (71, (.iload_n 1, 1)) (List.mem_of_getElem? (i := 42) rfl)
theorem dX10_tell_72 : decode cX10_tell 72 = .ok (.invokestatic 252, 3) := dAX10_tell (72, (.invokestatic 252, 3)) (List.mem_of_getElem? (i := 43) rfl)
theorem dX10_tell_75 : decode cX10_tell 75 = .ok (.ifCond .eq 9, 3) := dAX10_tell (75, (.ifCond .eq 9, 3)) (List.mem_of_getElem? (i := 44) rfl)
theorem dX10_tell_78 : decode cX10_tell 78 = .ok (.aload_n 0, 1) := dAX10_tell (78, (.aload_n 0, 1)) (List.mem_of_getElem? (i := 45) rfl)
theorem dX10_tell_79 : decode cX10_tell 79 = .ok (.iconst 5, 1) := dAX10_tell (79, (.iconst 5, 1)) (List.mem_of_getElem? (i := 46) rfl)
theorem dX10_tell_80 : decode cX10_tell 80 = .ok (.invokevirtual 162, 3) := dAX10_tell (80, (.invokevirtual 162, 3)) (List.mem_of_getElem? (i := 47) rfl)
theorem dX10_tell_83 : decode cX10_tell 83 = .ok (.ireturn, 1) := dAX10_tell (83, (.ireturn, 1)) (List.mem_of_getElem? (i := 48) rfl)
theorem dX10_tell_84 : decode cX10_tell 84 = .ok (.aload_n 0, 1) := dAX10_tell (84, (.aload_n 0, 1)) (List.mem_of_getElem? (i := 49) rfl)
theorem dX10_tell_85 : decode cX10_tell 85 = .ok (.aload_n 0, 1) := dAX10_tell (85, (.aload_n 0, 1)) (List.mem_of_getElem? (i := 50) rfl)
theorem dX10_tell_86 : decode cX10_tell 86 = .ok (.getfield 26, 3) := dAX10_tell (86, (.getfield 26, 3)) (List.mem_of_getElem? (i := 51) rfl)
theorem dX10_tell_89 : decode cX10_tell 89 = .ok (.invokevirtual 259, 3) := dAX10_tell (89, (.invokevirtual 259, 3)) (List.mem_of_getElem? (i := 52) rfl)
theorem dX10_tell_92 : decode cX10_tell 92 = .ok (.ifCond .ne 10, 3) := dAX10_tell (92, (.ifCond .ne 10, 3)) (List.mem_of_getElem? (i := 53) rfl)
theorem dX10_tell_95 : decode cX10_tell 95 = .ok (.aload_n 0, 1) := dAX10_tell (95, (.aload_n 0, 1)) (List.mem_of_getElem? (i := 54) rfl)
theorem dX10_tell_96 : decode cX10_tell 96 = .ok (.bipush 6, 2) := dAX10_tell (96, (.bipush 6, 2)) (List.mem_of_getElem? (i := 55) rfl)
theorem dX10_tell_98 : decode cX10_tell 98 = .ok (.invokevirtual 162, 3) := dAX10_tell (98, (.invokevirtual 162, 3)) (List.mem_of_getElem? (i := 56) rfl)
theorem dX10_tell_101 : decode cX10_tell 101 = .ok (.ireturn, 1) := dAX10_tell (101, (.ireturn, 1)) (List.mem_of_getElem? (i := 57) rfl)
theorem dX10_tell_102 : decode cX10_tell 102 = .ok (.aload_n 0, 1) := dAX10_tell (102, (.aload_n 0, 1)) (List.mem_of_getElem? (i := 58) rfl)
theorem dX10_tell_103 : decode cX10_tell 103 = .ok (.invokevirtual 392, 3) := dAX10_tell (103, (.invokevirtual 392, 3)) (List.mem_of_getElem? (i := 59) rfl)
theorem dX10_tell_106 : decode cX10_tell 106 = .ok (.aload_n 0, 1) := dAX10_tell (106, (.aload_n 0, 1)) (List.mem_of_getElem? (i := 60) rfl)
theorem dX10_tell_107 : decode cX10_tell 107 = .ok (.getfield 26, 3) := dAX10_tell (107, (.getfield 26, 3)) (List.mem_of_getElem? (i := 61) rfl)
theorem dX10_tell_110 : decode cX10_tell 110 = .ok (.bipush 16, 2) := dAX10_tell (110, (.bipush 16, 2)) (List.mem_of_getElem? (i := 62) rfl)
theorem dX10_tell_112 : decode cX10_tell 112 = .ok (.dup2, 1) := dAX10_tell (112, (.dup2, 1)) (List.mem_of_getElem? (i := 63) rfl)
theorem dX10_tell_113 : decode cX10_tell 113 = .ok (.iaload, 1) := dAX10_tell (113, (.iaload, 1)) (List.mem_of_getElem? (i := 64) rfl)
theorem dX10_tell_114 : decode cX10_tell 114 = .ok (.iconst 1, 1) := dAX10_tell (114, (.iconst 1, 1)) (List.mem_of_getElem? (i := 65) rfl)
theorem dX10_tell_115 : decode cX10_tell 115 = .ok (.iload_n 1, 1) := dAX10_tell (115, (.iload_n 1, 1)) (List.mem_of_getElem? (i := 66) rfl)
theorem dX10_tell_116 : decode cX10_tell 116 = .ok (.ishl, 1) := dAX10_tell (116, (.ishl, 1)) (List.mem_of_getElem? (i := 67) rfl)
theorem dX10_tell_117 : decode cX10_tell 117 = .ok (.ior, 1) := dAX10_tell (117, (.ior, 1)) (List.mem_of_getElem? (i := 68) rfl)
theorem dX10_tell_118 : decode cX10_tell 118 = .ok (.iastore, 1) := dAX10_tell (118, (.iastore, 1)) (List.mem_of_getElem? (i := 69) rfl)
theorem dX10_tell_119 : decode cX10_tell 119 = .ok (.aload_n 0, 1) := dAX10_tell (119, (.aload_n 0, 1)) (List.mem_of_getElem? (i := 70) rfl)
theorem dX10_tell_120 : decode cX10_tell 120 = .ok (.aload_n 0, 1) := dAX10_tell (120, (.aload_n 0, 1)) (List.mem_of_getElem? (i := 71) rfl)
theorem dX10_tell_121 : decode cX10_tell 121 = .ok (.getfield 26, 3) := dAX10_tell (121, (.getfield 26, 3)) (List.mem_of_getElem? (i := 72) rfl)
theorem dX10_tell_124 : decode cX10_tell 124 = .ok (.iload_n 1, 1) := dAX10_tell (124, (.iload_n 1, 1)) (List.mem_of_getElem? (i := 73) rfl)
theorem dX10_tell_125 : decode cX10_tell 125 = .ok (.invokevirtual 325, 3) := dAX10_tell (125, (.invokevirtual 325, 3)) (List.mem_of_getElem? (i := 74) rfl)
theorem dX10_tell_128 : decode cX10_tell 128 = .ok (.iconst 0, 1) := dAX10_tell (128, (.iconst 0, 1)) (List.mem_of_getElem? (i := 75) rfl)
theorem dX10_tell_129 : decode cX10_tell 129 = .ok (.istore_n 2, 1) := dAX10_tell (129, (.istore_n 2, 1)) (List.mem_of_getElem? (i := 76) rfl)
theorem dX10_tell_130 : decode cX10_tell 130 = .ok (.iconst 0, 1) := dAX10_tell (130, (.iconst 0, 1)) (List.mem_of_getElem? (i := 77) rfl)
theorem dX10_tell_131 : decode cX10_tell 131 = .ok (.istore_n 3, 1) := dAX10_tell (131, (.istore_n 3, 1)) (List.mem_of_getElem? (i := 78) rfl)
theorem dX10_tell_132 : decode cX10_tell 132 = .ok (.iload_n 3, 1) := dAX10_tell (132, (.iload_n 3, 1)) (List.mem_of_getElem? (i := 79) rfl)
theorem dX10_tell_133 : decode cX10_tell 133 = .ok (.aload_n 0, 1) := dAX10_tell (133, (.aload_n 0, 1)) (List.mem_of_getElem? (i := 80) rfl)
theorem dX10_tell_134 : decode cX10_tell 134 = .ok (.getfield 20, 3) := dAX10_tell (134, (.getfield 20, 3)) (List.mem_of_getElem? (i := 81) rfl)
theorem dX10_tell_137 : decode cX10_tell 137 = .ok (.bipush 86, 2) := dAX10_tell (137, (.bipush 86, 2)) (List.mem_of_getElem? (i := 82) rfl)
theorem dX10_tell_139 : decode cX10_tell 139 = .ok (.iconst 2, 1) := dAX10_tell (139, (.iconst 2, 1)) (List.mem_of_getElem? (i := 83) rfl)
theorem dX10_tell_140 : decode cX10_tell 140 = .ok (.iload_n 1, 1) := dAX10_tell (140, (.iload_n 1, 1)) (List.mem_of_getElem? (i := 84) rfl)
theorem dX10_tell_141 : decode cX10_tell 141 = .ok (.imul, 1) := dAX10_tell (141, (.imul, 1)) (List.mem_of_getElem? (i := 85) rfl)
theorem dX10_tell_142 : decode cX10_tell 142 = .ok (.iadd, 1) := dAX10_tell (142, (.iadd, 1)) (List.mem_of_getElem? (i := 86) rfl)
theorem dX10_tell_143 : decode cX10_tell 143 = .ok (.iaload, 1) := dAX10_tell (143, (.iaload, 1)) (List.mem_of_getElem? (i := 87) rfl)
theorem dX10_tell_144 : decode cX10_tell 144 = .ok (.if_icmp .ge 20, 3) := dAX10_tell (144, (.if_icmp .ge 20, 3)) (List.mem_of_getElem? (i := 88) rfl)
theorem dX10_tell_147 : decode cX10_tell 147 = .ok (.iload_n 2, 1) := dAX10_tell (147, (.iload_n 2, 1)) (List.mem_of_getElem? (i := 89) rfl)
theorem dX10_tell_148 : decode cX10_tell 148 = .ok (.aload_n 0, 1) := dAX10_tell (148, (.aload_n 0, 1)) (List.mem_of_getElem? (i := 90) rfl)
theorem dX10_tell_149 : decode cX10_tell 149 = .ok (.aload_n 0, 1) := dAX10_tell (149, (.aload_n 0, 1)) (List.mem_of_getElem? (i := 91) rfl)
theorem dX10_tell_150 : decode cX10_tell 150 = .ok (.getfield 26, 3) := dAX10_tell (150, (.getfield 26, 3)) (List.mem_of_getElem? (i := 92) rfl)
theorem dX10_tell_153 : decode cX10_tell 153 = .ok (.invokevirtual 293, 3) := dAX10_tell (153, (.invokevirtual 293, 3)) (List.mem_of_getElem? (i := 93) rfl)
theorem dX10_tell_156 : decode cX10_tell 156 = .ok (.ior, 1) := dAX10_tell (156, (.ior, 1)) (List.mem_of_getElem? (i := 94) rfl)
theorem dX10_tell_157 : decode cX10_tell 157 = .ok (.istore_n 2, 1) := dAX10_tell (157, (.istore_n 2, 1)) (List.mem_of_getElem? (i := 95) rfl)
theorem dX10_tell_158 : decode cX10_tell 158 = .ok (.iinc 3 1, 3) := dAX10_tell (158, (.iinc 3 1, 3)) (List.mem_of_getElem? (i := 96) rfl)
theorem dX10_tell_161 : decode cX10_tell 161 = .ok (.goto (-29), 3) := dAX10_tell (161, (.goto (-29), 3)) (List.mem_of_getElem? (i := 97) rfl)
theorem dX10_tell_164 : decode cX10_tell 164 = .ok (.iload_n 2, 1) := dAX10_tell (164, (.iload_n 2, 1)) (List.mem_of_getElem? (i := 98) rfl)
theorem dX10_tell_165 : decode cX10_tell 165 = .ok (.ireturn, 1) := dAX10_tell (165, (.ireturn, 1)) (List.mem_of_getElem? (i := 99) rfl)
set_option maxRecDepth 20000 in
theorem ggX10_tell_X10_good : GoodIn wsX10_tell wsX10_good := goodIn_r _ [8, 9, 10, 70, 71, 72, 73, 74, 75, 76, 77, 78, 79, 80, 81, 82, 83, 84, 85, 86, 87, 88, 89, 90, 91, 92, 93, 94, 95, 96, 97, 98, 99, 100, 101, 102, 103, 104] rfl (by decide +kernel)
set_option maxRecDepth 20000 in
theorem gX10_tell_X10_good : GoodIn wsX10_tell (wsV RX10 159 RX10 yX10_good wsX10_good) := goodIn_app (goodIn_of _ (by decide +kernel)) ggX10_tell_X10_good
set_option maxRecDepth 20000 in
theorem ggX10_tell_X10_in : GoodIn wsX10_tell wsX10_in := goodIn_r _ [13] rfl (by decide +kernel)
set_option maxRecDepth 20000 in
theorem gX10_tell_X10_in : GoodIn wsX10_tell (va_wsS RX10 144 yX10_in wsX10_in) := goodIn_app (goodIn_of _ (by decide +kernel)) ggX10_tell_X10_in
set_option maxRecDepth 20000 in
theorem ggX10_tell_X10_no : GoodIn wsX10_tell wsX10_no := goodIn_r _ [17, 10, 70, 71, 72, 73, 74, 75, 76, 77, 78, 79, 80, 81, 82, 83, 84, 85, 86, 87, 88, 89, 90, 91, 92, 93, 94, 95, 96, 97, 98, 99, 100, 101, 102, 103, 104] rfl (by decide +kernel)
set_option maxRecDepth 20000 in
theorem gX10_tell_X10_no : GoodIn wsX10_tell (wsV RX10 162 RX10 yX10_no wsX10_no) := goodIn_app (goodIn_of _ (by decide +kernel)) ggX10_tell_X10_no
set_option maxRecDepth 20000 in
theorem ggX10_tell_X10_hasBit : GoodIn wsX10_tell wsX10_hasBit := goodIn_r _ [20] rfl (by decide +kernel)
set_option maxRecDepth 20000 in
theorem gX10_tell_X10_hasBit : GoodIn wsX10_tell (va_wsS RX10 252 yX10_hasBit wsX10_hasBit) := goodIn_app (goodIn_of _ (by decide +kernel)) ggX10_tell_X10_hasBit
set_option maxRecDepth 20000 in
theorem ggX10_tell_X10_thereOf : GoodIn wsX10_tell wsX10_thereOf := goodIn_r _ [24, 2, 25, 26, 7, 27, 70, 71, 72, 73, 74, 75, 76, 77, 78, 79, 80, 81, 82, 83, 84, 85, 86, 87, 88, 89, 90, 91, 92, 93, 94, 95, 96, 97, 98, 99, 100, 101, 102, 103, 104] rfl (by decide +kernel)
set_option maxRecDepth 20000 in
theorem gX10_tell_X10_thereOf : GoodIn wsX10_tell (wsV RX10 259 RX10 yX10_thereOf wsX10_thereOf) := goodIn_app (goodIn_of _ (by decide +kernel)) ggX10_tell_X10_thereOf
set_option maxRecDepth 20000 in
theorem ggX10_tell_X10_note : GoodIn wsX10_tell wsX10_note := goodIn_r _ [31, 32, 33, 3, 34, 35, 7, 36, 70, 71, 72, 73, 74, 75, 76, 77, 78, 79, 80, 81, 82, 83, 84, 85, 86, 87, 88, 89, 90, 91, 92, 93, 94, 95, 96, 97, 98, 99, 100, 101, 102, 103, 104] rfl (by decide +kernel)
set_option maxRecDepth 20000 in
theorem gX10_tell_X10_note : GoodIn wsX10_tell (wsV RX10 392 RX10 yX10_note wsX10_note) := goodIn_app (goodIn_of _ (by decide +kernel)) ggX10_tell_X10_note
set_option maxRecDepth 20000 in
theorem ggX10_tell_X10_tires : GoodIn wsX10_tell wsX10_tires := goodIn_r _ [40, 2, 25, 26, 7, 27, 70, 71, 72, 73, 74, 75, 76, 77, 78, 79, 80, 81, 82, 83, 84, 85, 86, 87, 88, 89, 90, 91, 92, 93, 94, 95, 96, 97, 98, 99, 100, 101, 102, 103, 104] rfl (by decide +kernel)
set_option maxRecDepth 20000 in
theorem gX10_tell_X10_tires : GoodIn wsX10_tell (wsV RX10 325 RX10 yX10_tires wsX10_tires) := goodIn_app (goodIn_of _ (by decide +kernel)) ggX10_tell_X10_tires
set_option maxRecDepth 20000 in
theorem ggX10_tell_X10_hourOf : GoodIn wsX10_tell wsX10_hourOf := goodIn_r _ [44, 2, 45, 46, 47, 7, 48, 25, 26, 27, 49, 50, 51, 52, 53, 54, 55, 56, 57, 58, 59, 60, 61, 21, 22, 23, 24, 62, 63, 64, 65, 66, 67, 68, 69, 18, 19, 20, 70, 71, 72, 73, 74, 75, 76, 77, 78, 79, 80, 81, 82, 83, 84, 85, 86, 87, 88, 89, 90, 91, 92, 93, 94, 95, 96, 97, 98, 99, 100, 101, 102, 103, 104] rfl (by decide +kernel)
set_option maxRecDepth 20000 in
theorem gX10_tell_X10_hourOf : GoodIn wsX10_tell (wsV RX10 293 RX10 yX10_hourOf wsX10_hourOf) := goodIn_app (goodIn_of _ (by decide +kernel)) ggX10_tell_X10_hourOf
theorem kX10_tell_176 : Cond.fieldLink RX10 176 "EveningVowModel" "hasEvening" "Z" ∈ wsX10_tell := List.mem_of_getElem? (i := 1) rfl
theorem iX10_tell_X10 : ∀ w ∈ u_ws RX10 TX10 35, w ∈ wsX10_tell := fun w h => (List.mem_cons_of_mem _ (List.mem_append_right _ h))
theorem kX10_tell_20 : Cond.fieldLink RX10 20 "EveningVowModel" "\x72" "[I" ∈ wsX10_tell := List.mem_of_getElem? (i := 2) rfl
theorem kX10_tell_26 : Cond.fieldLink RX10 26 "EveningVowModel" "st" "[I" ∈ wsX10_tell := List.mem_of_getElem? (i := 3) rfl
set_option maxHeartbeats 4000000 in
set_option maxRecDepth 100000 in
theorem wX10_tell_L132 {p : Program} {l : Launch} {e : Env} {s : State} {m : MethodId} {args : Array Value} {below : List Frame} {meth : Method} {c : Code} {g : GG} {A : Nat → Prop} (C0 : Cx p s m args meth c cX10_tell 4 (some .int) RX10 wsX10_tell g A) (a_t : Nat) (p_t : Nat → Nat) (n : Nat) (x1 : Int32) (f_t_15 : Nat → Int32) (f_t_18 : Nat → Int32) (r : Int32) (o_t' : Nat → Int32) (f_t_17' : Nat → Int32) (f_t_18' : Nat → Int32) (K : Int32 → (Nat → Int32) → (Nat → Int32) → Option (Int32 × (Nat → Int32) × (Nat → Int32) × (Nat → Int32))) (hKx : ∀ (x2 : Int32) (o_t : Nat → Int32) (f_t_17 : Nat → Int32) (H : Heap) (locs : List Loc) (ls : Array Slot), K x2 o_t f_t_17 = some (r, o_t', f_t_17', f_t_18') → va_P g.1 vwCl [oX10 a_t p_t o_t, aI g (p_t 15) 266 f_t_15, aI g (p_t 17) 17 f_t_17, aI g (p_t 18) 272 f_t_18] H → va_D A [oX10 a_t p_t o_t, aI g (p_t 15) 266 f_t_15, aI g (p_t 17) 17 f_t_17, aI g (p_t 18) 272 f_t_18] → va_S A s.heap H locs → lv_has ls 4 [(2, .int x2)] → W p l e ({ frames := 4, cells := 0, slots := 0, locals := 93 } : Room) s m args below meth c H locs 0 0 (MQ below (EndI g r [oX10 a_t p_t o_t', aI g (p_t 15) 266 f_t_15, aI g (p_t 17) 17 f_t_17', aI g (p_t 18) 272 f_t_18'] A) args s 0 0 A) (F0 m 164 ls [])) : ∀ (k : Nat) (x2 : Int32) (x3 : Int32) (o_t : Nat → Int32) (f_t_17 : Nat → Int32), fX10_tell_L132 n x1 f_t_15 K k x2 x3 o_t f_t_17 = some (r, o_t', f_t_17', f_t_18') → ∀ (H : Heap) (locs : List Loc) (ls : Array Slot), va_P g.1 vwCl [oX10 a_t p_t o_t, aI g (p_t 15) 266 f_t_15, aI g (p_t 17) 17 f_t_17, aI g (p_t 18) 272 f_t_18] H → va_D A [oX10 a_t p_t o_t, aI g (p_t 15) 266 f_t_15, aI g (p_t 17) 17 f_t_17, aI g (p_t 18) 272 f_t_18] → va_S A s.heap H locs → lv_has ls 4 [(0, .ref a_t), (1, .int x1), (2, .int x2), (3, .int x3)] → W p l e ({ frames := 4, cells := 0, slots := 0, locals := 93 } : Room) s m args below meth c H locs 0 0 (MQ below (EndI g r [oX10 a_t p_t o_t', aI g (p_t 15) 266 f_t_15, aI g (p_t 17) 17 f_t_17', aI g (p_t 18) 272 f_t_18'] A) args s 0 0 A) (F0 m 132 ls []) := by
  obtain ⟨hx, hb, hml, hown, hts, hr, hlk, hK, hA, hSW⟩ := id C0
  intro k
  induction k with
  | zero =>
    intro x2 x3 o_t f_t_17 hF
    exact absurd hF (by simp [fX10_tell_L132])
  | succ k ih =>
    intro x2 x3 o_t f_t_17 hF H locs ls hP hD hS hl
    rw [fX10_tell_L132] at hF
    refine lv_iload_n hx hb dX10_tell_132 rfl (lv_at hl 3 rfl) ?_
    refine lv_aload_n hx hb dX10_tell_133 rfl (lv_at hl 0 rfl) ?_
    refine va_get (D := g.1) (ci := 10) (v := .ref (p_t 15)) (C := RX10) (T := TX10) (N := 35) hx hb hts iX10_tell_X10 hown hK.1 hP 0 rfl rfl 15 (by decide) (hts _ kX10_tell_20) (fun _ h9 => h9) rfl dX10_tell_134 ?_
    refine lv_bipush (v := (86 : Int32)) hx hb dX10_tell_137 (by decide) ?_
    refine lv_iconst (v := (2 : Int32)) hx hb dX10_tell_139 (by decide) ?_
    refine lv_iload_n hx hb dX10_tell_140 rfl (lv_at hl 1 rfl) ?_
    refine lv_imul hx hb dX10_tell_141 ?_
    refine lv_iadd hx hb dX10_tell_142 ?_
    obtain ⟨h_23, hF⟩ := it_ck hF
    refine va_iald hx hb hK.1 hP 1 0 rfl rfl h_23 dX10_tell_143 ?_
    refine lv_icmp_ge (tgt := 164) hx hb dX10_tell_144 (by decide) (fun c_24 => ?_) (fun c_24 => ?_)
    · have hF := it_p c_24 hF
      exact hKx x2 o_t f_t_17 _ _ _ hF (hP.sub [0, 1, 2, 3] rfl) (hD.sub [0, 1, 2, 3] rfl rfl) hS (lv_sub hl [2] rfl)
    · have hF := it_n c_24 hF
      refine lv_iload_n hx hb dX10_tell_147 rfl (lv_at hl 2 rfl) ?_
      refine lv_aload_n hx hb dX10_tell_148 rfl (lv_at hl 0 rfl) ?_
      refine lv_aload_n hx hb dX10_tell_149 rfl (lv_at hl 0 rfl) ?_
      refine va_get (D := g.1) (ci := 10) (v := .ref (p_t 17)) (C := RX10) (T := TX10) (N := 35) hx hb hts iX10_tell_X10 hown hK.1 hP 0 rfl rfl 17 (by decide) (hts _ kX10_tell_26) (fun _ h9 => h9) rfl dX10_tell_150 ?_
      obtain ⟨u_25, u_26, u_27, hu_28, hF⟩ := ob3_some hF
      refine call_i (wr := [aI g (p_t 18) 272 f_t_18]) (As := [.ref (p_t 17)]) (rest := [.int x2]) (ci := 10) (q0 := 0) C0 (mX10_hourOf l g a_t (p_t 17) p_t n o_t f_t_15 f_t_17 u_25 u_26 u_27 hu_28) (cwV 1 hts gX10_tell_X10_hourOf rfl rfl rfl (by decide +kernel) ⟨Nat.le_of_ble_eq_true rfl, Nat.le_of_ble_eq_true rfl⟩) hP hD hS [0, 1, 2] [3] rfl rfl rfl rfl rfl (by decide) rfl rfl hl.1 rfl rfl (Nat.le_of_ble_eq_true rfl) ⟨Nat.zero_le _, Nat.zero_le _⟩ dX10_tell_153 ?_
      intro H locs hP hD hS
      refine lv_ior hx hb dX10_tell_156 ?_
      refine lv_istore_n (lv' := [(2, .int (x2 ||| u_25)), (0, .ref a_t), (1, .int x1), (3, .int x3)]) hx hb dX10_tell_157 rfl hl (by decide) rfl (fun ls hl => ?_)
      refine lv_iinc (v := (x3 + (1 : Int32))) (lv' := [(3, .int (x3 + (1 : Int32))), (2, .int (x2 ||| u_25)), (0, .ref a_t), (1, .int x1)]) hx hb dX10_tell_158 hl (k := 3) rfl rfl (by decide) rfl (fun ls hl => ?_)
      refine lv_goto (tgt := 132) hx hb dX10_tell_161 (by decide) ?_
      exact ih (x2 ||| u_25) (x3 + (1 : Int32)) u_26 u_27 hF _ _ _ (hP.sub [1, 2, 3, 0] rfl) (hD.sub [1, 2, 3, 0] rfl rfl) hS (lv_sub hl [2, 3, 1, 0] rfl)
set_option maxHeartbeats 4000000 in
set_option maxRecDepth 100000 in
theorem mX10_tell (l : Launch) (g : GG) (a_t : Nat) (p_t : Nat → Nat) (n : Nat) (x1 : Int32) (o_t : Nat → Int32) (f_t_15 : Nat → Int32) (f_t_17 : Nat → Int32) (f_t_18 : Nat → Int32) (r : Int32) (o_t' : Nat → Int32) (f_t_17' : Nat → Int32) (f_t_18' : Nat → Int32) (hF : fX10_tell n x1 o_t f_t_15 f_t_17 f_t_18 = some (r, o_t', f_t_17', f_t_18')) : MI l g yX10_tell wsX10_tell ({ frames := 4, cells := 0, slots := 0, locals := 93 } : Room) [.ref a_t, .int x1] [oX10 a_t p_t o_t, aI g (p_t 15) 266 f_t_15, aI g (p_t 17) 17 f_t_17, aI g (p_t 18) 272 f_t_18] r [oX10 a_t p_t o_t', aI g (p_t 15) 266 f_t_15, aI g (p_t 17) 17 f_t_17', aI g (p_t 18) 272 f_t_18'] := by
  refine MI.of (cc := cX10_tell) (maxL := 4) (rt := .int) (own := RX10) rfl rfl (by decide) (Nat.le_of_ble_eq_true rfl) ?_
  intro p e s m args below meth c A C0 hP hD hS ls hl
  obtain ⟨hx, hb, hml, hown, hts, hr, hlk, hK, hA, hSW⟩ := id C0
  have hl : lv_has ls 4 [(0, .ref a_t), (1, .int x1)] := hl
  rw [fX10_tell] at hF
  refine lv_aload_n hx hb dX10_tell_0 rfl (lv_at hl 0 rfl) ?_
  obtain ⟨u_1, hu_2, hF⟩ := ob1_some hF
  refine call_v (wr := [aI g (p_t 15) 266 f_t_15, aI g (p_t 17) 17 f_t_17, aI g (p_t 18) 272 f_t_18]) (As := []) (rest := []) (ci := 10) (q0 := 0) C0 (mX10_good l g a_t p_t n o_t u_1 hu_2) (cwV 0 hts gX10_tell_X10_good rfl rfl rfl (by decide +kernel) ⟨Nat.le_of_ble_eq_true rfl, Nat.le_of_ble_eq_true rfl⟩) hP hD hS [0] [1, 2, 3] rfl rfl rfl rfl rfl (by decide) rfl rfl hl.1 rfl rfl (Nat.le_of_ble_eq_true rfl) ⟨Nat.zero_le _, Nat.zero_le _⟩ dX10_tell_1 ?_
  intro H locs hP hD hS
  refine lv_aload_n hx hb dX10_tell_4 rfl (lv_at hl 0 rfl) ?_
  refine va_get (D := g.1) (ci := 10) (v := .int (u_1 14)) (C := RX10) (T := TX10) (N := 35) hx hb hts iX10_tell_X10 hown hK.1 hP 3 rfl rfl 14 (by decide) (hts _ kX10_tell_176) (fun _ h9 => h9) rfl dX10_tell_5 ?_
  refine lv_if_eq (tgt := 28) hx hb dX10_tell_8 (by decide) (fun c_3 => ?_) (fun c_3 => ?_)
  · have hF := it_p c_3 hF
    refine lv_aload_n hx hb dX10_tell_28 rfl (lv_at hl 0 rfl) ?_
    refine lv_iconst (v := (1 : Int32)) hx hb dX10_tell_29 (by decide) ?_
    obtain ⟨u_4, u_5, hu_6, hF⟩ := ob2_some hF
    refine call_i (wr := [aI g (p_t 15) 266 f_t_15, aI g (p_t 17) 17 f_t_17, aI g (p_t 18) 272 f_t_18]) (As := [.int (1 : Int32)]) (rest := []) (ci := 10) (q0 := 0) C0 (mX10_no l g a_t p_t n (1 : Int32) u_1 u_4 u_5 hu_6) (cwV 1 hts gX10_tell_X10_no rfl rfl rfl (by decide +kernel) ⟨Nat.le_of_ble_eq_true rfl, Nat.le_of_ble_eq_true rfl⟩) hP hD hS [3] [0, 1, 2] rfl rfl rfl rfl rfl (by decide) rfl rfl hl.1 rfl rfl (Nat.le_of_ble_eq_true rfl) ⟨Nat.zero_le _, Nat.zero_le _⟩ dX10_tell_30 ?_
    intro H locs hP hD hS
    cases hF
    exact ret_i C0 hP hD hS [3, 0, 1, 2] rfl rfl rfl dX10_tell_33 rfl
  · have hF := it_n c_3 hF
    refine lv_iload_n hx hb dX10_tell_11 rfl (lv_at hl 1 rfl) ?_
    refine lv_iconst (v := (0 : Int32)) hx hb dX10_tell_12 (by decide) ?_
    refine lv_aload_n hx hb dX10_tell_13 rfl (lv_at hl 0 rfl) ?_
    refine va_get (D := g.1) (ci := 10) (v := .ref (p_t 15)) (C := RX10) (T := TX10) (N := 35) hx hb hts iX10_tell_X10 hown hK.1 hP 3 rfl rfl 15 (by decide) (hts _ kX10_tell_20) (fun _ h9 => h9) rfl dX10_tell_14 ?_
    refine lv_bipush (v := (6 : Int32)) hx hb dX10_tell_17 (by decide) ?_
    refine va_iald_k (j := 6) hx hb hK.1 hP 0 0 rfl rfl (by unfold vp_in; decide) rfl dX10_tell_19 ?_
    refine lv_iconst (v := (1 : Int32)) hx hb dX10_tell_20 (by decide) ?_
    refine lv_isub hx hb dX10_tell_21 ?_
    obtain ⟨u_7, hu_8, hF⟩ := ob1_some hF
    refine call_si (wr := [aI g (p_t 15) 266 f_t_15, aI g (p_t 17) 17 f_t_17, aI g (p_t 18) 272 f_t_18, oX10 a_t p_t u_1]) (As := [.int x1, .int (0 : Int32), .int ((f_t_15 6) - (1 : Int32))]) (rest := []) C0 (mX10_in l g n x1 (0 : Int32) ((f_t_15 6) - (1 : Int32)) u_7 hu_8) (va_cwS 3 hts gX10_tell_X10_in rfl rfl rfl (by decide +kernel) ⟨Nat.le_of_ble_eq_true rfl, Nat.le_of_ble_eq_true rfl⟩) hP hD hS [] [0, 1, 2, 3] rfl rfl rfl rfl rfl (by decide) hl.1 rfl rfl (Nat.le_of_ble_eq_true rfl) ⟨Nat.zero_le _, Nat.zero_le _⟩ dX10_tell_22 ?_
    intro H locs hP hD hS
    refine lv_if_ne (tgt := 34) hx hb dX10_tell_25 (by decide) (fun c_9 => ?_) (fun c_9 => ?_)
    · have hF := it_n c_9 hF
      refine lv_aload_n hx hb dX10_tell_34 rfl (lv_at hl 0 rfl) ?_
      refine va_get (D := g.1) (ci := 10) (v := .ref (p_t 17)) (C := RX10) (T := TX10) (N := 35) hx hb hts iX10_tell_X10 hown hK.1 hP 3 rfl rfl 17 (by decide) (hts _ kX10_tell_26) (fun _ h9 => h9) rfl dX10_tell_35 ?_
      refine lv_bipush (v := (14 : Int32)) hx hb dX10_tell_38 (by decide) ?_
      refine va_iald_k (j := 14) hx hb hK.1 hP 1 0 rfl rfl (by unfold vp_in; decide) rfl dX10_tell_40 ?_
      refine lv_aload_n hx hb dX10_tell_41 rfl (lv_at hl 0 rfl) ?_
      refine va_get (D := g.1) (ci := 10) (v := .ref (p_t 15)) (C := RX10) (T := TX10) (N := 35) hx hb hts iX10_tell_X10 hown hK.1 hP 3 rfl rfl 15 (by decide) (hts _ kX10_tell_20) (fun _ h9 => h9) rfl dX10_tell_42 ?_
      refine lv_bipush (v := (86 : Int32)) hx hb dX10_tell_45 (by decide) ?_
      refine lv_iconst (v := (2 : Int32)) hx hb dX10_tell_47 (by decide) ?_
      refine lv_iload_n hx hb dX10_tell_48 rfl (lv_at hl 1 rfl) ?_
      refine lv_imul hx hb dX10_tell_49 ?_
      refine lv_iadd hx hb dX10_tell_50 ?_
      obtain ⟨h_10, hF⟩ := it_ck hF
      refine va_iald hx hb hK.1 hP 0 0 rfl rfl h_10 dX10_tell_51 ?_
      refine lv_iadd hx hb dX10_tell_52 ?_
      refine lv_bipush (v := (99 : Int32)) hx hb dX10_tell_53 (by decide) ?_
      refine lv_icmp_le (tgt := 64) hx hb dX10_tell_55 (by decide) (fun c_11 => ?_) (fun c_11 => ?_)
      · have hF := it_p c_11 hF
        refine lv_aload_n hx hb dX10_tell_64 rfl (lv_at hl 0 rfl) ?_
        refine va_get (D := g.1) (ci := 10) (v := .ref (p_t 17)) (C := RX10) (T := TX10) (N := 35) hx hb hts iX10_tell_X10 hown hK.1 hP 3 rfl rfl 17 (by decide) (hts _ kX10_tell_26) (fun _ h9 => h9) rfl dX10_tell_65 ?_
        refine lv_bipush (v := (16 : Int32)) hx hb dX10_tell_68 (by decide) ?_
        refine va_iald_k (j := 16) hx hb hK.1 hP 1 0 rfl rfl (by unfold vp_in; decide) rfl dX10_tell_70 ?_
        refine lv_iload_n hx hb dX10_tell_71 rfl (lv_at hl 1 rfl) ?_
        obtain ⟨u_12, hu_13, hF⟩ := ob1_some hF
        refine call_si (wr := [aI g (p_t 15) 266 f_t_15, aI g (p_t 17) 17 f_t_17, aI g (p_t 18) 272 f_t_18, oX10 a_t p_t u_1]) (As := [.int (f_t_17 16), .int x1]) (rest := []) C0 (mX10_hasBit l g n (f_t_17 16) x1 u_12 hu_13) (va_cwS 2 hts gX10_tell_X10_hasBit rfl rfl rfl (by decide +kernel) ⟨Nat.le_of_ble_eq_true rfl, Nat.le_of_ble_eq_true rfl⟩) hP hD hS [] [0, 1, 2, 3] rfl rfl rfl rfl rfl (by decide) hl.1 rfl rfl (Nat.le_of_ble_eq_true rfl) ⟨Nat.zero_le _, Nat.zero_le _⟩ dX10_tell_72 ?_
        intro H locs hP hD hS
        refine lv_if_eq (tgt := 84) hx hb dX10_tell_75 (by decide) (fun c_14 => ?_) (fun c_14 => ?_)
        · have hF := it_p c_14 hF
          refine lv_aload_n hx hb dX10_tell_84 rfl (lv_at hl 0 rfl) ?_
          refine lv_aload_n hx hb dX10_tell_85 rfl (lv_at hl 0 rfl) ?_
          refine va_get (D := g.1) (ci := 10) (v := .ref (p_t 17)) (C := RX10) (T := TX10) (N := 35) hx hb hts iX10_tell_X10 hown hK.1 hP 3 rfl rfl 17 (by decide) (hts _ kX10_tell_26) (fun _ h9 => h9) rfl dX10_tell_86 ?_
          obtain ⟨u_15, hu_16, hF⟩ := ob1_some hF
          refine call_i (wr := [aI g (p_t 18) 272 f_t_18]) (As := [.ref (p_t 17)]) (rest := []) (ci := 10) (q0 := 0) C0 (mX10_thereOf l g a_t (p_t 17) p_t n u_1 f_t_15 f_t_17 u_15 hu_16) (cwV 1 hts gX10_tell_X10_thereOf rfl rfl rfl (by decide +kernel) ⟨Nat.le_of_ble_eq_true rfl, Nat.le_of_ble_eq_true rfl⟩) hP hD hS [3, 0, 1] [2] rfl rfl rfl rfl rfl (by decide) rfl rfl hl.1 rfl rfl (Nat.le_of_ble_eq_true rfl) ⟨Nat.zero_le _, Nat.zero_le _⟩ dX10_tell_89 ?_
          intro H locs hP hD hS
          refine lv_if_ne (tgt := 102) hx hb dX10_tell_92 (by decide) (fun c_17 => ?_) (fun c_17 => ?_)
          · have hF := it_n c_17 hF
            refine lv_aload_n hx hb dX10_tell_102 rfl (lv_at hl 0 rfl) ?_
            obtain ⟨u_18, u_19, hu_20, hF⟩ := ob2_some hF
            refine call_v (wr := [aI g (p_t 15) 266 f_t_15]) (As := []) (rest := []) (ci := 10) (q0 := 0) C0 (mX10_note l g a_t p_t n u_1 f_t_17 f_t_18 u_18 u_19 hu_20) (cwV 0 hts gX10_tell_X10_note rfl rfl rfl (by decide +kernel) ⟨Nat.le_of_ble_eq_true rfl, Nat.le_of_ble_eq_true rfl⟩) hP hD hS [1, 3, 0] [2] rfl rfl rfl rfl rfl (by decide) rfl rfl hl.1 rfl rfl (Nat.le_of_ble_eq_true rfl) ⟨Nat.zero_le _, Nat.zero_le _⟩ dX10_tell_103 ?_
            intro H locs hP hD hS
            refine lv_aload_n hx hb dX10_tell_106 rfl (lv_at hl 0 rfl) ?_
            refine va_get (D := g.1) (ci := 10) (v := .ref (p_t 17)) (C := RX10) (T := TX10) (N := 35) hx hb hts iX10_tell_X10 hown hK.1 hP 1 rfl rfl 17 (by decide) (hts _ kX10_tell_26) (fun _ h9 => h9) rfl dX10_tell_107 ?_
            refine lv_bipush (v := (16 : Int32)) hx hb dX10_tell_110 (by decide) ?_
            refine lv_dup2_11 hx hb dX10_tell_112 rfl rfl ?_
            refine va_iald_k (j := 16) hx hb hK.1 hP 2 0 rfl rfl (by unfold vp_in; decide) rfl dX10_tell_113 ?_
            refine lv_iconst (v := (1 : Int32)) hx hb dX10_tell_114 (by decide) ?_
            refine lv_iload_n hx hb dX10_tell_115 rfl (lv_at hl 1 rfl) ?_
            refine lv_ishl hx hb dX10_tell_116 ?_
            refine lv_ior hx hb dX10_tell_117 ?_
            refine va_iast hx hb hK.1 hP hD hS 2 0 rfl rfl (by unfold vp_in; decide) dX10_tell_118 (fun H locs hP hD hS => ?_)
            have hP : va_P g.1 vwCl [aI g (p_t 15) 266 f_t_15, oX10 a_t p_t u_18, aI g (p_t 17) 17 (upd f_t_17 16 ((f_t_17 16) ||| ((1 : Int32) <<< (x1 &&& 31)))), aI g (p_t 18) 272 u_19] H := hP
            have hD : va_D A [aI g (p_t 15) 266 f_t_15, oX10 a_t p_t u_18, aI g (p_t 17) 17 (upd f_t_17 16 ((f_t_17 16) ||| ((1 : Int32) <<< (x1 &&& 31)))), aI g (p_t 18) 272 u_19] := hD
            refine lv_aload_n hx hb dX10_tell_119 rfl (lv_at hl 0 rfl) ?_
            refine lv_aload_n hx hb dX10_tell_120 rfl (lv_at hl 0 rfl) ?_
            refine va_get (D := g.1) (ci := 10) (v := .ref (p_t 17)) (C := RX10) (T := TX10) (N := 35) hx hb hts iX10_tell_X10 hown hK.1 hP 1 rfl rfl 17 (by decide) (hts _ kX10_tell_26) (fun _ h9 => h9) rfl dX10_tell_121 ?_
            refine lv_iload_n hx hb dX10_tell_124 rfl (lv_at hl 1 rfl) ?_
            obtain ⟨u_21, hu_22, hF⟩ := ob1_some hF
            refine call_v (wr := [aI g (p_t 18) 272 u_19]) (As := [.ref (p_t 17), .int x1]) (rest := []) (ci := 10) (q0 := 0) C0 (mX10_tires l g a_t (p_t 17) p_t n x1 u_18 f_t_15 (upd f_t_17 16 ((f_t_17 16) ||| ((1 : Int32) <<< (x1 &&& 31)))) u_21 hu_22) (cwV 2 hts gX10_tell_X10_tires rfl rfl rfl (by decide +kernel) ⟨Nat.le_of_ble_eq_true rfl, Nat.le_of_ble_eq_true rfl⟩) hP hD hS [1, 0, 2] [3] rfl rfl rfl rfl rfl (by decide) rfl rfl hl.1 rfl rfl (Nat.le_of_ble_eq_true rfl) ⟨Nat.zero_le _, Nat.zero_le _⟩ dX10_tell_125 ?_
            intro H locs hP hD hS
            refine lv_iconst (v := (0 : Int32)) hx hb dX10_tell_128 (by decide) ?_
            refine lv_istore_n (lv' := [(2, .int (0 : Int32)), (0, .ref a_t), (1, .int x1)]) hx hb dX10_tell_129 rfl hl (by decide) rfl (fun ls hl => ?_)
            refine lv_iconst (v := (0 : Int32)) hx hb dX10_tell_130 (by decide) ?_
            refine lv_istore_n (lv' := [(3, .int (0 : Int32)), (2, .int (0 : Int32)), (0, .ref a_t), (1, .int x1)]) hx hb dX10_tell_131 rfl hl (by decide) rfl (fun ls hl => ?_)
            refine wX10_tell_L132 C0 a_t p_t n x1 f_t_15 u_19 r o_t' f_t_17' f_t_18' _ ?_ n (0 : Int32) (0 : Int32) u_18 u_21 hF _ _ _ (hP.sub [1, 2, 3, 0] rfl) (hD.sub [1, 2, 3, 0] rfl rfl) hS (lv_sub hl [2, 3, 1, 0] rfl)
            · intro x2_x132 o_t_x132 f_t_17_x132 H locs ls hF hP hD hS hl
              refine lv_iload_n hx hb dX10_tell_164 rfl (lv_at hl 0 rfl) ?_
              cases hF
              exact ret_i C0 hP hD hS [0, 1, 2, 3] rfl rfl rfl dX10_tell_165 rfl
          · have hF := it_p c_17 hF
            refine lv_aload_n hx hb dX10_tell_95 rfl (lv_at hl 0 rfl) ?_
            refine lv_bipush (v := (6 : Int32)) hx hb dX10_tell_96 (by decide) ?_
            obtain ⟨u_29, u_30, hu_31, hF⟩ := ob2_some hF
            refine call_i (wr := [aI g (p_t 18) 272 f_t_18, aI g (p_t 15) 266 f_t_15, aI g (p_t 17) 17 f_t_17]) (As := [.int (6 : Int32)]) (rest := []) (ci := 10) (q0 := 0) C0 (mX10_no l g a_t p_t n (6 : Int32) u_1 u_29 u_30 hu_31) (cwV 1 hts gX10_tell_X10_no rfl rfl rfl (by decide +kernel) ⟨Nat.le_of_ble_eq_true rfl, Nat.le_of_ble_eq_true rfl⟩) hP hD hS [1] [0, 2, 3] rfl rfl rfl rfl rfl (by decide) rfl rfl hl.1 rfl rfl (Nat.le_of_ble_eq_true rfl) ⟨Nat.zero_le _, Nat.zero_le _⟩ dX10_tell_98 ?_
            intro H locs hP hD hS
            cases hF
            exact ret_i C0 hP hD hS [3, 1, 2, 0] rfl rfl rfl dX10_tell_101 rfl
        · have hF := it_n c_14 hF
          refine lv_aload_n hx hb dX10_tell_78 rfl (lv_at hl 0 rfl) ?_
          refine lv_iconst (v := (5 : Int32)) hx hb dX10_tell_79 (by decide) ?_
          obtain ⟨u_32, u_33, hu_34, hF⟩ := ob2_some hF
          refine call_i (wr := [aI g (p_t 15) 266 f_t_15, aI g (p_t 17) 17 f_t_17, aI g (p_t 18) 272 f_t_18]) (As := [.int (5 : Int32)]) (rest := []) (ci := 10) (q0 := 0) C0 (mX10_no l g a_t p_t n (5 : Int32) u_1 u_32 u_33 hu_34) (cwV 1 hts gX10_tell_X10_no rfl rfl rfl (by decide +kernel) ⟨Nat.le_of_ble_eq_true rfl, Nat.le_of_ble_eq_true rfl⟩) hP hD hS [3] [0, 1, 2] rfl rfl rfl rfl rfl (by decide) rfl rfl hl.1 rfl rfl (Nat.le_of_ble_eq_true rfl) ⟨Nat.zero_le _, Nat.zero_le _⟩ dX10_tell_80 ?_
          intro H locs hP hD hS
          cases hF
          exact ret_i C0 hP hD hS [3, 0, 1, 2] rfl rfl rfl dX10_tell_83 rfl
      · have hF := it_n c_11 hF
        refine lv_aload_n hx hb dX10_tell_58 rfl (lv_at hl 0 rfl) ?_
        refine lv_iconst (v := (3 : Int32)) hx hb dX10_tell_59 (by decide) ?_
        obtain ⟨u_35, u_36, hu_37, hF⟩ := ob2_some hF
        refine call_i (wr := [aI g (p_t 15) 266 f_t_15, aI g (p_t 17) 17 f_t_17, aI g (p_t 18) 272 f_t_18]) (As := [.int (3 : Int32)]) (rest := []) (ci := 10) (q0 := 0) C0 (mX10_no l g a_t p_t n (3 : Int32) u_1 u_35 u_36 hu_37) (cwV 1 hts gX10_tell_X10_no rfl rfl rfl (by decide +kernel) ⟨Nat.le_of_ble_eq_true rfl, Nat.le_of_ble_eq_true rfl⟩) hP hD hS [3] [0, 1, 2] rfl rfl rfl rfl rfl (by decide) rfl rfl hl.1 rfl rfl (Nat.le_of_ble_eq_true rfl) ⟨Nat.zero_le _, Nat.zero_le _⟩ dX10_tell_60 ?_
        intro H locs hP hD hS
        cases hF
        exact ret_i C0 hP hD hS [3, 0, 1, 2] rfl rfl rfl dX10_tell_63 rfl
    · have hF := it_p c_9 hF
      refine lv_aload_n hx hb dX10_tell_28 rfl (lv_at hl 0 rfl) ?_
      refine lv_iconst (v := (1 : Int32)) hx hb dX10_tell_29 (by decide) ?_
      obtain ⟨u_38, u_39, hu_40, hF⟩ := ob2_some hF
      refine call_i (wr := [aI g (p_t 15) 266 f_t_15, aI g (p_t 17) 17 f_t_17, aI g (p_t 18) 272 f_t_18]) (As := [.int (1 : Int32)]) (rest := []) (ci := 10) (q0 := 0) C0 (mX10_no l g a_t p_t n (1 : Int32) u_1 u_38 u_39 hu_40) (cwV 1 hts gX10_tell_X10_no rfl rfl rfl (by decide +kernel) ⟨Nat.le_of_ble_eq_true rfl, Nat.le_of_ble_eq_true rfl⟩) hP hD hS [3] [0, 1, 2] rfl rfl rfl rfl rfl (by decide) rfl rfl hl.1 rfl rfl (Nat.le_of_ble_eq_true rfl) ⟨Nat.zero_le _, Nat.zero_le _⟩ dX10_tell_30 ?_
      intro H locs hP hD hS
      cases hF
      exact ret_i C0 hP hD hS [3, 0, 1, 2] rfl rfl rfl dX10_tell_33 rfl

theorem dAX10_cup : ∀ q ∈ ([(0, (.aload_n 0, 1)), (1, (.invokevirtual 159, 3)), (4, (.aload_n 0, 1)), (5, (.iload_n 1, 1)), (6, (.invokevirtual 300, 3)), (9, (.ifCond .ne 9, 3)), (12, (.aload_n 0, 1)), (13, (.iconst 1, 1)), (14, (.invokevirtual 303, 3)), (17, (.ireturn, 1)), (18, (.aload_n 0, 1)), (19, (.getfield 26, 3)), (22, (.iload_n 1, 1)), (23, (.invokestatic 248, 3)), (26, (.ifCond .ne 9, 3)), (29, (.aload_n 0, 1)), (30, (.iconst 5, 1)), (31, (.invokevirtual 303, 3)), (34, (.ireturn, 1)), (35, (.aload_n 0, 1)), (36, (.getfield 26, 3)), (39, (.bipush 15, 2)), (41, (.iaload, 1)), (42, (.ifCond .ne 10, 3)), (45, (.aload_n 0, 1)), (46, (.bipush 6, 2)), (48, (.invokevirtual 303, 3)), (51, (.ireturn, 1)), (52, (.aload_n 0, 1)), (53, (.invokevirtual 392, 3)), (56, (.aload_n 0, 1)), (57, (.getfield 26, 3)), (60, (.bipush 15, 2)), (62, (.dup2, 1)), (63, (.iaload, 1)), (64, (.iconst 1, 1)), (65, (.isub, 1)), (66, (.iastore, 1)), (67, (.aload_n 0, 1)), (68, (.getfield 26, 3)), (71, (.iload_n 1, 1)), (72, (.dup2, 1)), (73, (.iaload, 1)), (74, (.aload_n 0, 1)), (75, (.getfield 20, 3)), (78, (.iconst 1, 1)), (79, (.iaload, 1)), (80, (.iadd, 1)), (81, (.iastore, 1)), (82, (.aload_n 0, 1)), (83, (.getfield 26, 3)), (86, (.iload_n 1, 1)), (87, (.iaload, 1)), (88, (.ireturn, 1))] : List (Nat × (Instr × Nat))), decode cX10_cup q.1 = .ok q.2 := by decide +kernel
theorem dX10_cup_0 : decode cX10_cup 0 = .ok (.aload_n 0, 1) := dAX10_cup (0, (.aload_n 0, 1)) (List.mem_of_getElem? (i := 0) rfl)
theorem dX10_cup_1 : decode cX10_cup 1 = .ok (.invokevirtual 159, 3) := dAX10_cup (1, (.invokevirtual 159, 3)) (List.mem_of_getElem? (i := 1) rfl)
theorem dX10_cup_4 : decode cX10_cup 4 = .ok (.aload_n 0, 1) := dAX10_cup (4, (.aload_n 0, 1)) (List.mem_of_getElem? (i := 2) rfl)
theorem dX10_cup_5 : decode cX10_cup 5 = .ok (.iload_n 1, 1) := dAX10_cup (5, (.iload_n 1, 1)) (List.mem_of_getElem? (i := 3) rfl)
theorem dX10_cup_6 : decode cX10_cup 6 = .ok (.invokevirtual 300, 3) := dAX10_cup (6, (.invokevirtual 300, 3)) (List.mem_of_getElem? (i := 4) rfl)
theorem dX10_cup_9 : decode cX10_cup 9 = .ok (.ifCond .ne 9, 3) := dAX10_cup (9, (.ifCond .ne 9, 3)) (List.mem_of_getElem? (i := 5) rfl)
theorem dX10_cup_12 : decode cX10_cup 12 = .ok (.aload_n 0, 1) := dAX10_cup (12, (.aload_n 0, 1)) (List.mem_of_getElem? (i := 6) rfl)
theorem dX10_cup_13 : decode cX10_cup 13 = .ok (.iconst 1, 1) := dAX10_cup (13, (.iconst 1, 1)) (List.mem_of_getElem? (i := 7) rfl)
theorem dX10_cup_14 : decode cX10_cup 14 = .ok (.invokevirtual 303, 3) := dAX10_cup (14, (.invokevirtual 303, 3)) (List.mem_of_getElem? (i := 8) rfl)
theorem dX10_cup_17 : decode cX10_cup 17 = .ok (.ireturn, 1) := dAX10_cup (17, (.ireturn, 1)) (List.mem_of_getElem? (i := 9) rfl)
theorem dX10_cup_18 : decode cX10_cup 18 = .ok (.aload_n 0, 1) := dAX10_cup (18, (.aload_n 0, 1)) (List.mem_of_getElem? (i := 10) rfl)
theorem dX10_cup_19 : decode cX10_cup 19 = .ok (.getfield 26, 3) := dAX10_cup (19, (.getfield 26, 3)) (List.mem_of_getElem? (i := 11) rfl)
theorem dX10_cup_22 : decode cX10_cup 22 = .ok (.iload_n 1, 1) := dAX10_cup (22, (.iload_n 1, 1)) (List.mem_of_getElem? (i := 12) rfl)
theorem dX10_cup_23 : decode cX10_cup 23 = .ok (.invokestatic 248, 3) := dAX10_cup (23, (.invokestatic 248, 3)) (List.mem_of_getElem? (i := 13) rfl)
theorem dX10_cup_26 : decode cX10_cup 26 = .ok (.ifCond .ne 9, 3) := dAX10_cup (26, (.ifCond .ne 9, 3)) (List.mem_of_getElem? (i := 14) rfl)
theorem dX10_cup_29 : decode cX10_cup 29 = .ok (.aload_n 0, 1) := dAX10_cup (29, (.aload_n 0, 1)) (List.mem_of_getElem? (i := 15) rfl)
theorem dX10_cup_30 : decode cX10_cup 30 = .ok (.iconst 5, 1) := dAX10_cup (30, (.iconst 5, 1)) (List.mem_of_getElem? (i := 16) rfl)
theorem dX10_cup_31 : decode cX10_cup 31 = .ok (.invokevirtual 303, 3) := dAX10_cup (31, (.invokevirtual 303, 3)) (List.mem_of_getElem? (i := 17) rfl)
theorem dX10_cup_34 : decode cX10_cup 34 = .ok (.ireturn, 1) := dAX10_cup (34, (.ireturn, 1)) (List.mem_of_getElem? (i := 18) rfl)
theorem dX10_cup_35 : decode cX10_cup 35 = .ok (.aload_n 0, 1) := dAX10_cup (35, (.aload_n 0, 1)) (List.mem_of_getElem? (i := 19) rfl)
theorem dX10_cup_36 : decode cX10_cup 36 = .ok (.getfield 26, 3) := dAX10_cup (36, (.getfield 26, 3)) (List.mem_of_getElem? (i := 20) rfl)
theorem dX10_cup_39 : decode cX10_cup 39 = .ok (.bipush 15, 2) := dAX10_cup (39, (.bipush 15, 2)) (List.mem_of_getElem? (i := 21) rfl)
theorem dX10_cup_41 : decode cX10_cup 41 = .ok (.iaload, 1) := dAX10_cup (41, (.iaload, 1)) (List.mem_of_getElem? (i := 22) rfl)
theorem dX10_cup_42 : decode cX10_cup 42 = .ok (.ifCond .ne 10, 3) := dAX10_cup (42, (.ifCond .ne 10, 3)) (List.mem_of_getElem? (i := 23) rfl)
theorem dX10_cup_45 : decode cX10_cup 45 = .ok (.aload_n 0, 1) := dAX10_cup (45, (.aload_n 0, 1)) (List.mem_of_getElem? (i := 24) rfl)
theorem dX10_cup_46 : decode cX10_cup 46 = .ok (.bipush 6, 2) := dAX10_cup (46, (.bipush 6, 2)) (List.mem_of_getElem? (i := 25) rfl)
theorem dX10_cup_48 : decode cX10_cup 48 = .ok (.invokevirtual 303, 3) := dAX10_cup (48, (.invokevirtual 303, 3)) (List.mem_of_getElem? (i := 26) rfl)
theorem dX10_cup_51 : decode cX10_cup 51 = .ok (.ireturn, 1) := dAX10_cup (51, (.ireturn, 1)) (List.mem_of_getElem? (i := 27) rfl)
theorem dX10_cup_52 : decode cX10_cup 52 = .ok (.aload_n 0, 1) := dAX10_cup (52, (.aload_n 0, 1)) (List.mem_of_getElem? (i := 28) rfl)
theorem dX10_cup_53 : decode cX10_cup 53 = .ok (.invokevirtual 392, 3) := dAX10_cup (53, (.invokevirtual 392, 3)) (List.mem_of_getElem? (i := 29) rfl)
theorem dX10_cup_56 : decode cX10_cup 56 = .ok (.aload_n 0, 1) := dAX10_cup (56, (.aload_n 0, 1)) (List.mem_of_getElem? (i := 30) rfl)
theorem dX10_cup_57 : decode cX10_cup 57 = .ok (.getfield 26, 3) := dAX10_cup (57, (.getfield 26, 3)) (List.mem_of_getElem? (i := 31) rfl)
theorem dX10_cup_60 : decode cX10_cup 60 = .ok (.bipush 15, 2) := dAX10_cup (60, (.bipush 15, 2)) (List.mem_of_getElem? (i := 32) rfl)
theorem dX10_cup_62 : decode cX10_cup 62 = .ok (.dup2, 1) := dAX10_cup (62, (.dup2, 1)) (List.mem_of_getElem? (i := 33) rfl)
theorem dX10_cup_63 : decode cX10_cup 63 = .ok (.iaload, 1) := dAX10_cup (63, (.iaload, 1)) (List.mem_of_getElem? (i := 34) rfl)
theorem dX10_cup_64 : decode cX10_cup 64 = .ok (.iconst 1, 1) := dAX10_cup (64, (.iconst 1, 1)) (List.mem_of_getElem? (i := 35) rfl)
theorem dX10_cup_65 : decode cX10_cup 65 = .ok (.isub, 1) := dAX10_cup (65, (.isub, 1)) (List.mem_of_getElem? (i := 36) rfl)
theorem dX10_cup_66 : decode cX10_cup 66 = .ok (.iastore, 1) := dAX10_cup (66, (.iastore, 1)) (List.mem_of_getElem? (i := 37) rfl)
theorem dX10_cup_67 : decode cX10_cup 67 = .ok (.aload_n 0, 1) := dAX10_cup (67, (.aload_n 0, 1)) (List.mem_of_getElem? (i := 38) rfl)
theorem dX10_cup_68 : decode cX10_cup 68 = .ok (.getfield 26, 3) := dAX10_cup (68, (.getfield 26, 3)) (List.mem_of_getElem? (i := 39) rfl)
theorem dX10_cup_71 : decode cX10_cup 71 = .ok (.iload_n 1, 1) := dAX10_cup (71, (.iload_n 1, 1)) (List.mem_of_getElem? (i := 40) rfl)
theorem dX10_cup_72 : decode cX10_cup 72 = .ok (.dup2, 1) := dAX10_cup (72, (.dup2, 1)) (List.mem_of_getElem? (i := 41) rfl)
theorem dX10_cup_73 : decode cX10_cup 73 = .ok (.iaload, 1) := dAX10_cup (73, (.iaload, 1)) (List.mem_of_getElem? (i := 42) rfl)
theorem dX10_cup_74 : decode cX10_cup 74 = .ok (.aload_n 0, 1) := dAX10_cup (74, (.aload_n 0, 1)) (List.mem_of_getElem? (i := 43) rfl)
theorem dX10_cup_75 : decode cX10_cup 75 = .ok (.getfield 20, 3) := dAX10_cup (75, (.getfield 20, 3)) (List.mem_of_getElem? (i := 44) rfl)
theorem dX10_cup_78 : decode cX10_cup 78 = .ok (.iconst 1, 1) := dAX10_cup (78, (.iconst 1, 1)) (List.mem_of_getElem? (i := 45) rfl)
theorem dX10_cup_79 : decode cX10_cup 79 = .ok (.iaload, 1) := dAX10_cup (79, (.iaload, 1)) (List.mem_of_getElem? (i := 46) rfl)
theorem dX10_cup_80 : decode cX10_cup 80 = .ok (.iadd, 1) := dAX10_cup (80, (.iadd, 1)) (List.mem_of_getElem? (i := 47) rfl)
theorem dX10_cup_81 : decode cX10_cup 81 = .ok (.iastore, 1) := dAX10_cup (81, (.iastore, 1)) (List.mem_of_getElem? (i := 48) rfl)
theorem dX10_cup_82 : decode cX10_cup 82 = .ok (.aload_n 0, 1) := dAX10_cup (82, (.aload_n 0, 1)) (List.mem_of_getElem? (i := 49) rfl)
theorem dX10_cup_83 : decode cX10_cup 83 = .ok (.getfield 26, 3) := dAX10_cup (83, (.getfield 26, 3)) (List.mem_of_getElem? (i := 50) rfl)
theorem dX10_cup_86 : decode cX10_cup 86 = .ok (.iload_n 1, 1) := dAX10_cup (86, (.iload_n 1, 1)) (List.mem_of_getElem? (i := 51) rfl)
theorem dX10_cup_87 : decode cX10_cup 87 = .ok (.iaload, 1) := dAX10_cup (87, (.iaload, 1)) (List.mem_of_getElem? (i := 52) rfl)
theorem dX10_cup_88 : decode cX10_cup 88 = .ok (.ireturn, 1) := dAX10_cup (88, (.ireturn, 1)) (List.mem_of_getElem? (i := 53) rfl)
set_option maxRecDepth 20000 in
theorem ggX10_cup_X10_good : GoodIn wsX10_cup wsX10_good := goodIn_r _ [7, 8, 9, 34, 35, 36, 37, 38, 39, 40, 41, 42, 43, 44, 45, 46, 47, 48, 49, 50, 51, 52, 53, 54, 55, 56, 57, 58, 59, 60, 61, 62, 63, 64, 65, 66, 67, 68] rfl (by decide +kernel)
set_option maxRecDepth 20000 in
theorem gX10_cup_X10_good : GoodIn wsX10_cup (wsV RX10 159 RX10 yX10_good wsX10_good) := goodIn_app (goodIn_of _ (by decide +kernel)) ggX10_cup_X10_good
set_option maxRecDepth 20000 in
theorem ggX10_cup_X10_isGuest : GoodIn wsX10_cup wsX10_isGuest := goodIn_r _ [13, 14, 2, 15, 16, 6, 17, 34, 35, 36, 37, 38, 39, 40, 41, 42, 43, 44, 45, 46, 47, 48, 49, 50, 51, 52, 53, 54, 55, 56, 57, 58, 59, 60, 61, 62, 63, 64, 65, 66, 67, 68] rfl (by decide +kernel)
set_option maxRecDepth 20000 in
theorem gX10_cup_X10_isGuest : GoodIn wsX10_cup (wsV RX10 300 RX10 yX10_isGuest wsX10_isGuest) := goodIn_app (goodIn_of _ (by decide +kernel)) ggX10_cup_X10_isGuest
set_option maxRecDepth 20000 in
theorem ggX10_cup_X10_less : GoodIn wsX10_cup wsX10_less := goodIn_r _ [21, 9, 34, 35, 36, 37, 38, 39, 40, 41, 42, 43, 44, 45, 46, 47, 48, 49, 50, 51, 52, 53, 54, 55, 56, 57, 58, 59, 60, 61, 62, 63, 64, 65, 66, 67, 68] rfl (by decide +kernel)
set_option maxRecDepth 20000 in
theorem gX10_cup_X10_less : GoodIn wsX10_cup (wsV RX10 303 RX10 yX10_less wsX10_less) := goodIn_app (goodIn_of _ (by decide +kernel)) ggX10_cup_X10_less
set_option maxRecDepth 20000 in
theorem ggX10_cup_X10_isIn : GoodIn wsX10_cup wsX10_isIn := goodIn_r _ [24] rfl (by decide +kernel)
set_option maxRecDepth 20000 in
theorem gX10_cup_X10_isIn : GoodIn wsX10_cup (va_wsS RX10 248 yX10_isIn wsX10_isIn) := goodIn_app (goodIn_of _ (by decide +kernel)) ggX10_cup_X10_isIn
set_option maxRecDepth 20000 in
theorem ggX10_cup_X10_note : GoodIn wsX10_cup wsX10_note := goodIn_r _ [28, 29, 30, 1, 31, 32, 6, 33, 34, 35, 36, 37, 38, 39, 40, 41, 42, 43, 44, 45, 46, 47, 48, 49, 50, 51, 52, 53, 54, 55, 56, 57, 58, 59, 60, 61, 62, 63, 64, 65, 66, 67, 68] rfl (by decide +kernel)
set_option maxRecDepth 20000 in
theorem gX10_cup_X10_note : GoodIn wsX10_cup (wsV RX10 392 RX10 yX10_note wsX10_note) := goodIn_app (goodIn_of _ (by decide +kernel)) ggX10_cup_X10_note
theorem kX10_cup_26 : Cond.fieldLink RX10 26 "EveningVowModel" "st" "[I" ∈ wsX10_cup := List.mem_of_getElem? (i := 1) rfl
theorem iX10_cup_X10 : ∀ w ∈ u_ws RX10 TX10 35, w ∈ wsX10_cup := fun w h => (List.mem_cons_of_mem _ (List.mem_append_right _ h))
theorem kX10_cup_20 : Cond.fieldLink RX10 20 "EveningVowModel" "\x72" "[I" ∈ wsX10_cup := List.mem_of_getElem? (i := 2) rfl
set_option maxHeartbeats 4000000 in
set_option maxRecDepth 100000 in
theorem mX10_cup (l : Launch) (g : GG) (a_t : Nat) (p_t : Nat → Nat) (n : Nat) (x1 : Int32) (o_t : Nat → Int32) (f_t_15 : Nat → Int32) (f_t_17 : Nat → Int32) (f_t_18 : Nat → Int32) (r : Int32) (o_t' : Nat → Int32) (f_t_17' : Nat → Int32) (f_t_18' : Nat → Int32) (hF : fX10_cup n x1 o_t f_t_15 f_t_17 f_t_18 = some (r, o_t', f_t_17', f_t_18')) : MI l g yX10_cup wsX10_cup ({ frames := 2, cells := 0, slots := 0, locals := 46 } : Room) [.ref a_t, .int x1] [oX10 a_t p_t o_t, aI g (p_t 15) 266 f_t_15, aI g (p_t 17) 17 f_t_17, aI g (p_t 18) 272 f_t_18] r [oX10 a_t p_t o_t', aI g (p_t 15) 266 f_t_15, aI g (p_t 17) 17 f_t_17', aI g (p_t 18) 272 f_t_18'] := by
  refine MI.of (cc := cX10_cup) (maxL := 2) (rt := .int) (own := RX10) rfl rfl (by decide) (Nat.le_of_ble_eq_true rfl) ?_
  intro p e s m args below meth c A C0 hP hD hS ls hl
  obtain ⟨hx, hb, hml, hown, hts, hr, hlk, hK, hA, hSW⟩ := id C0
  have hl : lv_has ls 2 [(0, .ref a_t), (1, .int x1)] := hl
  rw [fX10_cup] at hF
  refine lv_aload_n hx hb dX10_cup_0 rfl (lv_at hl 0 rfl) ?_
  obtain ⟨u_1, hu_2, hF⟩ := ob1_some hF
  refine call_v (wr := [aI g (p_t 15) 266 f_t_15, aI g (p_t 17) 17 f_t_17, aI g (p_t 18) 272 f_t_18]) (As := []) (rest := []) (ci := 10) (q0 := 0) C0 (mX10_good l g a_t p_t n o_t u_1 hu_2) (cwV 0 hts gX10_cup_X10_good rfl rfl rfl (by decide +kernel) ⟨Nat.le_of_ble_eq_true rfl, Nat.le_of_ble_eq_true rfl⟩) hP hD hS [0] [1, 2, 3] rfl rfl rfl rfl rfl (by decide) rfl rfl hl.1 rfl rfl (Nat.le_of_ble_eq_true rfl) ⟨Nat.zero_le _, Nat.zero_le _⟩ dX10_cup_1 ?_
  intro H locs hP hD hS
  refine lv_aload_n hx hb dX10_cup_4 rfl (lv_at hl 0 rfl) ?_
  refine lv_iload_n hx hb dX10_cup_5 rfl (lv_at hl 1 rfl) ?_
  obtain ⟨u_3, hu_4, hF⟩ := ob1_some hF
  refine call_i (wr := [aI g (p_t 17) 17 f_t_17, aI g (p_t 18) 272 f_t_18]) (As := [.int x1]) (rest := []) (ci := 10) (q0 := 0) C0 (mX10_isGuest l g a_t p_t n x1 u_1 f_t_15 u_3 hu_4) (cwV 1 hts gX10_cup_X10_isGuest rfl rfl rfl (by decide +kernel) ⟨Nat.le_of_ble_eq_true rfl, Nat.le_of_ble_eq_true rfl⟩) hP hD hS [3, 0] [1, 2] rfl rfl rfl rfl rfl (by decide) rfl rfl hl.1 rfl rfl (Nat.le_of_ble_eq_true rfl) ⟨Nat.zero_le _, Nat.zero_le _⟩ dX10_cup_6 ?_
  intro H locs hP hD hS
  refine lv_if_ne (tgt := 18) hx hb dX10_cup_9 (by decide) (fun c_5 => ?_) (fun c_5 => ?_)
  · have hF := it_n c_5 hF
    refine lv_aload_n hx hb dX10_cup_18 rfl (lv_at hl 0 rfl) ?_
    refine va_get (D := g.1) (ci := 10) (v := .ref (p_t 17)) (C := RX10) (T := TX10) (N := 35) hx hb hts iX10_cup_X10 hown hK.1 hP 2 rfl rfl 17 (by decide) (hts _ kX10_cup_26) (fun _ h9 => h9) rfl dX10_cup_19 ?_
    refine lv_iload_n hx hb dX10_cup_22 rfl (lv_at hl 1 rfl) ?_
    obtain ⟨u_6, hu_7, hF⟩ := ob1_some hF
    refine call_si (wr := [aI g (p_t 18) 272 f_t_18, oX10 a_t p_t u_1, aI g (p_t 15) 266 f_t_15]) (As := [.ref (p_t 17), .int x1]) (rest := []) C0 (mX10_isIn l g (p_t 17) n x1 f_t_17 u_6 hu_7) (va_cwS 2 hts gX10_cup_X10_isIn rfl rfl rfl (by decide +kernel) ⟨Nat.le_of_ble_eq_true rfl, Nat.le_of_ble_eq_true rfl⟩) hP hD hS [0] [1, 2, 3] rfl rfl rfl rfl rfl (by decide) hl.1 rfl rfl (Nat.le_of_ble_eq_true rfl) ⟨Nat.zero_le _, Nat.zero_le _⟩ dX10_cup_23 ?_
    intro H locs hP hD hS
    refine lv_if_ne (tgt := 35) hx hb dX10_cup_26 (by decide) (fun c_8 => ?_) (fun c_8 => ?_)
    · have hF := it_n c_8 hF
      refine lv_aload_n hx hb dX10_cup_35 rfl (lv_at hl 0 rfl) ?_
      refine va_get (D := g.1) (ci := 10) (v := .ref (p_t 17)) (C := RX10) (T := TX10) (N := 35) hx hb hts iX10_cup_X10 hown hK.1 hP 1 rfl rfl 17 (by decide) (hts _ kX10_cup_26) (fun _ h9 => h9) rfl dX10_cup_36 ?_
      refine lv_bipush (v := (15 : Int32)) hx hb dX10_cup_39 (by decide) ?_
      refine va_iald_k (j := 15) hx hb hK.1 hP 3 0 rfl rfl (by unfold vp_in; decide) rfl dX10_cup_41 ?_
      refine lv_if_ne (tgt := 52) hx hb dX10_cup_42 (by decide) (fun c_9 => ?_) (fun c_9 => ?_)
      · have hF := it_n c_9 hF
        refine lv_aload_n hx hb dX10_cup_52 rfl (lv_at hl 0 rfl) ?_
        obtain ⟨u_10, u_11, hu_12, hF⟩ := ob2_some hF
        refine call_v (wr := [aI g (p_t 15) 266 f_t_15]) (As := []) (rest := []) (ci := 10) (q0 := 0) C0 (mX10_note l g a_t p_t n u_1 f_t_17 f_t_18 u_10 u_11 hu_12) (cwV 0 hts gX10_cup_X10_note rfl rfl rfl (by decide +kernel) ⟨Nat.le_of_ble_eq_true rfl, Nat.le_of_ble_eq_true rfl⟩) hP hD hS [1, 3, 0] [2] rfl rfl rfl rfl rfl (by decide) rfl rfl hl.1 rfl rfl (Nat.le_of_ble_eq_true rfl) ⟨Nat.zero_le _, Nat.zero_le _⟩ dX10_cup_53 ?_
        intro H locs hP hD hS
        refine lv_aload_n hx hb dX10_cup_56 rfl (lv_at hl 0 rfl) ?_
        refine va_get (D := g.1) (ci := 10) (v := .ref (p_t 17)) (C := RX10) (T := TX10) (N := 35) hx hb hts iX10_cup_X10 hown hK.1 hP 1 rfl rfl 17 (by decide) (hts _ kX10_cup_26) (fun _ h9 => h9) rfl dX10_cup_57 ?_
        refine lv_bipush (v := (15 : Int32)) hx hb dX10_cup_60 (by decide) ?_
        refine lv_dup2_11 hx hb dX10_cup_62 rfl rfl ?_
        refine va_iald_k (j := 15) hx hb hK.1 hP 2 0 rfl rfl (by unfold vp_in; decide) rfl dX10_cup_63 ?_
        refine lv_iconst (v := (1 : Int32)) hx hb dX10_cup_64 (by decide) ?_
        refine lv_isub hx hb dX10_cup_65 ?_
        refine va_iast hx hb hK.1 hP hD hS 2 0 rfl rfl (by unfold vp_in; decide) dX10_cup_66 (fun H locs hP hD hS => ?_)
        have hP : va_P g.1 vwCl [aI g (p_t 15) 266 f_t_15, oX10 a_t p_t u_10, aI g (p_t 17) 17 (upd f_t_17 15 ((f_t_17 15) - (1 : Int32))), aI g (p_t 18) 272 u_11] H := hP
        have hD : va_D A [aI g (p_t 15) 266 f_t_15, oX10 a_t p_t u_10, aI g (p_t 17) 17 (upd f_t_17 15 ((f_t_17 15) - (1 : Int32))), aI g (p_t 18) 272 u_11] := hD
        refine lv_aload_n hx hb dX10_cup_67 rfl (lv_at hl 0 rfl) ?_
        refine va_get (D := g.1) (ci := 10) (v := .ref (p_t 17)) (C := RX10) (T := TX10) (N := 35) hx hb hts iX10_cup_X10 hown hK.1 hP 1 rfl rfl 17 (by decide) (hts _ kX10_cup_26) (fun _ h9 => h9) rfl dX10_cup_68 ?_
        refine lv_iload_n hx hb dX10_cup_71 rfl (lv_at hl 1 rfl) ?_
        refine lv_dup2_11 hx hb dX10_cup_72 rfl rfl ?_
        obtain ⟨h_13, hF⟩ := it_ck hF
        refine va_iald hx hb hK.1 hP 2 0 rfl rfl h_13 dX10_cup_73 ?_
        refine lv_aload_n hx hb dX10_cup_74 rfl (lv_at hl 0 rfl) ?_
        refine va_get (D := g.1) (ci := 10) (v := .ref (p_t 15)) (C := RX10) (T := TX10) (N := 35) hx hb hts iX10_cup_X10 hown hK.1 hP 1 rfl rfl 15 (by decide) (hts _ kX10_cup_20) (fun _ h9 => h9) rfl dX10_cup_75 ?_
        refine lv_iconst (v := (1 : Int32)) hx hb dX10_cup_78 (by decide) ?_
        refine va_iald_k (j := 1) hx hb hK.1 hP 0 0 rfl rfl (by unfold vp_in; decide) rfl dX10_cup_79 ?_
        refine lv_iadd hx hb dX10_cup_80 ?_
        obtain ⟨h_14, hF⟩ := it_ck hF
        refine va_iast hx hb hK.1 hP hD hS 2 0 rfl rfl h_14 dX10_cup_81 (fun H locs hP hD hS => ?_)
        have hP : va_P g.1 vwCl [aI g (p_t 15) 266 f_t_15, oX10 a_t p_t u_10, aI g (p_t 17) 17 (upd (upd f_t_17 15 ((f_t_17 15) - (1 : Int32))) (x1).toNatClampNeg (((upd f_t_17 15 ((f_t_17 15) - (1 : Int32))) (x1).toNatClampNeg) + (f_t_15 1))), aI g (p_t 18) 272 u_11] H := hP
        have hD : va_D A [aI g (p_t 15) 266 f_t_15, oX10 a_t p_t u_10, aI g (p_t 17) 17 (upd (upd f_t_17 15 ((f_t_17 15) - (1 : Int32))) (x1).toNatClampNeg (((upd f_t_17 15 ((f_t_17 15) - (1 : Int32))) (x1).toNatClampNeg) + (f_t_15 1))), aI g (p_t 18) 272 u_11] := hD
        refine lv_aload_n hx hb dX10_cup_82 rfl (lv_at hl 0 rfl) ?_
        refine va_get (D := g.1) (ci := 10) (v := .ref (p_t 17)) (C := RX10) (T := TX10) (N := 35) hx hb hts iX10_cup_X10 hown hK.1 hP 1 rfl rfl 17 (by decide) (hts _ kX10_cup_26) (fun _ h9 => h9) rfl dX10_cup_83 ?_
        refine lv_iload_n hx hb dX10_cup_86 rfl (lv_at hl 1 rfl) ?_
        obtain ⟨h_15, hF⟩ := it_ck hF
        refine va_iald hx hb hK.1 hP 2 0 rfl rfl h_15 dX10_cup_87 ?_
        cases hF
        exact ret_i C0 hP hD hS [1, 0, 2, 3] rfl rfl rfl dX10_cup_88 rfl
      · have hF := it_p c_9 hF
        refine lv_aload_n hx hb dX10_cup_45 rfl (lv_at hl 0 rfl) ?_
        refine lv_bipush (v := (6 : Int32)) hx hb dX10_cup_46 (by decide) ?_
        obtain ⟨u_16, u_17, hu_18, hF⟩ := ob2_some hF
        refine call_i (wr := [aI g (p_t 18) 272 f_t_18, aI g (p_t 15) 266 f_t_15, aI g (p_t 17) 17 f_t_17]) (As := [.int (6 : Int32)]) (rest := []) (ci := 10) (q0 := 0) C0 (mX10_less l g a_t p_t n (6 : Int32) u_1 u_16 u_17 hu_18) (cwV 1 hts gX10_cup_X10_less rfl rfl rfl (by decide +kernel) ⟨Nat.le_of_ble_eq_true rfl, Nat.le_of_ble_eq_true rfl⟩) hP hD hS [1] [0, 2, 3] rfl rfl rfl rfl rfl (by decide) rfl rfl hl.1 rfl rfl (Nat.le_of_ble_eq_true rfl) ⟨Nat.zero_le _, Nat.zero_le _⟩ dX10_cup_48 ?_
        intro H locs hP hD hS
        cases hF
        exact ret_i C0 hP hD hS [3, 1, 2, 0] rfl rfl rfl dX10_cup_51 rfl
    · have hF := it_p c_8 hF
      refine lv_aload_n hx hb dX10_cup_29 rfl (lv_at hl 0 rfl) ?_
      refine lv_iconst (v := (5 : Int32)) hx hb dX10_cup_30 (by decide) ?_
      obtain ⟨u_19, u_20, hu_21, hF⟩ := ob2_some hF
      refine call_i (wr := [aI g (p_t 18) 272 f_t_18, aI g (p_t 15) 266 f_t_15, aI g (p_t 17) 17 f_t_17]) (As := [.int (5 : Int32)]) (rest := []) (ci := 10) (q0 := 0) C0 (mX10_less l g a_t p_t n (5 : Int32) u_1 u_19 u_20 hu_21) (cwV 1 hts gX10_cup_X10_less rfl rfl rfl (by decide +kernel) ⟨Nat.le_of_ble_eq_true rfl, Nat.le_of_ble_eq_true rfl⟩) hP hD hS [1] [0, 2, 3] rfl rfl rfl rfl rfl (by decide) rfl rfl hl.1 rfl rfl (Nat.le_of_ble_eq_true rfl) ⟨Nat.zero_le _, Nat.zero_le _⟩ dX10_cup_31 ?_
      intro H locs hP hD hS
      cases hF
      exact ret_i C0 hP hD hS [3, 1, 2, 0] rfl rfl rfl dX10_cup_34 rfl
  · have hF := it_p c_5 hF
    refine lv_aload_n hx hb dX10_cup_12 rfl (lv_at hl 0 rfl) ?_
    refine lv_iconst (v := (1 : Int32)) hx hb dX10_cup_13 (by decide) ?_
    obtain ⟨u_22, u_23, hu_24, hF⟩ := ob2_some hF
    refine call_i (wr := [aI g (p_t 17) 17 f_t_17, aI g (p_t 18) 272 f_t_18, aI g (p_t 15) 266 f_t_15]) (As := [.int (1 : Int32)]) (rest := []) (ci := 10) (q0 := 0) C0 (mX10_less l g a_t p_t n (1 : Int32) u_1 u_22 u_23 hu_24) (cwV 1 hts gX10_cup_X10_less rfl rfl rfl (by decide +kernel) ⟨Nat.le_of_ble_eq_true rfl, Nat.le_of_ble_eq_true rfl⟩) hP hD hS [2] [0, 1, 3] rfl rfl rfl rfl rfl (by decide) rfl rfl hl.1 rfl rfl (Nat.le_of_ble_eq_true rfl) ⟨Nat.zero_le _, Nat.zero_le _⟩ dX10_cup_14 ?_
    intro H locs hP hD hS
    cases hF
    exact ret_i C0 hP hD hS [3, 2, 0, 1] rfl rfl rfl dX10_cup_17 rfl

theorem dAX10_send : ∀ q ∈ ([(0, (.aload_n 0, 1)), (1, (.invokevirtual 159, 3)), (4, (.aload_n 0, 1)), (5, (.iload_n 1, 1)), (6, (.invokevirtual 312, 3)), (9, (.ifCond .eq 13, 3)), (12, (.aload_n 0, 1)), (13, (.aload_n 0, 1)), (14, (.iload_n 1, 1)), (15, (.invokevirtual 312, 3)), (18, (.invokevirtual 162, 3)), (21, (.ireturn, 1)), (22, (.aload_n 0, 1)), (23, (.invokevirtual 392, 3)), (26, (.aload_n 0, 1)), (27, (.aload_n 0, 1)), (28, (.getfield 26, 3)), (31, (.iconst 1, 1)), (32, (.iload_n 1, 1)), (33, (.ishl, 1)), (34, (.invokevirtual 315, 3)), (37, (.ireturn, 1))] : List (Nat × (Instr × Nat))), decode cX10_send q.1 = .ok q.2 := by decide +kernel
theorem dX10_send_0 : decode cX10_send 0 = .ok (.aload_n 0, 1) := dAX10_send (0, (.aload_n 0, 1)) (List.mem_of_getElem? (i := 0) rfl)
theorem dX10_send_1 : decode cX10_send 1 = .ok (.invokevirtual 159, 3) := dAX10_send (1, (.invokevirtual 159, 3)) (List.mem_of_getElem? (i := 1) rfl)
theorem dX10_send_4 : decode cX10_send 4 = .ok (.aload_n 0, 1) := dAX10_send (4, (.aload_n 0, 1)) (List.mem_of_getElem? (i := 2) rfl)
theorem dX10_send_5 : decode cX10_send 5 = .ok (.iload_n 1, 1) := dAX10_send (5, (.iload_n 1, 1)) (List.mem_of_getElem? (i := 3) rfl)
theorem dX10_send_6 : decode cX10_send 6 = .ok (.invokevirtual 312, 3) := dAX10_send (6, (.invokevirtual 312, 3)) (List.mem_of_getElem? (i := 4) rfl)
theorem dX10_send_9 : decode cX10_send 9 = .ok (.ifCond .eq 13, 3) := dAX10_send (9, (.ifCond .eq 13, 3)) (List.mem_of_getElem? (i := 5) rfl)
theorem dX10_send_12 : decode cX10_send 12 = .ok (.aload_n 0, 1) := dAX10_send (12, (.aload_n 0, 1)) (List.mem_of_getElem? (i := 6) rfl)
theorem dX10_send_13 : decode cX10_send 13 = .ok (.aload_n 0, 1) := dAX10_send (13, (.aload_n 0, 1)) (List.mem_of_getElem? (i := 7) rfl)
theorem dX10_send_14 : decode cX10_send 14 = .ok (.iload_n 1, 1) := dAX10_send (14, (.iload_n 1, 1)) (List.mem_of_getElem? (i := 8) rfl)
theorem dX10_send_15 : decode cX10_send 15 = .ok (.invokevirtual 312, 3) := dAX10_send (15, (.invokevirtual 312, 3)) (List.mem_of_getElem? (i := 9) rfl)
theorem dX10_send_18 : decode cX10_send 18 = .ok (.invokevirtual 162, 3) := dAX10_send (18, (.invokevirtual 162, 3)) (List.mem_of_getElem? (i := 10) rfl)
theorem dX10_send_21 : decode cX10_send 21 = .ok (.ireturn, 1) := dAX10_send (21, (.ireturn, 1)) (List.mem_of_getElem? (i := 11) rfl)
theorem dX10_send_22 : decode cX10_send 22 = .ok (.aload_n 0, 1) := dAX10_send (22, (.aload_n 0, 1)) (List.mem_of_getElem? (i := 12) rfl)
theorem dX10_send_23 : decode cX10_send 23 = .ok (.invokevirtual 392, 3) := dAX10_send (23, (.invokevirtual 392, 3)) (List.mem_of_getElem? (i := 13) rfl)
theorem dX10_send_26 : decode cX10_send 26 = .ok (.aload_n 0, 1) := dAX10_send (26, (.aload_n 0, 1)) (List.mem_of_getElem? (i := 14) rfl)
theorem dX10_send_27 : decode cX10_send 27 = .ok (.aload_n 0, 1) := dAX10_send (27, (.aload_n 0, 1)) (List.mem_of_getElem? (i := 15) rfl)
theorem dX10_send_28 : decode cX10_send 28 = .ok (.getfield 26, 3) := dAX10_send (28, (.getfield 26, 3)) (List.mem_of_getElem? (i := 16) rfl)
theorem dX10_send_31 : decode cX10_send 31 = .ok (.iconst 1, 1) := dAX10_send (31, (.iconst 1, 1)) (List.mem_of_getElem? (i := 17) rfl)
theorem dX10_send_32 : decode cX10_send 32 = .ok (.iload_n 1, 1) := dAX10_send (32, (.iload_n 1, 1)) (List.mem_of_getElem? (i := 18) rfl)
theorem dX10_send_33 : decode cX10_send 33 = .ok (.ishl, 1) := dAX10_send (33, (.ishl, 1)) (List.mem_of_getElem? (i := 19) rfl)
theorem dX10_send_34 : decode cX10_send 34 = .ok (.invokevirtual 315, 3) := dAX10_send (34, (.invokevirtual 315, 3)) (List.mem_of_getElem? (i := 20) rfl)
theorem dX10_send_37 : decode cX10_send 37 = .ok (.ireturn, 1) := dAX10_send (37, (.ireturn, 1)) (List.mem_of_getElem? (i := 21) rfl)
set_option maxRecDepth 20000 in
theorem ggX10_send_X10_good : GoodIn wsX10_send wsX10_good := goodIn_r _ [6, 7, 8, 66, 67, 68, 69, 70, 71, 72, 73, 74, 75, 76, 77, 78, 79, 80, 81, 82, 83, 84, 85, 86, 87, 88, 89, 90, 91, 92, 93, 94, 95, 96, 97, 98, 99, 100] rfl (by decide +kernel)
set_option maxRecDepth 20000 in
theorem gX10_send_X10_good : GoodIn wsX10_send (wsV RX10 159 RX10 yX10_good wsX10_good) := goodIn_app (goodIn_of _ (by decide +kernel)) ggX10_send_X10_good
set_option maxRecDepth 20000 in
theorem ggX10_send_X10_thereWhy : GoodIn wsX10_send wsX10_thereWhy := goodIn_r _ [12, 1, 13, 14, 15, 5, 16, 17, 18, 19, 20, 21, 22, 23, 24, 66, 67, 68, 69, 70, 71, 72, 73, 74, 75, 76, 77, 78, 79, 80, 81, 82, 83, 84, 85, 86, 87, 88, 89, 90, 91, 92, 93, 94, 95, 96, 97, 98, 99, 100] rfl (by decide +kernel)
set_option maxRecDepth 20000 in
theorem gX10_send_X10_thereWhy : GoodIn wsX10_send (wsV RX10 312 RX10 yX10_thereWhy wsX10_thereWhy) := goodIn_app (goodIn_of _ (by decide +kernel)) ggX10_send_X10_thereWhy
set_option maxRecDepth 20000 in
theorem ggX10_send_X10_no : GoodIn wsX10_send wsX10_no := goodIn_r _ [28, 8, 66, 67, 68, 69, 70, 71, 72, 73, 74, 75, 76, 77, 78, 79, 80, 81, 82, 83, 84, 85, 86, 87, 88, 89, 90, 91, 92, 93, 94, 95, 96, 97, 98, 99, 100] rfl (by decide +kernel)
set_option maxRecDepth 20000 in
theorem gX10_send_X10_no : GoodIn wsX10_send (wsV RX10 162 RX10 yX10_no wsX10_no) := goodIn_app (goodIn_of _ (by decide +kernel)) ggX10_send_X10_no
set_option maxRecDepth 20000 in
theorem ggX10_send_X10_note : GoodIn wsX10_send wsX10_note := goodIn_r _ [32, 33, 34, 1, 35, 36, 5, 37, 66, 67, 68, 69, 70, 71, 72, 73, 74, 75, 76, 77, 78, 79, 80, 81, 82, 83, 84, 85, 86, 87, 88, 89, 90, 91, 92, 93, 94, 95, 96, 97, 98, 99, 100] rfl (by decide +kernel)
set_option maxRecDepth 20000 in
theorem gX10_send_X10_note : GoodIn wsX10_send (wsV RX10 392 RX10 yX10_note wsX10_note) := goodIn_app (goodIn_of _ (by decide +kernel)) ggX10_send_X10_note
set_option maxRecDepth 20000 in
theorem ggX10_send_X10_sends : GoodIn wsX10_send wsX10_sends := goodIn_r _ [41, 42, 43, 44, 5, 45, 18, 46, 47, 48, 22, 23, 24, 49, 50, 51, 52, 53, 54, 55, 56, 57, 58, 59, 60, 61, 62, 63, 64, 65, 66, 67, 68, 69, 70, 71, 72, 73, 74, 75, 76, 77, 78, 79, 80, 81, 82, 83, 84, 85, 86, 87, 88, 89, 90, 91, 92, 93, 94, 95, 96, 97, 98, 99, 100] rfl (by decide +kernel)
set_option maxRecDepth 20000 in
theorem gX10_send_X10_sends : GoodIn wsX10_send (wsV RX10 315 RX10 yX10_sends wsX10_sends) := goodIn_app (goodIn_of _ (by decide +kernel)) ggX10_send_X10_sends
theorem kX10_send_26 : Cond.fieldLink RX10 26 "EveningVowModel" "st" "[I" ∈ wsX10_send := List.mem_of_getElem? (i := 1) rfl
theorem iX10_send_X10 : ∀ w ∈ u_ws RX10 TX10 35, w ∈ wsX10_send := fun w h => (List.mem_cons_of_mem _ (List.mem_append_right _ h))
set_option maxHeartbeats 4000000 in
set_option maxRecDepth 100000 in
theorem mX10_send (l : Launch) (g : GG) (a_t : Nat) (p_t : Nat → Nat) (n : Nat) (x1 : Int32) (o_t : Nat → Int32) (f_t_15 : Nat → Int32) (f_t_17 : Nat → Int32) (f_t_18 : Nat → Int32) (r : Int32) (o_t' : Nat → Int32) (f_t_17' : Nat → Int32) (f_t_18' : Nat → Int32) (hF : fX10_send n x1 o_t f_t_15 f_t_17 f_t_18 = some (r, o_t', f_t_17', f_t_18')) : MI l g yX10_send wsX10_send ({ frames := 4, cells := 0, slots := 0, locals := 93 } : Room) [.ref a_t, .int x1] [oX10 a_t p_t o_t, aI g (p_t 15) 266 f_t_15, aI g (p_t 17) 17 f_t_17, aI g (p_t 18) 272 f_t_18] r [oX10 a_t p_t o_t', aI g (p_t 15) 266 f_t_15, aI g (p_t 17) 17 f_t_17', aI g (p_t 18) 272 f_t_18'] := by
  refine MI.of (cc := cX10_send) (maxL := 2) (rt := .int) (own := RX10) rfl rfl (by decide) (Nat.le_of_ble_eq_true rfl) ?_
  intro p e s m args below meth c A C0 hP hD hS ls hl
  obtain ⟨hx, hb, hml, hown, hts, hr, hlk, hK, hA, hSW⟩ := id C0
  have hl : lv_has ls 2 [(0, .ref a_t), (1, .int x1)] := hl
  rw [fX10_send] at hF
  refine lv_aload_n hx hb dX10_send_0 rfl (lv_at hl 0 rfl) ?_
  obtain ⟨u_1, hu_2, hF⟩ := ob1_some hF
  refine call_v (wr := [aI g (p_t 15) 266 f_t_15, aI g (p_t 17) 17 f_t_17, aI g (p_t 18) 272 f_t_18]) (As := []) (rest := []) (ci := 10) (q0 := 0) C0 (mX10_good l g a_t p_t n o_t u_1 hu_2) (cwV 0 hts gX10_send_X10_good rfl rfl rfl (by decide +kernel) ⟨Nat.le_of_ble_eq_true rfl, Nat.le_of_ble_eq_true rfl⟩) hP hD hS [0] [1, 2, 3] rfl rfl rfl rfl rfl (by decide) rfl rfl hl.1 rfl rfl (Nat.le_of_ble_eq_true rfl) ⟨Nat.zero_le _, Nat.zero_le _⟩ dX10_send_1 ?_
  intro H locs hP hD hS
  refine lv_aload_n hx hb dX10_send_4 rfl (lv_at hl 0 rfl) ?_
  refine lv_iload_n hx hb dX10_send_5 rfl (lv_at hl 1 rfl) ?_
  obtain ⟨u_3, hu_4, hF⟩ := ob1_some hF
  refine call_i (wr := [aI g (p_t 18) 272 f_t_18]) (As := [.int x1]) (rest := []) (ci := 10) (q0 := 0) C0 (mX10_thereWhy l g a_t p_t n x1 u_1 f_t_15 f_t_17 u_3 hu_4) (cwV 1 hts gX10_send_X10_thereWhy rfl rfl rfl (by decide +kernel) ⟨Nat.le_of_ble_eq_true rfl, Nat.le_of_ble_eq_true rfl⟩) hP hD hS [3, 0, 1] [2] rfl rfl rfl rfl rfl (by decide) rfl rfl hl.1 rfl rfl (Nat.le_of_ble_eq_true rfl) ⟨Nat.zero_le _, Nat.zero_le _⟩ dX10_send_6 ?_
  intro H locs hP hD hS
  refine lv_if_eq (tgt := 22) hx hb dX10_send_9 (by decide) (fun c_5 => ?_) (fun c_5 => ?_)
  · have hF := it_p c_5 hF
    refine lv_aload_n hx hb dX10_send_22 rfl (lv_at hl 0 rfl) ?_
    obtain ⟨u_6, u_7, hu_8, hF⟩ := ob2_some hF
    refine call_v (wr := [aI g (p_t 15) 266 f_t_15]) (As := []) (rest := []) (ci := 10) (q0 := 0) C0 (mX10_note l g a_t p_t n u_1 f_t_17 f_t_18 u_6 u_7 hu_8) (cwV 0 hts gX10_send_X10_note rfl rfl rfl (by decide +kernel) ⟨Nat.le_of_ble_eq_true rfl, Nat.le_of_ble_eq_true rfl⟩) hP hD hS [1, 3, 0] [2] rfl rfl rfl rfl rfl (by decide) rfl rfl hl.1 rfl rfl (Nat.le_of_ble_eq_true rfl) ⟨Nat.zero_le _, Nat.zero_le _⟩ dX10_send_23 ?_
    intro H locs hP hD hS
    refine lv_aload_n hx hb dX10_send_26 rfl (lv_at hl 0 rfl) ?_
    refine lv_aload_n hx hb dX10_send_27 rfl (lv_at hl 0 rfl) ?_
    refine va_get (D := g.1) (ci := 10) (v := .ref (p_t 17)) (C := RX10) (T := TX10) (N := 35) hx hb hts iX10_send_X10 hown hK.1 hP 1 rfl rfl 17 (by decide) (hts _ kX10_send_26) (fun _ h9 => h9) rfl dX10_send_28 ?_
    refine lv_iconst (v := (1 : Int32)) hx hb dX10_send_31 (by decide) ?_
    refine lv_iload_n hx hb dX10_send_32 rfl (lv_at hl 1 rfl) ?_
    refine lv_ishl hx hb dX10_send_33 ?_
    obtain ⟨u_9, u_10, u_11, hu_12, hF⟩ := ob3_some hF
    refine call_i (wr := [aI g (p_t 18) 272 u_7]) (As := [.ref (p_t 17), .int ((1 : Int32) <<< (x1 &&& 31))]) (rest := []) (ci := 10) (q0 := 0) C0 (mX10_sends l g a_t (p_t 17) p_t n ((1 : Int32) <<< (x1 &&& 31)) u_6 f_t_15 f_t_17 u_9 u_10 u_11 hu_12) (cwV 2 hts gX10_send_X10_sends rfl rfl rfl (by decide +kernel) ⟨Nat.le_of_ble_eq_true rfl, Nat.le_of_ble_eq_true rfl⟩) hP hD hS [1, 0, 2] [3] rfl rfl rfl rfl rfl (by decide) rfl rfl hl.1 rfl rfl (Nat.le_of_ble_eq_true rfl) ⟨Nat.zero_le _, Nat.zero_le _⟩ dX10_send_34 ?_
    intro H locs hP hD hS
    cases hF
    exact ret_i C0 hP hD hS [1, 2, 3, 0] rfl rfl rfl dX10_send_37 rfl
  · have hF := it_n c_5 hF
    refine lv_aload_n hx hb dX10_send_12 rfl (lv_at hl 0 rfl) ?_
    refine lv_aload_n hx hb dX10_send_13 rfl (lv_at hl 0 rfl) ?_
    refine lv_iload_n hx hb dX10_send_14 rfl (lv_at hl 1 rfl) ?_
    obtain ⟨u_13, hu_14, hF⟩ := ob1_some hF
    refine call_i (wr := [aI g (p_t 18) 272 f_t_18]) (As := [.int x1]) (rest := [.ref a_t]) (ci := 10) (q0 := 0) C0 (mX10_thereWhy l g a_t p_t n x1 u_1 f_t_15 f_t_17 u_13 hu_14) (cwV 1 hts gX10_send_X10_thereWhy rfl rfl rfl (by decide +kernel) ⟨Nat.le_of_ble_eq_true rfl, Nat.le_of_ble_eq_true rfl⟩) hP hD hS [1, 2, 3] [0] rfl rfl rfl rfl rfl (by decide) rfl rfl hl.1 rfl rfl (Nat.le_of_ble_eq_true rfl) ⟨Nat.zero_le _, Nat.zero_le _⟩ dX10_send_15 ?_
    intro H locs hP hD hS
    obtain ⟨u_15, u_16, hu_17, hF⟩ := ob2_some hF
    refine call_i (wr := [aI g (p_t 18) 272 f_t_18, aI g (p_t 15) 266 f_t_15, aI g (p_t 17) 17 f_t_17]) (As := [.int u_13]) (rest := []) (ci := 10) (q0 := 0) C0 (mX10_no l g a_t p_t n u_13 u_1 u_15 u_16 hu_17) (cwV 1 hts gX10_send_X10_no rfl rfl rfl (by decide +kernel) ⟨Nat.le_of_ble_eq_true rfl, Nat.le_of_ble_eq_true rfl⟩) hP hD hS [1] [0, 2, 3] rfl rfl rfl rfl rfl (by decide) rfl rfl hl.1 rfl rfl (Nat.le_of_ble_eq_true rfl) ⟨Nat.zero_le _, Nat.zero_le _⟩ dX10_send_18 ?_
    intro H locs hP hD hS
    cases hF
    exact ret_i C0 hP hD hS [3, 1, 2, 0] rfl rfl rfl dX10_send_21 rfl

theorem dAX10_undo : ∀ q ∈ ([(0, (.aload_n 0, 1)), (1, (.invokevirtual 159, 3)), (4, (.aload_n 0, 1)), (5, (.getfield 179, 3)), (8, (.ifCond .ne 10, 3)), (11, (.aload_n 0, 1)), (12, (.bipush 6, 2)), (14, (.invokevirtual 395, 3)), (17, (.ireturn, 1)), (18, (.aload_n 0, 1)), (19, (.dup, 1)), (20, (.getfield 179, 3)), (23, (.iconst 1, 1)), (24, (.isub, 1)), (25, (.putfield 179, 3)), (28, (.aload_n 0, 1)), (29, (.getfield 29, 3)), (32, (.bipush 17, 2)), (34, (.aload_n 0, 1)), (35, (.getfield 179, 3)), (38, (.imul, 1)), (39, (.aload_n 0, 1)), (40, (.getfield 26, 3)), (43, (.iconst 0, 1)), (44, (.bipush 17, 2)), (46, (.invokestatic 168, 3)), (49, (.iconst 1, 1)), (50, (.ireturn, 1))] : List (Nat × (Instr × Nat))), decode cX10_undo q.1 = .ok q.2 := by decide +kernel
theorem dX10_undo_0 : decode cX10_undo 0 = .ok (.aload_n 0, 1) := dAX10_undo (0, (.aload_n 0, 1)) (List.mem_of_getElem? (i := 0) rfl)
theorem dX10_undo_1 : decode cX10_undo 1 = .ok (.invokevirtual 159, 3) := dAX10_undo (1, (.invokevirtual 159, 3)) (List.mem_of_getElem? (i := 1) rfl)
theorem dX10_undo_4 : decode cX10_undo 4 = .ok (.aload_n 0, 1) := dAX10_undo (4, (.aload_n 0, 1)) (List.mem_of_getElem? (i := 2) rfl)
theorem dX10_undo_5 : decode cX10_undo 5 = .ok (.getfield 179, 3) := dAX10_undo (5, (.getfield 179, 3)) (List.mem_of_getElem? (i := 3) rfl)
theorem dX10_undo_8 : decode cX10_undo 8 = .ok (.ifCond .ne 10, 3) := dAX10_undo (8, (.ifCond .ne 10, 3)) (List.mem_of_getElem? (i := 4) rfl)
theorem dX10_undo_11 : decode cX10_undo 11 = .ok (.aload_n 0, 1) := dAX10_undo (11, (.aload_n 0, 1)) (List.mem_of_getElem? (i := 5) rfl)
theorem dX10_undo_12 : decode cX10_undo 12 = .ok (.bipush 6, 2) := dAX10_undo (12, (.bipush 6, 2)) (List.mem_of_getElem? (i := 6) rfl)
theorem dX10_undo_14 : decode cX10_undo 14 = .ok (.invokevirtual 395, 3) := dAX10_undo (14, (.invokevirtual 395, 3)) (List.mem_of_getElem? (i := 7) rfl)
theorem dX10_undo_17 : decode cX10_undo 17 = .ok (.ireturn, 1) := dAX10_undo (17, (.ireturn, 1)) (List.mem_of_getElem? (i := 8) rfl)
theorem dX10_undo_18 : decode cX10_undo 18 = .ok (.aload_n 0, 1) := dAX10_undo (18, (.aload_n 0, 1)) (List.mem_of_getElem? (i := 9) rfl)
theorem dX10_undo_19 : decode cX10_undo 19 = .ok (.dup, 1) := dAX10_undo (19, (.dup, 1)) (List.mem_of_getElem? (i := 10) rfl)
theorem dX10_undo_20 : decode cX10_undo 20 = .ok (.getfield 179, 3) := dAX10_undo (20, (.getfield 179, 3)) (List.mem_of_getElem? (i := 11) rfl)
theorem dX10_undo_23 : decode cX10_undo 23 = .ok (.iconst 1, 1) := dAX10_undo (23, (.iconst 1, 1)) (List.mem_of_getElem? (i := 12) rfl)
theorem dX10_undo_24 : decode cX10_undo 24 = .ok (.isub, 1) := dAX10_undo (24, (.isub, 1)) (List.mem_of_getElem? (i := 13) rfl)
theorem dX10_undo_25 : decode cX10_undo 25 = .ok (.putfield 179, 3) := dAX10_undo (25, (.putfield 179, 3)) (List.mem_of_getElem? (i := 14) rfl)
theorem dX10_undo_28 : decode cX10_undo 28 = .ok (.aload_n 0, 1) := dAX10_undo (28, (.aload_n 0, 1)) (List.mem_of_getElem? (i := 15) rfl)
theorem dX10_undo_29 : decode cX10_undo 29 = .ok (.getfield 29, 3) := dAX10_undo (29, (.getfield 29, 3)) (List.mem_of_getElem? (i := 16) rfl)
theorem dX10_undo_32 : decode cX10_undo 32 = .ok (.bipush 17, 2) := dAX10_undo (32, (.bipush 17, 2)) (List.mem_of_getElem? (i := 17) rfl)
theorem dX10_undo_34 : decode cX10_undo 34 = .ok (.aload_n 0, 1) := dAX10_undo (34, (.aload_n 0, 1)) (List.mem_of_getElem? (i := 18) rfl)
theorem dX10_undo_35 : decode cX10_undo 35 = .ok (.getfield 179, 3) := dAX10_undo (35, (.getfield 179, 3)) (List.mem_of_getElem? (i := 19) rfl)
theorem dX10_undo_38 : decode cX10_undo 38 = .ok (.imul, 1) := dAX10_undo (38, (.imul, 1)) (List.mem_of_getElem? (i := 20) rfl)
theorem dX10_undo_39 : decode cX10_undo 39 = .ok (.aload_n 0, 1) := dAX10_undo (39, (.aload_n 0, 1)) (List.mem_of_getElem? (i := 21) rfl)
theorem dX10_undo_40 : decode cX10_undo 40 = .ok (.getfield 26, 3) := dAX10_undo (40, (.getfield 26, 3)) (List.mem_of_getElem? (i := 22) rfl)
theorem dX10_undo_43 : decode cX10_undo 43 = .ok (.iconst 0, 1) := dAX10_undo (43, (.iconst 0, 1)) (List.mem_of_getElem? (i := 23) rfl)
theorem dX10_undo_44 : decode cX10_undo 44 = .ok (.bipush 17, 2) := dAX10_undo (44, (.bipush 17, 2)) (List.mem_of_getElem? (i := 24) rfl)
theorem dX10_undo_46 : decode cX10_undo 46 = .ok (.invokestatic 168, 3) := dAX10_undo (46, (.invokestatic 168, 3)) (List.mem_of_getElem? (i := 25) rfl)
theorem dX10_undo_49 : decode cX10_undo 49 = .ok (.iconst 1, 1) := dAX10_undo (49, (.iconst 1, 1)) (List.mem_of_getElem? (i := 26) rfl)
theorem dX10_undo_50 : decode cX10_undo 50 = .ok (.ireturn, 1) := dAX10_undo (50, (.ireturn, 1)) (List.mem_of_getElem? (i := 27) rfl)
set_option maxRecDepth 20000 in
theorem ggX10_undo_X10_good : GoodIn wsX10_undo wsX10_good := goodIn_r _ [8, 9, 10, 18, 19, 20, 21, 22, 23, 24, 25, 26, 27, 28, 29, 30, 31, 32, 33, 34, 35, 36, 37, 38, 39, 40, 41, 42, 43, 44, 45, 46, 47, 48, 49, 50, 51, 52] rfl (by decide +kernel)
set_option maxRecDepth 20000 in
theorem gX10_undo_X10_good : GoodIn wsX10_undo (wsV RX10 159 RX10 yX10_good wsX10_good) := goodIn_app (goodIn_of _ (by decide +kernel)) ggX10_undo_X10_good
set_option maxRecDepth 20000 in
theorem ggX10_undo_X10_isNot : GoodIn wsX10_undo wsX10_isNot := goodIn_r _ [14, 10, 18, 19, 20, 21, 22, 23, 24, 25, 26, 27, 28, 29, 30, 31, 32, 33, 34, 35, 36, 37, 38, 39, 40, 41, 42, 43, 44, 45, 46, 47, 48, 49, 50, 51, 52] rfl (by decide +kernel)
set_option maxRecDepth 20000 in
theorem gX10_undo_X10_isNot : GoodIn wsX10_undo (wsV RX10 395 RX10 yX10_isNot wsX10_isNot) := goodIn_app (goodIn_of _ (by decide +kernel)) ggX10_undo_X10_isNot
set_option maxRecDepth 20000 in
theorem ggX10_undo_X10_copy : GoodIn wsX10_undo wsX10_copy := goodIn_r _ [17] rfl (by decide +kernel)
set_option maxRecDepth 20000 in
theorem gX10_undo_X10_copy : GoodIn wsX10_undo (va_wsS RX10 168 yX10_copy wsX10_copy) := goodIn_app (goodIn_of _ (by decide +kernel)) ggX10_undo_X10_copy
theorem kX10_undo_179 : Cond.fieldLink RX10 179 "EveningVowModel" "undos" "I" ∈ wsX10_undo := List.mem_of_getElem? (i := 1) rfl
theorem iX10_undo_X10 : ∀ w ∈ u_ws RX10 TX10 35, w ∈ wsX10_undo := fun w h => (List.mem_cons_of_mem _ (List.mem_append_right _ h))
theorem kX10_undo_29 : Cond.fieldLink RX10 29 "EveningVowModel" "undone" "[I" ∈ wsX10_undo := List.mem_of_getElem? (i := 2) rfl
theorem kX10_undo_26 : Cond.fieldLink RX10 26 "EveningVowModel" "st" "[I" ∈ wsX10_undo := List.mem_of_getElem? (i := 3) rfl
set_option maxHeartbeats 4000000 in
set_option maxRecDepth 100000 in
theorem mX10_undo (l : Launch) (g : GG) (a_t : Nat) (p_t : Nat → Nat) (n : Nat) (o_t : Nat → Int32) (f_t_17 : Nat → Int32) (f_t_18 : Nat → Int32) (r : Int32) (o_t' : Nat → Int32) (f_t_17' : Nat → Int32) (hF : fX10_undo n o_t f_t_17 f_t_18 = some (r, o_t', f_t_17')) : MI l g yX10_undo wsX10_undo ({ frames := 1, cells := 0, slots := 0, locals := 25 } : Room) [.ref a_t] [oX10 a_t p_t o_t, aI g (p_t 17) 17 f_t_17, aI g (p_t 18) 272 f_t_18] r [oX10 a_t p_t o_t', aI g (p_t 17) 17 f_t_17', aI g (p_t 18) 272 f_t_18] := by
  refine MI.of (cc := cX10_undo) (maxL := 1) (rt := .boolean) (own := RX10) rfl rfl (by decide) (Nat.le_of_ble_eq_true rfl) ?_
  intro p e s m args below meth c A C0 hP hD hS ls hl
  obtain ⟨hx, hb, hml, hown, hts, hr, hlk, hK, hA, hSW⟩ := id C0
  have hl : lv_has ls 1 [(0, .ref a_t)] := hl
  rw [fX10_undo] at hF
  refine lv_aload_n hx hb dX10_undo_0 rfl (lv_at hl 0 rfl) ?_
  obtain ⟨u_1, hu_2, hF⟩ := ob1_some hF
  refine call_v (wr := [aI g (p_t 17) 17 f_t_17, aI g (p_t 18) 272 f_t_18]) (As := []) (rest := []) (ci := 10) (q0 := 0) C0 (mX10_good l g a_t p_t n o_t u_1 hu_2) (cwV 0 hts gX10_undo_X10_good rfl rfl rfl (by decide +kernel) ⟨Nat.le_of_ble_eq_true rfl, Nat.le_of_ble_eq_true rfl⟩) hP hD hS [0] [1, 2] rfl rfl rfl rfl rfl (by decide) rfl rfl hl.1 rfl rfl (Nat.le_of_ble_eq_true rfl) ⟨Nat.zero_le _, Nat.zero_le _⟩ dX10_undo_1 ?_
  intro H locs hP hD hS
  refine lv_aload_n hx hb dX10_undo_4 rfl (lv_at hl 0 rfl) ?_
  refine va_get (D := g.1) (ci := 10) (v := .int (u_1 20)) (C := RX10) (T := TX10) (N := 35) hx hb hts iX10_undo_X10 hown hK.1 hP 2 rfl rfl 20 (by decide) (hts _ kX10_undo_179) (fun _ h9 => h9) rfl dX10_undo_5 ?_
  refine lv_if_ne (tgt := 18) hx hb dX10_undo_8 (by decide) (fun c_3 => ?_) (fun c_3 => ?_)
  · have hF := it_n c_3 hF
    refine lv_aload_n hx hb dX10_undo_18 rfl (lv_at hl 0 rfl) ?_
    refine lv_dup hx hb dX10_undo_19 rfl ?_
    refine va_get (D := g.1) (ci := 10) (v := .int (u_1 20)) (C := RX10) (T := TX10) (N := 35) hx hb hts iX10_undo_X10 hown hK.1 hP 2 rfl rfl 20 (by decide) (hts _ kX10_undo_179) (fun _ h9 => h9) rfl dX10_undo_20 ?_
    refine lv_iconst (v := (1 : Int32)) hx hb dX10_undo_23 (by decide) ?_
    refine lv_isub hx hb dX10_undo_24 ?_
    refine va_put (D := g.1) (ci := 10) (v := .int ((u_1 20) - (1 : Int32))) (ty := .int) (C := RX10) (T := TX10) (N := 35) hx hb hts iX10_undo_X10 tyX10 tyX10_ok nmX10 hown hK.1 hP hD hS 2 rfl rfl 20 (by decide) (hts _ kX10_undo_179) (fun _ h9 => h9) rfl (by decide +kernel) rfl rfl (Nat.le_of_ble_eq_true rfl) dX10_undo_25 (fun H locs hP hD hS => ?_)
    have hP : va_P g.1 vwCl [aI g (p_t 17) 17 f_t_17, aI g (p_t 18) 272 f_t_18, oX10 a_t p_t (upd u_1 20 ((u_1 20) - (1 : Int32)))] H := hP
    have hD : va_D A [aI g (p_t 17) 17 f_t_17, aI g (p_t 18) 272 f_t_18, oX10 a_t p_t (upd u_1 20 ((u_1 20) - (1 : Int32)))] := hD
    refine lv_aload_n hx hb dX10_undo_28 rfl (lv_at hl 0 rfl) ?_
    refine va_get (D := g.1) (ci := 10) (v := .ref (p_t 18)) (C := RX10) (T := TX10) (N := 35) hx hb hts iX10_undo_X10 hown hK.1 hP 2 rfl rfl 18 (by decide) (hts _ kX10_undo_29) (fun _ h9 => h9) rfl dX10_undo_29 ?_
    refine lv_bipush (v := (17 : Int32)) hx hb dX10_undo_32 (by decide) ?_
    refine lv_aload_n hx hb dX10_undo_34 rfl (lv_at hl 0 rfl) ?_
    refine va_get (D := g.1) (ci := 10) (v := .int ((u_1 20) - (1 : Int32))) (C := RX10) (T := TX10) (N := 35) hx hb hts iX10_undo_X10 hown hK.1 hP 2 rfl rfl 20 (by decide) (hts _ kX10_undo_179) (fun _ h9 => h9) rfl dX10_undo_35 ?_
    refine lv_imul hx hb dX10_undo_38 ?_
    refine lv_aload_n hx hb dX10_undo_39 rfl (lv_at hl 0 rfl) ?_
    refine va_get (D := g.1) (ci := 10) (v := .ref (p_t 17)) (C := RX10) (T := TX10) (N := 35) hx hb hts iX10_undo_X10 hown hK.1 hP 2 rfl rfl 17 (by decide) (hts _ kX10_undo_26) (fun _ h9 => h9) rfl dX10_undo_40 ?_
    refine lv_iconst (v := (0 : Int32)) hx hb dX10_undo_43 (by decide) ?_
    refine lv_bipush (v := (17 : Int32)) hx hb dX10_undo_44 (by decide) ?_
    obtain ⟨u_4, hu_5, hF⟩ := ob1_some hF
    refine call_sv (wr := [oX10 a_t p_t (upd u_1 20 ((u_1 20) - (1 : Int32)))]) (As := [.ref (p_t 18), .int ((17 : Int32) * ((u_1 20) - (1 : Int32))), .ref (p_t 17), .int (0 : Int32), .int (17 : Int32)]) (rest := []) C0 (mX10_copy l g (p_t 18) (p_t 17) n ((17 : Int32) * ((u_1 20) - (1 : Int32))) (0 : Int32) (17 : Int32) 272 17 f_t_18 f_t_17 u_4 hu_5) (va_cwS 5 hts gX10_undo_X10_copy rfl rfl rfl (by decide +kernel) ⟨Nat.le_of_ble_eq_true rfl, Nat.le_of_ble_eq_true rfl⟩) hP hD hS [1, 0] [2] rfl rfl rfl rfl rfl (by decide) hl.1 rfl rfl (Nat.le_of_ble_eq_true rfl) ⟨Nat.zero_le _, Nat.zero_le _⟩ dX10_undo_46 ?_
    intro H locs hP hD hS
    refine lv_iconst (v := (1 : Int32)) hx hb dX10_undo_49 (by decide) ?_
    cases hF
    exact ret_z C0 hP hD hS [0, 2, 1] rfl rfl rfl dX10_undo_50 rfl rfl
  · have hF := it_p c_3 hF
    refine lv_aload_n hx hb dX10_undo_11 rfl (lv_at hl 0 rfl) ?_
    refine lv_bipush (v := (6 : Int32)) hx hb dX10_undo_12 (by decide) ?_
    obtain ⟨u_6, u_7, hu_8, hF⟩ := ob2_some hF
    refine call_i (wr := [aI g (p_t 17) 17 f_t_17, aI g (p_t 18) 272 f_t_18]) (As := [.int (6 : Int32)]) (rest := []) (ci := 10) (q0 := 0) C0 (mX10_isNot l g a_t p_t n (6 : Int32) u_1 u_6 u_7 hu_8) (cwV 1 hts gX10_undo_X10_isNot rfl rfl rfl (by decide +kernel) ⟨Nat.le_of_ble_eq_true rfl, Nat.le_of_ble_eq_true rfl⟩) hP hD hS [2] [0, 1] rfl rfl rfl rfl rfl (by decide) rfl rfl hl.1 rfl rfl (Nat.le_of_ble_eq_true rfl) ⟨Nat.zero_le _, Nat.zero_le _⟩ dX10_undo_14 ?_
    intro H locs hP hD hS
    obtain ⟨h_9, hF⟩ := it_ck hF
    cases hF
    exact ret_z C0 hP hD hS [2, 0, 1] rfl rfl rfl dX10_undo_17 (nar01 h_9) rfl

