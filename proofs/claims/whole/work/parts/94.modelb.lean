theorem dAX10_taleLine : ∀ q ∈ ([(0, (.aload_n 0, 1)), (1, (.getfield 91, 3)), (4, (.ifCond .eq 4, 3)), (7, (.return_, 1)), (8, (.bipush 86, 2)), (10, (.iconst 2, 1)), (11, (.aload_n 0, 1)), (12, (.getfield 23, 3)), (15, (.bipush 6, 2)), (17, (.iaload, 1)), (18, (.imul, 1)), (19, (.iadd, 1)), (20, (.istore_n 1, 1)), (21, (.aload_n 0, 1)), (22, (.bipush 7, 2)), (24, (.aload_n 0, 1)), (25, (.getfield 23, 3)), (28, (.bipush 6, 2)), (30, (.iaload, 1)), (31, (.iadd, 1)), (32, (.invokevirtual 220, 3)), (35, (.aload_n 0, 1)), (36, (.getfield 23, 3)), (39, (.iload_n 1, 1)), (40, (.aload_n 0, 1)), (41, (.ldc 240, 2)), (43, (.iconst 1, 1)), (44, (.iconst 3, 1)), (45, (.invokevirtual 212, 3)), (48, (.iastore, 1)), (49, (.aload_n 0, 1)), (50, (.getfield 23, 3)), (53, (.iload_n 1, 1)), (54, (.iconst 1, 1)), (55, (.iadd, 1)), (56, (.aload_n 0, 1)), (57, (.ldc 242, 2)), (59, (.iconst 0, 1)), (60, (.bipush 30, 2)), (62, (.invokevirtual 212, 3)), (65, (.iastore, 1)), (66, (.aload_n 0, 1)), (67, (.getfield 91, 3)), (70, (.ifCond .ne 14, 3)), (73, (.aload_n 0, 1)), (74, (.getfield 23, 3)), (77, (.bipush 6, 2)), (79, (.dup2, 1)), (80, (.iaload, 1)), (81, (.iconst 1, 1)), (82, (.iadd, 1)), (83, (.iastore, 1)), (84, (.return_, 1))] : List (Nat × (Instr × Nat))), decode cX10_taleLine q.1 = .ok q.2 := by decide +kernel
theorem dX10_taleLine_0 : decode cX10_taleLine 0 = .ok (.aload_n 0, 1) := dAX10_taleLine (0, (.aload_n 0, 1)) (List.mem_of_getElem? (i := 0) rfl)
theorem dX10_taleLine_1 : decode cX10_taleLine 1 = .ok (.getfield 91, 3) := dAX10_taleLine (1, (.getfield 91, 3)) (List.mem_of_getElem? (i := 1) rfl)
theorem dX10_taleLine_4 : decode cX10_taleLine 4 = .ok (.ifCond .eq 4, 3) := dAX10_taleLine (4, (.ifCond .eq 4, 3)) (List.mem_of_getElem? (i := 2) rfl)
theorem dX10_taleLine_7 : decode cX10_taleLine 7 = .ok (.return_, 1) := dAX10_taleLine (7, (.return_, 1)) (List.mem_of_getElem? (i := 3) rfl)
theorem dX10_taleLine_8 : decode cX10_taleLine 8 = .ok (.bipush 86, 2) := dAX10_taleLine (8, (.bipush 86, 2)) (List.mem_of_getElem? (i := 4) rfl)
theorem dX10_taleLine_10 : decode cX10_taleLine 10 = .ok (.iconst 2, 1) := dAX10_taleLine (10, (.iconst 2, 1)) (List.mem_of_getElem? (i := 5) rfl)
theorem dX10_taleLine_11 : decode cX10_taleLine 11 = .ok (.aload_n 0, 1) := dAX10_taleLine (11, (.aload_n 0, 1)) (List.mem_of_getElem? (i := 6) rfl)
theorem dX10_taleLine_12 : decode cX10_taleLine 12 = .ok (.getfield 23, 3) := dAX10_taleLine (12, (.getfield 23, 3)) (List.mem_of_getElem? (i := 7) rfl)
theorem dX10_taleLine_15 : decode cX10_taleLine 15 = .ok (.bipush 6, 2) := dAX10_taleLine (15, (.bipush 6, 2)) (List.mem_of_getElem? (i := 8) rfl)
theorem dX10_taleLine_17 : decode cX10_taleLine 17 = .ok (.iaload, 1) := dAX10_taleLine (17, (.iaload, 1)) (List.mem_of_getElem? (i := 9) rfl)
theorem dX10_taleLine_18 : decode cX10_taleLine 18 = .ok (.imul, 1) := dAX10_taleLine (18, (.imul, 1)) (List.mem_of_getElem? (i := 10) rfl)
theorem dX10_taleLine_19 : decode cX10_taleLine 19 = .ok (.iadd, 1) := dAX10_taleLine (19, (.iadd, 1)) (List.mem_of_getElem? (i := 11) rfl)
theorem dX10_taleLine_20 : decode cX10_taleLine 20 = .ok (.istore_n 1, 1) := dAX10_taleLine (20, (.istore_n 1, 1)) (List.mem_of_getElem? (i := 12) rfl)
theorem dX10_taleLine_21 : decode cX10_taleLine 21 = .ok (.aload_n 0, 1) := dAX10_taleLine (21, (.aload_n 0, 1)) (List.mem_of_getElem? (i := 13) rfl)
theorem dX10_taleLine_22 : decode cX10_taleLine 22 = .ok (.bipush 7, 2) := dAX10_taleLine (22, (.bipush 7, 2)) (List.mem_of_getElem? (i := 14) rfl)
theorem dX10_taleLine_24 : decode cX10_taleLine 24 = .ok (.aload_n 0, 1) := dAX10_taleLine (24, (.aload_n 0, 1)) (List.mem_of_getElem? (i := 15) rfl)
theorem dX10_taleLine_25 : decode cX10_taleLine 25 = .ok (.getfield 23, 3) := dAX10_taleLine (25, (.getfield 23, 3)) (List.mem_of_getElem? (i := 16) rfl)
theorem dX10_taleLine_28 : decode cX10_taleLine 28 = .ok (.bipush 6, 2) := dAX10_taleLine (28, (.bipush 6, 2)) (List.mem_of_getElem? (i := 17) rfl)
theorem dX10_taleLine_30 : decode cX10_taleLine 30 = .ok (.iaload, 1) := dAX10_taleLine (30, (.iaload, 1)) (List.mem_of_getElem? (i := 18) rfl)
theorem dX10_taleLine_31 : decode cX10_taleLine 31 = .ok (.iadd, 1) := dAX10_taleLine (31, (.iadd, 1)) (List.mem_of_getElem? (i := 19) rfl)
theorem dX10_taleLine_32 : decode cX10_taleLine 32 = .ok (.invokevirtual 220, 3) := dAX10_taleLine (32, (.invokevirtual 220, 3)) (List.mem_of_getElem? (i := 20) rfl)
theorem dX10_taleLine_35 : decode cX10_taleLine 35 = .ok (.aload_n 0, 1) := dAX10_taleLine (35, (.aload_n 0, 1)) (List.mem_of_getElem? (i := 21) rfl)
theorem dX10_taleLine_36 : decode cX10_taleLine 36 = .ok (.getfield 23, 3) := dAX10_taleLine (36, (.getfield 23, 3)) (List.mem_of_getElem? (i := 22) rfl)
theorem dX10_taleLine_39 : decode cX10_taleLine 39 = .ok (.iload_n 1, 1) := dAX10_taleLine (39, (.iload_n 1, 1)) (List.mem_of_getElem? (i := 23) rfl)
theorem dX10_taleLine_40 : decode cX10_taleLine 40 = .ok (.aload_n 0, 1) := dAX10_taleLine (40, (.aload_n 0, 1)) (List.mem_of_getElem? (i := 24) rfl)
theorem dX10_taleLine_41 : decode cX10_taleLine 41 = .ok (.ldc 240, 2) := dAX10_taleLine (41, (.ldc 240, 2)) (List.mem_of_getElem? (i := 25) rfl)
theorem dX10_taleLine_43 : decode cX10_taleLine 43 = .ok (.iconst 1, 1) := dAX10_taleLine (43, (.iconst 1, 1)) (List.mem_of_getElem? (i := 26) rfl)
theorem dX10_taleLine_44 : decode cX10_taleLine 44 = .ok (.iconst 3, 1) := dAX10_taleLine (44, (.iconst 3, 1)) (List.mem_of_getElem? (i := 27) rfl)
theorem dX10_taleLine_45 : decode cX10_taleLine 45 = .ok (.invokevirtual 212, 3) := dAX10_taleLine (45, (.invokevirtual 212, 3)) (List.mem_of_getElem? (i := 28) rfl)
theorem dX10_taleLine_48 : decode cX10_taleLine 48 = .ok (.iastore, 1) := dAX10_taleLine (48, (.iastore, 1)) (List.mem_of_getElem? (i := 29) rfl)
theorem dX10_taleLine_49 : decode cX10_taleLine 49 = .ok (.aload_n 0, 1) := dAX10_taleLine (49, (.aload_n 0, 1)) (List.mem_of_getElem? (i := 30) rfl)
theorem dX10_taleLine_50 : decode cX10_taleLine 50 = .ok (.getfield 23, 3) := dAX10_taleLine (50, (.getfield 23, 3)) (List.mem_of_getElem? (i := 31) rfl)
theorem dX10_taleLine_53 : decode cX10_taleLine 53 = .ok (.iload_n 1, 1) := dAX10_taleLine (53, (.iload_n 1, 1)) (List.mem_of_getElem? (i := 32) rfl)
theorem dX10_taleLine_54 : decode cX10_taleLine 54 = .ok (.iconst 1, 1) := dAX10_taleLine (54, (.iconst 1, 1)) (List.mem_of_getElem? (i := 33) rfl)
theorem dX10_taleLine_55 : decode cX10_taleLine 55 = .ok (.iadd, 1) := dAX10_taleLine (55, (.iadd, 1)) (List.mem_of_getElem? (i := 34) rfl)
theorem dX10_taleLine_56 : decode cX10_taleLine 56 = .ok (.aload_n 0, 1) := dAX10_taleLine (56, (.aload_n 0, 1)) (List.mem_of_getElem? (i := 35) rfl)
theorem dX10_taleLine_57 : decode cX10_taleLine 57 = .ok (.ldc 242, 2) := dAX10_taleLine (57, (.ldc 242, 2)) (List.mem_of_getElem? (i := 36) rfl)
theorem dX10_taleLine_59 : decode cX10_taleLine 59 = .ok (.iconst 0, 1) := dAX10_taleLine (59, (.iconst 0, 1)) (List.mem_of_getElem? (i := 37) rfl)
theorem dX10_taleLine_60 : decode cX10_taleLine 60 = .ok (.bipush 30, 2) := dAX10_taleLine (60, (.bipush 30, 2)) (List.mem_of_getElem? (i := 38) rfl)
theorem dX10_taleLine_62 : decode cX10_taleLine 62 = .ok (.invokevirtual 212, 3) := dAX10_taleLine (62, (.invokevirtual 212, 3)) (List.mem_of_getElem? (i := 39) rfl)
theorem dX10_taleLine_65 : decode cX10_taleLine 65 = .ok (.iastore, 1) := dAX10_taleLine (65, (.iastore, 1)) (List.mem_of_getElem? (i := 40) rfl)
theorem dX10_taleLine_66 : decode cX10_taleLine 66 = .ok (.aload_n 0, 1) := dAX10_taleLine (66, (.aload_n 0, 1)) (List.mem_of_getElem? (i := 41) rfl)
theorem dX10_taleLine_67 : decode cX10_taleLine 67 = .ok (.getfield 91, 3) := dAX10_taleLine (67, (.getfield 91, 3)) (List.mem_of_getElem? (i := 42) rfl)
theorem dX10_taleLine_70 : decode cX10_taleLine 70 = .ok (.ifCond .ne 14, 3) := dAX10_taleLine (70, (.ifCond .ne 14, 3)) (List.mem_of_getElem? (i := 43) rfl)
theorem dX10_taleLine_73 : decode cX10_taleLine 73 = .ok (.aload_n 0, 1) := dAX10_taleLine (73, (.aload_n 0, 1)) (List.mem_of_getElem? (i := 44) rfl)
theorem dX10_taleLine_74 : decode cX10_taleLine 74 = .ok (.getfield 23, 3) := dAX10_taleLine (74, (.getfield 23, 3)) (List.mem_of_getElem? (i := 45) rfl)
theorem dX10_taleLine_77 : decode cX10_taleLine 77 = .ok (.bipush 6, 2) := dAX10_taleLine (77, (.bipush 6, 2)) (List.mem_of_getElem? (i := 46) rfl)
theorem dX10_taleLine_79 : decode cX10_taleLine 79 = .ok (.dup2, 1) := dAX10_taleLine (79, (.dup2, 1)) (List.mem_of_getElem? (i := 47) rfl)
theorem dX10_taleLine_80 : decode cX10_taleLine 80 = .ok (.iaload, 1) := dAX10_taleLine (80, (.iaload, 1)) (List.mem_of_getElem? (i := 48) rfl)
theorem dX10_taleLine_81 : decode cX10_taleLine 81 = .ok (.iconst 1, 1) := dAX10_taleLine (81, (.iconst 1, 1)) (List.mem_of_getElem? (i := 49) rfl)
theorem dX10_taleLine_82 : decode cX10_taleLine 82 = .ok (.iadd, 1) := dAX10_taleLine (82, (.iadd, 1)) (List.mem_of_getElem? (i := 50) rfl)
theorem dX10_taleLine_83 : decode cX10_taleLine 83 = .ok (.iastore, 1) := dAX10_taleLine (83, (.iastore, 1)) (List.mem_of_getElem? (i := 51) rfl)
theorem dX10_taleLine_84 : decode cX10_taleLine 84 = .ok (.return_, 1) := dAX10_taleLine (84, (.return_, 1)) (List.mem_of_getElem? (i := 52) rfl)
set_option maxRecDepth 20000 in
theorem ggX10_taleLine_X10_newName : GoodIn wsX10_taleLine wsX10_newName := goodIn_r _ [7, 1, 8, 9, 2, 10, 11, 12, 13, 6, 14, 15, 16, 17, 18, 19, 20, 21, 22, 23, 24, 25, 26, 27, 28, 29, 30, 31, 32, 33, 34, 35, 36, 37, 38, 39, 40, 41, 42, 43, 44, 45, 46, 47, 48, 49, 50, 51, 52, 53, 54, 55, 56, 57, 58, 59, 60, 61, 62, 63, 64, 65, 66, 67, 68, 69, 70, 71, 72, 73, 74, 75, 76, 77, 78, 79, 80, 81, 82, 83, 84, 85, 86, 87, 88, 89, 90, 91, 92, 93, 94, 95, 96, 116, 117, 118, 119, 120, 121, 122, 123, 124, 125, 126, 127, 128, 129, 130, 131, 132, 133, 134, 135, 136, 137, 138, 139, 140, 141, 142, 143, 144, 145, 146, 147, 148, 149, 150] rfl (by decide +kernel)
set_option maxRecDepth 20000 in
theorem gX10_taleLine_X10_newName : GoodIn wsX10_taleLine (wsV RX10 220 RX10 yX10_newName wsX10_newName) := goodIn_app (goodIn_of _ (by decide +kernel)) ggX10_taleLine_X10_newName
set_option maxRecDepth 20000 in
theorem ggX10_taleLine_X10_after : GoodIn wsX10_taleLine wsX10_after := goodIn_r _ [100, 101, 102, 103, 6, 104, 1, 8, 105, 106, 107, 108, 16, 17, 18, 19, 15, 9, 10, 20, 21, 22, 23, 24, 25, 26, 27, 28, 29, 30, 31, 32, 33, 34, 35, 36, 37, 38, 39, 40, 41, 42, 43, 44, 45, 46, 47, 48, 49, 50, 51, 52, 53, 54, 55, 56, 57, 58, 59, 60, 61, 62, 63, 64, 65, 66, 67, 68, 79, 80, 81, 82, 83, 84, 85, 86, 87, 88, 89, 90, 91, 92, 93, 94, 95, 96, 69, 70, 71, 72, 73, 74, 109, 110, 111, 112, 113, 114, 115, 116, 117, 118, 119, 120, 121, 122, 123, 124, 125, 126, 127, 128, 129, 130, 131, 132, 133, 134, 135, 136, 137, 138, 139, 140, 141, 142, 143, 144, 145, 146, 147, 148, 149, 150] rfl (by decide +kernel)
set_option maxRecDepth 20000 in
theorem gX10_taleLine_X10_after : GoodIn wsX10_taleLine (wsV RX10 212 RX10 yX10_after wsX10_after) := goodIn_app (goodIn_of _ (by decide +kernel)) ggX10_taleLine_X10_after
theorem kX10_taleLine_91 : Cond.fieldLink RX10 91 "EveningVowModel" "failed" "Z" ∈ wsX10_taleLine := List.mem_of_getElem? (i := 1) rfl
theorem iX10_taleLine_X10 : ∀ w ∈ u_ws RX10 TX10 35, w ∈ wsX10_taleLine := fun w h => (List.mem_cons_of_mem _ (List.mem_append_right _ h))
theorem kX10_taleLine_23 : Cond.fieldLink RX10 23 "EveningVowModel" "fresh" "[I" ∈ wsX10_taleLine := List.mem_of_getElem? (i := 2) rfl
set_option maxHeartbeats 4000000 in
set_option maxRecDepth 100000 in
theorem mX10_taleLine (l : Launch) (g : GG) (a_t : Nat) (p_t : Nat → Nat) (n : Nat) (o_t : Nat → Int32) (f_t_1 : Nat → Int32) (f_t_12 : Nat → Int32) (f_t_16 : Nat → Int32) (o_t' : Nat → Int32) (f_t_12' : Nat → Int32) (f_t_16' : Nat → Int32) (hF : fX10_taleLine n o_t f_t_1 f_t_12 f_t_16 = some (o_t', f_t_12', f_t_16')) : MV l g yX10_taleLine wsX10_taleLine ({ frames := 8, cells := 0, slots := 0, locals := 178 } : Room) [.ref a_t] [oX10 a_t p_t o_t, aI g (p_t 1) 800 f_t_1, aI g (p_t 12) 8 f_t_12, aI g (p_t 16) 266 f_t_16] [oX10 a_t p_t o_t', aI g (p_t 1) 800 f_t_1, aI g (p_t 12) 8 f_t_12', aI g (p_t 16) 266 f_t_16'] := by
  refine MV.of (cc := cX10_taleLine) (maxL := 2) (own := RX10) rfl rfl (by decide) (Nat.le_of_ble_eq_true rfl) ?_
  intro p e s m args below meth c A C0 hP hD hS ls hl
  obtain ⟨hx, hb, hml, hown, hts, hr, hlk, hK, hA, hSW⟩ := id C0
  have hl : lv_has ls 2 [(0, .ref a_t)] := hl
  rw [fX10_taleLine] at hF
  refine lv_aload_n hx hb dX10_taleLine_0 rfl (lv_at hl 0 rfl) ?_
  refine va_get (D := g.1) (ci := 10) (v := .int (o_t 13)) (C := RX10) (T := TX10) (N := 35) hx hb hts iX10_taleLine_X10 hown hK.1 hP 0 rfl rfl 13 (by decide) (hts _ kX10_taleLine_91) (fun _ h9 => h9) rfl dX10_taleLine_1 ?_
  refine lv_if_eq (tgt := 8) hx hb dX10_taleLine_4 (by decide) (fun c_1 => ?_) (fun c_1 => ?_)
  · have hF := it_p c_1 hF
    refine lv_bipush (v := (86 : Int32)) hx hb dX10_taleLine_8 (by decide) ?_
    refine lv_iconst (v := (2 : Int32)) hx hb dX10_taleLine_10 (by decide) ?_
    refine lv_aload_n hx hb dX10_taleLine_11 rfl (lv_at hl 0 rfl) ?_
    refine va_get (D := g.1) (ci := 10) (v := .ref (p_t 16)) (C := RX10) (T := TX10) (N := 35) hx hb hts iX10_taleLine_X10 hown hK.1 hP 0 rfl rfl 16 (by decide) (hts _ kX10_taleLine_23) (fun _ h9 => h9) rfl dX10_taleLine_12 ?_
    refine lv_bipush (v := (6 : Int32)) hx hb dX10_taleLine_15 (by decide) ?_
    refine va_iald_k (j := 6) hx hb hK.1 hP 3 0 rfl rfl (by unfold vp_in; decide) rfl dX10_taleLine_17 ?_
    refine lv_imul hx hb dX10_taleLine_18 ?_
    refine lv_iadd hx hb dX10_taleLine_19 ?_
    refine lv_istore_n (lv' := [(1, .int ((86 : Int32) + ((2 : Int32) * (f_t_16 6)))), (0, .ref a_t)]) hx hb dX10_taleLine_20 rfl hl (by decide) rfl (fun ls hl => ?_)
    refine lv_aload_n hx hb dX10_taleLine_21 rfl (lv_at hl 1 rfl) ?_
    refine lv_bipush (v := (7 : Int32)) hx hb dX10_taleLine_22 (by decide) ?_
    refine lv_aload_n hx hb dX10_taleLine_24 rfl (lv_at hl 1 rfl) ?_
    refine va_get (D := g.1) (ci := 10) (v := .ref (p_t 16)) (C := RX10) (T := TX10) (N := 35) hx hb hts iX10_taleLine_X10 hown hK.1 hP 0 rfl rfl 16 (by decide) (hts _ kX10_taleLine_23) (fun _ h9 => h9) rfl dX10_taleLine_25 ?_
    refine lv_bipush (v := (6 : Int32)) hx hb dX10_taleLine_28 (by decide) ?_
    refine va_iald_k (j := 6) hx hb hK.1 hP 3 0 rfl rfl (by unfold vp_in; decide) rfl dX10_taleLine_30 ?_
    refine lv_iadd hx hb dX10_taleLine_31 ?_
    obtain ⟨u_2, u_3, u_4, hu_5, hF⟩ := ob3_some hF
    refine call_v (wr := []) (As := [.int ((7 : Int32) + (f_t_16 6))]) (rest := []) (ci := 10) (q0 := 0) C0 (mX10_newName l g a_t p_t n ((7 : Int32) + (f_t_16 6)) o_t f_t_1 f_t_12 f_t_16 u_2 u_3 u_4 hu_5) (cwV 1 hts gX10_taleLine_X10_newName rfl rfl rfl (by decide +kernel) ⟨Nat.le_of_ble_eq_true rfl, Nat.le_of_ble_eq_true rfl⟩) hP hD hS [0, 1, 2, 3] [] rfl rfl rfl rfl rfl (by decide) rfl rfl hl.1 rfl rfl (Nat.le_of_ble_eq_true rfl) ⟨Nat.zero_le _, Nat.zero_le _⟩ dX10_taleLine_32 ?_
    intro H locs hP hD hS
    refine lv_aload_n hx hb dX10_taleLine_35 rfl (lv_at hl 1 rfl) ?_
    refine va_get (D := g.1) (ci := 10) (v := .ref (p_t 16)) (C := RX10) (T := TX10) (N := 35) hx hb hts iX10_taleLine_X10 hown hK.1 hP 0 rfl rfl 16 (by decide) (hts _ kX10_taleLine_23) (fun _ h9 => h9) rfl dX10_taleLine_36 ?_
    refine lv_iload_n hx hb dX10_taleLine_39 rfl (lv_at hl 0 rfl) ?_
    refine lv_aload_n hx hb dX10_taleLine_40 rfl (lv_at hl 1 rfl) ?_
    refine va_ldcS (own := RX10) (index := 240) (q := gK g 18) hx hb hown (hK.2.2 18 (by decide)) dX10_taleLine_41 ?_
    refine lv_iconst (v := (1 : Int32)) hx hb dX10_taleLine_43 (by decide) ?_
    refine lv_iconst (v := (3 : Int32)) hx hb dX10_taleLine_44 (by decide) ?_
    obtain ⟨u_6, u_7, u_8, hu_9, hF⟩ := ob3_some hF
    refine call_i (wr := [aI g (p_t 16) 266 u_4]) (As := [.ref (gK g 18), .int (1 : Int32), .int (3 : Int32)]) (rest := [.int ((86 : Int32) + ((2 : Int32) * (f_t_16 6))), .ref (p_t 16)]) (ci := 10) (q0 := 0) C0 (mX10_after l g a_t p_t n 18 (1 : Int32) (3 : Int32) u_2 f_t_1 u_3 u_6 u_7 u_8 (by decide) hu_9) (cwV 3 hts gX10_taleLine_X10_after rfl rfl rfl (by decide +kernel) ⟨Nat.le_of_ble_eq_true rfl, Nat.le_of_ble_eq_true rfl⟩) hP hD hS [0, 1, 2] [3] rfl rfl rfl rfl rfl (by decide) rfl rfl hl.1 rfl rfl (Nat.le_of_ble_eq_true rfl) ⟨Nat.zero_le _, Nat.zero_le _⟩ dX10_taleLine_45 ?_
    intro H locs hP hD hS
    obtain ⟨h_10, hF⟩ := it_ck hF
    refine va_iast hx hb hK.1 hP hD hS 0 0 rfl rfl h_10 dX10_taleLine_48 (fun H locs hP hD hS => ?_)
    have hP : va_P g.1 vwCl [aI g (p_t 16) 266 (upd u_4 (((86 : Int32) + ((2 : Int32) * (f_t_16 6)))).toNatClampNeg u_6), oX10 a_t p_t u_7, aI g (p_t 1) 800 f_t_1, aI g (p_t 12) 8 u_8] H := hP
    have hD : va_D A [aI g (p_t 16) 266 (upd u_4 (((86 : Int32) + ((2 : Int32) * (f_t_16 6)))).toNatClampNeg u_6), oX10 a_t p_t u_7, aI g (p_t 1) 800 f_t_1, aI g (p_t 12) 8 u_8] := hD
    refine lv_aload_n hx hb dX10_taleLine_49 rfl (lv_at hl 1 rfl) ?_
    refine va_get (D := g.1) (ci := 10) (v := .ref (p_t 16)) (C := RX10) (T := TX10) (N := 35) hx hb hts iX10_taleLine_X10 hown hK.1 hP 1 rfl rfl 16 (by decide) (hts _ kX10_taleLine_23) (fun _ h9 => h9) rfl dX10_taleLine_50 ?_
    refine lv_iload_n hx hb dX10_taleLine_53 rfl (lv_at hl 0 rfl) ?_
    refine lv_iconst (v := (1 : Int32)) hx hb dX10_taleLine_54 (by decide) ?_
    refine lv_iadd hx hb dX10_taleLine_55 ?_
    refine lv_aload_n hx hb dX10_taleLine_56 rfl (lv_at hl 1 rfl) ?_
    refine va_ldcS (own := RX10) (index := 242) (q := gK g 19) hx hb hown (hK.2.2 19 (by decide)) dX10_taleLine_57 ?_
    refine lv_iconst (v := (0 : Int32)) hx hb dX10_taleLine_59 (by decide) ?_
    refine lv_bipush (v := (30 : Int32)) hx hb dX10_taleLine_60 (by decide) ?_
    obtain ⟨u_11, u_12, u_13, hu_14, hF⟩ := ob3_some hF
    refine call_i (wr := [aI g (p_t 16) 266 (upd u_4 (((86 : Int32) + ((2 : Int32) * (f_t_16 6)))).toNatClampNeg u_6)]) (As := [.ref (gK g 19), .int (0 : Int32), .int (30 : Int32)]) (rest := [.int (((86 : Int32) + ((2 : Int32) * (f_t_16 6))) + (1 : Int32)), .ref (p_t 16)]) (ci := 10) (q0 := 0) C0 (mX10_after l g a_t p_t n 19 (0 : Int32) (30 : Int32) u_7 f_t_1 u_8 u_11 u_12 u_13 (by decide) hu_14) (cwV 3 hts gX10_taleLine_X10_after rfl rfl rfl (by decide +kernel) ⟨Nat.le_of_ble_eq_true rfl, Nat.le_of_ble_eq_true rfl⟩) hP hD hS [1, 2, 3] [0] rfl rfl rfl rfl rfl (by decide) rfl rfl hl.1 rfl rfl (Nat.le_of_ble_eq_true rfl) ⟨Nat.zero_le _, Nat.zero_le _⟩ dX10_taleLine_62 ?_
    intro H locs hP hD hS
    obtain ⟨h_15, hF⟩ := it_ck hF
    refine va_iast hx hb hK.1 hP hD hS 0 0 rfl rfl h_15 dX10_taleLine_65 (fun H locs hP hD hS => ?_)
    have hP : va_P g.1 vwCl [aI g (p_t 16) 266 (upd (upd u_4 (((86 : Int32) + ((2 : Int32) * (f_t_16 6)))).toNatClampNeg u_6) ((((86 : Int32) + ((2 : Int32) * (f_t_16 6))) + (1 : Int32))).toNatClampNeg u_11), oX10 a_t p_t u_12, aI g (p_t 1) 800 f_t_1, aI g (p_t 12) 8 u_13] H := hP
    have hD : va_D A [aI g (p_t 16) 266 (upd (upd u_4 (((86 : Int32) + ((2 : Int32) * (f_t_16 6)))).toNatClampNeg u_6) ((((86 : Int32) + ((2 : Int32) * (f_t_16 6))) + (1 : Int32))).toNatClampNeg u_11), oX10 a_t p_t u_12, aI g (p_t 1) 800 f_t_1, aI g (p_t 12) 8 u_13] := hD
    refine lv_aload_n hx hb dX10_taleLine_66 rfl (lv_at hl 1 rfl) ?_
    refine va_get (D := g.1) (ci := 10) (v := .int (u_12 13)) (C := RX10) (T := TX10) (N := 35) hx hb hts iX10_taleLine_X10 hown hK.1 hP 1 rfl rfl 13 (by decide) (hts _ kX10_taleLine_91) (fun _ h9 => h9) rfl dX10_taleLine_67 ?_
    refine lv_if_ne (tgt := 84) hx hb dX10_taleLine_70 (by decide) (fun c_16 => ?_) (fun c_16 => ?_)
    · have hF := it_n c_16 hF
      cases hF
      exact ret_v C0 hP hD hS [1, 2, 3, 0] rfl rfl rfl dX10_taleLine_84
    · have hF := it_p c_16 hF
      refine lv_aload_n hx hb dX10_taleLine_73 rfl (lv_at hl 1 rfl) ?_
      refine va_get (D := g.1) (ci := 10) (v := .ref (p_t 16)) (C := RX10) (T := TX10) (N := 35) hx hb hts iX10_taleLine_X10 hown hK.1 hP 1 rfl rfl 16 (by decide) (hts _ kX10_taleLine_23) (fun _ h9 => h9) rfl dX10_taleLine_74 ?_
      refine lv_bipush (v := (6 : Int32)) hx hb dX10_taleLine_77 (by decide) ?_
      refine lv_dup2_11 hx hb dX10_taleLine_79 rfl rfl ?_
      refine va_iald_k (j := 6) hx hb hK.1 hP 0 0 rfl rfl (by unfold vp_in; decide) rfl dX10_taleLine_80 ?_
      refine lv_iconst (v := (1 : Int32)) hx hb dX10_taleLine_81 (by decide) ?_
      refine lv_iadd hx hb dX10_taleLine_82 ?_
      refine va_iast hx hb hK.1 hP hD hS 0 0 rfl rfl (by unfold vp_in; decide) dX10_taleLine_83 (fun H locs hP hD hS => ?_)
      have hP : va_P g.1 vwCl [aI g (p_t 16) 266 (upd (upd (upd u_4 (((86 : Int32) + ((2 : Int32) * (f_t_16 6)))).toNatClampNeg u_6) ((((86 : Int32) + ((2 : Int32) * (f_t_16 6))) + (1 : Int32))).toNatClampNeg u_11) 6 (((upd (upd u_4 (((86 : Int32) + ((2 : Int32) * (f_t_16 6)))).toNatClampNeg u_6) ((((86 : Int32) + ((2 : Int32) * (f_t_16 6))) + (1 : Int32))).toNatClampNeg u_11) 6) + (1 : Int32))), oX10 a_t p_t u_12, aI g (p_t 1) 800 f_t_1, aI g (p_t 12) 8 u_13] H := hP
      have hD : va_D A [aI g (p_t 16) 266 (upd (upd (upd u_4 (((86 : Int32) + ((2 : Int32) * (f_t_16 6)))).toNatClampNeg u_6) ((((86 : Int32) + ((2 : Int32) * (f_t_16 6))) + (1 : Int32))).toNatClampNeg u_11) 6 (((upd (upd u_4 (((86 : Int32) + ((2 : Int32) * (f_t_16 6)))).toNatClampNeg u_6) ((((86 : Int32) + ((2 : Int32) * (f_t_16 6))) + (1 : Int32))).toNatClampNeg u_11) 6) + (1 : Int32))), oX10 a_t p_t u_12, aI g (p_t 1) 800 f_t_1, aI g (p_t 12) 8 u_13] := hD
      cases hF
      exact ret_v C0 hP hD hS [1, 2, 3, 0] rfl rfl rfl dX10_taleLine_84
  · have hF := it_n c_1 hF
    cases hF
    exact ret_v C0 hP hD hS [0, 1, 2, 3] rfl rfl rfl dX10_taleLine_7

theorem dAX10_needLine : ∀ q ∈ ([(0, (.aload_n 0, 1)), (1, (.getfield 91, 3)), (4, (.ifCond .eq 4, 3)), (7, (.return_, 1)), (8, (.bipush 94, 2)), (10, (.iconst 2, 1)), (11, (.aload_n 0, 1)), (12, (.getfield 23, 3)), (15, (.bipush 7, 2)), (17, (.iaload, 1)), (18, (.imul, 1)), (19, (.iadd, 1)), (20, (.istore_n 1, 1)), (21, (.aload_n 0, 1)), (22, (.bipush 11, 2)), (24, (.aload_n 0, 1)), (25, (.getfield 23, 3)), (28, (.bipush 7, 2)), (30, (.iaload, 1)), (31, (.iadd, 1)), (32, (.invokevirtual 220, 3)), (35, (.aload_n 0, 1)), (36, (.getfield 23, 3)), (39, (.iload_n 1, 1)), (40, (.aload_n 0, 1)), (41, (.ldc 238, 2)), (43, (.iconst 0, 1)), (44, (.bipush 30, 2)), (46, (.invokevirtual 212, 3)), (49, (.iastore, 1)), (50, (.aload_n 0, 1)), (51, (.getfield 23, 3)), (54, (.iload_n 1, 1)), (55, (.iconst 1, 1)), (56, (.iadd, 1)), (57, (.aload_n 0, 1)), (58, (.ldc 244, 2)), (60, (.iconst 1, 1)), (61, (.bipush 99, 2)), (63, (.invokevirtual 212, 3)), (66, (.iastore, 1)), (67, (.aload_n 0, 1)), (68, (.getfield 91, 3)), (71, (.ifCond .ne 14, 3)), (74, (.aload_n 0, 1)), (75, (.getfield 23, 3)), (78, (.bipush 7, 2)), (80, (.dup2, 1)), (81, (.iaload, 1)), (82, (.iconst 1, 1)), (83, (.iadd, 1)), (84, (.iastore, 1)), (85, (.return_, 1))] : List (Nat × (Instr × Nat))), decode cX10_needLine q.1 = .ok q.2 := by decide +kernel
theorem dX10_needLine_0 : decode cX10_needLine 0 = .ok (.aload_n 0, 1) := dAX10_needLine (0, (.aload_n 0, 1)) (List.mem_of_getElem? (i := 0) rfl)
theorem dX10_needLine_1 : decode cX10_needLine 1 = .ok (.getfield 91, 3) := dAX10_needLine (1, (.getfield 91, 3)) (List.mem_of_getElem? (i := 1) rfl)
theorem dX10_needLine_4 : decode cX10_needLine 4 = .ok (.ifCond .eq 4, 3) := dAX10_needLine (4, (.ifCond .eq 4, 3)) (List.mem_of_getElem? (i := 2) rfl)
theorem dX10_needLine_7 : decode cX10_needLine 7 = .ok (.return_, 1) := dAX10_needLine (7, (.return_, 1)) (List.mem_of_getElem? (i := 3) rfl)
theorem dX10_needLine_8 : decode cX10_needLine 8 = .ok (.bipush 94, 2) := dAX10_needLine (8, (.bipush 94, 2)) (List.mem_of_getElem? (i := 4) rfl)
theorem dX10_needLine_10 : decode cX10_needLine 10 = .ok (.iconst 2, 1) := dAX10_needLine (10, (.iconst 2, 1)) (List.mem_of_getElem? (i := 5) rfl)
theorem dX10_needLine_11 : decode cX10_needLine 11 = .ok (.aload_n 0, 1) := dAX10_needLine (11, (.aload_n 0, 1)) (List.mem_of_getElem? (i := 6) rfl)
theorem dX10_needLine_12 : decode cX10_needLine 12 = .ok (.getfield 23, 3) := dAX10_needLine (12, (.getfield 23, 3)) (List.mem_of_getElem? (i := 7) rfl)
theorem dX10_needLine_15 : decode cX10_needLine 15 = .ok (.bipush 7, 2) := dAX10_needLine (15, (.bipush 7, 2)) (List.mem_of_getElem? (i := 8) rfl)
theorem dX10_needLine_17 : decode cX10_needLine 17 = .ok (.iaload, 1) := dAX10_needLine (17, (.iaload, 1)) (List.mem_of_getElem? (i := 9) rfl)
theorem dX10_needLine_18 : decode cX10_needLine 18 = .ok (.imul, 1) := dAX10_needLine (18, (.imul, 1)) (List.mem_of_getElem? (i := 10) rfl)
theorem dX10_needLine_19 : decode cX10_needLine 19 = .ok (.iadd, 1) := dAX10_needLine (19, (.iadd, 1)) (List.mem_of_getElem? (i := 11) rfl)
theorem dX10_needLine_20 : decode cX10_needLine 20 = .ok (.istore_n 1, 1) := dAX10_needLine (20, (.istore_n 1, 1)) (List.mem_of_getElem? (i := 12) rfl)
theorem dX10_needLine_21 : decode cX10_needLine 21 = .ok (.aload_n 0, 1) := dAX10_needLine (21, (.aload_n 0, 1)) (List.mem_of_getElem? (i := 13) rfl)
theorem dX10_needLine_22 : decode cX10_needLine 22 = .ok (.bipush 11, 2) := dAX10_needLine (22, (.bipush 11, 2)) (List.mem_of_getElem? (i := 14) rfl)
theorem dX10_needLine_24 : decode cX10_needLine 24 = .ok (.aload_n 0, 1) := dAX10_needLine (24, (.aload_n 0, 1)) (List.mem_of_getElem? (i := 15) rfl)
theorem dX10_needLine_25 : decode cX10_needLine 25 = .ok (.getfield 23, 3) := dAX10_needLine (25, (.getfield 23, 3)) (List.mem_of_getElem? (i := 16) rfl)
theorem dX10_needLine_28 : decode cX10_needLine 28 = .ok (.bipush 7, 2) := dAX10_needLine (28, (.bipush 7, 2)) (List.mem_of_getElem? (i := 17) rfl)
theorem dX10_needLine_30 : decode cX10_needLine 30 = .ok (.iaload, 1) := dAX10_needLine (30, (.iaload, 1)) (List.mem_of_getElem? (i := 18) rfl)
theorem dX10_needLine_31 : decode cX10_needLine 31 = .ok (.iadd, 1) := dAX10_needLine (31, (.iadd, 1)) (List.mem_of_getElem? (i := 19) rfl)
theorem dX10_needLine_32 : decode cX10_needLine 32 = .ok (.invokevirtual 220, 3) := dAX10_needLine (32, (.invokevirtual 220, 3)) (List.mem_of_getElem? (i := 20) rfl)
theorem dX10_needLine_35 : decode cX10_needLine 35 = .ok (.aload_n 0, 1) := dAX10_needLine (35, (.aload_n 0, 1)) (List.mem_of_getElem? (i := 21) rfl)
theorem dX10_needLine_36 : decode cX10_needLine 36 = .ok (.getfield 23, 3) := dAX10_needLine (36, (.getfield 23, 3)) (List.mem_of_getElem? (i := 22) rfl)
theorem dX10_needLine_39 : decode cX10_needLine 39 = .ok (.iload_n 1, 1) := dAX10_needLine (39, (.iload_n 1, 1)) (List.mem_of_getElem? (i := 23) rfl)
theorem dX10_needLine_40 : decode cX10_needLine 40 = .ok (.aload_n 0, 1) := dAX10_needLine (40, (.aload_n 0, 1)) (List.mem_of_getElem? (i := 24) rfl)
theorem dX10_needLine_41 : decode cX10_needLine 41 = .ok (.ldc 238, 2) := dAX10_needLine (41, (.ldc 238, 2)) (List.mem_of_getElem? (i := 25) rfl)
theorem dX10_needLine_43 : decode cX10_needLine 43 = .ok (.iconst 0, 1) := dAX10_needLine (43, (.iconst 0, 1)) (List.mem_of_getElem? (i := 26) rfl)
theorem dX10_needLine_44 : decode cX10_needLine 44 = .ok (.bipush 30, 2) := dAX10_needLine (44, (.bipush 30, 2)) (List.mem_of_getElem? (i := 27) rfl)
theorem dX10_needLine_46 : decode cX10_needLine 46 = .ok (.invokevirtual 212, 3) := dAX10_needLine (46, (.invokevirtual 212, 3)) (List.mem_of_getElem? (i := 28) rfl)
theorem dX10_needLine_49 : decode cX10_needLine 49 = .ok (.iastore, 1) := dAX10_needLine (49, (.iastore, 1)) (List.mem_of_getElem? (i := 29) rfl)
theorem dX10_needLine_50 : decode cX10_needLine 50 = .ok (.aload_n 0, 1) := dAX10_needLine (50, (.aload_n 0, 1)) (List.mem_of_getElem? (i := 30) rfl)
theorem dX10_needLine_51 : decode cX10_needLine 51 = .ok (.getfield 23, 3) := dAX10_needLine (51, (.getfield 23, 3)) (List.mem_of_getElem? (i := 31) rfl)
theorem dX10_needLine_54 : decode cX10_needLine 54 = .ok (.iload_n 1, 1) := dAX10_needLine (54, (.iload_n 1, 1)) (List.mem_of_getElem? (i := 32) rfl)
theorem dX10_needLine_55 : decode cX10_needLine 55 = .ok (.iconst 1, 1) := dAX10_needLine (55, (.iconst 1, 1)) (List.mem_of_getElem? (i := 33) rfl)
theorem dX10_needLine_56 : decode cX10_needLine 56 = .ok (.iadd, 1) := dAX10_needLine (56, (.iadd, 1)) (List.mem_of_getElem? (i := 34) rfl)
theorem dX10_needLine_57 : decode cX10_needLine 57 = .ok (.aload_n 0, 1) := dAX10_needLine (57, (.aload_n 0, 1)) (List.mem_of_getElem? (i := 35) rfl)
theorem dX10_needLine_58 : decode cX10_needLine 58 = .ok (.ldc 244, 2) := dAX10_needLine (58, (.ldc 244, 2)) (List.mem_of_getElem? (i := 36) rfl)
theorem dX10_needLine_60 : decode cX10_needLine 60 = .ok (.iconst 1, 1) := dAX10_needLine (60, (.iconst 1, 1)) (List.mem_of_getElem? (i := 37) rfl)
theorem dX10_needLine_61 : decode cX10_needLine 61 = .ok (.bipush 99, 2) := dAX10_needLine (61, (.bipush 99, 2)) (List.mem_of_getElem? (i := 38) rfl)
theorem dX10_needLine_63 : decode cX10_needLine 63 = .ok (.invokevirtual 212, 3) := dAX10_needLine (63, (.invokevirtual 212, 3)) (List.mem_of_getElem? (i := 39) rfl)
theorem dX10_needLine_66 : decode cX10_needLine 66 = .ok (.iastore, 1) := dAX10_needLine (66, (.iastore, 1)) (List.mem_of_getElem? (i := 40) rfl)
theorem dX10_needLine_67 : decode cX10_needLine 67 = .ok (.aload_n 0, 1) := dAX10_needLine (67, (.aload_n 0, 1)) (List.mem_of_getElem? (i := 41) rfl)
theorem dX10_needLine_68 : decode cX10_needLine 68 = .ok (.getfield 91, 3) := dAX10_needLine (68, (.getfield 91, 3)) (List.mem_of_getElem? (i := 42) rfl)
theorem dX10_needLine_71 : decode cX10_needLine 71 = .ok (.ifCond .ne 14, 3) := dAX10_needLine (71, (.ifCond .ne 14, 3)) (List.mem_of_getElem? (i := 43) rfl)
theorem dX10_needLine_74 : decode cX10_needLine 74 = .ok (.aload_n 0, 1) := dAX10_needLine (74, (.aload_n 0, 1)) (List.mem_of_getElem? (i := 44) rfl)
theorem dX10_needLine_75 : decode cX10_needLine 75 = .ok (.getfield 23, 3) := dAX10_needLine (75, (.getfield 23, 3)) (List.mem_of_getElem? (i := 45) rfl)
theorem dX10_needLine_78 : decode cX10_needLine 78 = .ok (.bipush 7, 2) := dAX10_needLine (78, (.bipush 7, 2)) (List.mem_of_getElem? (i := 46) rfl)
theorem dX10_needLine_80 : decode cX10_needLine 80 = .ok (.dup2, 1) := dAX10_needLine (80, (.dup2, 1)) (List.mem_of_getElem? (i := 47) rfl)
theorem dX10_needLine_81 : decode cX10_needLine 81 = .ok (.iaload, 1) := dAX10_needLine (81, (.iaload, 1)) (List.mem_of_getElem? (i := 48) rfl)
theorem dX10_needLine_82 : decode cX10_needLine 82 = .ok (.iconst 1, 1) := dAX10_needLine (82, (.iconst 1, 1)) (List.mem_of_getElem? (i := 49) rfl)
theorem dX10_needLine_83 : decode cX10_needLine 83 = .ok (.iadd, 1) := dAX10_needLine (83, (.iadd, 1)) (List.mem_of_getElem? (i := 50) rfl)
theorem dX10_needLine_84 : decode cX10_needLine 84 = .ok (.iastore, 1) := dAX10_needLine (84, (.iastore, 1)) (List.mem_of_getElem? (i := 51) rfl)
theorem dX10_needLine_85 : decode cX10_needLine 85 = .ok (.return_, 1) := dAX10_needLine (85, (.return_, 1)) (List.mem_of_getElem? (i := 52) rfl)
set_option maxRecDepth 20000 in
theorem ggX10_needLine_X10_newName : GoodIn wsX10_needLine wsX10_newName := goodIn_r _ [7, 1, 8, 9, 2, 10, 11, 12, 13, 6, 14, 15, 16, 17, 18, 19, 20, 21, 22, 23, 24, 25, 26, 27, 28, 29, 30, 31, 32, 33, 34, 35, 36, 37, 38, 39, 40, 41, 42, 43, 44, 45, 46, 47, 48, 49, 50, 51, 52, 53, 54, 55, 56, 57, 58, 59, 60, 61, 62, 63, 64, 65, 66, 67, 68, 69, 70, 71, 72, 73, 74, 75, 76, 77, 78, 79, 80, 81, 82, 83, 84, 85, 86, 87, 88, 89, 90, 91, 92, 93, 94, 95, 96, 116, 117, 118, 119, 120, 121, 122, 123, 124, 125, 126, 127, 128, 129, 130, 131, 132, 133, 134, 135, 136, 137, 138, 139, 140, 141, 142, 143, 144, 145, 146, 147, 148, 149, 150] rfl (by decide +kernel)
set_option maxRecDepth 20000 in
theorem gX10_needLine_X10_newName : GoodIn wsX10_needLine (wsV RX10 220 RX10 yX10_newName wsX10_newName) := goodIn_app (goodIn_of _ (by decide +kernel)) ggX10_needLine_X10_newName
set_option maxRecDepth 20000 in
theorem ggX10_needLine_X10_after : GoodIn wsX10_needLine wsX10_after := goodIn_r _ [100, 101, 102, 103, 6, 104, 1, 8, 105, 106, 107, 108, 16, 17, 18, 19, 15, 9, 10, 20, 21, 22, 23, 24, 25, 26, 27, 28, 29, 30, 31, 32, 33, 34, 35, 36, 37, 38, 39, 40, 41, 42, 43, 44, 45, 46, 47, 48, 49, 50, 51, 52, 53, 54, 55, 56, 57, 58, 59, 60, 61, 62, 63, 64, 65, 66, 67, 68, 79, 80, 81, 82, 83, 84, 85, 86, 87, 88, 89, 90, 91, 92, 93, 94, 95, 96, 69, 70, 71, 72, 73, 74, 109, 110, 111, 112, 113, 114, 115, 116, 117, 118, 119, 120, 121, 122, 123, 124, 125, 126, 127, 128, 129, 130, 131, 132, 133, 134, 135, 136, 137, 138, 139, 140, 141, 142, 143, 144, 145, 146, 147, 148, 149, 150] rfl (by decide +kernel)
set_option maxRecDepth 20000 in
theorem gX10_needLine_X10_after : GoodIn wsX10_needLine (wsV RX10 212 RX10 yX10_after wsX10_after) := goodIn_app (goodIn_of _ (by decide +kernel)) ggX10_needLine_X10_after
theorem kX10_needLine_91 : Cond.fieldLink RX10 91 "EveningVowModel" "failed" "Z" ∈ wsX10_needLine := List.mem_of_getElem? (i := 1) rfl
theorem iX10_needLine_X10 : ∀ w ∈ u_ws RX10 TX10 35, w ∈ wsX10_needLine := fun w h => (List.mem_cons_of_mem _ (List.mem_append_right _ h))
theorem kX10_needLine_23 : Cond.fieldLink RX10 23 "EveningVowModel" "fresh" "[I" ∈ wsX10_needLine := List.mem_of_getElem? (i := 2) rfl
set_option maxHeartbeats 4000000 in
set_option maxRecDepth 100000 in
theorem mX10_needLine (l : Launch) (g : GG) (a_t : Nat) (p_t : Nat → Nat) (n : Nat) (o_t : Nat → Int32) (f_t_1 : Nat → Int32) (f_t_12 : Nat → Int32) (f_t_16 : Nat → Int32) (o_t' : Nat → Int32) (f_t_12' : Nat → Int32) (f_t_16' : Nat → Int32) (hF : fX10_needLine n o_t f_t_1 f_t_12 f_t_16 = some (o_t', f_t_12', f_t_16')) : MV l g yX10_needLine wsX10_needLine ({ frames := 8, cells := 0, slots := 0, locals := 178 } : Room) [.ref a_t] [oX10 a_t p_t o_t, aI g (p_t 1) 800 f_t_1, aI g (p_t 12) 8 f_t_12, aI g (p_t 16) 266 f_t_16] [oX10 a_t p_t o_t', aI g (p_t 1) 800 f_t_1, aI g (p_t 12) 8 f_t_12', aI g (p_t 16) 266 f_t_16'] := by
  refine MV.of (cc := cX10_needLine) (maxL := 2) (own := RX10) rfl rfl (by decide) (Nat.le_of_ble_eq_true rfl) ?_
  intro p e s m args below meth c A C0 hP hD hS ls hl
  obtain ⟨hx, hb, hml, hown, hts, hr, hlk, hK, hA, hSW⟩ := id C0
  have hl : lv_has ls 2 [(0, .ref a_t)] := hl
  rw [fX10_needLine] at hF
  refine lv_aload_n hx hb dX10_needLine_0 rfl (lv_at hl 0 rfl) ?_
  refine va_get (D := g.1) (ci := 10) (v := .int (o_t 13)) (C := RX10) (T := TX10) (N := 35) hx hb hts iX10_needLine_X10 hown hK.1 hP 0 rfl rfl 13 (by decide) (hts _ kX10_needLine_91) (fun _ h9 => h9) rfl dX10_needLine_1 ?_
  refine lv_if_eq (tgt := 8) hx hb dX10_needLine_4 (by decide) (fun c_1 => ?_) (fun c_1 => ?_)
  · have hF := it_p c_1 hF
    refine lv_bipush (v := (94 : Int32)) hx hb dX10_needLine_8 (by decide) ?_
    refine lv_iconst (v := (2 : Int32)) hx hb dX10_needLine_10 (by decide) ?_
    refine lv_aload_n hx hb dX10_needLine_11 rfl (lv_at hl 0 rfl) ?_
    refine va_get (D := g.1) (ci := 10) (v := .ref (p_t 16)) (C := RX10) (T := TX10) (N := 35) hx hb hts iX10_needLine_X10 hown hK.1 hP 0 rfl rfl 16 (by decide) (hts _ kX10_needLine_23) (fun _ h9 => h9) rfl dX10_needLine_12 ?_
    refine lv_bipush (v := (7 : Int32)) hx hb dX10_needLine_15 (by decide) ?_
    refine va_iald_k (j := 7) hx hb hK.1 hP 3 0 rfl rfl (by unfold vp_in; decide) rfl dX10_needLine_17 ?_
    refine lv_imul hx hb dX10_needLine_18 ?_
    refine lv_iadd hx hb dX10_needLine_19 ?_
    refine lv_istore_n (lv' := [(1, .int ((94 : Int32) + ((2 : Int32) * (f_t_16 7)))), (0, .ref a_t)]) hx hb dX10_needLine_20 rfl hl (by decide) rfl (fun ls hl => ?_)
    refine lv_aload_n hx hb dX10_needLine_21 rfl (lv_at hl 1 rfl) ?_
    refine lv_bipush (v := (11 : Int32)) hx hb dX10_needLine_22 (by decide) ?_
    refine lv_aload_n hx hb dX10_needLine_24 rfl (lv_at hl 1 rfl) ?_
    refine va_get (D := g.1) (ci := 10) (v := .ref (p_t 16)) (C := RX10) (T := TX10) (N := 35) hx hb hts iX10_needLine_X10 hown hK.1 hP 0 rfl rfl 16 (by decide) (hts _ kX10_needLine_23) (fun _ h9 => h9) rfl dX10_needLine_25 ?_
    refine lv_bipush (v := (7 : Int32)) hx hb dX10_needLine_28 (by decide) ?_
    refine va_iald_k (j := 7) hx hb hK.1 hP 3 0 rfl rfl (by unfold vp_in; decide) rfl dX10_needLine_30 ?_
    refine lv_iadd hx hb dX10_needLine_31 ?_
    obtain ⟨u_2, u_3, u_4, hu_5, hF⟩ := ob3_some hF
    refine call_v (wr := []) (As := [.int ((11 : Int32) + (f_t_16 7))]) (rest := []) (ci := 10) (q0 := 0) C0 (mX10_newName l g a_t p_t n ((11 : Int32) + (f_t_16 7)) o_t f_t_1 f_t_12 f_t_16 u_2 u_3 u_4 hu_5) (cwV 1 hts gX10_needLine_X10_newName rfl rfl rfl (by decide +kernel) ⟨Nat.le_of_ble_eq_true rfl, Nat.le_of_ble_eq_true rfl⟩) hP hD hS [0, 1, 2, 3] [] rfl rfl rfl rfl rfl (by decide) rfl rfl hl.1 rfl rfl (Nat.le_of_ble_eq_true rfl) ⟨Nat.zero_le _, Nat.zero_le _⟩ dX10_needLine_32 ?_
    intro H locs hP hD hS
    refine lv_aload_n hx hb dX10_needLine_35 rfl (lv_at hl 1 rfl) ?_
    refine va_get (D := g.1) (ci := 10) (v := .ref (p_t 16)) (C := RX10) (T := TX10) (N := 35) hx hb hts iX10_needLine_X10 hown hK.1 hP 0 rfl rfl 16 (by decide) (hts _ kX10_needLine_23) (fun _ h9 => h9) rfl dX10_needLine_36 ?_
    refine lv_iload_n hx hb dX10_needLine_39 rfl (lv_at hl 0 rfl) ?_
    refine lv_aload_n hx hb dX10_needLine_40 rfl (lv_at hl 1 rfl) ?_
    refine va_ldcS (own := RX10) (index := 238) (q := gK g 17) hx hb hown (hK.2.2 17 (by decide)) dX10_needLine_41 ?_
    refine lv_iconst (v := (0 : Int32)) hx hb dX10_needLine_43 (by decide) ?_
    refine lv_bipush (v := (30 : Int32)) hx hb dX10_needLine_44 (by decide) ?_
    obtain ⟨u_6, u_7, u_8, hu_9, hF⟩ := ob3_some hF
    refine call_i (wr := [aI g (p_t 16) 266 u_4]) (As := [.ref (gK g 17), .int (0 : Int32), .int (30 : Int32)]) (rest := [.int ((94 : Int32) + ((2 : Int32) * (f_t_16 7))), .ref (p_t 16)]) (ci := 10) (q0 := 0) C0 (mX10_after l g a_t p_t n 17 (0 : Int32) (30 : Int32) u_2 f_t_1 u_3 u_6 u_7 u_8 (by decide) hu_9) (cwV 3 hts gX10_needLine_X10_after rfl rfl rfl (by decide +kernel) ⟨Nat.le_of_ble_eq_true rfl, Nat.le_of_ble_eq_true rfl⟩) hP hD hS [0, 1, 2] [3] rfl rfl rfl rfl rfl (by decide) rfl rfl hl.1 rfl rfl (Nat.le_of_ble_eq_true rfl) ⟨Nat.zero_le _, Nat.zero_le _⟩ dX10_needLine_46 ?_
    intro H locs hP hD hS
    obtain ⟨h_10, hF⟩ := it_ck hF
    refine va_iast hx hb hK.1 hP hD hS 0 0 rfl rfl h_10 dX10_needLine_49 (fun H locs hP hD hS => ?_)
    have hP : va_P g.1 vwCl [aI g (p_t 16) 266 (upd u_4 (((94 : Int32) + ((2 : Int32) * (f_t_16 7)))).toNatClampNeg u_6), oX10 a_t p_t u_7, aI g (p_t 1) 800 f_t_1, aI g (p_t 12) 8 u_8] H := hP
    have hD : va_D A [aI g (p_t 16) 266 (upd u_4 (((94 : Int32) + ((2 : Int32) * (f_t_16 7)))).toNatClampNeg u_6), oX10 a_t p_t u_7, aI g (p_t 1) 800 f_t_1, aI g (p_t 12) 8 u_8] := hD
    refine lv_aload_n hx hb dX10_needLine_50 rfl (lv_at hl 1 rfl) ?_
    refine va_get (D := g.1) (ci := 10) (v := .ref (p_t 16)) (C := RX10) (T := TX10) (N := 35) hx hb hts iX10_needLine_X10 hown hK.1 hP 1 rfl rfl 16 (by decide) (hts _ kX10_needLine_23) (fun _ h9 => h9) rfl dX10_needLine_51 ?_
    refine lv_iload_n hx hb dX10_needLine_54 rfl (lv_at hl 0 rfl) ?_
    refine lv_iconst (v := (1 : Int32)) hx hb dX10_needLine_55 (by decide) ?_
    refine lv_iadd hx hb dX10_needLine_56 ?_
    refine lv_aload_n hx hb dX10_needLine_57 rfl (lv_at hl 1 rfl) ?_
    refine va_ldcS (own := RX10) (index := 244) (q := gK g 20) hx hb hown (hK.2.2 20 (by decide)) dX10_needLine_58 ?_
    refine lv_iconst (v := (1 : Int32)) hx hb dX10_needLine_60 (by decide) ?_
    refine lv_bipush (v := (99 : Int32)) hx hb dX10_needLine_61 (by decide) ?_
    obtain ⟨u_11, u_12, u_13, hu_14, hF⟩ := ob3_some hF
    refine call_i (wr := [aI g (p_t 16) 266 (upd u_4 (((94 : Int32) + ((2 : Int32) * (f_t_16 7)))).toNatClampNeg u_6)]) (As := [.ref (gK g 20), .int (1 : Int32), .int (99 : Int32)]) (rest := [.int (((94 : Int32) + ((2 : Int32) * (f_t_16 7))) + (1 : Int32)), .ref (p_t 16)]) (ci := 10) (q0 := 0) C0 (mX10_after l g a_t p_t n 20 (1 : Int32) (99 : Int32) u_7 f_t_1 u_8 u_11 u_12 u_13 (by decide) hu_14) (cwV 3 hts gX10_needLine_X10_after rfl rfl rfl (by decide +kernel) ⟨Nat.le_of_ble_eq_true rfl, Nat.le_of_ble_eq_true rfl⟩) hP hD hS [1, 2, 3] [0] rfl rfl rfl rfl rfl (by decide) rfl rfl hl.1 rfl rfl (Nat.le_of_ble_eq_true rfl) ⟨Nat.zero_le _, Nat.zero_le _⟩ dX10_needLine_63 ?_
    intro H locs hP hD hS
    obtain ⟨h_15, hF⟩ := it_ck hF
    refine va_iast hx hb hK.1 hP hD hS 0 0 rfl rfl h_15 dX10_needLine_66 (fun H locs hP hD hS => ?_)
    have hP : va_P g.1 vwCl [aI g (p_t 16) 266 (upd (upd u_4 (((94 : Int32) + ((2 : Int32) * (f_t_16 7)))).toNatClampNeg u_6) ((((94 : Int32) + ((2 : Int32) * (f_t_16 7))) + (1 : Int32))).toNatClampNeg u_11), oX10 a_t p_t u_12, aI g (p_t 1) 800 f_t_1, aI g (p_t 12) 8 u_13] H := hP
    have hD : va_D A [aI g (p_t 16) 266 (upd (upd u_4 (((94 : Int32) + ((2 : Int32) * (f_t_16 7)))).toNatClampNeg u_6) ((((94 : Int32) + ((2 : Int32) * (f_t_16 7))) + (1 : Int32))).toNatClampNeg u_11), oX10 a_t p_t u_12, aI g (p_t 1) 800 f_t_1, aI g (p_t 12) 8 u_13] := hD
    refine lv_aload_n hx hb dX10_needLine_67 rfl (lv_at hl 1 rfl) ?_
    refine va_get (D := g.1) (ci := 10) (v := .int (u_12 13)) (C := RX10) (T := TX10) (N := 35) hx hb hts iX10_needLine_X10 hown hK.1 hP 1 rfl rfl 13 (by decide) (hts _ kX10_needLine_91) (fun _ h9 => h9) rfl dX10_needLine_68 ?_
    refine lv_if_ne (tgt := 85) hx hb dX10_needLine_71 (by decide) (fun c_16 => ?_) (fun c_16 => ?_)
    · have hF := it_n c_16 hF
      cases hF
      exact ret_v C0 hP hD hS [1, 2, 3, 0] rfl rfl rfl dX10_needLine_85
    · have hF := it_p c_16 hF
      refine lv_aload_n hx hb dX10_needLine_74 rfl (lv_at hl 1 rfl) ?_
      refine va_get (D := g.1) (ci := 10) (v := .ref (p_t 16)) (C := RX10) (T := TX10) (N := 35) hx hb hts iX10_needLine_X10 hown hK.1 hP 1 rfl rfl 16 (by decide) (hts _ kX10_needLine_23) (fun _ h9 => h9) rfl dX10_needLine_75 ?_
      refine lv_bipush (v := (7 : Int32)) hx hb dX10_needLine_78 (by decide) ?_
      refine lv_dup2_11 hx hb dX10_needLine_80 rfl rfl ?_
      refine va_iald_k (j := 7) hx hb hK.1 hP 0 0 rfl rfl (by unfold vp_in; decide) rfl dX10_needLine_81 ?_
      refine lv_iconst (v := (1 : Int32)) hx hb dX10_needLine_82 (by decide) ?_
      refine lv_iadd hx hb dX10_needLine_83 ?_
      refine va_iast hx hb hK.1 hP hD hS 0 0 rfl rfl (by unfold vp_in; decide) dX10_needLine_84 (fun H locs hP hD hS => ?_)
      have hP : va_P g.1 vwCl [aI g (p_t 16) 266 (upd (upd (upd u_4 (((94 : Int32) + ((2 : Int32) * (f_t_16 7)))).toNatClampNeg u_6) ((((94 : Int32) + ((2 : Int32) * (f_t_16 7))) + (1 : Int32))).toNatClampNeg u_11) 7 (((upd (upd u_4 (((94 : Int32) + ((2 : Int32) * (f_t_16 7)))).toNatClampNeg u_6) ((((94 : Int32) + ((2 : Int32) * (f_t_16 7))) + (1 : Int32))).toNatClampNeg u_11) 7) + (1 : Int32))), oX10 a_t p_t u_12, aI g (p_t 1) 800 f_t_1, aI g (p_t 12) 8 u_13] H := hP
      have hD : va_D A [aI g (p_t 16) 266 (upd (upd (upd u_4 (((94 : Int32) + ((2 : Int32) * (f_t_16 7)))).toNatClampNeg u_6) ((((94 : Int32) + ((2 : Int32) * (f_t_16 7))) + (1 : Int32))).toNatClampNeg u_11) 7 (((upd (upd u_4 (((94 : Int32) + ((2 : Int32) * (f_t_16 7)))).toNatClampNeg u_6) ((((94 : Int32) + ((2 : Int32) * (f_t_16 7))) + (1 : Int32))).toNatClampNeg u_11) 7) + (1 : Int32))), oX10 a_t p_t u_12, aI g (p_t 1) 800 f_t_1, aI g (p_t 12) 8 u_13] := hD
      cases hF
      exact ret_v C0 hP hD hS [1, 2, 3, 0] rfl rfl rfl dX10_needLine_85
  · have hF := it_n c_1 hF
    cases hF
    exact ret_v C0 hP hD hS [0, 1, 2, 3] rfl rfl rfl dX10_needLine_7

theorem dAX10_seenLine : ∀ q ∈ ([(0, (.aload_n 0, 1)), (1, (.getfield 91, 3)), (4, (.ifCond .eq 4, 3)), (7, (.return_, 1)), (8, (.bipush 104, 2)), (10, (.iconst 3, 1)), (11, (.aload_n 0, 1)), (12, (.getfield 23, 3)), (15, (.bipush 8, 2)), (17, (.iaload, 1)), (18, (.imul, 1)), (19, (.iadd, 1)), (20, (.istore_n 2, 1)), (21, (.aload_n 0, 1)), (22, (.getfield 23, 3)), (25, (.iload_n 2, 1)), (26, (.aload_n 0, 1)), (27, (.invokevirtual 235, 3)), (30, (.iastore, 1)), (31, (.aload_n 0, 1)), (32, (.getfield 23, 3)), (35, (.iload_n 2, 1)), (36, (.iconst 1, 1)), (37, (.iadd, 1)), (38, (.aload_n 0, 1)), (39, (.ldc 246, 2)), (41, (.iconst 0, 1)), (42, (.bipush 30, 2)), (44, (.invokevirtual 212, 3)), (47, (.iastore, 1)), (48, (.aload_n 0, 1)), (49, (.getfield 23, 3)), (52, (.iload_n 2, 1)), (53, (.iconst 2, 1)), (54, (.iadd, 1)), (55, (.iload_n 1, 1)), (56, (.iastore, 1)), (57, (.aload_n 0, 1)), (58, (.getfield 91, 3)), (61, (.ifCond .ne 14, 3)), (64, (.aload_n 0, 1)), (65, (.getfield 23, 3)), (68, (.bipush 8, 2)), (70, (.dup2, 1)), (71, (.iaload, 1)), (72, (.iconst 1, 1)), (73, (.iadd, 1)), (74, (.iastore, 1)), (75, (.return_, 1))] : List (Nat × (Instr × Nat))), decode cX10_seenLine q.1 = .ok q.2 := by decide +kernel
theorem dX10_seenLine_0 : decode cX10_seenLine 0 = .ok (.aload_n 0, 1) := dAX10_seenLine (0, (.aload_n 0, 1)) (List.mem_of_getElem? (i := 0) rfl)
theorem dX10_seenLine_1 : decode cX10_seenLine 1 = .ok (.getfield 91, 3) := dAX10_seenLine (1, (.getfield 91, 3)) (List.mem_of_getElem? (i := 1) rfl)
theorem dX10_seenLine_4 : decode cX10_seenLine 4 = .ok (.ifCond .eq 4, 3) := dAX10_seenLine (4, (.ifCond .eq 4, 3)) (List.mem_of_getElem? (i := 2) rfl)
theorem dX10_seenLine_7 : decode cX10_seenLine 7 = .ok (.return_, 1) := dAX10_seenLine (7, (.return_, 1)) (List.mem_of_getElem? (i := 3) rfl)
theorem dX10_seenLine_8 : decode cX10_seenLine 8 = .ok (.bipush 104, 2) := dAX10_seenLine (8, (.bipush 104, 2)) (List.mem_of_getElem? (i := 4) rfl)
theorem dX10_seenLine_10 : decode cX10_seenLine 10 = .ok (.iconst 3, 1) := dAX10_seenLine (10, (.iconst 3, 1)) (List.mem_of_getElem? (i := 5) rfl)
theorem dX10_seenLine_11 : decode cX10_seenLine 11 = .ok (.aload_n 0, 1) := dAX10_seenLine (11, (.aload_n 0, 1)) (List.mem_of_getElem? (i := 6) rfl)
theorem dX10_seenLine_12 : decode cX10_seenLine 12 = .ok (.getfield 23, 3) := dAX10_seenLine (12, (.getfield 23, 3)) (List.mem_of_getElem? (i := 7) rfl)
theorem dX10_seenLine_15 : decode cX10_seenLine 15 = .ok (.bipush 8, 2) := dAX10_seenLine (15, (.bipush 8, 2)) (List.mem_of_getElem? (i := 8) rfl)
theorem dX10_seenLine_17 : decode cX10_seenLine 17 = .ok (.iaload, 1) := dAX10_seenLine (17, (.iaload, 1)) (List.mem_of_getElem? (i := 9) rfl)
theorem dX10_seenLine_18 : decode cX10_seenLine 18 = .ok (.imul, 1) := dAX10_seenLine (18, (.imul, 1)) (List.mem_of_getElem? (i := 10) rfl)
theorem dX10_seenLine_19 : decode cX10_seenLine 19 = .ok (.iadd, 1) := dAX10_seenLine (19, (.iadd, 1)) (List.mem_of_getElem? (i := 11) rfl)
theorem dX10_seenLine_20 : decode cX10_seenLine 20 = .ok (.istore_n 2, 1) := dAX10_seenLine (20, (.istore_n 2, 1)) (List.mem_of_getElem? (i := 12) rfl)
theorem dX10_seenLine_21 : decode cX10_seenLine 21 = .ok (.aload_n 0, 1) := dAX10_seenLine (21, (.aload_n 0, 1)) (List.mem_of_getElem? (i := 13) rfl)
theorem dX10_seenLine_22 : decode cX10_seenLine 22 = .ok (.getfield 23, 3) := dAX10_seenLine (22, (.getfield 23, 3)) (List.mem_of_getElem? (i := 14) rfl)
theorem dX10_seenLine_25 : decode cX10_seenLine 25 = .ok (.iload_n 2, 1) := dAX10_seenLine (25, (.iload_n 2, 1)) (List.mem_of_getElem? (i := 15) rfl)
theorem dX10_seenLine_26 : decode cX10_seenLine 26 = .ok (.aload_n 0, 1) := dAX10_seenLine (26, (.aload_n 0, 1)) (List.mem_of_getElem? (i := 16) rfl)
theorem dX10_seenLine_27 : decode cX10_seenLine 27 = .ok (.invokevirtual 235, 3) := dAX10_seenLine (27, (.invokevirtual 235, 3)) (List.mem_of_getElem? (i := 17) rfl)
theorem dX10_seenLine_30 : decode cX10_seenLine 30 = .ok (.iastore, 1) := dAX10_seenLine (30, (.iastore, 1)) (List.mem_of_getElem? (i := 18) rfl)
theorem dX10_seenLine_31 : decode cX10_seenLine 31 = .ok (.aload_n 0, 1) := dAX10_seenLine (31, (.aload_n 0, 1)) (List.mem_of_getElem? (i := 19) rfl)
theorem dX10_seenLine_32 : decode cX10_seenLine 32 = .ok (.getfield 23, 3) := dAX10_seenLine (32, (.getfield 23, 3)) (List.mem_of_getElem? (i := 20) rfl)
theorem dX10_seenLine_35 : decode cX10_seenLine 35 = .ok (.iload_n 2, 1) := dAX10_seenLine (35, (.iload_n 2, 1)) (List.mem_of_getElem? (i := 21) rfl)
theorem dX10_seenLine_36 : decode cX10_seenLine 36 = .ok (.iconst 1, 1) := dAX10_seenLine (36, (.iconst 1, 1)) (List.mem_of_getElem? (i := 22) rfl)
theorem dX10_seenLine_37 : decode cX10_seenLine 37 = .ok (.iadd, 1) := dAX10_seenLine (37, (.iadd, 1)) (List.mem_of_getElem? (i := 23) rfl)
theorem dX10_seenLine_38 : decode cX10_seenLine 38 = .ok (.aload_n 0, 1) := dAX10_seenLine (38, (.aload_n 0, 1)) (List.mem_of_getElem? (i := 24) rfl)
theorem dX10_seenLine_39 : decode cX10_seenLine 39 = .ok (.ldc 246, 2) := dAX10_seenLine (39, (.ldc 246, 2)) (List.mem_of_getElem? (i := 25) rfl)
theorem dX10_seenLine_41 : decode cX10_seenLine 41 = .ok (.iconst 0, 1) := dAX10_seenLine (41, (.iconst 0, 1)) (List.mem_of_getElem? (i := 26) rfl)
theorem dX10_seenLine_42 : decode cX10_seenLine 42 = .ok (.bipush 30, 2) := dAX10_seenLine (42, (.bipush 30, 2)) (List.mem_of_getElem? (i := 27) rfl)
theorem dX10_seenLine_44 : decode cX10_seenLine 44 = .ok (.invokevirtual 212, 3) := dAX10_seenLine (44, (.invokevirtual 212, 3)) (List.mem_of_getElem? (i := 28) rfl)
theorem dX10_seenLine_47 : decode cX10_seenLine 47 = .ok (.iastore, 1) := dAX10_seenLine (47, (.iastore, 1)) (List.mem_of_getElem? (i := 29) rfl)
theorem dX10_seenLine_48 : decode cX10_seenLine 48 = .ok (.aload_n 0, 1) := dAX10_seenLine (48, (.aload_n 0, 1)) (List.mem_of_getElem? (i := 30) rfl)
theorem dX10_seenLine_49 : decode cX10_seenLine 49 = .ok (.getfield 23, 3) := dAX10_seenLine (49, (.getfield 23, 3)) (List.mem_of_getElem? (i := 31) rfl)
theorem dX10_seenLine_52 : decode cX10_seenLine 52 = .ok (.iload_n 2, 1) := dAX10_seenLine (52, (.iload_n 2, 1)) (List.mem_of_getElem? (i := 32) rfl)
theorem dX10_seenLine_53 : decode cX10_seenLine 53 = .ok (.iconst 2, 1) := dAX10_seenLine (53, (.iconst 2, 1)) (List.mem_of_getElem? (i := 33) rfl)
theorem dX10_seenLine_54 : decode cX10_seenLine 54 = .ok (.iadd, 1) := dAX10_seenLine (54, (.iadd, 1)) (List.mem_of_getElem? (i := 34) rfl)
theorem dX10_seenLine_55 : decode cX10_seenLine 55 = .ok (.iload_n 1, 1) := dAX10_seenLine (55, (.iload_n 1, 1)) (List.mem_of_getElem? (i := 35) rfl)
theorem dX10_seenLine_56 : decode cX10_seenLine 56 = .ok (.iastore, 1) := dAX10_seenLine (56, (.iastore, 1)) (List.mem_of_getElem? (i := 36) rfl)
theorem dX10_seenLine_57 : decode cX10_seenLine 57 = .ok (.aload_n 0, 1) := dAX10_seenLine (57, (.aload_n 0, 1)) (List.mem_of_getElem? (i := 37) rfl)
theorem dX10_seenLine_58 : decode cX10_seenLine 58 = .ok (.getfield 91, 3) := dAX10_seenLine (58, (.getfield 91, 3)) (List.mem_of_getElem? (i := 38) rfl)
theorem dX10_seenLine_61 : decode cX10_seenLine 61 = .ok (.ifCond .ne 14, 3) := dAX10_seenLine (61, (.ifCond .ne 14, 3)) (List.mem_of_getElem? (i := 39) rfl)
theorem dX10_seenLine_64 : decode cX10_seenLine 64 = .ok (.aload_n 0, 1) := dAX10_seenLine (64, (.aload_n 0, 1)) (List.mem_of_getElem? (i := 40) rfl)
theorem dX10_seenLine_65 : decode cX10_seenLine 65 = .ok (.getfield 23, 3) := dAX10_seenLine (65, (.getfield 23, 3)) (List.mem_of_getElem? (i := 41) rfl)
theorem dX10_seenLine_68 : decode cX10_seenLine 68 = .ok (.bipush 8, 2) := dAX10_seenLine (68, (.bipush 8, 2)) (List.mem_of_getElem? (i := 42) rfl)
theorem dX10_seenLine_70 : decode cX10_seenLine 70 = .ok (.dup2, 1) := dAX10_seenLine (70, (.dup2, 1)) (List.mem_of_getElem? (i := 43) rfl)
theorem dX10_seenLine_71 : decode cX10_seenLine 71 = .ok (.iaload, 1) := dAX10_seenLine (71, (.iaload, 1)) (List.mem_of_getElem? (i := 44) rfl)
theorem dX10_seenLine_72 : decode cX10_seenLine 72 = .ok (.iconst 1, 1) := dAX10_seenLine (72, (.iconst 1, 1)) (List.mem_of_getElem? (i := 45) rfl)
theorem dX10_seenLine_73 : decode cX10_seenLine 73 = .ok (.iadd, 1) := dAX10_seenLine (73, (.iadd, 1)) (List.mem_of_getElem? (i := 46) rfl)
theorem dX10_seenLine_74 : decode cX10_seenLine 74 = .ok (.iastore, 1) := dAX10_seenLine (74, (.iastore, 1)) (List.mem_of_getElem? (i := 47) rfl)
theorem dX10_seenLine_75 : decode cX10_seenLine 75 = .ok (.return_, 1) := dAX10_seenLine (75, (.return_, 1)) (List.mem_of_getElem? (i := 48) rfl)
set_option maxRecDepth 20000 in
theorem ggX10_seenLine_X10_guestPassed : GoodIn wsX10_seenLine wsX10_guestPassed := goodIn_r _ [7, 1, 8, 9, 10, 6, 11, 12, 13, 14, 15, 16, 17, 18, 19, 20, 21, 22, 23, 24, 25, 26, 27, 28, 29, 30, 31, 32, 33, 34, 35, 36, 37, 38, 39, 40, 41, 42, 43, 44, 45, 46, 47, 48, 49, 50, 51, 52, 53, 54, 55, 56, 57, 58, 59, 60, 61, 62, 63, 64, 65, 66, 67, 68, 69, 70, 71, 72, 73, 74, 75, 76, 77, 78, 79, 80, 81, 82, 2, 83, 84, 85, 86, 87, 88, 89, 90, 91, 92, 93, 94, 95, 96, 97, 98, 99, 100, 101, 102, 103, 120, 121, 122, 123, 124, 125, 126, 127, 128, 129, 130, 131, 132, 133, 134, 135, 136, 137, 138, 139, 140, 141, 142, 143, 144, 145, 146, 147, 148, 149, 150, 151, 152, 153, 154] rfl (by decide +kernel)
set_option maxRecDepth 20000 in
theorem gX10_seenLine_X10_guestPassed : GoodIn wsX10_seenLine (wsV RX10 235 RX10 yX10_guestPassed wsX10_guestPassed) := goodIn_app (goodIn_of _ (by decide +kernel)) ggX10_seenLine_X10_guestPassed
set_option maxRecDepth 20000 in
theorem ggX10_seenLine_X10_after : GoodIn wsX10_seenLine wsX10_after := goodIn_r _ [107, 108, 109, 110, 6, 111, 1, 12, 112, 113, 114, 115, 18, 19, 20, 21, 17, 22, 23, 24, 25, 26, 27, 28, 29, 30, 31, 32, 33, 34, 35, 36, 37, 38, 39, 40, 41, 42, 43, 44, 45, 46, 47, 48, 49, 50, 51, 52, 53, 54, 55, 56, 57, 58, 59, 60, 61, 62, 63, 64, 65, 66, 67, 68, 69, 70, 71, 72, 86, 87, 88, 89, 90, 91, 92, 93, 94, 95, 96, 97, 98, 99, 100, 101, 102, 103, 73, 74, 75, 76, 77, 78, 116, 117, 118, 119, 83, 84, 85, 120, 121, 122, 123, 124, 125, 126, 127, 128, 129, 130, 131, 132, 133, 134, 135, 136, 137, 138, 139, 140, 141, 142, 143, 144, 145, 146, 147, 148, 149, 150, 151, 152, 153, 154] rfl (by decide +kernel)
set_option maxRecDepth 20000 in
theorem gX10_seenLine_X10_after : GoodIn wsX10_seenLine (wsV RX10 212 RX10 yX10_after wsX10_after) := goodIn_app (goodIn_of _ (by decide +kernel)) ggX10_seenLine_X10_after
theorem kX10_seenLine_91 : Cond.fieldLink RX10 91 "EveningVowModel" "failed" "Z" ∈ wsX10_seenLine := List.mem_of_getElem? (i := 1) rfl
theorem iX10_seenLine_X10 : ∀ w ∈ u_ws RX10 TX10 35, w ∈ wsX10_seenLine := fun w h => (List.mem_cons_of_mem _ (List.mem_append_right _ h))
theorem kX10_seenLine_23 : Cond.fieldLink RX10 23 "EveningVowModel" "fresh" "[I" ∈ wsX10_seenLine := List.mem_of_getElem? (i := 2) rfl
set_option maxHeartbeats 4000000 in
set_option maxRecDepth 100000 in
theorem mX10_seenLine (l : Launch) (g : GG) (a_t : Nat) (p_t : Nat → Nat) (n : Nat) (x1 : Int32) (o_t : Nat → Int32) (f_t_1 : Nat → Int32) (f_t_12 : Nat → Int32) (f_t_16 : Nat → Int32) (o_t' : Nat → Int32) (f_t_12' : Nat → Int32) (f_t_16' : Nat → Int32) (hF : fX10_seenLine n x1 o_t f_t_1 f_t_12 f_t_16 = some (o_t', f_t_12', f_t_16')) : MV l g yX10_seenLine wsX10_seenLine ({ frames := 8, cells := 0, slots := 0, locals := 178 } : Room) [.ref a_t, .int x1] [oX10 a_t p_t o_t, aI g (p_t 1) 800 f_t_1, aI g (p_t 12) 8 f_t_12, aI g (p_t 16) 266 f_t_16] [oX10 a_t p_t o_t', aI g (p_t 1) 800 f_t_1, aI g (p_t 12) 8 f_t_12', aI g (p_t 16) 266 f_t_16'] := by
  refine MV.of (cc := cX10_seenLine) (maxL := 3) (own := RX10) rfl rfl (by decide) (Nat.le_of_ble_eq_true rfl) ?_
  intro p e s m args below meth c A C0 hP hD hS ls hl
  obtain ⟨hx, hb, hml, hown, hts, hr, hlk, hK, hA, hSW⟩ := id C0
  have hl : lv_has ls 3 [(0, .ref a_t), (1, .int x1)] := hl
  rw [fX10_seenLine] at hF
  refine lv_aload_n hx hb dX10_seenLine_0 rfl (lv_at hl 0 rfl) ?_
  refine va_get (D := g.1) (ci := 10) (v := .int (o_t 13)) (C := RX10) (T := TX10) (N := 35) hx hb hts iX10_seenLine_X10 hown hK.1 hP 0 rfl rfl 13 (by decide) (hts _ kX10_seenLine_91) (fun _ h9 => h9) rfl dX10_seenLine_1 ?_
  refine lv_if_eq (tgt := 8) hx hb dX10_seenLine_4 (by decide) (fun c_1 => ?_) (fun c_1 => ?_)
  · have hF := it_p c_1 hF
    refine lv_bipush (v := (104 : Int32)) hx hb dX10_seenLine_8 (by decide) ?_
    refine lv_iconst (v := (3 : Int32)) hx hb dX10_seenLine_10 (by decide) ?_
    refine lv_aload_n hx hb dX10_seenLine_11 rfl (lv_at hl 0 rfl) ?_
    refine va_get (D := g.1) (ci := 10) (v := .ref (p_t 16)) (C := RX10) (T := TX10) (N := 35) hx hb hts iX10_seenLine_X10 hown hK.1 hP 0 rfl rfl 16 (by decide) (hts _ kX10_seenLine_23) (fun _ h9 => h9) rfl dX10_seenLine_12 ?_
    refine lv_bipush (v := (8 : Int32)) hx hb dX10_seenLine_15 (by decide) ?_
    refine va_iald_k (j := 8) hx hb hK.1 hP 3 0 rfl rfl (by unfold vp_in; decide) rfl dX10_seenLine_17 ?_
    refine lv_imul hx hb dX10_seenLine_18 ?_
    refine lv_iadd hx hb dX10_seenLine_19 ?_
    refine lv_istore_n (lv' := [(2, .int ((104 : Int32) + ((3 : Int32) * (f_t_16 8)))), (0, .ref a_t), (1, .int x1)]) hx hb dX10_seenLine_20 rfl hl (by decide) rfl (fun ls hl => ?_)
    refine lv_aload_n hx hb dX10_seenLine_21 rfl (lv_at hl 1 rfl) ?_
    refine va_get (D := g.1) (ci := 10) (v := .ref (p_t 16)) (C := RX10) (T := TX10) (N := 35) hx hb hts iX10_seenLine_X10 hown hK.1 hP 0 rfl rfl 16 (by decide) (hts _ kX10_seenLine_23) (fun _ h9 => h9) rfl dX10_seenLine_22 ?_
    refine lv_iload_n hx hb dX10_seenLine_25 rfl (lv_at hl 0 rfl) ?_
    refine lv_aload_n hx hb dX10_seenLine_26 rfl (lv_at hl 1 rfl) ?_
    obtain ⟨u_2, u_3, u_4, hu_5, hF⟩ := ob3_some hF
    refine call_i (wr := []) (As := []) (rest := [.int ((104 : Int32) + ((3 : Int32) * (f_t_16 8))), .ref (p_t 16)]) (ci := 10) (q0 := 0) C0 (mX10_guestPassed l g a_t p_t n o_t f_t_1 f_t_12 f_t_16 u_2 u_3 u_4 hu_5) (cwV 0 hts gX10_seenLine_X10_guestPassed rfl rfl rfl (by decide +kernel) ⟨Nat.le_of_ble_eq_true rfl, Nat.le_of_ble_eq_true rfl⟩) hP hD hS [0, 1, 2, 3] [] rfl rfl rfl rfl rfl (by decide) rfl rfl hl.1 rfl rfl (Nat.le_of_ble_eq_true rfl) ⟨Nat.zero_le _, Nat.zero_le _⟩ dX10_seenLine_27 ?_
    intro H locs hP hD hS
    obtain ⟨h_6, hF⟩ := it_ck hF
    refine va_iast hx hb hK.1 hP hD hS 3 0 rfl rfl h_6 dX10_seenLine_30 (fun H locs hP hD hS => ?_)
    have hP : va_P g.1 vwCl [oX10 a_t p_t u_3, aI g (p_t 1) 800 f_t_1, aI g (p_t 12) 8 u_4, aI g (p_t 16) 266 (upd f_t_16 (((104 : Int32) + ((3 : Int32) * (f_t_16 8)))).toNatClampNeg u_2)] H := hP
    have hD : va_D A [oX10 a_t p_t u_3, aI g (p_t 1) 800 f_t_1, aI g (p_t 12) 8 u_4, aI g (p_t 16) 266 (upd f_t_16 (((104 : Int32) + ((3 : Int32) * (f_t_16 8)))).toNatClampNeg u_2)] := hD
    refine lv_aload_n hx hb dX10_seenLine_31 rfl (lv_at hl 1 rfl) ?_
    refine va_get (D := g.1) (ci := 10) (v := .ref (p_t 16)) (C := RX10) (T := TX10) (N := 35) hx hb hts iX10_seenLine_X10 hown hK.1 hP 0 rfl rfl 16 (by decide) (hts _ kX10_seenLine_23) (fun _ h9 => h9) rfl dX10_seenLine_32 ?_
    refine lv_iload_n hx hb dX10_seenLine_35 rfl (lv_at hl 0 rfl) ?_
    refine lv_iconst (v := (1 : Int32)) hx hb dX10_seenLine_36 (by decide) ?_
    refine lv_iadd hx hb dX10_seenLine_37 ?_
    refine lv_aload_n hx hb dX10_seenLine_38 rfl (lv_at hl 1 rfl) ?_
    refine va_ldcS (own := RX10) (index := 246) (q := gK g 21) hx hb hown (hK.2.2 21 (by decide)) dX10_seenLine_39 ?_
    refine lv_iconst (v := (0 : Int32)) hx hb dX10_seenLine_41 (by decide) ?_
    refine lv_bipush (v := (30 : Int32)) hx hb dX10_seenLine_42 (by decide) ?_
    obtain ⟨u_7, u_8, u_9, hu_10, hF⟩ := ob3_some hF
    refine call_i (wr := [aI g (p_t 16) 266 (upd f_t_16 (((104 : Int32) + ((3 : Int32) * (f_t_16 8)))).toNatClampNeg u_2)]) (As := [.ref (gK g 21), .int (0 : Int32), .int (30 : Int32)]) (rest := [.int (((104 : Int32) + ((3 : Int32) * (f_t_16 8))) + (1 : Int32)), .ref (p_t 16)]) (ci := 10) (q0 := 0) C0 (mX10_after l g a_t p_t n 21 (0 : Int32) (30 : Int32) u_3 f_t_1 u_4 u_7 u_8 u_9 (by decide) hu_10) (cwV 3 hts gX10_seenLine_X10_after rfl rfl rfl (by decide +kernel) ⟨Nat.le_of_ble_eq_true rfl, Nat.le_of_ble_eq_true rfl⟩) hP hD hS [0, 1, 2] [3] rfl rfl rfl rfl rfl (by decide) rfl rfl hl.1 rfl rfl (Nat.le_of_ble_eq_true rfl) ⟨Nat.zero_le _, Nat.zero_le _⟩ dX10_seenLine_44 ?_
    intro H locs hP hD hS
    obtain ⟨h_11, hF⟩ := it_ck hF
    refine va_iast hx hb hK.1 hP hD hS 0 0 rfl rfl h_11 dX10_seenLine_47 (fun H locs hP hD hS => ?_)
    have hP : va_P g.1 vwCl [aI g (p_t 16) 266 (upd (upd f_t_16 (((104 : Int32) + ((3 : Int32) * (f_t_16 8)))).toNatClampNeg u_2) ((((104 : Int32) + ((3 : Int32) * (f_t_16 8))) + (1 : Int32))).toNatClampNeg u_7), oX10 a_t p_t u_8, aI g (p_t 1) 800 f_t_1, aI g (p_t 12) 8 u_9] H := hP
    have hD : va_D A [aI g (p_t 16) 266 (upd (upd f_t_16 (((104 : Int32) + ((3 : Int32) * (f_t_16 8)))).toNatClampNeg u_2) ((((104 : Int32) + ((3 : Int32) * (f_t_16 8))) + (1 : Int32))).toNatClampNeg u_7), oX10 a_t p_t u_8, aI g (p_t 1) 800 f_t_1, aI g (p_t 12) 8 u_9] := hD
    refine lv_aload_n hx hb dX10_seenLine_48 rfl (lv_at hl 1 rfl) ?_
    refine va_get (D := g.1) (ci := 10) (v := .ref (p_t 16)) (C := RX10) (T := TX10) (N := 35) hx hb hts iX10_seenLine_X10 hown hK.1 hP 1 rfl rfl 16 (by decide) (hts _ kX10_seenLine_23) (fun _ h9 => h9) rfl dX10_seenLine_49 ?_
    refine lv_iload_n hx hb dX10_seenLine_52 rfl (lv_at hl 0 rfl) ?_
    refine lv_iconst (v := (2 : Int32)) hx hb dX10_seenLine_53 (by decide) ?_
    refine lv_iadd hx hb dX10_seenLine_54 ?_
    refine lv_iload_n hx hb dX10_seenLine_55 rfl (lv_at hl 2 rfl) ?_
    obtain ⟨h_12, hF⟩ := it_ck hF
    refine va_iast hx hb hK.1 hP hD hS 0 0 rfl rfl h_12 dX10_seenLine_56 (fun H locs hP hD hS => ?_)
    have hP : va_P g.1 vwCl [aI g (p_t 16) 266 (upd (upd (upd f_t_16 (((104 : Int32) + ((3 : Int32) * (f_t_16 8)))).toNatClampNeg u_2) ((((104 : Int32) + ((3 : Int32) * (f_t_16 8))) + (1 : Int32))).toNatClampNeg u_7) ((((104 : Int32) + ((3 : Int32) * (f_t_16 8))) + (2 : Int32))).toNatClampNeg x1), oX10 a_t p_t u_8, aI g (p_t 1) 800 f_t_1, aI g (p_t 12) 8 u_9] H := hP
    have hD : va_D A [aI g (p_t 16) 266 (upd (upd (upd f_t_16 (((104 : Int32) + ((3 : Int32) * (f_t_16 8)))).toNatClampNeg u_2) ((((104 : Int32) + ((3 : Int32) * (f_t_16 8))) + (1 : Int32))).toNatClampNeg u_7) ((((104 : Int32) + ((3 : Int32) * (f_t_16 8))) + (2 : Int32))).toNatClampNeg x1), oX10 a_t p_t u_8, aI g (p_t 1) 800 f_t_1, aI g (p_t 12) 8 u_9] := hD
    refine lv_aload_n hx hb dX10_seenLine_57 rfl (lv_at hl 1 rfl) ?_
    refine va_get (D := g.1) (ci := 10) (v := .int (u_8 13)) (C := RX10) (T := TX10) (N := 35) hx hb hts iX10_seenLine_X10 hown hK.1 hP 1 rfl rfl 13 (by decide) (hts _ kX10_seenLine_91) (fun _ h9 => h9) rfl dX10_seenLine_58 ?_
    refine lv_if_ne (tgt := 75) hx hb dX10_seenLine_61 (by decide) (fun c_13 => ?_) (fun c_13 => ?_)
    · have hF := it_n c_13 hF
      cases hF
      exact ret_v C0 hP hD hS [1, 2, 3, 0] rfl rfl rfl dX10_seenLine_75
    · have hF := it_p c_13 hF
      refine lv_aload_n hx hb dX10_seenLine_64 rfl (lv_at hl 1 rfl) ?_
      refine va_get (D := g.1) (ci := 10) (v := .ref (p_t 16)) (C := RX10) (T := TX10) (N := 35) hx hb hts iX10_seenLine_X10 hown hK.1 hP 1 rfl rfl 16 (by decide) (hts _ kX10_seenLine_23) (fun _ h9 => h9) rfl dX10_seenLine_65 ?_
      refine lv_bipush (v := (8 : Int32)) hx hb dX10_seenLine_68 (by decide) ?_
      refine lv_dup2_11 hx hb dX10_seenLine_70 rfl rfl ?_
      refine va_iald_k (j := 8) hx hb hK.1 hP 0 0 rfl rfl (by unfold vp_in; decide) rfl dX10_seenLine_71 ?_
      refine lv_iconst (v := (1 : Int32)) hx hb dX10_seenLine_72 (by decide) ?_
      refine lv_iadd hx hb dX10_seenLine_73 ?_
      refine va_iast hx hb hK.1 hP hD hS 0 0 rfl rfl (by unfold vp_in; decide) dX10_seenLine_74 (fun H locs hP hD hS => ?_)
      have hP : va_P g.1 vwCl [aI g (p_t 16) 266 (upd (upd (upd (upd f_t_16 (((104 : Int32) + ((3 : Int32) * (f_t_16 8)))).toNatClampNeg u_2) ((((104 : Int32) + ((3 : Int32) * (f_t_16 8))) + (1 : Int32))).toNatClampNeg u_7) ((((104 : Int32) + ((3 : Int32) * (f_t_16 8))) + (2 : Int32))).toNatClampNeg x1) 8 (((upd (upd (upd f_t_16 (((104 : Int32) + ((3 : Int32) * (f_t_16 8)))).toNatClampNeg u_2) ((((104 : Int32) + ((3 : Int32) * (f_t_16 8))) + (1 : Int32))).toNatClampNeg u_7) ((((104 : Int32) + ((3 : Int32) * (f_t_16 8))) + (2 : Int32))).toNatClampNeg x1) 8) + (1 : Int32))), oX10 a_t p_t u_8, aI g (p_t 1) 800 f_t_1, aI g (p_t 12) 8 u_9] H := hP
      have hD : va_D A [aI g (p_t 16) 266 (upd (upd (upd (upd f_t_16 (((104 : Int32) + ((3 : Int32) * (f_t_16 8)))).toNatClampNeg u_2) ((((104 : Int32) + ((3 : Int32) * (f_t_16 8))) + (1 : Int32))).toNatClampNeg u_7) ((((104 : Int32) + ((3 : Int32) * (f_t_16 8))) + (2 : Int32))).toNatClampNeg x1) 8 (((upd (upd (upd f_t_16 (((104 : Int32) + ((3 : Int32) * (f_t_16 8)))).toNatClampNeg u_2) ((((104 : Int32) + ((3 : Int32) * (f_t_16 8))) + (1 : Int32))).toNatClampNeg u_7) ((((104 : Int32) + ((3 : Int32) * (f_t_16 8))) + (2 : Int32))).toNatClampNeg x1) 8) + (1 : Int32))), oX10 a_t p_t u_8, aI g (p_t 1) 800 f_t_1, aI g (p_t 12) 8 u_9] := hD
      cases hF
      exact ret_v C0 hP hD hS [1, 2, 3, 0] rfl rfl rfl dX10_seenLine_75
  · have hF := it_n c_1 hF
    cases hF
    exact ret_v C0 hP hD hS [0, 1, 2, 3] rfl rfl rfl dX10_seenLine_7

theorem dAX10_readLine : ∀ q ∈ ([(0, (.aload_n 0, 1)), (1, (.ldc 122, 2)), (3, (.invokevirtual 108, 3)), (6, (.ifCond .eq 10, 3)), (9, (.aload_n 0, 1)), (10, (.invokevirtual 185, 3)), (13, (.goto 225, 3)), (16, (.aload_n 0, 1)), (17, (.ldc 124, 2)), (19, (.aload_n 0, 1)), (20, (.getfield 23, 3)), (23, (.iconst 3, 1)), (24, (.iaload, 1)), (25, (.bipush 7, 2)), (27, (.if_icmp .ge 7, 3)), (30, (.iconst 1, 1)), (31, (.goto 4, 3)), (34, (.iconst 0, 1)), (35, (.invokevirtual 188, 3)), (38, (.ifCond .eq 10, 3)), (41, (.aload_n 0, 1)), (42, (.invokevirtual 192, 3)), (45, (.goto 193, 3)), (48, (.aload_n 0, 1)), (49, (.ldc 126, 2)), (51, (.iconst 1, 1)), (52, (.invokevirtual 188, 3)), (55, (.ifCond .eq 10, 3)), (58, (.aload_n 0, 1)), (59, (.invokevirtual 195, 3)), (62, (.goto 176, 3)), (65, (.aload_n 0, 1)), (66, (.ldc 128, 2)), (68, (.aload_n 0, 1)), (69, (.getfield 23, 3)), (72, (.iconst 5, 1)), (73, (.iaload, 1)), (74, (.bipush 8, 2)), (76, (.if_icmp .ge 7, 3)), (79, (.iconst 1, 1)), (80, (.goto 4, 3)), (83, (.iconst 0, 1)), (84, (.invokevirtual 188, 3)), (87, (.ifCond .eq 10, 3)), (90, (.aload_n 0, 1)), (91, (.invokevirtual 198, 3)), (94, (.goto 144, 3)), (97, (.aload_n 0, 1)), (98, (.ldc 130, 2)), (100, (.aload_n 0, 1)), (101, (.getfield 23, 3)), (104, (.bipush 6, 2)), (106, (.iaload, 1)), (107, (.iconst 4, 1)), (108, (.if_icmp .ge 7, 3)), (111, (.iconst 1, 1)), (112, (.goto 4, 3)), (115, (.iconst 0, 1)), (116, (.invokevirtual 188, 3)), (119, (.ifCond .eq 10, 3)), (122, (.aload_n 0, 1)), (123, (.invokevirtual 201, 3)), (126, (.goto 112, 3)), (129, (.aload_n 0, 1)), (130, (.ldc 132, 2)), (132, (.aload_n 0, 1)), (133, (.getfield 23, 3)), (136, (.bipush 7, 2)), (138, (.iaload, 1)), (139, (.iconst 5, 1)), (140, (.if_icmp .ge 7, 3)), (143, (.iconst 1, 1)), (144, (.goto 4, 3)), (147, (.iconst 0, 1)), (148, (.invokevirtual 188, 3)), (151, (.ifCond .eq 10, 3)), (154, (.aload_n 0, 1)), (155, (.invokevirtual 204, 3)), (158, (.goto 80, 3)), (161, (.aload_n 0, 1)), (162, (.ldc 134, 2)), (164, (.aload_n 0, 1)), (165, (.getfield 23, 3)), (168, (.bipush 8, 2)), (170, (.iaload, 1)), (171, (.bipush 6, 2)), (173, (.if_icmp .ge 7, 3)), (176, (.iconst 1, 1)), (177, (.goto 4, 3)), (180, (.iconst 0, 1)), (181, (.invokevirtual 188, 3)), (184, (.ifCond .eq 11, 3)), (187, (.aload_n 0, 1)), (188, (.iconst 0, 1)), (189, (.invokevirtual 207, 3)), (192, (.goto 46, 3)), (195, (.aload_n 0, 1)), (196, (.ldc 136, 2)), (198, (.aload_n 0, 1)), (199, (.getfield 23, 3)), (202, (.bipush 8, 2)), (204, (.iaload, 1)), (205, (.bipush 6, 2)), (207, (.if_icmp .ge 7, 3)), (210, (.iconst 1, 1)), (211, (.goto 4, 3)), (214, (.iconst 0, 1)), (215, (.invokevirtual 188, 3)), (218, (.ifCond .eq 11, 3)), (221, (.aload_n 0, 1)), (222, (.iconst 1, 1)), (223, (.invokevirtual 207, 3)), (226, (.goto 12, 3)), (229, (.aload_n 0, 1)), (230, (.iconst 1, 1)), (231, (.aload_n 0, 1)), (232, (.getfield 72, 3)), (235, (.invokevirtual 118, 3)), (238, (.return_, 1))] : List (Nat × (Instr × Nat))), decode cX10_readLine q.1 = .ok q.2 := by decide +kernel
theorem dX10_readLine_0 : decode cX10_readLine 0 = .ok (.aload_n 0, 1) := dAX10_readLine (0, (.aload_n 0, 1)) (List.mem_of_getElem? (i := 0) rfl)
theorem dX10_readLine_1 : decode cX10_readLine 1 = .ok (.ldc 122, 2) := dAX10_readLine (1, (.ldc 122, 2)) (List.mem_of_getElem? (i := 1) rfl)
theorem dX10_readLine_3 : decode cX10_readLine 3 = .ok (.invokevirtual 108, 3) := dAX10_readLine (3, (.invokevirtual 108, 3)) (List.mem_of_getElem? (i := 2) rfl)
theorem dX10_readLine_6 : decode cX10_readLine 6 = .ok (.ifCond .eq 10, 3) := dAX10_readLine (6, (.ifCond .eq 10, 3)) (List.mem_of_getElem? (i := 3) rfl)
theorem dX10_readLine_9 : decode cX10_readLine 9 = .ok (.aload_n 0, 1) := dAX10_readLine (9, (.aload_n 0, 1)) (List.mem_of_getElem? (i := 4) rfl)
theorem dX10_readLine_10 : decode cX10_readLine 10 = .ok (.invokevirtual 185, 3) := dAX10_readLine (10, (.invokevirtual 185, 3)) (List.mem_of_getElem? (i := 5) rfl)
theorem dX10_readLine_13 : decode cX10_readLine 13 = .ok (.goto 225, 3) := dAX10_readLine (13, (.goto 225, 3)) (List.mem_of_getElem? (i := 6) rfl)
theorem dX10_readLine_16 : decode cX10_readLine 16 = .ok (.aload_n 0, 1) := dAX10_readLine (16, (.aload_n 0, 1)) (List.mem_of_getElem? (i := 7) rfl)
theorem dX10_readLine_17 : decode cX10_readLine 17 = .ok (.ldc 124, 2) := dAX10_readLine (17, (.ldc 124, 2)) (List.mem_of_getElem? (i := 8) rfl)
theorem dX10_readLine_19 : decode cX10_readLine 19 = .ok (.aload_n 0, 1) := dAX10_readLine (19, (.aload_n 0, 1)) (List.mem_of_getElem? (i := 9) rfl)
theorem dX10_readLine_20 : decode cX10_readLine 20 = .ok (.getfield 23, 3) := dAX10_readLine (20, (.getfield 23, 3)) (List.mem_of_getElem? (i := 10) rfl)
theorem dX10_readLine_23 : decode cX10_readLine 23 = .ok (.iconst 3, 1) := dAX10_readLine (23, (.iconst 3, 1)) (List.mem_of_getElem? (i := 11) rfl)
theorem dX10_readLine_24 : decode cX10_readLine 24 = .ok (.iaload, 1) := dAX10_readLine (24, (.iaload, 1)) (List.mem_of_getElem? (i := 12) rfl)
theorem dX10_readLine_25 : decode cX10_readLine 25 = .ok (.bipush 7, 2) := dAX10_readLine (25, (.bipush 7, 2)) (List.mem_of_getElem? (i := 13) rfl)
theorem dX10_readLine_27 : decode cX10_readLine 27 = .ok (.if_icmp .ge 7, 3) := dAX10_readLine (27, (.if_icmp .ge 7, 3)) (List.mem_of_getElem? (i := 14) rfl)
theorem dX10_readLine_30 : decode cX10_readLine 30 = .ok (.iconst 1, 1) := dAX10_readLine (30, (.iconst 1, 1)) (List.mem_of_getElem? (i := 15) rfl)
theorem dX10_readLine_31 : decode cX10_readLine 31 = .ok (.goto 4, 3) := dAX10_readLine (31, (.goto 4, 3)) (List.mem_of_getElem? (i := 16) rfl)
theorem dX10_readLine_34 : decode cX10_readLine 34 = .ok (.iconst 0, 1) := dAX10_readLine (34, (.iconst 0, 1)) (List.mem_of_getElem? (i := 17) rfl)
theorem dX10_readLine_35 : decode cX10_readLine 35 = .ok (.invokevirtual 188, 3) := dAX10_readLine (35, (.invokevirtual 188, 3)) (List.mem_of_getElem? (i := 18) rfl)
theorem dX10_readLine_38 : decode cX10_readLine 38 = .ok (.ifCond .eq 10, 3) := dAX10_readLine (38, (.ifCond .eq 10, 3)) (List.mem_of_getElem? (i := 19) rfl)
theorem dX10_readLine_41 : decode cX10_readLine 41 = .ok (.aload_n 0, 1) := dAX10_readLine (41, (.aload_n 0, 1)) (List.mem_of_getElem? (i := 20) rfl)
theorem dX10_readLine_42 : decode cX10_readLine 42 = .ok (.invokevirtual 192, 3) := dAX10_readLine (42, (.invokevirtual 192, 3)) (List.mem_of_getElem? (i := 21) rfl)
theorem dX10_readLine_45 : decode cX10_readLine 45 = .ok (.goto 193, 3) := dAX10_readLine (45, (.goto 193, 3)) (List.mem_of_getElem? (i := 22) rfl)
theorem dX10_readLine_48 : decode cX10_readLine 48 = .ok (.aload_n 0, 1) := dAX10_readLine (48, (.aload_n 0, 1)) (List.mem_of_getElem? (i := 23) rfl)
theorem dX10_readLine_49 : decode cX10_readLine 49 = .ok (.ldc 126, 2) := dAX10_readLine (49, (.ldc 126, 2)) (List.mem_of_getElem? (i := 24) rfl)
theorem dX10_readLine_51 : decode cX10_readLine 51 = .ok (.iconst 1, 1) := dAX10_readLine (51, (.iconst 1, 1)) (List.mem_of_getElem? (i := 25) rfl)
theorem dX10_readLine_52 : decode cX10_readLine 52 = .ok (.invokevirtual 188, 3) := dAX10_readLine (52, (.invokevirtual 188, 3)) (List.mem_of_getElem? (i := 26) rfl)
theorem dX10_readLine_55 : decode cX10_readLine 55 = .ok (.ifCond .eq 10, 3) := dAX10_readLine (55, (.ifCond .eq 10, 3)) (List.mem_of_getElem? (i := 27) rfl)
theorem dX10_readLine_58 : decode cX10_readLine 58 = .ok (.aload_n 0, 1) := dAX10_readLine (58, (.aload_n 0, 1)) (List.mem_of_getElem? (i := 28) rfl)
theorem dX10_readLine_59 : decode cX10_readLine 59 = .ok (.invokevirtual 195, 3) := dAX10_readLine (59, (.invokevirtual 195, 3)) (List.mem_of_getElem? (i := 29) rfl)
theorem dX10_readLine_62 : decode cX10_readLine 62 = .ok (.goto 176, 3) := dAX10_readLine (62, (.goto 176, 3)) (List.mem_of_getElem? (i := 30) rfl)
theorem dX10_readLine_65 : decode cX10_readLine 65 = .ok (.aload_n 0, 1) := dAX10_readLine (65, (.aload_n 0, 1)) (List.mem_of_getElem? (i := 31) rfl)
theorem dX10_readLine_66 : decode cX10_readLine 66 = .ok (.ldc 128, 2) := dAX10_readLine (66, (.ldc 128, 2)) (List.mem_of_getElem? (i := 32) rfl)
theorem dX10_readLine_68 : decode cX10_readLine 68 = .ok (.aload_n 0, 1) := dAX10_readLine (68, (.aload_n 0, 1)) (List.mem_of_getElem? (i := 33) rfl)
theorem dX10_readLine_69 : decode cX10_readLine 69 = .ok (.getfield 23, 3) := dAX10_readLine (69, (.getfield 23, 3)) (List.mem_of_getElem? (i := 34) rfl)
theorem dX10_readLine_72 : decode cX10_readLine 72 = .ok (.iconst 5, 1) := dAX10_readLine (72, (.iconst 5, 1)) (List.mem_of_getElem? (i := 35) rfl)
theorem dX10_readLine_73 : decode cX10_readLine 73 = .ok (.iaload, 1) := dAX10_readLine (73, (.iaload, 1)) (List.mem_of_getElem? (i := 36) rfl)
theorem dX10_readLine_74 : decode cX10_readLine 74 = .ok (.bipush 8, 2) := dAX10_readLine (74, (.bipush 8, 2)) (List.mem_of_getElem? (i := 37) rfl)
theorem dX10_readLine_76 : decode cX10_readLine 76 = .ok (.if_icmp .ge 7, 3) := dAX10_readLine (76, (.if_icmp .ge 7, 3)) (List.mem_of_getElem? (i := 38) rfl)
theorem dX10_readLine_79 : decode cX10_readLine 79 = .ok (.iconst 1, 1) := dAX10_readLine (79, (.iconst 1, 1)) (List.mem_of_getElem? (i := 39) rfl)
theorem dX10_readLine_80 : decode cX10_readLine 80 = .ok (.goto 4, 3) := dAX10_readLine (80, (.goto 4, 3)) (List.mem_of_getElem? (i := 40) rfl)
theorem dX10_readLine_83 : decode cX10_readLine 83 = .ok (.iconst 0, 1) := dAX10_readLine (83, (.iconst 0, 1)) (List.mem_of_getElem? (i := 41) rfl)
theorem dX10_readLine_84 : decode cX10_readLine 84 = .ok (.invokevirtual 188, 3) := dAX10_readLine (84, (.invokevirtual 188, 3)) (List.mem_of_getElem? (i := 42) rfl)
theorem dX10_readLine_87 : decode cX10_readLine 87 = .ok (.ifCond .eq 10, 3) := dAX10_readLine (87, (.ifCond .eq 10, 3)) (List.mem_of_getElem? (i := 43) rfl)
theorem dX10_readLine_90 : decode cX10_readLine 90 = .ok (.aload_n 0, 1) := dAX10_readLine (90, (.aload_n 0, 1)) (List.mem_of_getElem? (i := 44) rfl)
theorem dX10_readLine_91 : decode cX10_readLine 91 = .ok (.invokevirtual 198, 3) := dAX10_readLine (91, (.invokevirtual 198, 3)) (List.mem_of_getElem? (i := 45) rfl)
theorem dX10_readLine_94 : decode cX10_readLine 94 = .ok (.goto 144, 3) := dAX10_readLine (94, (.goto 144, 3)) (List.mem_of_getElem? (i := 46) rfl)
theorem dX10_readLine_97 : decode cX10_readLine 97 = .ok (.aload_n 0, 1) := dAX10_readLine (97, (.aload_n 0, 1)) (List.mem_of_getElem? (i := 47) rfl)
theorem dX10_readLine_98 : decode cX10_readLine 98 = .ok (.ldc 130, 2) := dAX10_readLine (98, (.ldc 130, 2)) (List.mem_of_getElem? (i := 48) rfl)
theorem dX10_readLine_100 : decode cX10_readLine 100 = .ok (.aload_n 0, 1) := dAX10_readLine (100, (.aload_n 0, 1)) (List.mem_of_getElem? (i := 49) rfl)
theorem dX10_readLine_101 : decode cX10_readLine 101 = .ok (.getfield 23, 3) := dAX10_readLine (101, (.getfield 23, 3)) (List.mem_of_getElem? (i := 50) rfl)
theorem dX10_readLine_104 : decode cX10_readLine 104 = .ok (.bipush 6, 2) := dAX10_readLine (104, (.bipush 6, 2)) (List.mem_of_getElem? (i := 51) rfl)
theorem dX10_readLine_106 : decode cX10_readLine 106 = .ok (.iaload, 1) := dAX10_readLine (106, (.iaload, 1)) (List.mem_of_getElem? (i := 52) rfl)
theorem dX10_readLine_107 : decode cX10_readLine 107 = .ok (.iconst 4, 1) := dAX10_readLine (107, (.iconst 4, 1)) (List.mem_of_getElem? (i := 53) rfl)
theorem dX10_readLine_108 : decode cX10_readLine 108 = .ok (.if_icmp .ge 7, 3) := dAX10_readLine (108, (.if_icmp .ge 7, 3)) (List.mem_of_getElem? (i := 54) rfl)
theorem dX10_readLine_111 : decode cX10_readLine 111 = .ok (.iconst 1, 1) := dAX10_readLine (111, (.iconst 1, 1)) (List.mem_of_getElem? (i := 55) rfl)
theorem dX10_readLine_112 : decode cX10_readLine 112 = .ok (.goto 4, 3) := dAX10_readLine (112, (.goto 4, 3)) (List.mem_of_getElem? (i := 56) rfl)
theorem dX10_readLine_115 : decode cX10_readLine 115 = .ok (.iconst 0, 1) := dAX10_readLine (115, (.iconst 0, 1)) (List.mem_of_getElem? (i := 57) rfl)
theorem dX10_readLine_116 : decode cX10_readLine 116 = .ok (.invokevirtual 188, 3) := dAX10_readLine (116, (.invokevirtual 188, 3)) (List.mem_of_getElem? (i := 58) rfl)
theorem dX10_readLine_119 : decode cX10_readLine 119 = .ok (.ifCond .eq 10, 3) := dAX10_readLine (119, (.ifCond .eq 10, 3)) (List.mem_of_getElem? (i := 59) rfl)
theorem dX10_readLine_122 : decode cX10_readLine 122 = .ok (.aload_n 0, 1) := dAX10_readLine (122, (.aload_n 0, 1)) (List.mem_of_getElem? (i := 60) rfl)
theorem dX10_readLine_123 : decode cX10_readLine 123 = .ok (.invokevirtual 201, 3) := dAX10_readLine (123, (.invokevirtual 201, 3)) (List.mem_of_getElem? (i := 61) rfl)
theorem dX10_readLine_126 : decode cX10_readLine 126 = .ok (.goto 112, 3) := dAX10_readLine (126, (.goto 112, 3)) (List.mem_of_getElem? (i := 62) rfl)
theorem dX10_readLine_129 : decode cX10_readLine 129 = .ok (.aload_n 0, 1) := dAX10_readLine (129, (.aload_n 0, 1)) (List.mem_of_getElem? (i := 63) rfl)
theorem dX10_readLine_130 : decode cX10_readLine 130 = .ok (.ldc 132, 2) := dAX10_readLine (130, (.ldc 132, 2)) (List.mem_of_getElem? (i := 64) rfl)
theorem dX10_readLine_132 : decode cX10_readLine 132 = .ok (.aload_n 0, 1) := dAX10_readLine (132, (.aload_n 0, 1)) (List.mem_of_getElem? (i := 65) rfl)
theorem dX10_readLine_133 : decode cX10_readLine 133 = .ok (.getfield 23, 3) := dAX10_readLine (133, (.getfield 23, 3)) (List.mem_of_getElem? (i := 66) rfl)
theorem dX10_readLine_136 : decode cX10_readLine 136 = .ok (.bipush 7, 2) := dAX10_readLine (136, (.bipush 7, 2)) (List.mem_of_getElem? (i := 67) rfl)
theorem dX10_readLine_138 : decode cX10_readLine 138 = .ok (.iaload, 1) := dAX10_readLine (138, (.iaload, 1)) (List.mem_of_getElem? (i := 68) rfl)
theorem dX10_readLine_139 : decode cX10_readLine 139 = .ok (.iconst 5, 1) := dAX10_readLine (139, (.iconst 5, 1)) (List.mem_of_getElem? (i := 69) rfl)
theorem dX10_readLine_140 : decode cX10_readLine 140 = .ok (.if_icmp .ge 7, 3) := dAX10_readLine (140, (.if_icmp .ge 7, 3)) (List.mem_of_getElem? (i := 70) rfl)
theorem dX10_readLine_143 : decode cX10_readLine 143 = .ok (.iconst 1, 1) := dAX10_readLine (143, (.iconst 1, 1)) (List.mem_of_getElem? (i := 71) rfl)
theorem dX10_readLine_144 : decode cX10_readLine 144 = .ok (.goto 4, 3) := dAX10_readLine (144, (.goto 4, 3)) (List.mem_of_getElem? (i := 72) rfl)
theorem dX10_readLine_147 : decode cX10_readLine 147 = .ok (.iconst 0, 1) := dAX10_readLine (147, (.iconst 0, 1)) (List.mem_of_getElem? (i := 73) rfl)
theorem dX10_readLine_148 : decode cX10_readLine 148 = .ok (.invokevirtual 188, 3) := dAX10_readLine (148, (.invokevirtual 188, 3)) (List.mem_of_getElem? (i := 74) rfl)
theorem dX10_readLine_151 : decode cX10_readLine 151 = .ok (.ifCond .eq 10, 3) := dAX10_readLine (151, (.ifCond .eq 10, 3)) (List.mem_of_getElem? (i := 75) rfl)
theorem dX10_readLine_154 : decode cX10_readLine 154 = .ok (.aload_n 0, 1) := dAX10_readLine (154, (.aload_n 0, 1)) (List.mem_of_getElem? (i := 76) rfl)
theorem dX10_readLine_155 : decode cX10_readLine 155 = .ok (.invokevirtual 204, 3) := dAX10_readLine (155, (.invokevirtual 204, 3)) (List.mem_of_getElem? (i := 77) rfl)
theorem dX10_readLine_158 : decode cX10_readLine 158 = .ok (.goto 80, 3) := dAX10_readLine (158, (.goto 80, 3)) (List.mem_of_getElem? (i := 78) rfl)
theorem dX10_readLine_161 : decode cX10_readLine 161 = .ok (.aload_n 0, 1) := dAX10_readLine (161, (.aload_n 0, 1)) (List.mem_of_getElem? (i := 79) rfl)
theorem dX10_readLine_162 : decode cX10_readLine 162 = .ok (.ldc 134, 2) := dAX10_readLine (162, (.ldc 134, 2)) (List.mem_of_getElem? (i := 80) rfl)
theorem dX10_readLine_164 : decode cX10_readLine 164 = .ok (.aload_n 0, 1) := dAX10_readLine (164, (.aload_n 0, 1)) (List.mem_of_getElem? (i := 81) rfl)
theorem dX10_readLine_165 : decode cX10_readLine 165 = .ok (.getfield 23, 3) := dAX10_readLine (165, (.getfield 23, 3)) (List.mem_of_getElem? (i := 82) rfl)
theorem dX10_readLine_168 : decode cX10_readLine 168 = .ok (.bipush 8, 2) := dAX10_readLine (168, (.bipush 8, 2)) (List.mem_of_getElem? (i := 83) rfl)
theorem dX10_readLine_170 : decode cX10_readLine 170 = .ok (.iaload, 1) := dAX10_readLine (170, (.iaload, 1)) (List.mem_of_getElem? (i := 84) rfl)
theorem dX10_readLine_171 : decode cX10_readLine 171 = .ok (.bipush 6, 2) := dAX10_readLine (171, (.bipush 6, 2)) (List.mem_of_getElem? (i := 85) rfl)
theorem dX10_readLine_173 : decode cX10_readLine 173 = .ok (.if_icmp .ge 7, 3) := dAX10_readLine (173, (.if_icmp .ge 7, 3)) (List.mem_of_getElem? (i := 86) rfl)
theorem dX10_readLine_176 : decode cX10_readLine 176 = .ok (.iconst 1, 1) := dAX10_readLine (176, (.iconst 1, 1)) (List.mem_of_getElem? (i := 87) rfl)
theorem dX10_readLine_177 : decode cX10_readLine 177 = .ok (.goto 4, 3) := dAX10_readLine (177, (.goto 4, 3)) (List.mem_of_getElem? (i := 88) rfl)
theorem dX10_readLine_180 : decode cX10_readLine 180 = .ok (.iconst 0, 1) := dAX10_readLine (180, (.iconst 0, 1)) (List.mem_of_getElem? (i := 89) rfl)
theorem dX10_readLine_181 : decode cX10_readLine 181 = .ok (.invokevirtual 188, 3) := dAX10_readLine (181, (.invokevirtual 188, 3)) (List.mem_of_getElem? (i := 90) rfl)
theorem dX10_readLine_184 : decode cX10_readLine 184 = .ok (.ifCond .eq 11, 3) := dAX10_readLine (184, (.ifCond .eq 11, 3)) (List.mem_of_getElem? (i := 91) rfl)
theorem dX10_readLine_187 : decode cX10_readLine 187 = .ok (.aload_n 0, 1) := dAX10_readLine (187, (.aload_n 0, 1)) (List.mem_of_getElem? (i := 92) rfl)
theorem dX10_readLine_188 : decode cX10_readLine 188 = .ok (.iconst 0, 1) := dAX10_readLine (188, (.iconst 0, 1)) (List.mem_of_getElem? (i := 93) rfl)
theorem dX10_readLine_189 : decode cX10_readLine 189 = .ok (.invokevirtual 207, 3) := dAX10_readLine (189, (.invokevirtual 207, 3)) (List.mem_of_getElem? (i := 94) rfl)
theorem dX10_readLine_192 : decode cX10_readLine 192 = .ok (.goto 46, 3) := dAX10_readLine (192, (.goto 46, 3)) (List.mem_of_getElem? (i := 95) rfl)
theorem dX10_readLine_195 : decode cX10_readLine 195 = .ok (.aload_n 0, 1) := dAX10_readLine (195, (.aload_n 0, 1)) (List.mem_of_getElem? (i := 96) rfl)
theorem dX10_readLine_196 : decode cX10_readLine 196 = .ok (.ldc 136, 2) := dAX10_readLine (196, (.ldc 136, 2)) (List.mem_of_getElem? (i := 97) rfl)
theorem dX10_readLine_198 : decode cX10_readLine 198 = .ok (.aload_n 0, 1) := dAX10_readLine (198, (.aload_n 0, 1)) (List.mem_of_getElem? (i := 98) rfl)
theorem dX10_readLine_199 : decode cX10_readLine 199 = .ok (.getfield 23, 3) := dAX10_readLine (199, (.getfield 23, 3)) (List.mem_of_getElem? (i := 99) rfl)
theorem dX10_readLine_202 : decode cX10_readLine 202 = .ok (.bipush 8, 2) := dAX10_readLine (202, (.bipush 8, 2)) (List.mem_of_getElem? (i := 100) rfl)
theorem dX10_readLine_204 : decode cX10_readLine 204 = .ok (.iaload, 1) := dAX10_readLine (204, (.iaload, 1)) (List.mem_of_getElem? (i := 101) rfl)
theorem dX10_readLine_205 : decode cX10_readLine 205 = .ok (.bipush 6, 2) := dAX10_readLine (205, (.bipush 6, 2)) (List.mem_of_getElem? (i := 102) rfl)
theorem dX10_readLine_207 : decode cX10_readLine 207 = .ok (.if_icmp .ge 7, 3) := dAX10_readLine (207, (.if_icmp .ge 7, 3)) (List.mem_of_getElem? (i := 103) rfl)
theorem dX10_readLine_210 : decode cX10_readLine 210 = .ok (.iconst 1, 1) := dAX10_readLine (210, (.iconst 1, 1)) (List.mem_of_getElem? (i := 104) rfl)
theorem dX10_readLine_211 : decode cX10_readLine 211 = .ok (.goto 4, 3) := dAX10_readLine (211, (.goto 4, 3)) (List.mem_of_getElem? (i := 105) rfl)
theorem dX10_readLine_214 : decode cX10_readLine 214 = .ok (.iconst 0, 1) := dAX10_readLine (214, (.iconst 0, 1)) (List.mem_of_getElem? (i := 106) rfl)
theorem dX10_readLine_215 : decode cX10_readLine 215 = .ok (.invokevirtual 188, 3) := dAX10_readLine (215, (.invokevirtual 188, 3)) (List.mem_of_getElem? (i := 107) rfl)
theorem dX10_readLine_218 : decode cX10_readLine 218 = .ok (.ifCond .eq 11, 3) := dAX10_readLine (218, (.ifCond .eq 11, 3)) (List.mem_of_getElem? (i := 108) rfl)
theorem dX10_readLine_221 : decode cX10_readLine 221 = .ok (.aload_n 0, 1) := dAX10_readLine (221, (.aload_n 0, 1)) (List.mem_of_getElem? (i := 109) rfl)
theorem dX10_readLine_222 : decode cX10_readLine 222 = .ok (.iconst 1, 1) := dAX10_readLine (222, (.iconst 1, 1)) (List.mem_of_getElem? (i := 110) rfl)
theorem dX10_readLine_223 : decode cX10_readLine 223 = .ok (.invokevirtual 207, 3) := dAX10_readLine (223, (.invokevirtual 207, 3)) (List.mem_of_getElem? (i := 111) rfl)
theorem dX10_readLine_226 : decode cX10_readLine 226 = .ok (.goto 12, 3) := dAX10_readLine (226, (.goto 12, 3)) (List.mem_of_getElem? (i := 112) rfl)
theorem dX10_readLine_229 : decode cX10_readLine 229 = .ok (.aload_n 0, 1) := dAX10_readLine (229, (.aload_n 0, 1)) (List.mem_of_getElem? (i := 113) rfl)
theorem dX10_readLine_230 : decode cX10_readLine 230 = .ok (.iconst 1, 1) := dAX10_readLine (230, (.iconst 1, 1)) (List.mem_of_getElem? (i := 114) rfl)
theorem dX10_readLine_231 : decode cX10_readLine 231 = .ok (.aload_n 0, 1) := dAX10_readLine (231, (.aload_n 0, 1)) (List.mem_of_getElem? (i := 115) rfl)
theorem dX10_readLine_232 : decode cX10_readLine 232 = .ok (.getfield 72, 3) := dAX10_readLine (232, (.getfield 72, 3)) (List.mem_of_getElem? (i := 116) rfl)
theorem dX10_readLine_235 : decode cX10_readLine 235 = .ok (.invokevirtual 118, 3) := dAX10_readLine (235, (.invokevirtual 118, 3)) (List.mem_of_getElem? (i := 117) rfl)
theorem dX10_readLine_238 : decode cX10_readLine 238 = .ok (.return_, 1) := dAX10_readLine (238, (.return_, 1)) (List.mem_of_getElem? (i := 118) rfl)
set_option maxRecDepth 20000 in
theorem ggX10_readLine_X10_isWord : GoodIn wsX10_readLine wsX10_isWord := goodIn_r _ [7, 8, 9, 10, 11, 12, 13, 14, 15, 16, 17, 18, 19, 20, 21, 22, 23, 24, 25, 26, 27, 28, 29, 30, 31, 32, 33, 34, 35, 36, 37, 38, 39, 40, 41, 42, 43, 44, 45, 46, 47, 48, 49, 50, 51, 52, 53, 54, 55, 56, 57, 58, 59, 60, 156, 157, 158, 159, 160, 161, 162, 163, 164, 165, 166, 167, 168, 169, 170, 171, 172, 173, 174, 175, 176, 177, 178, 179, 180, 181, 182, 183, 184, 185, 186, 187, 188, 189, 190] rfl (by decide +kernel)
set_option maxRecDepth 20000 in
theorem gX10_readLine_X10_isWord : GoodIn wsX10_readLine (wsV RX10 108 RX10 yX10_isWord wsX10_isWord) := goodIn_app (goodIn_of _ (by decide +kernel)) ggX10_readLine_X10_isWord
set_option maxRecDepth 20000 in
theorem ggX10_readLine_X10_eveningLine : GoodIn wsX10_readLine wsX10_eveningLine := goodIn_r _ [64, 1, 2, 8, 65, 66, 67, 6, 68, 69, 70, 71, 72, 73, 74, 75, 10, 76, 9, 11, 77, 78, 79, 80, 81, 82, 83, 84, 85, 86, 87, 88, 89, 90, 91, 92, 93, 94, 95, 96, 97, 98, 99, 100, 3, 4, 5, 7, 12, 13, 14, 15, 16, 17, 18, 19, 20, 21, 22, 23, 24, 25, 26, 27, 28, 29, 30, 31, 32, 33, 34, 35, 36, 37, 38, 39, 40, 41, 42, 43, 44, 45, 46, 47, 48, 49, 50, 51, 52, 53, 54, 55, 56, 57, 58, 59, 60, 101, 102, 103, 104, 105, 106, 107, 156, 157, 158, 159, 160, 161, 162, 163, 164, 165, 166, 167, 168, 169, 170, 171, 172, 173, 174, 175, 176, 177, 178, 179, 180, 181, 182, 183, 184, 185, 186, 187, 188, 189, 190] rfl (by decide +kernel)
set_option maxRecDepth 20000 in
theorem gX10_readLine_X10_eveningLine : GoodIn wsX10_readLine (wsV RX10 185 RX10 yX10_eveningLine wsX10_eveningLine) := goodIn_app (goodIn_of _ (by decide +kernel)) ggX10_readLine_X10_eveningLine
set_option maxRecDepth 20000 in
theorem ggX10_readLine_X10_begins : GoodIn wsX10_readLine wsX10_begins := goodIn_r _ [111, 2, 1, 8, 3, 4, 5, 6, 7, 9, 10, 11, 12, 13, 14, 15, 16, 17, 18, 19, 20, 21, 22, 23, 24, 25, 26, 27, 28, 29, 30, 31, 32, 33, 34, 35, 36, 37, 38, 39, 40, 41, 42, 43, 44, 45, 46, 47, 48, 49, 50, 51, 52, 53, 54, 55, 56, 57, 58, 59, 60, 65, 66, 67, 68, 69, 70, 71, 72, 73, 74, 75, 76, 77, 78, 79, 80, 81, 82, 83, 84, 85, 86, 87, 88, 156, 157, 158, 159, 160, 161, 162, 163, 164, 165, 166, 167, 168, 169, 170, 171, 172, 173, 174, 175, 176, 177, 178, 179, 180, 181, 182, 183, 184, 185, 186, 187, 188, 189, 190] rfl (by decide +kernel)
set_option maxRecDepth 20000 in
theorem gX10_readLine_X10_begins : GoodIn wsX10_readLine (wsV RX10 188 RX10 yX10_begins wsX10_begins) := goodIn_app (goodIn_of _ (by decide +kernel)) ggX10_readLine_X10_begins
set_option maxRecDepth 20000 in
theorem ggX10_readLine_X10_guestLine : GoodIn wsX10_readLine wsX10_guestLine := goodIn_r _ [115, 8, 1, 2, 116, 117, 118, 6, 119, 10, 11, 120, 121, 122, 123, 9, 3, 4, 5, 7, 12, 13, 14, 15, 16, 17, 18, 19, 20, 21, 22, 23, 24, 25, 26, 27, 28, 29, 30, 31, 32, 33, 34, 35, 36, 37, 38, 39, 40, 41, 42, 43, 44, 45, 46, 47, 48, 49, 50, 51, 52, 53, 54, 55, 56, 57, 58, 59, 60, 65, 66, 67, 68, 69, 70, 124, 125, 126, 127, 71, 72, 73, 74, 75, 76, 77, 78, 79, 80, 81, 82, 83, 84, 85, 86, 87, 88, 89, 90, 91, 92, 93, 94, 95, 96, 97, 98, 99, 100, 101, 102, 103, 104, 105, 106, 107, 156, 157, 158, 159, 160, 161, 162, 163, 164, 165, 166, 167, 168, 169, 170, 171, 172, 173, 174, 175, 176, 177, 178, 179, 180, 181, 182, 183, 184, 185, 186, 187, 188, 189, 190] rfl (by decide +kernel)
set_option maxRecDepth 20000 in
theorem gX10_readLine_X10_guestLine : GoodIn wsX10_readLine (wsV RX10 192 RX10 yX10_guestLine wsX10_guestLine) := goodIn_app (goodIn_of _ (by decide +kernel)) ggX10_readLine_X10_guestLine
set_option maxRecDepth 20000 in
theorem ggX10_readLine_X10_pairLine : GoodIn wsX10_readLine wsX10_pairLine := goodIn_r _ [131, 8, 1, 2, 132, 133, 134, 6, 135, 120, 121, 122, 123, 9, 3, 4, 5, 7, 10, 11, 12, 13, 14, 15, 16, 17, 18, 19, 20, 21, 22, 23, 24, 25, 26, 27, 28, 29, 30, 31, 32, 33, 34, 35, 36, 37, 38, 39, 40, 41, 42, 43, 44, 45, 46, 47, 48, 49, 50, 51, 52, 53, 54, 55, 56, 57, 58, 59, 60, 65, 66, 67, 68, 69, 70, 124, 125, 126, 127, 105, 106, 107, 71, 72, 73, 74, 75, 76, 77, 78, 79, 80, 81, 82, 83, 84, 85, 86, 87, 88, 156, 157, 158, 159, 160, 161, 162, 163, 164, 165, 166, 167, 168, 169, 170, 171, 172, 173, 174, 175, 176, 177, 178, 179, 180, 181, 182, 183, 184, 185, 186, 187, 188, 189, 190] rfl (by decide +kernel)
set_option maxRecDepth 20000 in
theorem gX10_readLine_X10_pairLine : GoodIn wsX10_readLine (wsV RX10 195 RX10 yX10_pairLine wsX10_pairLine) := goodIn_app (goodIn_of _ (by decide +kernel)) ggX10_readLine_X10_pairLine
set_option maxRecDepth 20000 in
theorem ggX10_readLine_X10_drawsLine : GoodIn wsX10_readLine wsX10_drawsLine := goodIn_r _ [139, 8, 1, 2, 140, 141, 142, 6, 143, 132, 133, 134, 135, 120, 121, 122, 123, 9, 3, 4, 5, 7, 10, 11, 12, 13, 14, 15, 16, 17, 18, 19, 20, 21, 22, 23, 24, 25, 26, 27, 28, 29, 30, 31, 32, 33, 34, 35, 36, 37, 38, 39, 40, 41, 42, 43, 44, 45, 46, 47, 48, 49, 50, 51, 52, 53, 54, 55, 56, 57, 58, 59, 60, 65, 66, 67, 68, 69, 70, 124, 125, 126, 127, 105, 106, 107, 71, 72, 73, 74, 75, 76, 77, 78, 79, 80, 81, 82, 83, 84, 85, 86, 87, 88, 89, 90, 91, 92, 93, 94, 95, 96, 97, 98, 99, 100, 101, 102, 103, 104, 156, 157, 158, 159, 160, 161, 162, 163, 164, 165, 166, 167, 168, 169, 170, 171, 172, 173, 174, 175, 176, 177, 178, 179, 180, 181, 182, 183, 184, 185, 186, 187, 188, 189, 190] rfl (by decide +kernel)
set_option maxRecDepth 20000 in
theorem gX10_readLine_X10_drawsLine : GoodIn wsX10_readLine (wsV RX10 198 RX10 yX10_drawsLine wsX10_drawsLine) := goodIn_app (goodIn_of _ (by decide +kernel)) ggX10_readLine_X10_drawsLine
set_option maxRecDepth 20000 in
theorem ggX10_readLine_X10_taleLine : GoodIn wsX10_readLine wsX10_taleLine := goodIn_r _ [147, 8, 1, 116, 117, 118, 6, 119, 2, 10, 11, 120, 121, 122, 123, 9, 3, 4, 5, 7, 12, 13, 14, 15, 16, 17, 18, 19, 20, 21, 22, 23, 24, 25, 26, 27, 28, 29, 30, 31, 32, 33, 34, 35, 36, 37, 38, 39, 40, 41, 42, 43, 44, 45, 46, 47, 48, 49, 50, 51, 52, 53, 54, 55, 56, 57, 58, 59, 60, 65, 66, 67, 68, 69, 70, 124, 125, 126, 127, 71, 72, 73, 74, 75, 76, 77, 78, 79, 80, 81, 82, 83, 84, 85, 86, 87, 88, 89, 90, 91, 92, 93, 94, 95, 96, 97, 98, 99, 100, 101, 102, 103, 104, 105, 106, 107, 156, 157, 158, 159, 160, 161, 162, 163, 164, 165, 166, 167, 168, 169, 170, 171, 172, 173, 174, 175, 176, 177, 178, 179, 180, 181, 182, 183, 184, 185, 186, 187, 188, 189, 190] rfl (by decide +kernel)
set_option maxRecDepth 20000 in
theorem gX10_readLine_X10_taleLine : GoodIn wsX10_readLine (wsV RX10 201 RX10 yX10_taleLine wsX10_taleLine) := goodIn_app (goodIn_of _ (by decide +kernel)) ggX10_readLine_X10_taleLine
set_option maxRecDepth 20000 in
theorem ggX10_readLine_X10_needLine : GoodIn wsX10_readLine wsX10_needLine := goodIn_r _ [151, 8, 1, 116, 117, 118, 6, 119, 2, 10, 11, 120, 121, 122, 123, 9, 3, 4, 5, 7, 12, 13, 14, 15, 16, 17, 18, 19, 20, 21, 22, 23, 24, 25, 26, 27, 28, 29, 30, 31, 32, 33, 34, 35, 36, 37, 38, 39, 40, 41, 42, 43, 44, 45, 46, 47, 48, 49, 50, 51, 52, 53, 54, 55, 56, 57, 58, 59, 60, 65, 66, 67, 68, 69, 70, 124, 125, 126, 127, 71, 72, 73, 74, 75, 76, 77, 78, 79, 80, 81, 82, 83, 84, 85, 86, 87, 88, 89, 90, 91, 92, 93, 94, 95, 96, 97, 98, 99, 100, 101, 102, 103, 104, 105, 106, 107, 156, 157, 158, 159, 160, 161, 162, 163, 164, 165, 166, 167, 168, 169, 170, 171, 172, 173, 174, 175, 176, 177, 178, 179, 180, 181, 182, 183, 184, 185, 186, 187, 188, 189, 190] rfl (by decide +kernel)
set_option maxRecDepth 20000 in
theorem gX10_readLine_X10_needLine : GoodIn wsX10_readLine (wsV RX10 204 RX10 yX10_needLine wsX10_needLine) := goodIn_app (goodIn_of _ (by decide +kernel)) ggX10_readLine_X10_needLine
set_option maxRecDepth 20000 in
theorem ggX10_readLine_X10_seenLine : GoodIn wsX10_readLine wsX10_seenLine := goodIn_r _ [155, 8, 1, 140, 141, 142, 6, 143, 132, 133, 134, 135, 2, 120, 121, 122, 123, 9, 3, 4, 5, 7, 10, 11, 12, 13, 14, 15, 16, 17, 18, 19, 20, 21, 22, 23, 24, 25, 26, 27, 28, 29, 30, 31, 32, 33, 34, 35, 36, 37, 38, 39, 40, 41, 42, 43, 44, 45, 46, 47, 48, 49, 50, 51, 52, 53, 54, 55, 56, 57, 58, 59, 60, 65, 66, 67, 68, 69, 70, 124, 125, 126, 127, 105, 106, 107, 71, 72, 73, 74, 75, 76, 77, 78, 79, 80, 81, 82, 83, 84, 85, 86, 87, 88, 89, 90, 91, 92, 93, 94, 95, 96, 97, 98, 99, 100, 101, 102, 103, 104, 156, 157, 158, 159, 160, 161, 162, 163, 164, 165, 166, 167, 168, 169, 170, 171, 172, 173, 174, 175, 176, 177, 178, 179, 180, 181, 182, 183, 184, 185, 186, 187, 188, 189, 190] rfl (by decide +kernel)
set_option maxRecDepth 20000 in
theorem gX10_readLine_X10_seenLine : GoodIn wsX10_readLine (wsV RX10 207 RX10 yX10_seenLine wsX10_seenLine) := goodIn_app (goodIn_of _ (by decide +kernel)) ggX10_readLine_X10_seenLine
set_option maxRecDepth 20000 in
theorem ggX10_readLine_X10_wrong : GoodIn wsX10_readLine wsX10_wrong := goodIn_r _ [68, 8, 69, 70, 156, 157, 158, 159, 160, 161, 162, 163, 164, 165, 166, 167, 168, 169, 170, 171, 172, 173, 174, 175, 176, 177, 178, 179, 180, 181, 182, 183, 184, 185, 186, 187, 188, 189, 190] rfl (by decide +kernel)
set_option maxRecDepth 20000 in
theorem gX10_readLine_X10_wrong : GoodIn wsX10_readLine (wsV RX10 118 RX10 yX10_wrong wsX10_wrong) := goodIn_app (goodIn_of _ (by decide +kernel)) ggX10_readLine_X10_wrong
theorem kX10_readLine_23 : Cond.fieldLink RX10 23 "EveningVowModel" "fresh" "[I" ∈ wsX10_readLine := List.mem_of_getElem? (i := 1) rfl
theorem iX10_readLine_X10 : ∀ w ∈ u_ws RX10 TX10 35, w ∈ wsX10_readLine := fun w h => (List.mem_cons_of_mem _ (List.mem_append_right _ h))
theorem kX10_readLine_72 : Cond.fieldLink RX10 72 "EveningVowModel" "at" "I" ∈ wsX10_readLine := List.mem_of_getElem? (i := 2) rfl
set_option maxHeartbeats 4000000 in
set_option maxRecDepth 100000 in
theorem mX10_readLine (l : Launch) (g : GG) (a_t : Nat) (p_t : Nat → Nat) (n : Nat) (o_t : Nat → Int32) (f_t_1 : Nat → Int32) (f_t_12 : Nat → Int32) (f_t_16 : Nat → Int32) (o_t' : Nat → Int32) (f_t_12' : Nat → Int32) (f_t_16' : Nat → Int32) (hF : fX10_readLine n o_t f_t_1 f_t_12 f_t_16 = some (o_t', f_t_12', f_t_16')) : MV l g yX10_readLine wsX10_readLine ({ frames := 9, cells := 0, slots := 0, locals := 201 } : Room) [.ref a_t] [oX10 a_t p_t o_t, aI g (p_t 1) 800 f_t_1, aI g (p_t 12) 8 f_t_12, aI g (p_t 16) 266 f_t_16] [oX10 a_t p_t o_t', aI g (p_t 1) 800 f_t_1, aI g (p_t 12) 8 f_t_12', aI g (p_t 16) 266 f_t_16'] := by
  refine MV.of (cc := cX10_readLine) (maxL := 1) (own := RX10) rfl rfl (by decide) (Nat.le_of_ble_eq_true rfl) ?_
  intro p e s m args below meth c A C0 hP hD hS ls hl
  obtain ⟨hx, hb, hml, hown, hts, hr, hlk, hK, hA, hSW⟩ := id C0
  have hl : lv_has ls 1 [(0, .ref a_t)] := hl
  rw [fX10_readLine] at hF
  refine lv_aload_n hx hb dX10_readLine_0 rfl (lv_at hl 0 rfl) ?_
  refine va_ldcS (own := RX10) (index := 122) (q := gK g 0) hx hb hown (hK.2.2 0 (by decide)) dX10_readLine_1 ?_
  obtain ⟨u_1, hu_2, hF⟩ := ob1_some hF
  refine call_i (wr := [aI g (p_t 1) 800 f_t_1, aI g (p_t 16) 266 f_t_16]) (As := [.ref (gK g 0)]) (rest := []) (ci := 10) (q0 := 0) C0 (mX10_isWord l g a_t p_t n 0 o_t f_t_12 u_1 (by decide) hu_2) (cwV 1 hts gX10_readLine_X10_isWord rfl rfl rfl (by decide +kernel) ⟨Nat.le_of_ble_eq_true rfl, Nat.le_of_ble_eq_true rfl⟩) hP hD hS [0, 2] [1, 3] rfl rfl rfl rfl rfl (by decide) rfl rfl hl.1 rfl rfl (Nat.le_of_ble_eq_true rfl) ⟨Nat.zero_le _, Nat.zero_le _⟩ dX10_readLine_3 ?_
  intro H locs hP hD hS
  refine lv_if_eq (tgt := 16) hx hb dX10_readLine_6 (by decide) (fun c_3 => ?_) (fun c_3 => ?_)
  · have hF := it_p c_3 hF
    refine lv_aload_n hx hb dX10_readLine_16 rfl (lv_at hl 0 rfl) ?_
    refine va_ldcS (own := RX10) (index := 124) (q := gK g 1) hx hb hown (hK.2.2 1 (by decide)) dX10_readLine_17 ?_
    refine lv_aload_n hx hb dX10_readLine_19 rfl (lv_at hl 0 rfl) ?_
    refine va_get (D := g.1) (ci := 10) (v := .ref (p_t 16)) (C := RX10) (T := TX10) (N := 35) hx hb hts iX10_readLine_X10 hown hK.1 hP 2 rfl rfl 16 (by decide) (hts _ kX10_readLine_23) (fun _ h9 => h9) rfl dX10_readLine_20 ?_
    refine lv_iconst (v := (3 : Int32)) hx hb dX10_readLine_23 (by decide) ?_
    refine va_iald_k (j := 3) hx hb hK.1 hP 1 0 rfl rfl (by unfold vp_in; decide) rfl dX10_readLine_24 ?_
    refine lv_bipush (v := (7 : Int32)) hx hb dX10_readLine_25 (by decide) ?_
    obtain ⟨J35, eJ35, hF⟩ := jn_some hF
    have hJ35 : ∀ (s2_35 : Int32) (H : Heap) (locs : List Loc) (ls : Array Slot), J35 s2_35 = some (o_t', f_t_12', f_t_16') → va_P g.1 vwCl [aI g (p_t 1) 800 f_t_1, aI g (p_t 16) 266 f_t_16, oX10 a_t p_t o_t, aI g (p_t 12) 8 f_t_12] H → va_D A [aI g (p_t 1) 800 f_t_1, aI g (p_t 16) 266 f_t_16, oX10 a_t p_t o_t, aI g (p_t 12) 8 f_t_12] → va_S A s.heap H locs → lv_has ls 1 [(0, .ref a_t)] → W p l e ({ frames := 9, cells := 0, slots := 0, locals := 201 } : Room) s m args below meth c H locs 0 0 (MQ below (EndV g [oX10 a_t p_t o_t', aI g (p_t 1) 800 f_t_1, aI g (p_t 12) 8 f_t_12', aI g (p_t 16) 266 f_t_16'] A) args s 0 0 A) (F0 m 35 ls [.int s2_35, .ref (gK g 1), .ref a_t]) := by
      intro s2_35 H locs ls hF hP hD hS hl
      have hF := jj1 eJ35 hF
      obtain ⟨u_4, u_5, u_6, hu_7, hF⟩ := ob3_some hF
      refine call_i (wr := []) (As := [.ref (gK g 1), .int s2_35]) (rest := []) (ci := 10) (q0 := 0) C0 (mX10_begins l g a_t p_t n 1 s2_35 o_t f_t_1 f_t_12 f_t_16 u_4 u_5 u_6 (by decide) hu_7) (cwV 2 hts gX10_readLine_X10_begins rfl rfl rfl (by decide +kernel) ⟨Nat.le_of_ble_eq_true rfl, Nat.le_of_ble_eq_true rfl⟩) hP hD hS [2, 0, 3, 1] [] rfl rfl rfl rfl rfl (by decide) rfl rfl hl.1 rfl rfl (Nat.le_of_ble_eq_true rfl) ⟨Nat.zero_le _, Nat.zero_le _⟩ dX10_readLine_35 ?_
      intro H locs hP hD hS
      refine lv_if_eq (tgt := 48) hx hb dX10_readLine_38 (by decide) (fun c_8 => ?_) (fun c_8 => ?_)
      · have hF := it_p c_8 hF
        refine lv_aload_n hx hb dX10_readLine_48 rfl (lv_at hl 0 rfl) ?_
        refine va_ldcS (own := RX10) (index := 126) (q := gK g 2) hx hb hown (hK.2.2 2 (by decide)) dX10_readLine_49 ?_
        refine lv_iconst (v := (1 : Int32)) hx hb dX10_readLine_51 (by decide) ?_
        obtain ⟨u_9, u_10, u_11, hu_12, hF⟩ := ob3_some hF
        refine call_i (wr := []) (As := [.ref (gK g 2), .int (1 : Int32)]) (rest := []) (ci := 10) (q0 := 0) C0 (mX10_begins l g a_t p_t n 2 (1 : Int32) u_5 f_t_1 u_6 f_t_16 u_9 u_10 u_11 (by decide) hu_12) (cwV 2 hts gX10_readLine_X10_begins rfl rfl rfl (by decide +kernel) ⟨Nat.le_of_ble_eq_true rfl, Nat.le_of_ble_eq_true rfl⟩) hP hD hS [0, 1, 2, 3] [] rfl rfl rfl rfl rfl (by decide) rfl rfl hl.1 rfl rfl (Nat.le_of_ble_eq_true rfl) ⟨Nat.zero_le _, Nat.zero_le _⟩ dX10_readLine_52 ?_
        intro H locs hP hD hS
        refine lv_if_eq (tgt := 65) hx hb dX10_readLine_55 (by decide) (fun c_13 => ?_) (fun c_13 => ?_)
        · have hF := it_p c_13 hF
          refine lv_aload_n hx hb dX10_readLine_65 rfl (lv_at hl 0 rfl) ?_
          refine va_ldcS (own := RX10) (index := 128) (q := gK g 3) hx hb hown (hK.2.2 3 (by decide)) dX10_readLine_66 ?_
          refine lv_aload_n hx hb dX10_readLine_68 rfl (lv_at hl 0 rfl) ?_
          refine va_get (D := g.1) (ci := 10) (v := .ref (p_t 16)) (C := RX10) (T := TX10) (N := 35) hx hb hts iX10_readLine_X10 hown hK.1 hP 0 rfl rfl 16 (by decide) (hts _ kX10_readLine_23) (fun _ h9 => h9) rfl dX10_readLine_69 ?_
          refine lv_iconst (v := (5 : Int32)) hx hb dX10_readLine_72 (by decide) ?_
          refine va_iald_k (j := 5) hx hb hK.1 hP 3 0 rfl rfl (by unfold vp_in; decide) rfl dX10_readLine_73 ?_
          refine lv_bipush (v := (8 : Int32)) hx hb dX10_readLine_74 (by decide) ?_
          obtain ⟨J84, eJ84, hF⟩ := jn_some hF
          have hJ84 : ∀ (s2_84 : Int32) (H : Heap) (locs : List Loc) (ls : Array Slot), J84 s2_84 = some (o_t', f_t_12', f_t_16') → va_P g.1 vwCl [oX10 a_t p_t u_10, aI g (p_t 1) 800 f_t_1, aI g (p_t 12) 8 u_11, aI g (p_t 16) 266 f_t_16] H → va_D A [oX10 a_t p_t u_10, aI g (p_t 1) 800 f_t_1, aI g (p_t 12) 8 u_11, aI g (p_t 16) 266 f_t_16] → va_S A s.heap H locs → lv_has ls 1 [(0, .ref a_t)] → W p l e ({ frames := 9, cells := 0, slots := 0, locals := 201 } : Room) s m args below meth c H locs 0 0 (MQ below (EndV g [oX10 a_t p_t o_t', aI g (p_t 1) 800 f_t_1, aI g (p_t 12) 8 f_t_12', aI g (p_t 16) 266 f_t_16'] A) args s 0 0 A) (F0 m 84 ls [.int s2_84, .ref (gK g 3), .ref a_t]) := by
            intro s2_84 H locs ls hF hP hD hS hl
            have hF := jj1 eJ84 hF
            obtain ⟨u_14, u_15, u_16, hu_17, hF⟩ := ob3_some hF
            refine call_i (wr := []) (As := [.ref (gK g 3), .int s2_84]) (rest := []) (ci := 10) (q0 := 0) C0 (mX10_begins l g a_t p_t n 3 s2_84 u_10 f_t_1 u_11 f_t_16 u_14 u_15 u_16 (by decide) hu_17) (cwV 2 hts gX10_readLine_X10_begins rfl rfl rfl (by decide +kernel) ⟨Nat.le_of_ble_eq_true rfl, Nat.le_of_ble_eq_true rfl⟩) hP hD hS [0, 1, 2, 3] [] rfl rfl rfl rfl rfl (by decide) rfl rfl hl.1 rfl rfl (Nat.le_of_ble_eq_true rfl) ⟨Nat.zero_le _, Nat.zero_le _⟩ dX10_readLine_84 ?_
            intro H locs hP hD hS
            refine lv_if_eq (tgt := 97) hx hb dX10_readLine_87 (by decide) (fun c_18 => ?_) (fun c_18 => ?_)
            · have hF := it_p c_18 hF
              refine lv_aload_n hx hb dX10_readLine_97 rfl (lv_at hl 0 rfl) ?_
              refine va_ldcS (own := RX10) (index := 130) (q := gK g 4) hx hb hown (hK.2.2 4 (by decide)) dX10_readLine_98 ?_
              refine lv_aload_n hx hb dX10_readLine_100 rfl (lv_at hl 0 rfl) ?_
              refine va_get (D := g.1) (ci := 10) (v := .ref (p_t 16)) (C := RX10) (T := TX10) (N := 35) hx hb hts iX10_readLine_X10 hown hK.1 hP 0 rfl rfl 16 (by decide) (hts _ kX10_readLine_23) (fun _ h9 => h9) rfl dX10_readLine_101 ?_
              refine lv_bipush (v := (6 : Int32)) hx hb dX10_readLine_104 (by decide) ?_
              refine va_iald_k (j := 6) hx hb hK.1 hP 3 0 rfl rfl (by unfold vp_in; decide) rfl dX10_readLine_106 ?_
              refine lv_iconst (v := (4 : Int32)) hx hb dX10_readLine_107 (by decide) ?_
              obtain ⟨J116, eJ116, hF⟩ := jn_some hF
              have hJ116 : ∀ (s2_116 : Int32) (H : Heap) (locs : List Loc) (ls : Array Slot), J116 s2_116 = some (o_t', f_t_12', f_t_16') → va_P g.1 vwCl [oX10 a_t p_t u_15, aI g (p_t 1) 800 f_t_1, aI g (p_t 12) 8 u_16, aI g (p_t 16) 266 f_t_16] H → va_D A [oX10 a_t p_t u_15, aI g (p_t 1) 800 f_t_1, aI g (p_t 12) 8 u_16, aI g (p_t 16) 266 f_t_16] → va_S A s.heap H locs → lv_has ls 1 [(0, .ref a_t)] → W p l e ({ frames := 9, cells := 0, slots := 0, locals := 201 } : Room) s m args below meth c H locs 0 0 (MQ below (EndV g [oX10 a_t p_t o_t', aI g (p_t 1) 800 f_t_1, aI g (p_t 12) 8 f_t_12', aI g (p_t 16) 266 f_t_16'] A) args s 0 0 A) (F0 m 116 ls [.int s2_116, .ref (gK g 4), .ref a_t]) := by
                intro s2_116 H locs ls hF hP hD hS hl
                have hF := jj1 eJ116 hF
                obtain ⟨u_19, u_20, u_21, hu_22, hF⟩ := ob3_some hF
                refine call_i (wr := []) (As := [.ref (gK g 4), .int s2_116]) (rest := []) (ci := 10) (q0 := 0) C0 (mX10_begins l g a_t p_t n 4 s2_116 u_15 f_t_1 u_16 f_t_16 u_19 u_20 u_21 (by decide) hu_22) (cwV 2 hts gX10_readLine_X10_begins rfl rfl rfl (by decide +kernel) ⟨Nat.le_of_ble_eq_true rfl, Nat.le_of_ble_eq_true rfl⟩) hP hD hS [0, 1, 2, 3] [] rfl rfl rfl rfl rfl (by decide) rfl rfl hl.1 rfl rfl (Nat.le_of_ble_eq_true rfl) ⟨Nat.zero_le _, Nat.zero_le _⟩ dX10_readLine_116 ?_
                intro H locs hP hD hS
                refine lv_if_eq (tgt := 129) hx hb dX10_readLine_119 (by decide) (fun c_23 => ?_) (fun c_23 => ?_)
                · have hF := it_p c_23 hF
                  refine lv_aload_n hx hb dX10_readLine_129 rfl (lv_at hl 0 rfl) ?_
                  refine va_ldcS (own := RX10) (index := 132) (q := gK g 5) hx hb hown (hK.2.2 5 (by decide)) dX10_readLine_130 ?_
                  refine lv_aload_n hx hb dX10_readLine_132 rfl (lv_at hl 0 rfl) ?_
                  refine va_get (D := g.1) (ci := 10) (v := .ref (p_t 16)) (C := RX10) (T := TX10) (N := 35) hx hb hts iX10_readLine_X10 hown hK.1 hP 0 rfl rfl 16 (by decide) (hts _ kX10_readLine_23) (fun _ h9 => h9) rfl dX10_readLine_133 ?_
                  refine lv_bipush (v := (7 : Int32)) hx hb dX10_readLine_136 (by decide) ?_
                  refine va_iald_k (j := 7) hx hb hK.1 hP 3 0 rfl rfl (by unfold vp_in; decide) rfl dX10_readLine_138 ?_
                  refine lv_iconst (v := (5 : Int32)) hx hb dX10_readLine_139 (by decide) ?_
                  obtain ⟨J148, eJ148, hF⟩ := jn_some hF
                  have hJ148 : ∀ (s2_148 : Int32) (H : Heap) (locs : List Loc) (ls : Array Slot), J148 s2_148 = some (o_t', f_t_12', f_t_16') → va_P g.1 vwCl [oX10 a_t p_t u_20, aI g (p_t 1) 800 f_t_1, aI g (p_t 12) 8 u_21, aI g (p_t 16) 266 f_t_16] H → va_D A [oX10 a_t p_t u_20, aI g (p_t 1) 800 f_t_1, aI g (p_t 12) 8 u_21, aI g (p_t 16) 266 f_t_16] → va_S A s.heap H locs → lv_has ls 1 [(0, .ref a_t)] → W p l e ({ frames := 9, cells := 0, slots := 0, locals := 201 } : Room) s m args below meth c H locs 0 0 (MQ below (EndV g [oX10 a_t p_t o_t', aI g (p_t 1) 800 f_t_1, aI g (p_t 12) 8 f_t_12', aI g (p_t 16) 266 f_t_16'] A) args s 0 0 A) (F0 m 148 ls [.int s2_148, .ref (gK g 5), .ref a_t]) := by
                    intro s2_148 H locs ls hF hP hD hS hl
                    have hF := jj1 eJ148 hF
                    obtain ⟨u_24, u_25, u_26, hu_27, hF⟩ := ob3_some hF
                    refine call_i (wr := []) (As := [.ref (gK g 5), .int s2_148]) (rest := []) (ci := 10) (q0 := 0) C0 (mX10_begins l g a_t p_t n 5 s2_148 u_20 f_t_1 u_21 f_t_16 u_24 u_25 u_26 (by decide) hu_27) (cwV 2 hts gX10_readLine_X10_begins rfl rfl rfl (by decide +kernel) ⟨Nat.le_of_ble_eq_true rfl, Nat.le_of_ble_eq_true rfl⟩) hP hD hS [0, 1, 2, 3] [] rfl rfl rfl rfl rfl (by decide) rfl rfl hl.1 rfl rfl (Nat.le_of_ble_eq_true rfl) ⟨Nat.zero_le _, Nat.zero_le _⟩ dX10_readLine_148 ?_
                    intro H locs hP hD hS
                    refine lv_if_eq (tgt := 161) hx hb dX10_readLine_151 (by decide) (fun c_28 => ?_) (fun c_28 => ?_)
                    · have hF := it_p c_28 hF
                      refine lv_aload_n hx hb dX10_readLine_161 rfl (lv_at hl 0 rfl) ?_
                      refine va_ldcS (own := RX10) (index := 134) (q := gK g 6) hx hb hown (hK.2.2 6 (by decide)) dX10_readLine_162 ?_
                      refine lv_aload_n hx hb dX10_readLine_164 rfl (lv_at hl 0 rfl) ?_
                      refine va_get (D := g.1) (ci := 10) (v := .ref (p_t 16)) (C := RX10) (T := TX10) (N := 35) hx hb hts iX10_readLine_X10 hown hK.1 hP 0 rfl rfl 16 (by decide) (hts _ kX10_readLine_23) (fun _ h9 => h9) rfl dX10_readLine_165 ?_
                      refine lv_bipush (v := (8 : Int32)) hx hb dX10_readLine_168 (by decide) ?_
                      refine va_iald_k (j := 8) hx hb hK.1 hP 3 0 rfl rfl (by unfold vp_in; decide) rfl dX10_readLine_170 ?_
                      refine lv_bipush (v := (6 : Int32)) hx hb dX10_readLine_171 (by decide) ?_
                      obtain ⟨J181, eJ181, hF⟩ := jn_some hF
                      have hJ181 : ∀ (s2_181 : Int32) (H : Heap) (locs : List Loc) (ls : Array Slot), J181 s2_181 = some (o_t', f_t_12', f_t_16') → va_P g.1 vwCl [oX10 a_t p_t u_25, aI g (p_t 1) 800 f_t_1, aI g (p_t 12) 8 u_26, aI g (p_t 16) 266 f_t_16] H → va_D A [oX10 a_t p_t u_25, aI g (p_t 1) 800 f_t_1, aI g (p_t 12) 8 u_26, aI g (p_t 16) 266 f_t_16] → va_S A s.heap H locs → lv_has ls 1 [(0, .ref a_t)] → W p l e ({ frames := 9, cells := 0, slots := 0, locals := 201 } : Room) s m args below meth c H locs 0 0 (MQ below (EndV g [oX10 a_t p_t o_t', aI g (p_t 1) 800 f_t_1, aI g (p_t 12) 8 f_t_12', aI g (p_t 16) 266 f_t_16'] A) args s 0 0 A) (F0 m 181 ls [.int s2_181, .ref (gK g 6), .ref a_t]) := by
                        intro s2_181 H locs ls hF hP hD hS hl
                        have hF := jj1 eJ181 hF
                        obtain ⟨u_29, u_30, u_31, hu_32, hF⟩ := ob3_some hF
                        refine call_i (wr := []) (As := [.ref (gK g 6), .int s2_181]) (rest := []) (ci := 10) (q0 := 0) C0 (mX10_begins l g a_t p_t n 6 s2_181 u_25 f_t_1 u_26 f_t_16 u_29 u_30 u_31 (by decide) hu_32) (cwV 2 hts gX10_readLine_X10_begins rfl rfl rfl (by decide +kernel) ⟨Nat.le_of_ble_eq_true rfl, Nat.le_of_ble_eq_true rfl⟩) hP hD hS [0, 1, 2, 3] [] rfl rfl rfl rfl rfl (by decide) rfl rfl hl.1 rfl rfl (Nat.le_of_ble_eq_true rfl) ⟨Nat.zero_le _, Nat.zero_le _⟩ dX10_readLine_181 ?_
                        intro H locs hP hD hS
                        refine lv_if_eq (tgt := 195) hx hb dX10_readLine_184 (by decide) (fun c_33 => ?_) (fun c_33 => ?_)
                        · have hF := it_p c_33 hF
                          refine lv_aload_n hx hb dX10_readLine_195 rfl (lv_at hl 0 rfl) ?_
                          refine va_ldcS (own := RX10) (index := 136) (q := gK g 7) hx hb hown (hK.2.2 7 (by decide)) dX10_readLine_196 ?_
                          refine lv_aload_n hx hb dX10_readLine_198 rfl (lv_at hl 0 rfl) ?_
                          refine va_get (D := g.1) (ci := 10) (v := .ref (p_t 16)) (C := RX10) (T := TX10) (N := 35) hx hb hts iX10_readLine_X10 hown hK.1 hP 0 rfl rfl 16 (by decide) (hts _ kX10_readLine_23) (fun _ h9 => h9) rfl dX10_readLine_199 ?_
                          refine lv_bipush (v := (8 : Int32)) hx hb dX10_readLine_202 (by decide) ?_
                          refine va_iald_k (j := 8) hx hb hK.1 hP 3 0 rfl rfl (by unfold vp_in; decide) rfl dX10_readLine_204 ?_
                          refine lv_bipush (v := (6 : Int32)) hx hb dX10_readLine_205 (by decide) ?_
                          obtain ⟨J215, eJ215, hF⟩ := jn_some hF
                          have hJ215 : ∀ (s2_215 : Int32) (H : Heap) (locs : List Loc) (ls : Array Slot), J215 s2_215 = some (o_t', f_t_12', f_t_16') → va_P g.1 vwCl [oX10 a_t p_t u_30, aI g (p_t 1) 800 f_t_1, aI g (p_t 12) 8 u_31, aI g (p_t 16) 266 f_t_16] H → va_D A [oX10 a_t p_t u_30, aI g (p_t 1) 800 f_t_1, aI g (p_t 12) 8 u_31, aI g (p_t 16) 266 f_t_16] → va_S A s.heap H locs → lv_has ls 1 [(0, .ref a_t)] → W p l e ({ frames := 9, cells := 0, slots := 0, locals := 201 } : Room) s m args below meth c H locs 0 0 (MQ below (EndV g [oX10 a_t p_t o_t', aI g (p_t 1) 800 f_t_1, aI g (p_t 12) 8 f_t_12', aI g (p_t 16) 266 f_t_16'] A) args s 0 0 A) (F0 m 215 ls [.int s2_215, .ref (gK g 7), .ref a_t]) := by
                            intro s2_215 H locs ls hF hP hD hS hl
                            have hF := jj1 eJ215 hF
                            obtain ⟨u_34, u_35, u_36, hu_37, hF⟩ := ob3_some hF
                            refine call_i (wr := []) (As := [.ref (gK g 7), .int s2_215]) (rest := []) (ci := 10) (q0 := 0) C0 (mX10_begins l g a_t p_t n 7 s2_215 u_30 f_t_1 u_31 f_t_16 u_34 u_35 u_36 (by decide) hu_37) (cwV 2 hts gX10_readLine_X10_begins rfl rfl rfl (by decide +kernel) ⟨Nat.le_of_ble_eq_true rfl, Nat.le_of_ble_eq_true rfl⟩) hP hD hS [0, 1, 2, 3] [] rfl rfl rfl rfl rfl (by decide) rfl rfl hl.1 rfl rfl (Nat.le_of_ble_eq_true rfl) ⟨Nat.zero_le _, Nat.zero_le _⟩ dX10_readLine_215 ?_
                            intro H locs hP hD hS
                            refine lv_if_eq (tgt := 229) hx hb dX10_readLine_218 (by decide) (fun c_38 => ?_) (fun c_38 => ?_)
                            · have hF := it_p c_38 hF
                              refine lv_aload_n hx hb dX10_readLine_229 rfl (lv_at hl 0 rfl) ?_
                              refine lv_iconst (v := (1 : Int32)) hx hb dX10_readLine_230 (by decide) ?_
                              refine lv_aload_n hx hb dX10_readLine_231 rfl (lv_at hl 0 rfl) ?_
                              refine va_get (D := g.1) (ci := 10) (v := .int (u_35 4)) (C := RX10) (T := TX10) (N := 35) hx hb hts iX10_readLine_X10 hown hK.1 hP 0 rfl rfl 4 (by decide) (hts _ kX10_readLine_72) (fun _ h9 => h9) rfl dX10_readLine_232 ?_
                              obtain ⟨u_39, hu_40, hF⟩ := ob1_some hF
                              refine call_v (wr := [aI g (p_t 1) 800 f_t_1, aI g (p_t 12) 8 u_36, aI g (p_t 16) 266 f_t_16]) (As := [.int (1 : Int32), .int (u_35 4)]) (rest := []) (ci := 10) (q0 := 0) C0 (mX10_wrong l g a_t p_t n (1 : Int32) (u_35 4) u_35 u_39 hu_40) (cwV 2 hts gX10_readLine_X10_wrong rfl rfl rfl (by decide +kernel) ⟨Nat.le_of_ble_eq_true rfl, Nat.le_of_ble_eq_true rfl⟩) hP hD hS [0] [1, 2, 3] rfl rfl rfl rfl rfl (by decide) rfl rfl hl.1 rfl rfl (Nat.le_of_ble_eq_true rfl) ⟨Nat.zero_le _, Nat.zero_le _⟩ dX10_readLine_235 ?_
                              intro H locs hP hD hS
                              cases hF
                              exact ret_v C0 hP hD hS [3, 0, 1, 2] rfl rfl rfl dX10_readLine_238
                            · have hF := it_n c_38 hF
                              refine lv_aload_n hx hb dX10_readLine_221 rfl (lv_at hl 0 rfl) ?_
                              refine lv_iconst (v := (1 : Int32)) hx hb dX10_readLine_222 (by decide) ?_
                              obtain ⟨u_41, u_42, u_43, hu_44, hF⟩ := ob3_some hF
                              refine call_v (wr := []) (As := [.int (1 : Int32)]) (rest := []) (ci := 10) (q0 := 0) C0 (mX10_seenLine l g a_t p_t n (1 : Int32) u_35 f_t_1 u_36 f_t_16 u_41 u_42 u_43 hu_44) (cwV 1 hts gX10_readLine_X10_seenLine rfl rfl rfl (by decide +kernel) ⟨Nat.le_of_ble_eq_true rfl, Nat.le_of_ble_eq_true rfl⟩) hP hD hS [0, 1, 2, 3] [] rfl rfl rfl rfl rfl (by decide) rfl rfl hl.1 rfl rfl (Nat.le_of_ble_eq_true rfl) ⟨Nat.zero_le _, Nat.zero_le _⟩ dX10_readLine_223 ?_
                              intro H locs hP hD hS
                              refine lv_goto (tgt := 238) hx hb dX10_readLine_226 (by decide) ?_
                              cases hF
                              exact ret_v C0 hP hD hS [0, 1, 2, 3] rfl rfl rfl dX10_readLine_238
                          refine lv_icmp_ge (tgt := 214) hx hb dX10_readLine_207 (by decide) (fun c_45 => ?_) (fun c_45 => ?_)
                          · have hF := it_p c_45 hF
                            refine lv_iconst (v := (0 : Int32)) hx hb dX10_readLine_214 (by decide) ?_
                            exact hJ215 (0 : Int32) _ _ _ hF (hP.sub [0, 1, 2, 3] rfl) (hD.sub [0, 1, 2, 3] rfl rfl) hS (lv_sub hl [0] rfl)
                          · have hF := it_n c_45 hF
                            refine lv_iconst (v := (1 : Int32)) hx hb dX10_readLine_210 (by decide) ?_
                            refine lv_goto (tgt := 215) hx hb dX10_readLine_211 (by decide) ?_
                            exact hJ215 (1 : Int32) _ _ _ hF (hP.sub [0, 1, 2, 3] rfl) (hD.sub [0, 1, 2, 3] rfl rfl) hS (lv_sub hl [0] rfl)
                        · have hF := it_n c_33 hF
                          refine lv_aload_n hx hb dX10_readLine_187 rfl (lv_at hl 0 rfl) ?_
                          refine lv_iconst (v := (0 : Int32)) hx hb dX10_readLine_188 (by decide) ?_
                          obtain ⟨u_46, u_47, u_48, hu_49, hF⟩ := ob3_some hF
                          refine call_v (wr := []) (As := [.int (0 : Int32)]) (rest := []) (ci := 10) (q0 := 0) C0 (mX10_seenLine l g a_t p_t n (0 : Int32) u_30 f_t_1 u_31 f_t_16 u_46 u_47 u_48 hu_49) (cwV 1 hts gX10_readLine_X10_seenLine rfl rfl rfl (by decide +kernel) ⟨Nat.le_of_ble_eq_true rfl, Nat.le_of_ble_eq_true rfl⟩) hP hD hS [0, 1, 2, 3] [] rfl rfl rfl rfl rfl (by decide) rfl rfl hl.1 rfl rfl (Nat.le_of_ble_eq_true rfl) ⟨Nat.zero_le _, Nat.zero_le _⟩ dX10_readLine_189 ?_
                          intro H locs hP hD hS
                          refine lv_goto (tgt := 238) hx hb dX10_readLine_192 (by decide) ?_
                          cases hF
                          exact ret_v C0 hP hD hS [0, 1, 2, 3] rfl rfl rfl dX10_readLine_238
                      refine lv_icmp_ge (tgt := 180) hx hb dX10_readLine_173 (by decide) (fun c_50 => ?_) (fun c_50 => ?_)
                      · have hF := it_p c_50 hF
                        refine lv_iconst (v := (0 : Int32)) hx hb dX10_readLine_180 (by decide) ?_
                        exact hJ181 (0 : Int32) _ _ _ hF (hP.sub [0, 1, 2, 3] rfl) (hD.sub [0, 1, 2, 3] rfl rfl) hS (lv_sub hl [0] rfl)
                      · have hF := it_n c_50 hF
                        refine lv_iconst (v := (1 : Int32)) hx hb dX10_readLine_176 (by decide) ?_
                        refine lv_goto (tgt := 181) hx hb dX10_readLine_177 (by decide) ?_
                        exact hJ181 (1 : Int32) _ _ _ hF (hP.sub [0, 1, 2, 3] rfl) (hD.sub [0, 1, 2, 3] rfl rfl) hS (lv_sub hl [0] rfl)
                    · have hF := it_n c_28 hF
                      refine lv_aload_n hx hb dX10_readLine_154 rfl (lv_at hl 0 rfl) ?_
                      obtain ⟨u_51, u_52, u_53, hu_54, hF⟩ := ob3_some hF
                      refine call_v (wr := []) (As := []) (rest := []) (ci := 10) (q0 := 0) C0 (mX10_needLine l g a_t p_t n u_25 f_t_1 u_26 f_t_16 u_51 u_52 u_53 hu_54) (cwV 0 hts gX10_readLine_X10_needLine rfl rfl rfl (by decide +kernel) ⟨Nat.le_of_ble_eq_true rfl, Nat.le_of_ble_eq_true rfl⟩) hP hD hS [0, 1, 2, 3] [] rfl rfl rfl rfl rfl (by decide) rfl rfl hl.1 rfl rfl (Nat.le_of_ble_eq_true rfl) ⟨Nat.zero_le _, Nat.zero_le _⟩ dX10_readLine_155 ?_
                      intro H locs hP hD hS
                      refine lv_goto (tgt := 238) hx hb dX10_readLine_158 (by decide) ?_
                      cases hF
                      exact ret_v C0 hP hD hS [0, 1, 2, 3] rfl rfl rfl dX10_readLine_238
                  refine lv_icmp_ge (tgt := 147) hx hb dX10_readLine_140 (by decide) (fun c_55 => ?_) (fun c_55 => ?_)
                  · have hF := it_p c_55 hF
                    refine lv_iconst (v := (0 : Int32)) hx hb dX10_readLine_147 (by decide) ?_
                    exact hJ148 (0 : Int32) _ _ _ hF (hP.sub [0, 1, 2, 3] rfl) (hD.sub [0, 1, 2, 3] rfl rfl) hS (lv_sub hl [0] rfl)
                  · have hF := it_n c_55 hF
                    refine lv_iconst (v := (1 : Int32)) hx hb dX10_readLine_143 (by decide) ?_
                    refine lv_goto (tgt := 148) hx hb dX10_readLine_144 (by decide) ?_
                    exact hJ148 (1 : Int32) _ _ _ hF (hP.sub [0, 1, 2, 3] rfl) (hD.sub [0, 1, 2, 3] rfl rfl) hS (lv_sub hl [0] rfl)
                · have hF := it_n c_23 hF
                  refine lv_aload_n hx hb dX10_readLine_122 rfl (lv_at hl 0 rfl) ?_
                  obtain ⟨u_56, u_57, u_58, hu_59, hF⟩ := ob3_some hF
                  refine call_v (wr := []) (As := []) (rest := []) (ci := 10) (q0 := 0) C0 (mX10_taleLine l g a_t p_t n u_20 f_t_1 u_21 f_t_16 u_56 u_57 u_58 hu_59) (cwV 0 hts gX10_readLine_X10_taleLine rfl rfl rfl (by decide +kernel) ⟨Nat.le_of_ble_eq_true rfl, Nat.le_of_ble_eq_true rfl⟩) hP hD hS [0, 1, 2, 3] [] rfl rfl rfl rfl rfl (by decide) rfl rfl hl.1 rfl rfl (Nat.le_of_ble_eq_true rfl) ⟨Nat.zero_le _, Nat.zero_le _⟩ dX10_readLine_123 ?_
                  intro H locs hP hD hS
                  refine lv_goto (tgt := 238) hx hb dX10_readLine_126 (by decide) ?_
                  cases hF
                  exact ret_v C0 hP hD hS [0, 1, 2, 3] rfl rfl rfl dX10_readLine_238
              refine lv_icmp_ge (tgt := 115) hx hb dX10_readLine_108 (by decide) (fun c_60 => ?_) (fun c_60 => ?_)
              · have hF := it_p c_60 hF
                refine lv_iconst (v := (0 : Int32)) hx hb dX10_readLine_115 (by decide) ?_
                exact hJ116 (0 : Int32) _ _ _ hF (hP.sub [0, 1, 2, 3] rfl) (hD.sub [0, 1, 2, 3] rfl rfl) hS (lv_sub hl [0] rfl)
              · have hF := it_n c_60 hF
                refine lv_iconst (v := (1 : Int32)) hx hb dX10_readLine_111 (by decide) ?_
                refine lv_goto (tgt := 116) hx hb dX10_readLine_112 (by decide) ?_
                exact hJ116 (1 : Int32) _ _ _ hF (hP.sub [0, 1, 2, 3] rfl) (hD.sub [0, 1, 2, 3] rfl rfl) hS (lv_sub hl [0] rfl)
            · have hF := it_n c_18 hF
              refine lv_aload_n hx hb dX10_readLine_90 rfl (lv_at hl 0 rfl) ?_
              obtain ⟨u_61, u_62, u_63, hu_64, hF⟩ := ob3_some hF
              refine call_v (wr := []) (As := []) (rest := []) (ci := 10) (q0 := 0) C0 (mX10_drawsLine l g a_t p_t n u_15 f_t_1 u_16 f_t_16 u_61 u_62 u_63 hu_64) (cwV 0 hts gX10_readLine_X10_drawsLine rfl rfl rfl (by decide +kernel) ⟨Nat.le_of_ble_eq_true rfl, Nat.le_of_ble_eq_true rfl⟩) hP hD hS [0, 1, 2, 3] [] rfl rfl rfl rfl rfl (by decide) rfl rfl hl.1 rfl rfl (Nat.le_of_ble_eq_true rfl) ⟨Nat.zero_le _, Nat.zero_le _⟩ dX10_readLine_91 ?_
              intro H locs hP hD hS
              refine lv_goto (tgt := 238) hx hb dX10_readLine_94 (by decide) ?_
              cases hF
              exact ret_v C0 hP hD hS [0, 1, 2, 3] rfl rfl rfl dX10_readLine_238
          refine lv_icmp_ge (tgt := 83) hx hb dX10_readLine_76 (by decide) (fun c_65 => ?_) (fun c_65 => ?_)
          · have hF := it_p c_65 hF
            refine lv_iconst (v := (0 : Int32)) hx hb dX10_readLine_83 (by decide) ?_
            exact hJ84 (0 : Int32) _ _ _ hF (hP.sub [0, 1, 2, 3] rfl) (hD.sub [0, 1, 2, 3] rfl rfl) hS (lv_sub hl [0] rfl)
          · have hF := it_n c_65 hF
            refine lv_iconst (v := (1 : Int32)) hx hb dX10_readLine_79 (by decide) ?_
            refine lv_goto (tgt := 84) hx hb dX10_readLine_80 (by decide) ?_
            exact hJ84 (1 : Int32) _ _ _ hF (hP.sub [0, 1, 2, 3] rfl) (hD.sub [0, 1, 2, 3] rfl rfl) hS (lv_sub hl [0] rfl)
        · have hF := it_n c_13 hF
          refine lv_aload_n hx hb dX10_readLine_58 rfl (lv_at hl 0 rfl) ?_
          obtain ⟨u_66, u_67, u_68, hu_69, hF⟩ := ob3_some hF
          refine call_v (wr := []) (As := []) (rest := []) (ci := 10) (q0 := 0) C0 (mX10_pairLine l g a_t p_t n u_10 f_t_1 u_11 f_t_16 u_66 u_67 u_68 hu_69) (cwV 0 hts gX10_readLine_X10_pairLine rfl rfl rfl (by decide +kernel) ⟨Nat.le_of_ble_eq_true rfl, Nat.le_of_ble_eq_true rfl⟩) hP hD hS [0, 1, 2, 3] [] rfl rfl rfl rfl rfl (by decide) rfl rfl hl.1 rfl rfl (Nat.le_of_ble_eq_true rfl) ⟨Nat.zero_le _, Nat.zero_le _⟩ dX10_readLine_59 ?_
          intro H locs hP hD hS
          refine lv_goto (tgt := 238) hx hb dX10_readLine_62 (by decide) ?_
          cases hF
          exact ret_v C0 hP hD hS [0, 1, 2, 3] rfl rfl rfl dX10_readLine_238
      · have hF := it_n c_8 hF
        refine lv_aload_n hx hb dX10_readLine_41 rfl (lv_at hl 0 rfl) ?_
        obtain ⟨u_70, u_71, u_72, hu_73, hF⟩ := ob3_some hF
        refine call_v (wr := []) (As := []) (rest := []) (ci := 10) (q0 := 0) C0 (mX10_guestLine l g a_t p_t n u_5 f_t_1 u_6 f_t_16 u_70 u_71 u_72 hu_73) (cwV 0 hts gX10_readLine_X10_guestLine rfl rfl rfl (by decide +kernel) ⟨Nat.le_of_ble_eq_true rfl, Nat.le_of_ble_eq_true rfl⟩) hP hD hS [0, 1, 2, 3] [] rfl rfl rfl rfl rfl (by decide) rfl rfl hl.1 rfl rfl (Nat.le_of_ble_eq_true rfl) ⟨Nat.zero_le _, Nat.zero_le _⟩ dX10_readLine_42 ?_
        intro H locs hP hD hS
        refine lv_goto (tgt := 238) hx hb dX10_readLine_45 (by decide) ?_
        cases hF
        exact ret_v C0 hP hD hS [0, 1, 2, 3] rfl rfl rfl dX10_readLine_238
    refine lv_icmp_ge (tgt := 34) hx hb dX10_readLine_27 (by decide) (fun c_74 => ?_) (fun c_74 => ?_)
    · have hF := it_p c_74 hF
      refine lv_iconst (v := (0 : Int32)) hx hb dX10_readLine_34 (by decide) ?_
      exact hJ35 (0 : Int32) _ _ _ hF (hP.sub [0, 1, 2, 3] rfl) (hD.sub [0, 1, 2, 3] rfl rfl) hS (lv_sub hl [0] rfl)
    · have hF := it_n c_74 hF
      refine lv_iconst (v := (1 : Int32)) hx hb dX10_readLine_30 (by decide) ?_
      refine lv_goto (tgt := 35) hx hb dX10_readLine_31 (by decide) ?_
      exact hJ35 (1 : Int32) _ _ _ hF (hP.sub [0, 1, 2, 3] rfl) (hD.sub [0, 1, 2, 3] rfl rfl) hS (lv_sub hl [0] rfl)
  · have hF := it_n c_3 hF
    refine lv_aload_n hx hb dX10_readLine_9 rfl (lv_at hl 0 rfl) ?_
    obtain ⟨u_75, u_76, u_77, hu_78, hF⟩ := ob3_some hF
    refine call_v (wr := []) (As := []) (rest := []) (ci := 10) (q0 := 0) C0 (mX10_eveningLine l g a_t p_t n o_t f_t_1 f_t_12 f_t_16 u_75 u_76 u_77 hu_78) (cwV 0 hts gX10_readLine_X10_eveningLine rfl rfl rfl (by decide +kernel) ⟨Nat.le_of_ble_eq_true rfl, Nat.le_of_ble_eq_true rfl⟩) hP hD hS [2, 0, 3, 1] [] rfl rfl rfl rfl rfl (by decide) rfl rfl hl.1 rfl rfl (Nat.le_of_ble_eq_true rfl) ⟨Nat.zero_le _, Nat.zero_le _⟩ dX10_readLine_10 ?_
    intro H locs hP hD hS
    refine lv_goto (tgt := 238) hx hb dX10_readLine_13 (by decide) ?_
    cases hF
    exact ret_v C0 hP hD hS [0, 1, 2, 3] rfl rfl rfl dX10_readLine_238

theorem dAX10_layTold : ∀ q ∈ ([(0, (.iconst 0, 1)), (1, (.istore_n 2, 1)), (2, (.iload_n 2, 1)), (3, (.bipush 17, 2)), (5, (.if_icmp .ge 13, 3)), (8, (.aload_n 1, 1)), (9, (.iload_n 2, 1)), (10, (.iconst 0, 1)), (11, (.iastore, 1)), (12, (.iinc 2 1, 3)), (15, (.goto (-13), 3)), (18, (.iconst 0, 1)), (19, (.istore_n 2, 1)), (20, (.iload_n 2, 1)), (21, (.aload_n 0, 1)), (22, (.getfield 20, 3)), (25, (.iconst 3, 1)), (26, (.iaload, 1)), (27, (.if_icmp .ge 25, 3)), (30, (.aload_n 1, 1)), (31, (.iload_n 2, 1)), (32, (.aload_n 0, 1)), (33, (.getfield 20, 3)), (36, (.bipush 9, 2)), (38, (.iconst 4, 1)), (39, (.iload_n 2, 1)), (40, (.imul, 1)), (41, (.iadd, 1)), (42, (.iconst 1, 1)), (43, (.iadd, 1)), (44, (.iaload, 1)), (45, (.iastore, 1)), (46, (.iinc 2 1, 3)), (49, (.goto (-29), 3)), (52, (.aload_n 1, 1)), (53, (.bipush 15, 2)), (55, (.aload_n 0, 1)), (56, (.getfield 20, 3)), (59, (.iconst 0, 1)), (60, (.iaload, 1)), (61, (.iastore, 1)), (62, (.return_, 1))] : List (Nat × (Instr × Nat))), decode cX10_layTold q.1 = .ok q.2 := by decide +kernel
theorem dX10_layTold_0 : decode cX10_layTold 0 = .ok (.iconst 0, 1) := dAX10_layTold (0, (.iconst 0, 1)) (List.mem_of_getElem? (i := 0) rfl)
theorem dX10_layTold_1 : decode cX10_layTold 1 = .ok (.istore_n 2, 1) := dAX10_layTold (1, (.istore_n 2, 1)) (List.mem_of_getElem? (i := 1) rfl)
theorem dX10_layTold_2 : decode cX10_layTold 2 = .ok (.iload_n 2, 1) := dAX10_layTold (2, (.iload_n 2, 1)) (List.mem_of_getElem? (i := 2) rfl)
theorem dX10_layTold_3 : decode cX10_layTold 3 = .ok (.bipush 17, 2) := dAX10_layTold (3, (.bipush 17, 2)) (List.mem_of_getElem? (i := 3) rfl)
theorem dX10_layTold_5 : decode cX10_layTold 5 = .ok (.if_icmp .ge 13, 3) := dAX10_layTold (5, (.if_icmp .ge 13, 3)) (List.mem_of_getElem? (i := 4) rfl)
theorem dX10_layTold_8 : decode cX10_layTold 8 = .ok (.aload_n 1, 1) := dAX10_layTold (8, (.aload_n 1, 1)) (List.mem_of_getElem? (i := 5) rfl)
theorem dX10_layTold_9 : decode cX10_layTold 9 = .ok (.iload_n 2, 1) := dAX10_layTold (9, (.iload_n 2, 1)) (List.mem_of_getElem? (i := 6) rfl)
theorem dX10_layTold_10 : decode cX10_layTold 10 = .ok (.iconst 0, 1) := dAX10_layTold (10, (.iconst 0, 1)) (List.mem_of_getElem? (i := 7) rfl)
theorem dX10_layTold_11 : decode cX10_layTold 11 = .ok (.iastore, 1) := dAX10_layTold (11, (.iastore, 1)) (List.mem_of_getElem? (i := 8) rfl)
theorem dX10_layTold_12 : decode cX10_layTold 12 = .ok (.iinc 2 1, 3) := dAX10_layTold (12, (.iinc 2 1, 3)) (List.mem_of_getElem? (i := 9) rfl)
theorem dX10_layTold_15 : decode cX10_layTold 15 = .ok (.goto (-13), 3) := dAX10_layTold (15, (.goto (-13), 3)) (List.mem_of_getElem? (i := 10) rfl)
theorem dX10_layTold_18 : decode cX10_layTold 18 = .ok (.iconst 0, 1) := dAX10_layTold (18, (.iconst 0, 1)) (List.mem_of_getElem? (i := 11) rfl)
theorem dX10_layTold_19 : decode cX10_layTold 19 = .ok (.istore_n 2, 1) := dAX10_layTold (19, (.istore_n 2, 1)) (List.mem_of_getElem? (i := 12) rfl)
theorem dX10_layTold_20 : decode cX10_layTold 20 = .ok (.iload_n 2, 1) := dAX10_layTold (20, (.iload_n 2, 1)) (List.mem_of_getElem? (i := 13) rfl)
theorem dX10_layTold_21 : decode cX10_layTold 21 = .ok (.aload_n 0, 1) := dAX10_layTold (21, (.aload_n 0, 1)) (List.mem_of_getElem? (i := 14) rfl)
theorem dX10_layTold_22 : decode cX10_layTold 22 = .ok (.getfield 20, 3) := dAX10_layTold (22, (.getfield 20, 3)) (List.mem_of_getElem? (i := 15) rfl)
theorem dX10_layTold_25 : decode cX10_layTold 25 = .ok (.iconst 3, 1) := dAX10_layTold (25, (.iconst 3, 1)) (List.mem_of_getElem? (i := 16) rfl)
theorem dX10_layTold_26 : decode cX10_layTold 26 = .ok (.iaload, 1) := dAX10_layTold (26, (.iaload, 1)) (List.mem_of_getElem? (i := 17) rfl)
theorem dX10_layTold_27 : decode cX10_layTold 27 = .ok (.if_icmp .ge 25, 3) := dAX10_layTold (27, (.if_icmp .ge 25, 3)) (List.mem_of_getElem? (i := 18) rfl)
theorem dX10_layTold_30 : decode cX10_layTold 30 = .ok (.aload_n 1, 1) := dAX10_layTold (30, (.aload_n 1, 1)) (List.mem_of_getElem? (i := 19) rfl)
theorem dX10_layTold_31 : decode cX10_layTold 31 = .ok (.iload_n 2, 1) := dAX10_layTold (31, (.iload_n 2, 1)) (List.mem_of_getElem? (i := 20) rfl)
theorem dX10_layTold_32 : decode cX10_layTold 32 = .ok (.aload_n 0, 1) := dAX10_layTold (32, (.aload_n 0, 1)) (List.mem_of_getElem? (i := 21) rfl)
theorem dX10_layTold_33 : decode cX10_layTold 33 = .ok (.getfield 20, 3) := dAX10_layTold (33, (.getfield 20, 3)) (List.mem_of_getElem? (i := 22) rfl)
theorem dX10_layTold_36 : decode cX10_layTold 36 = .ok (.bipush 9, 2) := dAX10_layTold (36, (.bipush 9, 2)) (List.mem_of_getElem? (i := 23) rfl)
theorem dX10_layTold_38 : decode cX10_layTold 38 = .ok (.iconst 4, 1) := dAX10_layTold (38, (.iconst 4, 1)) (List.mem_of_getElem? (i := 24) rfl)
theorem dX10_layTold_39 : decode cX10_layTold 39 = .ok (.iload_n 2, 1) := dAX10_layTold (39, (.iload_n 2, 1)) (List.mem_of_getElem? (i := 25) rfl)
theorem dX10_layTold_40 : decode cX10_layTold 40 = .ok (.imul, 1) := dAX10_layTold (40, (.imul, 1)) (List.mem_of_getElem? (i := 26) rfl)
theorem dX10_layTold_41 : decode cX10_layTold 41 = .ok (.iadd, 1) := dAX10_layTold (41, (.iadd, 1)) (List.mem_of_getElem? (i := 27) rfl)
theorem dX10_layTold_42 : decode cX10_layTold 42 = .ok (.iconst 1, 1) := dAX10_layTold (42, (.iconst 1, 1)) (List.mem_of_getElem? (i := 28) rfl)
theorem dX10_layTold_43 : decode cX10_layTold 43 = .ok (.iadd, 1) := dAX10_layTold (43, (.iadd, 1)) (List.mem_of_getElem? (i := 29) rfl)
theorem dX10_layTold_44 : decode cX10_layTold 44 = .ok (.iaload, 1) := dAX10_layTold (44, (.iaload, 1)) (List.mem_of_getElem? (i := 30) rfl)
theorem dX10_layTold_45 : decode cX10_layTold 45 = .ok (.iastore, 1) := dAX10_layTold (45, (.iastore, 1)) (List.mem_of_getElem? (i := 31) rfl)
theorem dX10_layTold_46 : decode cX10_layTold 46 = .ok (.iinc 2 1, 3) := dAX10_layTold (46, (.iinc 2 1, 3)) (List.mem_of_getElem? (i := 32) rfl)
theorem dX10_layTold_49 : decode cX10_layTold 49 = .ok (.goto (-29), 3) := dAX10_layTold (49, (.goto (-29), 3)) (List.mem_of_getElem? (i := 33) rfl)
theorem dX10_layTold_52 : decode cX10_layTold 52 = .ok (.aload_n 1, 1) := dAX10_layTold (52, (.aload_n 1, 1)) (List.mem_of_getElem? (i := 34) rfl)
theorem dX10_layTold_53 : decode cX10_layTold 53 = .ok (.bipush 15, 2) := dAX10_layTold (53, (.bipush 15, 2)) (List.mem_of_getElem? (i := 35) rfl)
theorem dX10_layTold_55 : decode cX10_layTold 55 = .ok (.aload_n 0, 1) := dAX10_layTold (55, (.aload_n 0, 1)) (List.mem_of_getElem? (i := 36) rfl)
theorem dX10_layTold_56 : decode cX10_layTold 56 = .ok (.getfield 20, 3) := dAX10_layTold (56, (.getfield 20, 3)) (List.mem_of_getElem? (i := 37) rfl)
theorem dX10_layTold_59 : decode cX10_layTold 59 = .ok (.iconst 0, 1) := dAX10_layTold (59, (.iconst 0, 1)) (List.mem_of_getElem? (i := 38) rfl)
theorem dX10_layTold_60 : decode cX10_layTold 60 = .ok (.iaload, 1) := dAX10_layTold (60, (.iaload, 1)) (List.mem_of_getElem? (i := 39) rfl)
theorem dX10_layTold_61 : decode cX10_layTold 61 = .ok (.iastore, 1) := dAX10_layTold (61, (.iastore, 1)) (List.mem_of_getElem? (i := 40) rfl)
theorem dX10_layTold_62 : decode cX10_layTold 62 = .ok (.return_, 1) := dAX10_layTold (62, (.return_, 1)) (List.mem_of_getElem? (i := 41) rfl)
theorem kX10_layTold_20 : Cond.fieldLink RX10 20 "EveningVowModel" "\x72" "[I" ∈ wsX10_layTold := List.mem_of_getElem? (i := 1) rfl
theorem iX10_layTold_X10 : ∀ w ∈ u_ws RX10 TX10 35, w ∈ wsX10_layTold := fun w h => (List.mem_cons_of_mem _ (List.mem_append_right _ h))
set_option maxHeartbeats 4000000 in
set_option maxRecDepth 100000 in
theorem wX10_layTold_L2 {p : Program} {l : Launch} {e : Env} {s : State} {m : MethodId} {args : Array Value} {below : List Frame} {meth : Method} {c : Code} {g : GG} {A : Nat → Prop} (C0 : Cx p s m args meth c cX10_layTold 3 none RX10 wsX10_layTold g A) (a_t : Nat) (a_r1 : Nat) (p_t : Nat → Nat) (n : Nat) (o_t : Nat → Int32) (f_t_15 : Nat → Int32) (f_r1' : Nat → Int32) (K : (Nat → Int32) → Option ((Nat → Int32))) (hKx : ∀ (f_r1 : Nat → Int32) (H : Heap) (locs : List Loc) (ls : Array Slot), K f_r1 = some (f_r1') → va_P g.1 vwCl [oX10 a_t p_t o_t, aI g (p_t 15) 266 f_t_15, aI g a_r1 17 f_r1] H → va_D A [oX10 a_t p_t o_t, aI g (p_t 15) 266 f_t_15, aI g a_r1 17 f_r1] → va_S A s.heap H locs → lv_has ls 3 [(0, .ref a_t), (1, .ref a_r1)] → W p l e ({ frames := 0, cells := 0, slots := 0, locals := 0 } : Room) s m args below meth c H locs 0 0 (MQ below (EndV g [oX10 a_t p_t o_t, aI g (p_t 15) 266 f_t_15, aI g a_r1 17 f_r1'] A) args s 0 0 A) (F0 m 18 ls [])) : ∀ (k : Nat) (x2 : Int32) (f_r1 : Nat → Int32), fX10_layTold_L2 n K k x2 f_r1 = some (f_r1') → ∀ (H : Heap) (locs : List Loc) (ls : Array Slot), va_P g.1 vwCl [oX10 a_t p_t o_t, aI g (p_t 15) 266 f_t_15, aI g a_r1 17 f_r1] H → va_D A [oX10 a_t p_t o_t, aI g (p_t 15) 266 f_t_15, aI g a_r1 17 f_r1] → va_S A s.heap H locs → lv_has ls 3 [(0, .ref a_t), (1, .ref a_r1), (2, .int x2)] → W p l e ({ frames := 0, cells := 0, slots := 0, locals := 0 } : Room) s m args below meth c H locs 0 0 (MQ below (EndV g [oX10 a_t p_t o_t, aI g (p_t 15) 266 f_t_15, aI g a_r1 17 f_r1'] A) args s 0 0 A) (F0 m 2 ls []) := by
  obtain ⟨hx, hb, hml, hown, hts, hr, hlk, hK, hA, hSW⟩ := id C0
  intro k
  induction k with
  | zero =>
    intro x2 f_r1 hF
    exact absurd hF (by simp [fX10_layTold_L2])
  | succ k ih =>
    intro x2 f_r1 hF H locs ls hP hD hS hl
    rw [fX10_layTold_L2] at hF
    refine lv_iload_n hx hb dX10_layTold_2 rfl (lv_at hl 2 rfl) ?_
    refine lv_bipush (v := (17 : Int32)) hx hb dX10_layTold_3 (by decide) ?_
    refine lv_icmp_ge (tgt := 18) hx hb dX10_layTold_5 (by decide) (fun c_1 => ?_) (fun c_1 => ?_)
    · have hF := it_p c_1 hF
      exact hKx f_r1 _ _ _ hF (hP.sub [0, 1, 2] rfl) (hD.sub [0, 1, 2] rfl rfl) hS (lv_sub hl [0, 1] rfl)
    · have hF := it_n c_1 hF
      refine lv_aload_n hx hb dX10_layTold_8 rfl (lv_at hl 1 rfl) ?_
      refine lv_iload_n hx hb dX10_layTold_9 rfl (lv_at hl 2 rfl) ?_
      refine lv_iconst (v := (0 : Int32)) hx hb dX10_layTold_10 (by decide) ?_
      obtain ⟨h_2, hF⟩ := it_ck hF
      refine va_iast hx hb hK.1 hP hD hS 2 0 rfl rfl h_2 dX10_layTold_11 (fun H locs hP hD hS => ?_)
      have hP : va_P g.1 vwCl [oX10 a_t p_t o_t, aI g (p_t 15) 266 f_t_15, aI g a_r1 17 (upd f_r1 (x2).toNatClampNeg (0 : Int32))] H := hP
      have hD : va_D A [oX10 a_t p_t o_t, aI g (p_t 15) 266 f_t_15, aI g a_r1 17 (upd f_r1 (x2).toNatClampNeg (0 : Int32))] := hD
      refine lv_iinc (v := (x2 + (1 : Int32))) (lv' := [(2, .int (x2 + (1 : Int32))), (0, .ref a_t), (1, .ref a_r1)]) hx hb dX10_layTold_12 hl (k := 2) rfl rfl (by decide) rfl (fun ls hl => ?_)
      refine lv_goto (tgt := 2) hx hb dX10_layTold_15 (by decide) ?_
      exact ih (x2 + (1 : Int32)) (upd f_r1 (x2).toNatClampNeg (0 : Int32)) hF _ _ _ (hP.sub [0, 1, 2] rfl) (hD.sub [0, 1, 2] rfl rfl) hS (lv_sub hl [1, 2, 0] rfl)
set_option maxHeartbeats 4000000 in
set_option maxRecDepth 100000 in
theorem wX10_layTold_L20 {p : Program} {l : Launch} {e : Env} {s : State} {m : MethodId} {args : Array Value} {below : List Frame} {meth : Method} {c : Code} {g : GG} {A : Nat → Prop} (C0 : Cx p s m args meth c cX10_layTold 3 none RX10 wsX10_layTold g A) (a_t : Nat) (a_r1 : Nat) (p_t : Nat → Nat) (n : Nat) (o_t : Nat → Int32) (f_t_15 : Nat → Int32)  (f_r1' : Nat → Int32) (K : (Nat → Int32) → Option ((Nat → Int32))) (hKx : ∀ (f_r1 : Nat → Int32) (H : Heap) (locs : List Loc) (ls : Array Slot), K f_r1 = some (f_r1') → va_P g.1 vwCl [oX10 a_t p_t o_t, aI g (p_t 15) 266 f_t_15, aI g a_r1 17 f_r1] H → va_D A [oX10 a_t p_t o_t, aI g (p_t 15) 266 f_t_15, aI g a_r1 17 f_r1] → va_S A s.heap H locs → lv_has ls 3 [(0, .ref a_t), (1, .ref a_r1)] → W p l e ({ frames := 0, cells := 0, slots := 0, locals := 0 } : Room) s m args below meth c H locs 0 0 (MQ below (EndV g [oX10 a_t p_t o_t, aI g (p_t 15) 266 f_t_15, aI g a_r1 17 f_r1'] A) args s 0 0 A) (F0 m 52 ls [])) : ∀ (k : Nat) (x2 : Int32) (f_r1 : Nat → Int32), fX10_layTold_L20 n o_t f_t_15 K k x2 f_r1 = some (f_r1') → ∀ (H : Heap) (locs : List Loc) (ls : Array Slot), va_P g.1 vwCl [oX10 a_t p_t o_t, aI g (p_t 15) 266 f_t_15, aI g a_r1 17 f_r1] H → va_D A [oX10 a_t p_t o_t, aI g (p_t 15) 266 f_t_15, aI g a_r1 17 f_r1] → va_S A s.heap H locs → lv_has ls 3 [(0, .ref a_t), (1, .ref a_r1), (2, .int x2)] → W p l e ({ frames := 0, cells := 0, slots := 0, locals := 0 } : Room) s m args below meth c H locs 0 0 (MQ below (EndV g [oX10 a_t p_t o_t, aI g (p_t 15) 266 f_t_15, aI g a_r1 17 f_r1'] A) args s 0 0 A) (F0 m 20 ls []) := by
  obtain ⟨hx, hb, hml, hown, hts, hr, hlk, hK, hA, hSW⟩ := id C0
  intro k
  induction k with
  | zero =>
    intro x2 f_r1 hF
    exact absurd hF (by simp [fX10_layTold_L20])
  | succ k ih =>
    intro x2 f_r1 hF H locs ls hP hD hS hl
    rw [fX10_layTold_L20] at hF
    refine lv_iload_n hx hb dX10_layTold_20 rfl (lv_at hl 2 rfl) ?_
    refine lv_aload_n hx hb dX10_layTold_21 rfl (lv_at hl 0 rfl) ?_
    refine va_get (D := g.1) (ci := 10) (v := .ref (p_t 15)) (C := RX10) (T := TX10) (N := 35) hx hb hts iX10_layTold_X10 hown hK.1 hP 0 rfl rfl 15 (by decide) (hts _ kX10_layTold_20) (fun _ h9 => h9) rfl dX10_layTold_22 ?_
    refine lv_iconst (v := (3 : Int32)) hx hb dX10_layTold_25 (by decide) ?_
    refine va_iald_k (j := 3) hx hb hK.1 hP 1 0 rfl rfl (by unfold vp_in; decide) rfl dX10_layTold_26 ?_
    refine lv_icmp_ge (tgt := 52) hx hb dX10_layTold_27 (by decide) (fun c_3 => ?_) (fun c_3 => ?_)
    · have hF := it_p c_3 hF
      exact hKx f_r1 _ _ _ hF (hP.sub [0, 1, 2] rfl) (hD.sub [0, 1, 2] rfl rfl) hS (lv_sub hl [0, 1] rfl)
    · have hF := it_n c_3 hF
      refine lv_aload_n hx hb dX10_layTold_30 rfl (lv_at hl 1 rfl) ?_
      refine lv_iload_n hx hb dX10_layTold_31 rfl (lv_at hl 2 rfl) ?_
      refine lv_aload_n hx hb dX10_layTold_32 rfl (lv_at hl 0 rfl) ?_
      refine va_get (D := g.1) (ci := 10) (v := .ref (p_t 15)) (C := RX10) (T := TX10) (N := 35) hx hb hts iX10_layTold_X10 hown hK.1 hP 0 rfl rfl 15 (by decide) (hts _ kX10_layTold_20) (fun _ h9 => h9) rfl dX10_layTold_33 ?_
      refine lv_bipush (v := (9 : Int32)) hx hb dX10_layTold_36 (by decide) ?_
      refine lv_iconst (v := (4 : Int32)) hx hb dX10_layTold_38 (by decide) ?_
      refine lv_iload_n hx hb dX10_layTold_39 rfl (lv_at hl 2 rfl) ?_
      refine lv_imul hx hb dX10_layTold_40 ?_
      refine lv_iadd hx hb dX10_layTold_41 ?_
      refine lv_iconst (v := (1 : Int32)) hx hb dX10_layTold_42 (by decide) ?_
      refine lv_iadd hx hb dX10_layTold_43 ?_
      obtain ⟨h_4, hF⟩ := it_ck hF
      refine va_iald hx hb hK.1 hP 1 0 rfl rfl h_4 dX10_layTold_44 ?_
      obtain ⟨h_5, hF⟩ := it_ck hF
      refine va_iast hx hb hK.1 hP hD hS 2 0 rfl rfl h_5 dX10_layTold_45 (fun H locs hP hD hS => ?_)
      have hP : va_P g.1 vwCl [oX10 a_t p_t o_t, aI g (p_t 15) 266 f_t_15, aI g a_r1 17 (upd f_r1 (x2).toNatClampNeg (f_t_15 ((((9 : Int32) + ((4 : Int32) * x2)) + (1 : Int32))).toNatClampNeg))] H := hP
      have hD : va_D A [oX10 a_t p_t o_t, aI g (p_t 15) 266 f_t_15, aI g a_r1 17 (upd f_r1 (x2).toNatClampNeg (f_t_15 ((((9 : Int32) + ((4 : Int32) * x2)) + (1 : Int32))).toNatClampNeg))] := hD
      refine lv_iinc (v := (x2 + (1 : Int32))) (lv' := [(2, .int (x2 + (1 : Int32))), (0, .ref a_t), (1, .ref a_r1)]) hx hb dX10_layTold_46 hl (k := 2) rfl rfl (by decide) rfl (fun ls hl => ?_)
      refine lv_goto (tgt := 20) hx hb dX10_layTold_49 (by decide) ?_
      exact ih (x2 + (1 : Int32)) (upd f_r1 (x2).toNatClampNeg (f_t_15 ((((9 : Int32) + ((4 : Int32) * x2)) + (1 : Int32))).toNatClampNeg)) hF _ _ _ (hP.sub [0, 1, 2] rfl) (hD.sub [0, 1, 2] rfl rfl) hS (lv_sub hl [1, 2, 0] rfl)
set_option maxHeartbeats 4000000 in
set_option maxRecDepth 100000 in
theorem mX10_layTold (l : Launch) (g : GG) (a_t : Nat) (a_r1 : Nat) (p_t : Nat → Nat) (n : Nat) (o_t : Nat → Int32) (f_t_15 : Nat → Int32) (f_r1 : Nat → Int32) (f_r1' : Nat → Int32) (hF : fX10_layTold n o_t f_t_15 f_r1 = some (f_r1')) : MV l g yX10_layTold wsX10_layTold ({ frames := 0, cells := 0, slots := 0, locals := 0 } : Room) [.ref a_t, .ref a_r1] [oX10 a_t p_t o_t, aI g (p_t 15) 266 f_t_15, aI g a_r1 17 f_r1] [oX10 a_t p_t o_t, aI g (p_t 15) 266 f_t_15, aI g a_r1 17 f_r1'] := by
  refine MV.of (cc := cX10_layTold) (maxL := 3) (own := RX10) rfl rfl (by decide) (Nat.le_of_ble_eq_true rfl) ?_
  intro p e s m args below meth c A C0 hP hD hS ls hl
  obtain ⟨hx, hb, hml, hown, hts, hr, hlk, hK, hA, hSW⟩ := id C0
  have hl : lv_has ls 3 [(0, .ref a_t), (1, .ref a_r1)] := hl
  rw [fX10_layTold] at hF
  refine lv_iconst (v := (0 : Int32)) hx hb dX10_layTold_0 (by decide) ?_
  refine lv_istore_n (lv' := [(2, .int (0 : Int32)), (0, .ref a_t), (1, .ref a_r1)]) hx hb dX10_layTold_1 rfl hl (by decide) rfl (fun ls hl => ?_)
  refine wX10_layTold_L2 C0 a_t a_r1 p_t n o_t f_t_15 f_r1' _ ?_ n (0 : Int32) f_r1 hF _ _ _ (hP.sub [0, 1, 2] rfl) (hD.sub [0, 1, 2] rfl rfl) hS (lv_sub hl [1, 2, 0] rfl)
  · intro f_r1_x2 H locs ls hF hP hD hS hl
    refine lv_iconst (v := (0 : Int32)) hx hb dX10_layTold_18 (by decide) ?_
    refine lv_istore_n (lv' := [(2, .int (0 : Int32)), (0, .ref a_t), (1, .ref a_r1)]) hx hb dX10_layTold_19 rfl hl (by decide) rfl (fun ls hl => ?_)
    refine wX10_layTold_L20 C0 a_t a_r1 p_t n o_t f_t_15 f_r1' _ ?_ n (0 : Int32) f_r1_x2 hF _ _ _ (hP.sub [0, 1, 2] rfl) (hD.sub [0, 1, 2] rfl rfl) hS (lv_sub hl [1, 2, 0] rfl)
    · intro f_r1_x20 H locs ls hF hP hD hS hl
      refine lv_aload_n hx hb dX10_layTold_52 rfl (lv_at hl 1 rfl) ?_
      refine lv_bipush (v := (15 : Int32)) hx hb dX10_layTold_53 (by decide) ?_
      refine lv_aload_n hx hb dX10_layTold_55 rfl (lv_at hl 0 rfl) ?_
      refine va_get (D := g.1) (ci := 10) (v := .ref (p_t 15)) (C := RX10) (T := TX10) (N := 35) hx hb hts iX10_layTold_X10 hown hK.1 hP 0 rfl rfl 15 (by decide) (hts _ kX10_layTold_20) (fun _ h9 => h9) rfl dX10_layTold_56 ?_
      refine lv_iconst (v := (0 : Int32)) hx hb dX10_layTold_59 (by decide) ?_
      refine va_iald_k (j := 0) hx hb hK.1 hP 1 0 rfl rfl (by unfold vp_in; decide) rfl dX10_layTold_60 ?_
      refine va_iast hx hb hK.1 hP hD hS 2 0 rfl rfl (by unfold vp_in; decide) dX10_layTold_61 (fun H locs hP hD hS => ?_)
      have hP : va_P g.1 vwCl [oX10 a_t p_t o_t, aI g (p_t 15) 266 f_t_15, aI g a_r1 17 (upd f_r1_x20 15 (f_t_15 0))] H := hP
      have hD : va_D A [oX10 a_t p_t o_t, aI g (p_t 15) 266 f_t_15, aI g a_r1 17 (upd f_r1_x20 15 (f_t_15 0))] := hD
      cases hF
      exact ret_v C0 hP hD hS [0, 1, 2] rfl rfl rfl dX10_layTold_62

theorem dAX10_evening : ∀ q ∈ ([(0, (.aload_n 0, 1)), (1, (.invokevirtual 159, 3)), (4, (.iload_n 1, 1)), (5, (.iconst 0, 1)), (6, (.aload_n 0, 1)), (7, (.getfield 59, 3)), (10, (.invokestatic 144, 3)), (13, (.ifCond .ne 9, 3)), (16, (.aload_n 0, 1)), (17, (.iconst 2, 1)), (18, (.invokevirtual 162, 3)), (21, (.ireturn, 1)), (22, (.aload_n 0, 1)), (23, (.iconst 0, 1)), (24, (.putfield 59, 3)), (27, (.aload_n 0, 1)), (28, (.iconst 0, 1)), (29, (.putfield 95, 3)), (32, (.aload_n 0, 1)), (33, (.iconst 0, 1)), (34, (.putfield 91, 3)), (37, (.iconst 0, 1)), (38, (.istore_n 2, 1)), (39, (.iload_n 2, 1)), (40, (.sipush 266, 3)), (43, (.if_icmp .ge 16, 3)), (46, (.aload_n 0, 1)), (47, (.getfield 23, 3)), (50, (.iload_n 2, 1)), (51, (.iconst 0, 1)), (52, (.iastore, 1)), (53, (.iinc 2 1, 3)), (56, (.goto (-17), 3)), (59, (.aload_n 0, 1)), (60, (.iload_n 1, 1)), (61, (.putfield 62, 3)), (64, (.aload_n 0, 1)), (65, (.iconst 0, 1)), (66, (.putfield 65, 3)), (69, (.aload_n 0, 1)), (70, (.invokevirtual 112, 3)), (73, (.aload_n 0, 1)), (74, (.invokevirtual 165, 3)), (77, (.aload_n 0, 1)), (78, (.getfield 91, 3)), (81, (.ifCond .ne 23, 3)), (84, (.aload_n 0, 1)), (85, (.getfield 81, 3)), (88, (.bipush 59, 2)), (90, (.if_icmp .ne 14, 3)), (93, (.aload_n 0, 1)), (94, (.invokevirtual 112, 3)), (97, (.aload_n 0, 1)), (98, (.invokevirtual 165, 3)), (101, (.goto (-24), 3)), (104, (.aload_n 0, 1)), (105, (.getfield 91, 3)), (108, (.ifCond .ne 19, 3)), (111, (.aload_n 0, 1)), (112, (.getfield 81, 3)), (115, (.ifCond .eq 12, 3)), (118, (.aload_n 0, 1)), (119, (.iconst 1, 1)), (120, (.aload_n 0, 1)), (121, (.getfield 72, 3)), (124, (.invokevirtual 118, 3)), (127, (.aload_n 0, 1)), (128, (.getfield 91, 3)), (131, (.ifCond .ne 31, 3)), (134, (.aload_n 0, 1)), (135, (.getfield 23, 3)), (138, (.iconst 1, 1)), (139, (.iaload, 1)), (140, (.ifCond .eq 12, 3)), (143, (.aload_n 0, 1)), (144, (.getfield 23, 3)), (147, (.iconst 3, 1)), (148, (.iaload, 1)), (149, (.ifCond .ne 13, 3)), (152, (.aload_n 0, 1)), (153, (.bipush 6, 2)), (155, (.aload_n 0, 1)), (156, (.getfield 72, 3)), (159, (.invokevirtual 118, 3)), (162, (.aload_n 0, 1)), (163, (.getfield 91, 3)), (166, (.ifCond .eq 9, 3)), (169, (.aload_n 0, 1)), (170, (.iconst 4, 1)), (171, (.invokevirtual 162, 3)), (174, (.ireturn, 1)), (175, (.aload_n 0, 1)), (176, (.getfield 23, 3)), (179, (.iconst 0, 1)), (180, (.aload_n 0, 1)), (181, (.getfield 20, 3)), (184, (.iconst 0, 1)), (185, (.sipush 266, 3)), (188, (.invokestatic 168, 3)), (191, (.aload_n 0, 1)), (192, (.aload_n 0, 1)), (193, (.getfield 26, 3)), (196, (.invokevirtual 172, 3)), (199, (.aload_n 0, 1)), (200, (.iconst 1, 1)), (201, (.putfield 176, 3)), (204, (.aload_n 0, 1)), (205, (.iconst 0, 1)), (206, (.putfield 179, 3)), (209, (.aload_n 0, 1)), (210, (.iconst 0, 1)), (211, (.putfield 182, 3)), (214, (.aload_n 0, 1)), (215, (.getfield 20, 3)), (218, (.iconst 3, 1)), (219, (.iaload, 1)), (220, (.ireturn, 1))] : List (Nat × (Instr × Nat))), decode cX10_evening q.1 = .ok q.2 := by decide +kernel
theorem dX10_evening_0 : decode cX10_evening 0 = .ok (.aload_n 0, 1) := dAX10_evening (0, (.aload_n 0, 1)) (List.mem_of_getElem? (i := 0) rfl)
theorem dX10_evening_1 : decode cX10_evening 1 = .ok (.invokevirtual 159, 3) := dAX10_evening (1, (.invokevirtual 159, 3)) (List.mem_of_getElem? (i := 1) rfl)
theorem dX10_evening_4 : decode cX10_evening 4 = .ok (.iload_n 1, 1) := dAX10_evening (4, (.iload_n 1, 1)) (List.mem_of_getElem? (i := 2) rfl)
theorem dX10_evening_5 : decode cX10_evening 5 = .ok (.iconst 0, 1) := dAX10_evening (5, (.iconst 0, 1)) (List.mem_of_getElem? (i := 3) rfl)
theorem dX10_evening_6 : decode cX10_evening 6 = .ok (.aload_n 0, 1) := dAX10_evening (6, (.aload_n 0, 1)) (List.mem_of_getElem? (i := 4) rfl)
theorem dX10_evening_7 : decode cX10_evening 7 = .ok (.getfield 59, 3) := dAX10_evening (7, (.getfield 59, 3)) (List.mem_of_getElem? (i := 5) rfl)
theorem dX10_evening_10 : decode cX10_evening 10 = .ok (.invokestatic 144, 3) := dAX10_evening (10, (.invokestatic 144, 3)) (List.mem_of_getElem? (i := 6) rfl)
theorem dX10_evening_13 : decode cX10_evening 13 = .ok (.ifCond .ne 9, 3) := dAX10_evening (13, (.ifCond .ne 9, 3)) (List.mem_of_getElem? (i := 7) rfl)
theorem dX10_evening_16 : decode cX10_evening 16 = .ok (.aload_n 0, 1) := dAX10_evening (16, (.aload_n 0, 1)) (List.mem_of_getElem? (i := 8) rfl)
theorem dX10_evening_17 : decode cX10_evening 17 = .ok (.iconst 2, 1) := dAX10_evening (17, (.iconst 2, 1)) (List.mem_of_getElem? (i := 9) rfl)
theorem dX10_evening_18 : decode cX10_evening 18 = .ok (.invokevirtual 162, 3) := dAX10_evening (18, (.invokevirtual 162, 3)) (List.mem_of_getElem? (i := 10) rfl)
theorem dX10_evening_21 : decode cX10_evening 21 = .ok (.ireturn, 1) := dAX10_evening (21, (.ireturn, 1)) (List.mem_of_getElem? (i := 11) rfl)
theorem dX10_evening_22 : decode cX10_evening 22 = .ok (.aload_n 0, 1) := dAX10_evening (22, (.aload_n 0, 1)) (List.mem_of_getElem? (i := 12) rfl)
theorem dX10_evening_23 : decode cX10_evening 23 = .ok (.iconst 0, 1) := dAX10_evening (23, (.iconst 0, 1)) (List.mem_of_getElem? (i := 13) rfl)
theorem dX10_evening_24 : decode cX10_evening 24 = .ok (.putfield 59, 3) := dAX10_evening (24, (.putfield 59, 3)) (List.mem_of_getElem? (i := 14) rfl)
theorem dX10_evening_27 : decode cX10_evening 27 = .ok (.aload_n 0, 1) := dAX10_evening (27, (.aload_n 0, 1)) (List.mem_of_getElem? (i := 15) rfl)
theorem dX10_evening_28 : decode cX10_evening 28 = .ok (.iconst 0, 1) := dAX10_evening (28, (.iconst 0, 1)) (List.mem_of_getElem? (i := 16) rfl)
theorem dX10_evening_29 : decode cX10_evening 29 = .ok (.putfield 95, 3) := dAX10_evening (29, (.putfield 95, 3)) (List.mem_of_getElem? (i := 17) rfl)
theorem dX10_evening_32 : decode cX10_evening 32 = .ok (.aload_n 0, 1) := dAX10_evening (32, (.aload_n 0, 1)) (List.mem_of_getElem? (i := 18) rfl)
theorem dX10_evening_33 : decode cX10_evening 33 = .ok (.iconst 0, 1) := dAX10_evening (33, (.iconst 0, 1)) (List.mem_of_getElem? (i := 19) rfl)
theorem dX10_evening_34 : decode cX10_evening 34 = .ok (.putfield 91, 3) := dAX10_evening (34, (.putfield 91, 3)) (List.mem_of_getElem? (i := 20) rfl)
theorem dX10_evening_37 : decode cX10_evening 37 = .ok (.iconst 0, 1) := dAX10_evening (37, (.iconst 0, 1)) (List.mem_of_getElem? (i := 21) rfl)
theorem dX10_evening_38 : decode cX10_evening 38 = .ok (.istore_n 2, 1) := dAX10_evening (38, (.istore_n 2, 1)) (List.mem_of_getElem? (i := 22) rfl)
theorem dX10_evening_39 : decode cX10_evening 39 = .ok (.iload_n 2, 1) := dAX10_evening (39, (.iload_n 2, 1)) (List.mem_of_getElem? (i := 23) rfl)
theorem dX10_evening_40 : decode cX10_evening 40 = .ok (.sipush 266, 3) := dAX10_evening (40, (.sipush 266, 3)) (List.mem_of_getElem? (i := 24) rfl)
theorem dX10_evening_43 : decode cX10_evening 43 = .ok (.if_icmp .ge 16, 3) := dAX10_evening (43, (.if_icmp .ge 16, 3)) (List.mem_of_getElem? (i := 25) rfl)
theorem dX10_evening_46 : decode cX10_evening 46 = .ok (.aload_n 0, 1) := dAX10_evening (46, (.aload_n 0, 1)) (List.mem_of_getElem? (i := 26) rfl)
theorem dX10_evening_47 : decode cX10_evening 47 = .ok (.getfield 23, 3) := dAX10_evening (47, (.getfield 23, 3)) (List.mem_of_getElem? (i := 27) rfl)
theorem dX10_evening_50 : decode cX10_evening 50 = .ok (.iload_n 2, 1) := dAX10_evening (50, (.iload_n 2, 1)) (List.mem_of_getElem? (i := 28) rfl)
theorem dX10_evening_51 : decode cX10_evening 51 = .ok (.iconst 0, 1) := dAX10_evening (51, (.iconst 0, 1)) (List.mem_of_getElem? (i := 29) rfl)
theorem dX10_evening_52 : decode cX10_evening 52 = .ok (.iastore, 1) := dAX10_evening (52, (.iastore, 1)) (List.mem_of_getElem? (i := 30) rfl)
theorem dX10_evening_53 : decode cX10_evening 53 = .ok (.iinc 2 1, 3) := dAX10_evening (53, (.iinc 2 1, 3)) (List.mem_of_getElem? (i := 31) rfl)
theorem dX10_evening_56 : decode cX10_evening 56 = .ok (.goto (-17), 3) := dAX10_evening (56, (.goto (-17), 3)) (List.mem_of_getElem? (i := 32) rfl)
theorem dX10_evening_59 : decode cX10_evening 59 = .ok (.aload_n 0, 1) := dAX10_evening (59, (.aload_n 0, 1)) (List.mem_of_getElem? (i := 33) rfl)
theorem dX10_evening_60 : decode cX10_evening 60 = .ok (.iload_n 1, 1) := dAX10_evening (60, (.iload_n 1, 1)) (List.mem_of_getElem? (i := 34) rfl)
theorem dX10_evening_61 : decode cX10_evening 61 = .ok (.putfield 62, 3) := dAX10_evening (61, (.putfield 62, 3)) (List.mem_of_getElem? (i := 35) rfl)
theorem dX10_evening_64 : decode cX10_evening 64 = .ok (.aload_n 0, 1) := dAX10_evening (64, (.aload_n 0, 1)) (List.mem_of_getElem? (i := 36) rfl)
theorem dX10_evening_65 : decode cX10_evening 65 = .ok (.iconst 0, 1) := dAX10_evening (65, (.iconst 0, 1)) (List.mem_of_getElem? (i := 37) rfl)
theorem dX10_evening_66 : decode cX10_evening 66 = .ok (.putfield 65, 3) := dAX10_evening (66, (.putfield 65, 3)) (List.mem_of_getElem? (i := 38) rfl)
theorem dX10_evening_69 : decode cX10_evening 69 = .ok (.aload_n 0, 1) := dAX10_evening (69, (.aload_n 0, 1)) (List.mem_of_getElem? (i := 39) rfl)
theorem dX10_evening_70 : decode cX10_evening 70 = .ok (.invokevirtual 112, 3) := dAX10_evening (70, (.invokevirtual 112, 3)) (List.mem_of_getElem? (i := 40) rfl)
theorem dX10_evening_73 : decode cX10_evening 73 = .ok (.aload_n 0, 1) := dAX10_evening (73, (.aload_n 0, 1)) (List.mem_of_getElem? (i := 41) rfl)
theorem dX10_evening_74 : decode cX10_evening 74 = .ok (.invokevirtual 165, 3) := dAX10_evening (74, (.invokevirtual 165, 3)) (List.mem_of_getElem? (i := 42) rfl)
theorem dX10_evening_77 : decode cX10_evening 77 = .ok (.aload_n 0, 1) := dAX10_evening (77, (.aload_n 0, 1)) (List.mem_of_getElem? (i := 43) rfl)
theorem dX10_evening_78 : decode cX10_evening 78 = .ok (.getfield 91, 3) := dAX10_evening (78, (.getfield 91, 3)) (List.mem_of_getElem? (i := 44) rfl)
theorem dX10_evening_81 : decode cX10_evening 81 = .ok (.ifCond .ne 23, 3) := dAX10_evening (81, (.ifCond .ne 23, 3)) (List.mem_of_getElem? (i := 45) rfl)
theorem dX10_evening_84 : decode cX10_evening 84 = .ok (.aload_n 0, 1) := dAX10_evening (84, (.aload_n 0, 1)) (List.mem_of_getElem? (i := 46) rfl)
theorem dX10_evening_85 : decode cX10_evening 85 = .ok (.getfield 81, 3) := dAX10_evening (85, (.getfield 81, 3)) (List.mem_of_getElem? (i := 47) rfl)
theorem dX10_evening_88 : decode cX10_evening 88 = .ok (.bipush 59, 2) := dAX10_evening (88, (.bipush 59, 2)) (List.mem_of_getElem? (i := 48) rfl)
theorem dX10_evening_90 : decode cX10_evening 90 = .ok (.if_icmp .ne 14, 3) := dAX10_evening (90, (.if_icmp .ne 14, 3)) (List.mem_of_getElem? (i := 49) rfl)
theorem dX10_evening_93 : decode cX10_evening 93 = .ok (.aload_n 0, 1) := dAX10_evening (93, (.aload_n 0, 1)) (List.mem_of_getElem? (i := 50) rfl)
theorem dX10_evening_94 : decode cX10_evening 94 = .ok (.invokevirtual 112, 3) := dAX10_evening (94, (.invokevirtual 112, 3)) (List.mem_of_getElem? (i := 51) rfl)
theorem dX10_evening_97 : decode cX10_evening 97 = .ok (.aload_n 0, 1) := dAX10_evening (97, (.aload_n 0, 1)) (List.mem_of_getElem? (i := 52) rfl)
theorem dX10_evening_98 : decode cX10_evening 98 = .ok (.invokevirtual 165, 3) := dAX10_evening (98, (.invokevirtual 165, 3)) (List.mem_of_getElem? (i := 53) rfl)
theorem dX10_evening_101 : decode cX10_evening 101 = .ok (.goto (-24), 3) := dAX10_evening (101, (.goto (-24), 3)) (List.mem_of_getElem? (i := 54) rfl)
theorem dX10_evening_104 : decode cX10_evening 104 = .ok (.aload_n 0, 1) := dAX10_evening (104, (.aload_n 0, 1)) (List.mem_of_getElem? (i := 55) rfl)
theorem dX10_evening_105 : decode cX10_evening 105 = .ok (.getfield 91, 3) := dAX10_evening (105, (.getfield 91, 3)) (List.mem_of_getElem? (i := 56) rfl)
theorem dX10_evening_108 : decode cX10_evening 108 = .ok (.ifCond .ne 19, 3) := dAX10_evening (108, (.ifCond .ne 19, 3)) (List.mem_of_getElem? (i := 57) rfl)
theorem dX10_evening_111 : decode cX10_evening 111 = .ok (.aload_n 0, 1) := dAX10_evening (111, (.aload_n 0, 1)) (List.mem_of_getElem? (i := 58) rfl)
theorem dX10_evening_112 : decode cX10_evening 112 = .ok (.getfield 81, 3) := dAX10_evening (112, (.getfield 81, 3)) (List.mem_of_getElem? (i := 59) rfl)
theorem dX10_evening_115 : decode cX10_evening 115 = .ok (.ifCond .eq 12, 3) := dAX10_evening (115, (.ifCond .eq 12, 3)) (List.mem_of_getElem? (i := 60) rfl)
theorem dX10_evening_118 : decode cX10_evening 118 = .ok (.aload_n 0, 1) := dAX10_evening (118, (.aload_n 0, 1)) (List.mem_of_getElem? (i := 61) rfl)
theorem dX10_evening_119 : decode cX10_evening 119 = .ok (.iconst 1, 1) := dAX10_evening (119, (.iconst 1, 1)) (List.mem_of_getElem? (i := 62) rfl)
theorem dX10_evening_120 : decode cX10_evening 120 = .ok (.aload_n 0, 1) := dAX10_evening (120, (.aload_n 0, 1)) (List.mem_of_getElem? (i := 63) rfl)
theorem dX10_evening_121 : decode cX10_evening 121 = .ok (.getfield 72, 3) := dAX10_evening (121, (.getfield 72, 3)) (List.mem_of_getElem? (i := 64) rfl)
theorem dX10_evening_124 : decode cX10_evening 124 = .ok (.invokevirtual 118, 3) := dAX10_evening (124, (.invokevirtual 118, 3)) (List.mem_of_getElem? (i := 65) rfl)
theorem dX10_evening_127 : decode cX10_evening 127 = .ok (.aload_n 0, 1) := dAX10_evening (127, (.aload_n 0, 1)) (List.mem_of_getElem? (i := 66) rfl)
theorem dX10_evening_128 : decode cX10_evening 128 = .ok (.getfield 91, 3) := dAX10_evening (128, (.getfield 91, 3)) (List.mem_of_getElem? (i := 67) rfl)
theorem dX10_evening_131 : decode cX10_evening 131 = .ok (.ifCond .ne 31, 3) := dAX10_evening (131, (.ifCond .ne 31, 3)) (List.mem_of_getElem? (i := 68) rfl)
theorem dX10_evening_134 : decode cX10_evening 134 = .ok (.aload_n 0, 1) := dAX10_evening (134, (.aload_n 0, 1)) (List.mem_of_getElem? (i := 69) rfl)
theorem dX10_evening_135 : decode cX10_evening 135 = .ok (.getfield 23, 3) := dAX10_evening (135, (.getfield 23, 3)) (List.mem_of_getElem? (i := 70) rfl)
theorem dX10_evening_138 : decode cX10_evening 138 = .ok (.iconst 1, 1) := dAX10_evening (138, (.iconst 1, 1)) (List.mem_of_getElem? (i := 71) rfl)
theorem dX10_evening_139 : decode cX10_evening 139 = .ok (.iaload, 1) := dAX10_evening (139, (.iaload, 1)) (List.mem_of_getElem? (i := 72) rfl)
theorem dX10_evening_140 : decode cX10_evening 140 = .ok (.ifCond .eq 12, 3) := dAX10_evening (140, (.ifCond .eq 12, 3)) (List.mem_of_getElem? (i := 73) rfl)
theorem dX10_evening_143 : decode cX10_evening 143 = .ok (.aload_n 0, 1) := dAX10_evening (143, (.aload_n 0, 1)) (List.mem_of_getElem? (i := 74) rfl)
theorem dX10_evening_144 : decode cX10_evening 144 = .ok (.getfield 23, 3) := dAX10_evening (144, (.getfield 23, 3)) (List.mem_of_getElem? (i := 75) rfl)
theorem dX10_evening_147 : decode cX10_evening 147 = .ok (.iconst 3, 1) := dAX10_evening (147, (.iconst 3, 1)) (List.mem_of_getElem? (i := 76) rfl)
theorem dX10_evening_148 : decode cX10_evening 148 = .ok (.iaload, 1) := dAX10_evening (148, (.iaload, 1)) (List.mem_of_getElem? (i := 77) rfl)
theorem dX10_evening_149 : decode cX10_evening 149 = .ok (.ifCond .ne 13, 3) := dAX10_evening (149, (.ifCond .ne 13, 3)) (List.mem_of_getElem? (i := 78) rfl)
theorem dX10_evening_152 : decode cX10_evening 152 = .ok (.aload_n 0, 1) := dAX10_evening (152, (.aload_n 0, 1)) (List.mem_of_getElem? (i := 79) rfl)
theorem dX10_evening_153 : decode cX10_evening 153 = .ok (.bipush 6, 2) := dAX10_evening (153, (.bipush 6, 2)) (List.mem_of_getElem? (i := 80) rfl)
theorem dX10_evening_155 : decode cX10_evening 155 = .ok (.aload_n 0, 1) := dAX10_evening (155, (.aload_n 0, 1)) (List.mem_of_getElem? (i := 81) rfl)
theorem dX10_evening_156 : decode cX10_evening 156 = .ok (.getfield 72, 3) := dAX10_evening (156, (.getfield 72, 3)) (List.mem_of_getElem? (i := 82) rfl)
theorem dX10_evening_159 : decode cX10_evening 159 = .ok (.invokevirtual 118, 3) := dAX10_evening (159, (.invokevirtual 118, 3)) (List.mem_of_getElem? (i := 83) rfl)
theorem dX10_evening_162 : decode cX10_evening 162 = .ok (.aload_n 0, 1) := dAX10_evening (162, (.aload_n 0, 1)) (List.mem_of_getElem? (i := 84) rfl)
theorem dX10_evening_163 : decode cX10_evening 163 = .ok (.getfield 91, 3) := dAX10_evening (163, (.getfield 91, 3)) (List.mem_of_getElem? (i := 85) rfl)
theorem dX10_evening_166 : decode cX10_evening 166 = .ok (.ifCond .eq 9, 3) := dAX10_evening (166, (.ifCond .eq 9, 3)) (List.mem_of_getElem? (i := 86) rfl)
theorem dX10_evening_169 : decode cX10_evening 169 = .ok (.aload_n 0, 1) := dAX10_evening (169, (.aload_n 0, 1)) (List.mem_of_getElem? (i := 87) rfl)
theorem dX10_evening_170 : decode cX10_evening 170 = .ok (.iconst 4, 1) := dAX10_evening (170, (.iconst 4, 1)) (List.mem_of_getElem? (i := 88) rfl)
theorem dX10_evening_171 : decode cX10_evening 171 = .ok (.invokevirtual 162, 3) := dAX10_evening (171, (.invokevirtual 162, 3)) (List.mem_of_getElem? (i := 89) rfl)
theorem dX10_evening_174 : decode cX10_evening 174 = .ok (.ireturn, 1) := dAX10_evening (174, (.ireturn, 1)) (List.mem_of_getElem? (i := 90) rfl)
theorem dX10_evening_175 : decode cX10_evening 175 = .ok (.aload_n 0, 1) := dAX10_evening (175, (.aload_n 0, 1)) (List.mem_of_getElem? (i := 91) rfl)
theorem dX10_evening_176 : decode cX10_evening 176 = .ok (.getfield 23, 3) := dAX10_evening (176, (.getfield 23, 3)) (List.mem_of_getElem? (i := 92) rfl)
theorem dX10_evening_179 : decode cX10_evening 179 = .ok (.iconst 0, 1) := dAX10_evening (179, (.iconst 0, 1)) (List.mem_of_getElem? (i := 93) rfl)
theorem dX10_evening_180 : decode cX10_evening 180 = .ok (.aload_n 0, 1) := dAX10_evening (180, (.aload_n 0, 1)) (List.mem_of_getElem? (i := 94) rfl)
theorem dX10_evening_181 : decode cX10_evening 181 = .ok (.getfield 20, 3) := dAX10_evening (181, (.getfield 20, 3)) (List.mem_of_getElem? (i := 95) rfl)
theorem dX10_evening_184 : decode cX10_evening 184 = .ok (.iconst 0, 1) := dAX10_evening (184, (.iconst 0, 1)) (List.mem_of_getElem? (i := 96) rfl)
theorem dX10_evening_185 : decode cX10_evening 185 = .ok (.sipush 266, 3) := dAX10_evening (185, (.sipush 266, 3)) (List.mem_of_getElem? (i := 97) rfl)
theorem dX10_evening_188 : decode cX10_evening 188 = .ok (.invokestatic 168, 3) := dAX10_evening (188, (.invokestatic 168, 3)) (List.mem_of_getElem? (i := 98) rfl)
theorem dX10_evening_191 : decode cX10_evening 191 = .ok (.aload_n 0, 1) := dAX10_evening (191, (.aload_n 0, 1)) (List.mem_of_getElem? (i := 99) rfl)
theorem dX10_evening_192 : decode cX10_evening 192 = .ok (.aload_n 0, 1) := dAX10_evening (192, (.aload_n 0, 1)) (List.mem_of_getElem? (i := 100) rfl)
theorem dX10_evening_193 : decode cX10_evening 193 = .ok (.getfield 26, 3) := dAX10_evening (193, (.getfield 26, 3)) (List.mem_of_getElem? (i := 101) rfl)
theorem dX10_evening_196 : decode cX10_evening 196 = .ok (.invokevirtual 172, 3) := dAX10_evening (196, (.invokevirtual 172, 3)) (List.mem_of_getElem? (i := 102) rfl)
theorem dX10_evening_199 : decode cX10_evening 199 = .ok (.aload_n 0, 1) := dAX10_evening (199, (.aload_n 0, 1)) (List.mem_of_getElem? (i := 103) rfl)
theorem dX10_evening_200 : decode cX10_evening 200 = .ok (.iconst 1, 1) := dAX10_evening (200, (.iconst 1, 1)) (List.mem_of_getElem? (i := 104) rfl)
theorem dX10_evening_201 : decode cX10_evening 201 = .ok (.putfield 176, 3) := dAX10_evening (201, (.putfield 176, 3)) (List.mem_of_getElem? (i := 105) rfl)
theorem dX10_evening_204 : decode cX10_evening 204 = .ok (.aload_n 0, 1) := dAX10_evening (204, (.aload_n 0, 1)) (List.mem_of_getElem? (i := 106) rfl)
theorem dX10_evening_205 : decode cX10_evening 205 = .ok (.iconst 0, 1) := dAX10_evening (205, (.iconst 0, 1)) (List.mem_of_getElem? (i := 107) rfl)
theorem dX10_evening_206 : decode cX10_evening 206 = .ok (.putfield 179, 3) := dAX10_evening (206, (.putfield 179, 3)) (List.mem_of_getElem? (i := 108) rfl)
theorem dX10_evening_209 : decode cX10_evening 209 = .ok (.aload_n 0, 1) := dAX10_evening (209, (.aload_n 0, 1)) (List.mem_of_getElem? (i := 109) rfl)
theorem dX10_evening_210 : decode cX10_evening 210 = .ok (.iconst 0, 1) := dAX10_evening (210, (.iconst 0, 1)) (List.mem_of_getElem? (i := 110) rfl)
theorem dX10_evening_211 : decode cX10_evening 211 = .ok (.putfield 182, 3) := dAX10_evening (211, (.putfield 182, 3)) (List.mem_of_getElem? (i := 111) rfl)
theorem dX10_evening_214 : decode cX10_evening 214 = .ok (.aload_n 0, 1) := dAX10_evening (214, (.aload_n 0, 1)) (List.mem_of_getElem? (i := 112) rfl)
theorem dX10_evening_215 : decode cX10_evening 215 = .ok (.getfield 20, 3) := dAX10_evening (215, (.getfield 20, 3)) (List.mem_of_getElem? (i := 113) rfl)
theorem dX10_evening_218 : decode cX10_evening 218 = .ok (.iconst 3, 1) := dAX10_evening (218, (.iconst 3, 1)) (List.mem_of_getElem? (i := 114) rfl)
theorem dX10_evening_219 : decode cX10_evening 219 = .ok (.iaload, 1) := dAX10_evening (219, (.iaload, 1)) (List.mem_of_getElem? (i := 115) rfl)
theorem dX10_evening_220 : decode cX10_evening 220 = .ok (.ireturn, 1) := dAX10_evening (220, (.ireturn, 1)) (List.mem_of_getElem? (i := 116) rfl)
set_option maxRecDepth 20000 in
theorem ggX10_evening_X10_good : GoodIn wsX10_evening wsX10_good := goodIn_r _ [18, 19, 20, 183, 184, 185, 186, 187, 188, 189, 190, 191, 192, 193, 194, 195, 196, 197, 198, 199, 200, 201, 202, 203, 204, 205, 206, 207, 208, 209, 210, 211, 212, 213, 214, 215, 216, 217] rfl (by decide +kernel)
set_option maxRecDepth 20000 in
theorem gX10_evening_X10_good : GoodIn wsX10_evening (wsV RX10 159 RX10 yX10_good wsX10_good) := goodIn_app (goodIn_of _ (by decide +kernel)) ggX10_evening_X10_good
set_option maxRecDepth 20000 in
theorem ggX10_evening_X10_in : GoodIn wsX10_evening wsX10_in := goodIn_r _ [23] rfl (by decide +kernel)
set_option maxRecDepth 20000 in
theorem gX10_evening_X10_in : GoodIn wsX10_evening (va_wsS RX10 144 yX10_in wsX10_in) := goodIn_app (goodIn_of _ (by decide +kernel)) ggX10_evening_X10_in
set_option maxRecDepth 20000 in
theorem ggX10_evening_X10_no : GoodIn wsX10_evening wsX10_no := goodIn_r _ [27, 20, 183, 184, 185, 186, 187, 188, 189, 190, 191, 192, 193, 194, 195, 196, 197, 198, 199, 200, 201, 202, 203, 204, 205, 206, 207, 208, 209, 210, 211, 212, 213, 214, 215, 216, 217] rfl (by decide +kernel)
set_option maxRecDepth 20000 in
theorem gX10_evening_X10_no : GoodIn wsX10_evening (wsV RX10 162 RX10 yX10_no wsX10_no) := goodIn_app (goodIn_of _ (by decide +kernel)) ggX10_evening_X10_no
set_option maxRecDepth 20000 in
theorem ggX10_evening_X10_next : GoodIn wsX10_evening wsX10_next := goodIn_r _ [31, 6, 8, 32, 33, 7, 34, 35, 36, 37, 17, 38, 5, 39, 40, 41, 42, 43, 44, 45, 183, 184, 185, 186, 187, 188, 189, 190, 191, 192, 193, 194, 195, 196, 197, 198, 199, 200, 201, 202, 203, 204, 205, 206, 207, 208, 209, 210, 211, 212, 213, 214, 215, 216, 217] rfl (by decide +kernel)
set_option maxRecDepth 20000 in
theorem gX10_evening_X10_next : GoodIn wsX10_evening (wsV RX10 112 RX10 yX10_next wsX10_next) := goodIn_app (goodIn_of _ (by decide +kernel)) ggX10_evening_X10_next
set_option maxRecDepth 20000 in
theorem ggX10_evening_X10_readLine : GoodIn wsX10_evening wsX10_readLine := goodIn_r _ [49, 4, 8, 50, 51, 52, 17, 53, 3, 7, 32, 34, 54, 55, 56, 57, 58, 59, 60, 61, 62, 63, 64, 65, 66, 67, 68, 69, 70, 71, 72, 73, 74, 75, 76, 77, 78, 79, 80, 81, 82, 83, 84, 85, 86, 87, 88, 89, 90, 91, 92, 93, 94, 95, 96, 97, 98, 99, 100, 101, 102, 103, 104, 105, 106, 107, 108, 109, 110, 2, 111, 28, 29, 30, 31, 6, 33, 35, 36, 37, 38, 5, 39, 40, 41, 42, 43, 44, 45, 112, 113, 114, 115, 116, 117, 118, 119, 120, 121, 122, 123, 124, 125, 126, 127, 21, 22, 23, 128, 129, 130, 131, 132, 133, 134, 135, 136, 137, 138, 139, 140, 141, 142, 143, 144, 145, 146, 147, 148, 149, 150, 151, 152, 153, 154, 155, 156, 157, 158, 159, 160, 161, 162, 163, 164, 165, 166, 167, 168, 169, 170, 171, 172, 173, 174, 175, 183, 184, 185, 186, 187, 188, 189, 190, 191, 192, 193, 194, 195, 196, 197, 198, 199, 200, 201, 202, 203, 204, 205, 206, 207, 208, 209, 210, 211, 212, 213, 214, 215, 216, 217] rfl (by decide +kernel)
set_option maxRecDepth 20000 in
theorem gX10_evening_X10_readLine : GoodIn wsX10_evening (wsV RX10 165 RX10 yX10_readLine wsX10_readLine) := goodIn_app (goodIn_of _ (by decide +kernel)) ggX10_evening_X10_readLine
set_option maxRecDepth 20000 in
theorem ggX10_evening_X10_wrong : GoodIn wsX10_evening wsX10_wrong := goodIn_r _ [110, 3, 2, 111, 183, 184, 185, 186, 187, 188, 189, 190, 191, 192, 193, 194, 195, 196, 197, 198, 199, 200, 201, 202, 203, 204, 205, 206, 207, 208, 209, 210, 211, 212, 213, 214, 215, 216, 217] rfl (by decide +kernel)
set_option maxRecDepth 20000 in
theorem gX10_evening_X10_wrong : GoodIn wsX10_evening (wsV RX10 118 RX10 yX10_wrong wsX10_wrong) := goodIn_app (goodIn_of _ (by decide +kernel)) ggX10_evening_X10_wrong
set_option maxRecDepth 20000 in
theorem ggX10_evening_X10_copy : GoodIn wsX10_evening wsX10_copy := goodIn_r _ [178] rfl (by decide +kernel)
set_option maxRecDepth 20000 in
theorem gX10_evening_X10_copy : GoodIn wsX10_evening (va_wsS RX10 168 yX10_copy wsX10_copy) := goodIn_app (goodIn_of _ (by decide +kernel)) ggX10_evening_X10_copy
set_option maxRecDepth 20000 in
theorem ggX10_evening_X10_layTold : GoodIn wsX10_evening wsX10_layTold := goodIn_r _ [182, 9, 183, 184, 185, 186, 187, 188, 189, 190, 191, 192, 193, 194, 195, 196, 197, 198, 199, 200, 201, 202, 203, 204, 205, 206, 207, 208, 209, 210, 211, 212, 213, 214, 215, 216, 217] rfl (by decide +kernel)
set_option maxRecDepth 20000 in
theorem gX10_evening_X10_layTold : GoodIn wsX10_evening (wsV RX10 172 RX10 yX10_layTold wsX10_layTold) := goodIn_app (goodIn_of _ (by decide +kernel)) ggX10_evening_X10_layTold
theorem kX10_evening_59 : Cond.fieldLink RX10 59 "EveningVowModel" "taped" "I" ∈ wsX10_evening := List.mem_of_getElem? (i := 1) rfl
theorem iX10_evening_X10 : ∀ w ∈ u_ws RX10 TX10 35, w ∈ wsX10_evening := fun w h => (List.mem_cons_of_mem _ (List.mem_append_right _ h))
theorem kX10_evening_95 : Cond.fieldLink RX10 95 "EveningVowModel" "fault" "I" ∈ wsX10_evening := List.mem_of_getElem? (i := 2) rfl
theorem kX10_evening_91 : Cond.fieldLink RX10 91 "EveningVowModel" "failed" "Z" ∈ wsX10_evening := List.mem_of_getElem? (i := 3) rfl
theorem kX10_evening_23 : Cond.fieldLink RX10 23 "EveningVowModel" "fresh" "[I" ∈ wsX10_evening := List.mem_of_getElem? (i := 4) rfl
theorem kX10_evening_62 : Cond.fieldLink RX10 62 "EveningVowModel" "size" "I" ∈ wsX10_evening := List.mem_of_getElem? (i := 5) rfl
theorem kX10_evening_65 : Cond.fieldLink RX10 65 "EveningVowModel" "end" "I" ∈ wsX10_evening := List.mem_of_getElem? (i := 6) rfl
theorem kX10_evening_81 : Cond.fieldLink RX10 81 "EveningVowModel" "token" "I" ∈ wsX10_evening := List.mem_of_getElem? (i := 7) rfl
theorem kX10_evening_20 : Cond.fieldLink RX10 20 "EveningVowModel" "\x72" "[I" ∈ wsX10_evening := List.mem_of_getElem? (i := 9) rfl
theorem kX10_evening_26 : Cond.fieldLink RX10 26 "EveningVowModel" "st" "[I" ∈ wsX10_evening := List.mem_of_getElem? (i := 10) rfl
theorem kX10_evening_176 : Cond.fieldLink RX10 176 "EveningVowModel" "hasEvening" "Z" ∈ wsX10_evening := List.mem_of_getElem? (i := 11) rfl
theorem kX10_evening_179 : Cond.fieldLink RX10 179 "EveningVowModel" "undos" "I" ∈ wsX10_evening := List.mem_of_getElem? (i := 12) rfl
theorem kX10_evening_182 : Cond.fieldLink RX10 182 "EveningVowModel" "images" "I" ∈ wsX10_evening := List.mem_of_getElem? (i := 13) rfl
theorem kX10_evening_72 : Cond.fieldLink RX10 72 "EveningVowModel" "at" "I" ∈ wsX10_evening := List.mem_of_getElem? (i := 8) rfl
set_option maxHeartbeats 4000000 in
set_option maxRecDepth 100000 in
theorem wX10_evening_L39 {p : Program} {l : Launch} {e : Env} {s : State} {m : MethodId} {args : Array Value} {below : List Frame} {meth : Method} {c : Code} {g : GG} {A : Nat → Prop} (C0 : Cx p s m args meth c cX10_evening 3 (some .int) RX10 wsX10_evening g A) (a_t : Nat) (p_t : Nat → Nat) (n : Nat) (x1 : Int32) (o_t : Nat → Int32) (f_t_1 : Nat → Int32) (f_t_12 : Nat → Int32) (f_t_15 : Nat → Int32) (f_t_17 : Nat → Int32) (r : Int32) (o_t' : Nat → Int32) (f_t_12' : Nat → Int32) (f_t_15' : Nat → Int32) (f_t_16' : Nat → Int32) (f_t_17' : Nat → Int32) (K : (Nat → Int32) → Option (Int32 × (Nat → Int32) × (Nat → Int32) × (Nat → Int32) × (Nat → Int32) × (Nat → Int32))) (hKx : ∀ (f_t_16 : Nat → Int32) (H : Heap) (locs : List Loc) (ls : Array Slot), K f_t_16 = some (r, o_t', f_t_12', f_t_15', f_t_16', f_t_17') → va_P g.1 vwCl [oX10 a_t p_t o_t, aI g (p_t 1) 800 f_t_1, aI g (p_t 12) 8 f_t_12, aI g (p_t 15) 266 f_t_15, aI g (p_t 16) 266 f_t_16, aI g (p_t 17) 17 f_t_17] H → va_D A [oX10 a_t p_t o_t, aI g (p_t 1) 800 f_t_1, aI g (p_t 12) 8 f_t_12, aI g (p_t 15) 266 f_t_15, aI g (p_t 16) 266 f_t_16, aI g (p_t 17) 17 f_t_17] → va_S A s.heap H locs → lv_has ls 3 [(0, .ref a_t), (1, .int x1)] → W p l e ({ frames := 10, cells := 0, slots := 0, locals := 221 } : Room) s m args below meth c H locs 0 0 (MQ below (EndI g r [oX10 a_t p_t o_t', aI g (p_t 1) 800 f_t_1, aI g (p_t 12) 8 f_t_12', aI g (p_t 15) 266 f_t_15', aI g (p_t 16) 266 f_t_16', aI g (p_t 17) 17 f_t_17'] A) args s 0 0 A) (F0 m 59 ls [])) : ∀ (k : Nat) (x2 : Int32) (f_t_16 : Nat → Int32), fX10_evening_L39 n x1 o_t K k x2 f_t_16 = some (r, o_t', f_t_12', f_t_15', f_t_16', f_t_17') → ∀ (H : Heap) (locs : List Loc) (ls : Array Slot), va_P g.1 vwCl [oX10 a_t p_t o_t, aI g (p_t 1) 800 f_t_1, aI g (p_t 12) 8 f_t_12, aI g (p_t 15) 266 f_t_15, aI g (p_t 16) 266 f_t_16, aI g (p_t 17) 17 f_t_17] H → va_D A [oX10 a_t p_t o_t, aI g (p_t 1) 800 f_t_1, aI g (p_t 12) 8 f_t_12, aI g (p_t 15) 266 f_t_15, aI g (p_t 16) 266 f_t_16, aI g (p_t 17) 17 f_t_17] → va_S A s.heap H locs → lv_has ls 3 [(0, .ref a_t), (1, .int x1), (2, .int x2)] → W p l e ({ frames := 10, cells := 0, slots := 0, locals := 221 } : Room) s m args below meth c H locs 0 0 (MQ below (EndI g r [oX10 a_t p_t o_t', aI g (p_t 1) 800 f_t_1, aI g (p_t 12) 8 f_t_12', aI g (p_t 15) 266 f_t_15', aI g (p_t 16) 266 f_t_16', aI g (p_t 17) 17 f_t_17'] A) args s 0 0 A) (F0 m 39 ls []) := by
  obtain ⟨hx, hb, hml, hown, hts, hr, hlk, hK, hA, hSW⟩ := id C0
  intro k
  induction k with
  | zero =>
    intro x2 f_t_16 hF
    exact absurd hF (by simp [fX10_evening_L39])
  | succ k ih =>
    intro x2 f_t_16 hF H locs ls hP hD hS hl
    rw [fX10_evening_L39] at hF
    refine lv_iload_n hx hb dX10_evening_39 rfl (lv_at hl 2 rfl) ?_
    refine lv_sipush (v := (266 : Int32)) hx hb dX10_evening_40 (by decide) ?_
    refine lv_icmp_ge (tgt := 59) hx hb dX10_evening_43 (by decide) (fun c_6 => ?_) (fun c_6 => ?_)
    · have hF := it_p c_6 hF
      exact hKx f_t_16 _ _ _ hF (hP.sub [0, 1, 2, 3, 4, 5] rfl) (hD.sub [0, 1, 2, 3, 4, 5] rfl rfl) hS (lv_sub hl [0, 1] rfl)
    · have hF := it_n c_6 hF
      refine lv_aload_n hx hb dX10_evening_46 rfl (lv_at hl 0 rfl) ?_
      refine va_get (D := g.1) (ci := 10) (v := .ref (p_t 16)) (C := RX10) (T := TX10) (N := 35) hx hb hts iX10_evening_X10 hown hK.1 hP 0 rfl rfl 16 (by decide) (hts _ kX10_evening_23) (fun _ h9 => h9) rfl dX10_evening_47 ?_
      refine lv_iload_n hx hb dX10_evening_50 rfl (lv_at hl 2 rfl) ?_
      refine lv_iconst (v := (0 : Int32)) hx hb dX10_evening_51 (by decide) ?_
      obtain ⟨h_7, hF⟩ := it_ck hF
      refine va_iast hx hb hK.1 hP hD hS 4 0 rfl rfl h_7 dX10_evening_52 (fun H locs hP hD hS => ?_)
      have hP : va_P g.1 vwCl [oX10 a_t p_t o_t, aI g (p_t 1) 800 f_t_1, aI g (p_t 12) 8 f_t_12, aI g (p_t 15) 266 f_t_15, aI g (p_t 16) 266 (upd f_t_16 (x2).toNatClampNeg (0 : Int32)), aI g (p_t 17) 17 f_t_17] H := hP
      have hD : va_D A [oX10 a_t p_t o_t, aI g (p_t 1) 800 f_t_1, aI g (p_t 12) 8 f_t_12, aI g (p_t 15) 266 f_t_15, aI g (p_t 16) 266 (upd f_t_16 (x2).toNatClampNeg (0 : Int32)), aI g (p_t 17) 17 f_t_17] := hD
      refine lv_iinc (v := (x2 + (1 : Int32))) (lv' := [(2, .int (x2 + (1 : Int32))), (0, .ref a_t), (1, .int x1)]) hx hb dX10_evening_53 hl (k := 2) rfl rfl (by decide) rfl (fun ls hl => ?_)
      refine lv_goto (tgt := 39) hx hb dX10_evening_56 (by decide) ?_
      exact ih (x2 + (1 : Int32)) (upd f_t_16 (x2).toNatClampNeg (0 : Int32)) hF _ _ _ (hP.sub [0, 1, 2, 3, 4, 5] rfl) (hD.sub [0, 1, 2, 3, 4, 5] rfl rfl) hS (lv_sub hl [1, 2, 0] rfl)
set_option maxHeartbeats 4000000 in
set_option maxRecDepth 100000 in
theorem wX10_evening_L77 {p : Program} {l : Launch} {e : Env} {s : State} {m : MethodId} {args : Array Value} {below : List Frame} {meth : Method} {c : Code} {g : GG} {A : Nat → Prop} (C0 : Cx p s m args meth c cX10_evening 3 (some .int) RX10 wsX10_evening g A) (a_t : Nat) (p_t : Nat → Nat) (n : Nat) (f_t_1 : Nat → Int32) (f_t_15 : Nat → Int32) (f_t_17 : Nat → Int32) (r : Int32) (o_t' : Nat → Int32) (f_t_12' : Nat → Int32) (f_t_15' : Nat → Int32) (f_t_16' : Nat → Int32) (f_t_17' : Nat → Int32) (K : (Nat → Int32) → (Nat → Int32) → (Nat → Int32) → Option (Int32 × (Nat → Int32) × (Nat → Int32) × (Nat → Int32) × (Nat → Int32) × (Nat → Int32))) (hKx : ∀ (o_t : Nat → Int32) (f_t_12 : Nat → Int32) (f_t_16 : Nat → Int32) (H : Heap) (locs : List Loc) (ls : Array Slot), K o_t f_t_12 f_t_16 = some (r, o_t', f_t_12', f_t_15', f_t_16', f_t_17') → va_P g.1 vwCl [oX10 a_t p_t o_t, aI g (p_t 1) 800 f_t_1, aI g (p_t 12) 8 f_t_12, aI g (p_t 15) 266 f_t_15, aI g (p_t 16) 266 f_t_16, aI g (p_t 17) 17 f_t_17] H → va_D A [oX10 a_t p_t o_t, aI g (p_t 1) 800 f_t_1, aI g (p_t 12) 8 f_t_12, aI g (p_t 15) 266 f_t_15, aI g (p_t 16) 266 f_t_16, aI g (p_t 17) 17 f_t_17] → va_S A s.heap H locs → lv_has ls 3 [(0, .ref a_t)] → W p l e ({ frames := 10, cells := 0, slots := 0, locals := 221 } : Room) s m args below meth c H locs 0 0 (MQ below (EndI g r [oX10 a_t p_t o_t', aI g (p_t 1) 800 f_t_1, aI g (p_t 12) 8 f_t_12', aI g (p_t 15) 266 f_t_15', aI g (p_t 16) 266 f_t_16', aI g (p_t 17) 17 f_t_17'] A) args s 0 0 A) (F0 m 104 ls [])) : ∀ (k : Nat) (o_t : Nat → Int32) (f_t_12 : Nat → Int32) (f_t_16 : Nat → Int32), fX10_evening_L77 n f_t_1 K k o_t f_t_12 f_t_16 = some (r, o_t', f_t_12', f_t_15', f_t_16', f_t_17') → ∀ (H : Heap) (locs : List Loc) (ls : Array Slot), va_P g.1 vwCl [oX10 a_t p_t o_t, aI g (p_t 1) 800 f_t_1, aI g (p_t 12) 8 f_t_12, aI g (p_t 15) 266 f_t_15, aI g (p_t 16) 266 f_t_16, aI g (p_t 17) 17 f_t_17] H → va_D A [oX10 a_t p_t o_t, aI g (p_t 1) 800 f_t_1, aI g (p_t 12) 8 f_t_12, aI g (p_t 15) 266 f_t_15, aI g (p_t 16) 266 f_t_16, aI g (p_t 17) 17 f_t_17] → va_S A s.heap H locs → lv_has ls 3 [(0, .ref a_t)] → W p l e ({ frames := 10, cells := 0, slots := 0, locals := 221 } : Room) s m args below meth c H locs 0 0 (MQ below (EndI g r [oX10 a_t p_t o_t', aI g (p_t 1) 800 f_t_1, aI g (p_t 12) 8 f_t_12', aI g (p_t 15) 266 f_t_15', aI g (p_t 16) 266 f_t_16', aI g (p_t 17) 17 f_t_17'] A) args s 0 0 A) (F0 m 77 ls []) := by
  obtain ⟨hx, hb, hml, hown, hts, hr, hlk, hK, hA, hSW⟩ := id C0
  intro k
  induction k with
  | zero =>
    intro o_t f_t_12 f_t_16 hF
    exact absurd hF (by simp [fX10_evening_L77])
  | succ k ih =>
    intro o_t f_t_12 f_t_16 hF H locs ls hP hD hS hl
    rw [fX10_evening_L77] at hF
    refine lv_aload_n hx hb dX10_evening_77 rfl (lv_at hl 0 rfl) ?_
    refine va_get (D := g.1) (ci := 10) (v := .int (o_t 13)) (C := RX10) (T := TX10) (N := 35) hx hb hts iX10_evening_X10 hown hK.1 hP 0 rfl rfl 13 (by decide) (hts _ kX10_evening_91) (fun _ h9 => h9) rfl dX10_evening_78 ?_
    refine lv_if_ne (tgt := 104) hx hb dX10_evening_81 (by decide) (fun c_15 => ?_) (fun c_15 => ?_)
    · have hF := it_n c_15 hF
      exact hKx o_t f_t_12 f_t_16 _ _ _ hF (hP.sub [0, 1, 2, 3, 4, 5] rfl) (hD.sub [0, 1, 2, 3, 4, 5] rfl rfl) hS (lv_sub hl [0] rfl)
    · have hF := it_p c_15 hF
      refine lv_aload_n hx hb dX10_evening_84 rfl (lv_at hl 0 rfl) ?_
      refine va_get (D := g.1) (ci := 10) (v := .int (o_t 6)) (C := RX10) (T := TX10) (N := 35) hx hb hts iX10_evening_X10 hown hK.1 hP 0 rfl rfl 6 (by decide) (hts _ kX10_evening_81) (fun _ h9 => h9) rfl dX10_evening_85 ?_
      refine lv_bipush (v := (59 : Int32)) hx hb dX10_evening_88 (by decide) ?_
      refine lv_icmp_ne (tgt := 104) hx hb dX10_evening_90 (by decide) (fun c_16 => ?_) (fun c_16 => ?_)
      · have hF := it_n c_16 hF
        exact hKx o_t f_t_12 f_t_16 _ _ _ hF (hP.sub [0, 1, 2, 3, 4, 5] rfl) (hD.sub [0, 1, 2, 3, 4, 5] rfl rfl) hS (lv_sub hl [0] rfl)
      · have hF := it_p c_16 hF
        refine lv_aload_n hx hb dX10_evening_93 rfl (lv_at hl 0 rfl) ?_
        obtain ⟨u_17, u_18, hu_19, hF⟩ := ob2_some hF
        refine call_v (wr := [aI g (p_t 15) 266 f_t_15, aI g (p_t 16) 266 f_t_16, aI g (p_t 17) 17 f_t_17]) (As := []) (rest := []) (ci := 10) (q0 := 0) C0 (mX10_next l g a_t p_t n o_t f_t_1 f_t_12 u_17 u_18 hu_19) (cwV 0 hts gX10_evening_X10_next rfl rfl rfl (by decide +kernel) ⟨Nat.le_of_ble_eq_true rfl, Nat.le_of_ble_eq_true rfl⟩) hP hD hS [0, 1, 2] [3, 4, 5] rfl rfl rfl rfl rfl (by decide) rfl rfl hl.1 rfl rfl (Nat.le_of_ble_eq_true rfl) ⟨Nat.zero_le _, Nat.zero_le _⟩ dX10_evening_94 ?_
        intro H locs hP hD hS
        refine lv_aload_n hx hb dX10_evening_97 rfl (lv_at hl 0 rfl) ?_
        obtain ⟨u_20, u_21, u_22, hu_23, hF⟩ := ob3_some hF
        refine call_v (wr := [aI g (p_t 15) 266 f_t_15, aI g (p_t 17) 17 f_t_17]) (As := []) (rest := []) (ci := 10) (q0 := 0) C0 (mX10_readLine l g a_t p_t n u_17 f_t_1 u_18 f_t_16 u_20 u_21 u_22 hu_23) (cwV 0 hts gX10_evening_X10_readLine rfl rfl rfl (by decide +kernel) ⟨Nat.le_of_ble_eq_true rfl, Nat.le_of_ble_eq_true rfl⟩) hP hD hS [3, 4, 5, 1] [0, 2] rfl rfl rfl rfl rfl (by decide) rfl rfl hl.1 rfl rfl (Nat.le_of_ble_eq_true rfl) ⟨Nat.zero_le _, Nat.zero_le _⟩ dX10_evening_98 ?_
        intro H locs hP hD hS
        refine lv_goto (tgt := 77) hx hb dX10_evening_101 (by decide) ?_
        exact ih u_20 u_21 u_22 hF _ _ _ (hP.sub [2, 3, 4, 0, 5, 1] rfl) (hD.sub [2, 3, 4, 0, 5, 1] rfl rfl) hS (lv_sub hl [0] rfl)
set_option maxHeartbeats 4000000 in
set_option maxRecDepth 100000 in
theorem mX10_evening (l : Launch) (g : GG) (a_t : Nat) (p_t : Nat → Nat) (n : Nat) (x1 : Int32) (o_t : Nat → Int32) (f_t_1 : Nat → Int32) (f_t_12 : Nat → Int32) (f_t_15 : Nat → Int32) (f_t_16 : Nat → Int32) (f_t_17 : Nat → Int32) (r : Int32) (o_t' : Nat → Int32) (f_t_12' : Nat → Int32) (f_t_15' : Nat → Int32) (f_t_16' : Nat → Int32) (f_t_17' : Nat → Int32) (hF : fX10_evening n x1 o_t f_t_1 f_t_12 f_t_15 f_t_16 f_t_17 = some (r, o_t', f_t_12', f_t_15', f_t_16', f_t_17')) : MI l g yX10_evening wsX10_evening ({ frames := 10, cells := 0, slots := 0, locals := 221 } : Room) [.ref a_t, .int x1] [oX10 a_t p_t o_t, aI g (p_t 1) 800 f_t_1, aI g (p_t 12) 8 f_t_12, aI g (p_t 15) 266 f_t_15, aI g (p_t 16) 266 f_t_16, aI g (p_t 17) 17 f_t_17] r [oX10 a_t p_t o_t', aI g (p_t 1) 800 f_t_1, aI g (p_t 12) 8 f_t_12', aI g (p_t 15) 266 f_t_15', aI g (p_t 16) 266 f_t_16', aI g (p_t 17) 17 f_t_17'] := by
  refine MI.of (cc := cX10_evening) (maxL := 3) (rt := .int) (own := RX10) rfl rfl (by decide) (Nat.le_of_ble_eq_true rfl) ?_
  intro p e s m args below meth c A C0 hP hD hS ls hl
  obtain ⟨hx, hb, hml, hown, hts, hr, hlk, hK, hA, hSW⟩ := id C0
  have hl : lv_has ls 3 [(0, .ref a_t), (1, .int x1)] := hl
  rw [fX10_evening] at hF
  refine lv_aload_n hx hb dX10_evening_0 rfl (lv_at hl 0 rfl) ?_
  obtain ⟨u_1, hu_2, hF⟩ := ob1_some hF
  refine call_v (wr := [aI g (p_t 1) 800 f_t_1, aI g (p_t 12) 8 f_t_12, aI g (p_t 15) 266 f_t_15, aI g (p_t 16) 266 f_t_16, aI g (p_t 17) 17 f_t_17]) (As := []) (rest := []) (ci := 10) (q0 := 0) C0 (mX10_good l g a_t p_t n o_t u_1 hu_2) (cwV 0 hts gX10_evening_X10_good rfl rfl rfl (by decide +kernel) ⟨Nat.le_of_ble_eq_true rfl, Nat.le_of_ble_eq_true rfl⟩) hP hD hS [0] [1, 2, 3, 4, 5] rfl rfl rfl rfl rfl (by decide) rfl rfl hl.1 rfl rfl (Nat.le_of_ble_eq_true rfl) ⟨Nat.zero_le _, Nat.zero_le _⟩ dX10_evening_1 ?_
  intro H locs hP hD hS
  refine lv_iload_n hx hb dX10_evening_4 rfl (lv_at hl 1 rfl) ?_
  refine lv_iconst (v := (0 : Int32)) hx hb dX10_evening_5 (by decide) ?_
  refine lv_aload_n hx hb dX10_evening_6 rfl (lv_at hl 0 rfl) ?_
  refine va_get (D := g.1) (ci := 10) (v := .int (u_1 2)) (C := RX10) (T := TX10) (N := 35) hx hb hts iX10_evening_X10 hown hK.1 hP 5 rfl rfl 2 (by decide) (hts _ kX10_evening_59) (fun _ h9 => h9) rfl dX10_evening_7 ?_
  obtain ⟨u_3, hu_4, hF⟩ := ob1_some hF
  refine call_si (wr := [aI g (p_t 1) 800 f_t_1, aI g (p_t 12) 8 f_t_12, aI g (p_t 15) 266 f_t_15, aI g (p_t 16) 266 f_t_16, aI g (p_t 17) 17 f_t_17, oX10 a_t p_t u_1]) (As := [.int x1, .int (0 : Int32), .int (u_1 2)]) (rest := []) C0 (mX10_in l g n x1 (0 : Int32) (u_1 2) u_3 hu_4) (va_cwS 3 hts gX10_evening_X10_in rfl rfl rfl (by decide +kernel) ⟨Nat.le_of_ble_eq_true rfl, Nat.le_of_ble_eq_true rfl⟩) hP hD hS [] [0, 1, 2, 3, 4, 5] rfl rfl rfl rfl rfl (by decide) hl.1 rfl rfl (Nat.le_of_ble_eq_true rfl) ⟨Nat.zero_le _, Nat.zero_le _⟩ dX10_evening_10 ?_
  intro H locs hP hD hS
  refine lv_if_ne (tgt := 22) hx hb dX10_evening_13 (by decide) (fun c_5 => ?_) (fun c_5 => ?_)
  · have hF := it_n c_5 hF
    refine lv_aload_n hx hb dX10_evening_22 rfl (lv_at hl 0 rfl) ?_
    refine lv_iconst (v := (0 : Int32)) hx hb dX10_evening_23 (by decide) ?_
    refine va_put (D := g.1) (ci := 10) (v := .int (0 : Int32)) (ty := .int) (C := RX10) (T := TX10) (N := 35) hx hb hts iX10_evening_X10 tyX10 tyX10_ok nmX10 hown hK.1 hP hD hS 5 rfl rfl 2 (by decide) (hts _ kX10_evening_59) (fun _ h9 => h9) rfl (by decide +kernel) rfl rfl (Nat.le_of_ble_eq_true rfl) dX10_evening_24 (fun H locs hP hD hS => ?_)
    have hP : va_P g.1 vwCl [aI g (p_t 1) 800 f_t_1, aI g (p_t 12) 8 f_t_12, aI g (p_t 15) 266 f_t_15, aI g (p_t 16) 266 f_t_16, aI g (p_t 17) 17 f_t_17, oX10 a_t p_t (upd u_1 2 (0 : Int32))] H := hP
    have hD : va_D A [aI g (p_t 1) 800 f_t_1, aI g (p_t 12) 8 f_t_12, aI g (p_t 15) 266 f_t_15, aI g (p_t 16) 266 f_t_16, aI g (p_t 17) 17 f_t_17, oX10 a_t p_t (upd u_1 2 (0 : Int32))] := hD
    refine lv_aload_n hx hb dX10_evening_27 rfl (lv_at hl 0 rfl) ?_
    refine lv_iconst (v := (0 : Int32)) hx hb dX10_evening_28 (by decide) ?_
    refine va_put (D := g.1) (ci := 10) (v := .int (0 : Int32)) (ty := .int) (C := RX10) (T := TX10) (N := 35) hx hb hts iX10_evening_X10 tyX10 tyX10_ok nmX10 hown hK.1 hP hD hS 5 rfl rfl 9 (by decide) (hts _ kX10_evening_95) (fun _ h9 => h9) rfl (by decide +kernel) rfl rfl (Nat.le_of_ble_eq_true rfl) dX10_evening_29 (fun H locs hP hD hS => ?_)
    have hP : va_P g.1 vwCl [aI g (p_t 1) 800 f_t_1, aI g (p_t 12) 8 f_t_12, aI g (p_t 15) 266 f_t_15, aI g (p_t 16) 266 f_t_16, aI g (p_t 17) 17 f_t_17, oX10 a_t p_t (upd (upd u_1 2 (0 : Int32)) 9 (0 : Int32))] H := hP
    have hD : va_D A [aI g (p_t 1) 800 f_t_1, aI g (p_t 12) 8 f_t_12, aI g (p_t 15) 266 f_t_15, aI g (p_t 16) 266 f_t_16, aI g (p_t 17) 17 f_t_17, oX10 a_t p_t (upd (upd u_1 2 (0 : Int32)) 9 (0 : Int32))] := hD
    refine lv_aload_n hx hb dX10_evening_32 rfl (lv_at hl 0 rfl) ?_
    refine lv_iconst (v := (0 : Int32)) hx hb dX10_evening_33 (by decide) ?_
    refine va_put (D := g.1) (ci := 10) (v := .int (0 : Int32)) (ty := .boolean) (C := RX10) (T := TX10) (N := 35) hx hb hts iX10_evening_X10 tyX10 tyX10_ok nmX10 hown hK.1 hP hD hS 5 rfl rfl 13 (by decide) (hts _ kX10_evening_91) (fun _ h9 => h9) rfl (by decide +kernel) rfl rfl (Nat.le_of_ble_eq_true rfl) dX10_evening_34 (fun H locs hP hD hS => ?_)
    have hP : va_P g.1 vwCl [aI g (p_t 1) 800 f_t_1, aI g (p_t 12) 8 f_t_12, aI g (p_t 15) 266 f_t_15, aI g (p_t 16) 266 f_t_16, aI g (p_t 17) 17 f_t_17, oX10 a_t p_t (upd (upd (upd u_1 2 (0 : Int32)) 9 (0 : Int32)) 13 (0 : Int32))] H := hP
    have hD : va_D A [aI g (p_t 1) 800 f_t_1, aI g (p_t 12) 8 f_t_12, aI g (p_t 15) 266 f_t_15, aI g (p_t 16) 266 f_t_16, aI g (p_t 17) 17 f_t_17, oX10 a_t p_t (upd (upd (upd u_1 2 (0 : Int32)) 9 (0 : Int32)) 13 (0 : Int32))] := hD
    refine lv_iconst (v := (0 : Int32)) hx hb dX10_evening_37 (by decide) ?_
    refine lv_istore_n (lv' := [(2, .int (0 : Int32)), (0, .ref a_t), (1, .int x1)]) hx hb dX10_evening_38 rfl hl (by decide) rfl (fun ls hl => ?_)
    refine wX10_evening_L39 C0 a_t p_t n x1 (upd (upd (upd u_1 2 (0 : Int32)) 9 (0 : Int32)) 13 (0 : Int32)) f_t_1 f_t_12 f_t_15 f_t_17 r o_t' f_t_12' f_t_15' f_t_16' f_t_17' _ ?_ n (0 : Int32) f_t_16 hF _ _ _ (hP.sub [5, 0, 1, 2, 3, 4] rfl) (hD.sub [5, 0, 1, 2, 3, 4] rfl rfl) hS (lv_sub hl [1, 2, 0] rfl)
    · intro f_t_16_x39 H locs ls hF hP hD hS hl
      refine lv_aload_n hx hb dX10_evening_59 rfl (lv_at hl 0 rfl) ?_
      refine lv_iload_n hx hb dX10_evening_60 rfl (lv_at hl 1 rfl) ?_
      refine va_put (D := g.1) (ci := 10) (v := .int x1) (ty := .int) (C := RX10) (T := TX10) (N := 35) hx hb hts iX10_evening_X10 tyX10 tyX10_ok nmX10 hown hK.1 hP hD hS 0 rfl rfl 3 (by decide) (hts _ kX10_evening_62) (fun _ h9 => h9) rfl (by decide +kernel) rfl rfl (Nat.le_of_ble_eq_true rfl) dX10_evening_61 (fun H locs hP hD hS => ?_)
      have hP : va_P g.1 vwCl [oX10 a_t p_t (upd (upd (upd (upd u_1 2 (0 : Int32)) 9 (0 : Int32)) 13 (0 : Int32)) 3 x1), aI g (p_t 1) 800 f_t_1, aI g (p_t 12) 8 f_t_12, aI g (p_t 15) 266 f_t_15, aI g (p_t 16) 266 f_t_16_x39, aI g (p_t 17) 17 f_t_17] H := hP
      have hD : va_D A [oX10 a_t p_t (upd (upd (upd (upd u_1 2 (0 : Int32)) 9 (0 : Int32)) 13 (0 : Int32)) 3 x1), aI g (p_t 1) 800 f_t_1, aI g (p_t 12) 8 f_t_12, aI g (p_t 15) 266 f_t_15, aI g (p_t 16) 266 f_t_16_x39, aI g (p_t 17) 17 f_t_17] := hD
      refine lv_aload_n hx hb dX10_evening_64 rfl (lv_at hl 0 rfl) ?_
      refine lv_iconst (v := (0 : Int32)) hx hb dX10_evening_65 (by decide) ?_
      refine va_put (D := g.1) (ci := 10) (v := .int (0 : Int32)) (ty := .int) (C := RX10) (T := TX10) (N := 35) hx hb hts iX10_evening_X10 tyX10 tyX10_ok nmX10 hown hK.1 hP hD hS 0 rfl rfl 5 (by decide) (hts _ kX10_evening_65) (fun _ h9 => h9) rfl (by decide +kernel) rfl rfl (Nat.le_of_ble_eq_true rfl) dX10_evening_66 (fun H locs hP hD hS => ?_)
      have hP : va_P g.1 vwCl [oX10 a_t p_t (upd (upd (upd (upd (upd u_1 2 (0 : Int32)) 9 (0 : Int32)) 13 (0 : Int32)) 3 x1) 5 (0 : Int32)), aI g (p_t 1) 800 f_t_1, aI g (p_t 12) 8 f_t_12, aI g (p_t 15) 266 f_t_15, aI g (p_t 16) 266 f_t_16_x39, aI g (p_t 17) 17 f_t_17] H := hP
      have hD : va_D A [oX10 a_t p_t (upd (upd (upd (upd (upd u_1 2 (0 : Int32)) 9 (0 : Int32)) 13 (0 : Int32)) 3 x1) 5 (0 : Int32)), aI g (p_t 1) 800 f_t_1, aI g (p_t 12) 8 f_t_12, aI g (p_t 15) 266 f_t_15, aI g (p_t 16) 266 f_t_16_x39, aI g (p_t 17) 17 f_t_17] := hD
      refine lv_aload_n hx hb dX10_evening_69 rfl (lv_at hl 0 rfl) ?_
      obtain ⟨u_8, u_9, hu_10, hF⟩ := ob2_some hF
      refine call_v (wr := [aI g (p_t 15) 266 f_t_15, aI g (p_t 16) 266 f_t_16_x39, aI g (p_t 17) 17 f_t_17]) (As := []) (rest := []) (ci := 10) (q0 := 0) C0 (mX10_next l g a_t p_t n (upd (upd (upd (upd (upd u_1 2 (0 : Int32)) 9 (0 : Int32)) 13 (0 : Int32)) 3 x1) 5 (0 : Int32)) f_t_1 f_t_12 u_8 u_9 hu_10) (cwV 0 hts gX10_evening_X10_next rfl rfl rfl (by decide +kernel) ⟨Nat.le_of_ble_eq_true rfl, Nat.le_of_ble_eq_true rfl⟩) hP hD hS [0, 1, 2] [3, 4, 5] rfl rfl rfl rfl rfl (by decide) rfl rfl hl.1 rfl rfl (Nat.le_of_ble_eq_true rfl) ⟨Nat.zero_le _, Nat.zero_le _⟩ dX10_evening_70 ?_
      intro H locs hP hD hS
      refine lv_aload_n hx hb dX10_evening_73 rfl (lv_at hl 0 rfl) ?_
      obtain ⟨u_11, u_12, u_13, hu_14, hF⟩ := ob3_some hF
      refine call_v (wr := [aI g (p_t 15) 266 f_t_15, aI g (p_t 17) 17 f_t_17]) (As := []) (rest := []) (ci := 10) (q0 := 0) C0 (mX10_readLine l g a_t p_t n u_8 f_t_1 u_9 f_t_16_x39 u_11 u_12 u_13 hu_14) (cwV 0 hts gX10_evening_X10_readLine rfl rfl rfl (by decide +kernel) ⟨Nat.le_of_ble_eq_true rfl, Nat.le_of_ble_eq_true rfl⟩) hP hD hS [3, 4, 5, 1] [0, 2] rfl rfl rfl rfl rfl (by decide) rfl rfl hl.1 rfl rfl (Nat.le_of_ble_eq_true rfl) ⟨Nat.zero_le _, Nat.zero_le _⟩ dX10_evening_74 ?_
      intro H locs hP hD hS
      refine wX10_evening_L77 C0 a_t p_t n f_t_1 f_t_15 f_t_17 r o_t' f_t_12' f_t_15' f_t_16' f_t_17' _ ?_ n u_11 u_12 u_13 hF _ _ _ (hP.sub [2, 3, 4, 0, 5, 1] rfl) (hD.sub [2, 3, 4, 0, 5, 1] rfl rfl) hS (lv_sub hl [0] rfl)
      · intro o_t_x77 f_t_12_x77 f_t_16_x77 H locs ls hF hP hD hS hl
        refine lv_aload_n hx hb dX10_evening_104 rfl (lv_at hl 0 rfl) ?_
        refine va_get (D := g.1) (ci := 10) (v := .int (o_t_x77 13)) (C := RX10) (T := TX10) (N := 35) hx hb hts iX10_evening_X10 hown hK.1 hP 0 rfl rfl 13 (by decide) (hts _ kX10_evening_91) (fun _ h9 => h9) rfl dX10_evening_105 ?_
        refine lv_if_ne (tgt := 127) hx hb dX10_evening_108 (by decide) (fun c_24 => ?_) (fun c_24 => ?_)
        · have hF := it_n c_24 hF
          refine lv_aload_n hx hb dX10_evening_127 rfl (lv_at hl 0 rfl) ?_
          refine va_get (D := g.1) (ci := 10) (v := .int (o_t_x77 13)) (C := RX10) (T := TX10) (N := 35) hx hb hts iX10_evening_X10 hown hK.1 hP 0 rfl rfl 13 (by decide) (hts _ kX10_evening_91) (fun _ h9 => h9) rfl dX10_evening_128 ?_
          obtain ⟨J162, eJ162, hF⟩ := jn_some hF
          have hJ162 : ∀ (o_t_162 : Nat → Int32) (H : Heap) (locs : List Loc) (ls : Array Slot), J162 o_t_162 = some (r, o_t', f_t_12', f_t_15', f_t_16', f_t_17') → va_P g.1 vwCl [oX10 a_t p_t o_t_162, aI g (p_t 1) 800 f_t_1, aI g (p_t 12) 8 f_t_12_x77, aI g (p_t 15) 266 f_t_15, aI g (p_t 16) 266 f_t_16_x77, aI g (p_t 17) 17 f_t_17] H → va_D A [oX10 a_t p_t o_t_162, aI g (p_t 1) 800 f_t_1, aI g (p_t 12) 8 f_t_12_x77, aI g (p_t 15) 266 f_t_15, aI g (p_t 16) 266 f_t_16_x77, aI g (p_t 17) 17 f_t_17] → va_S A s.heap H locs → lv_has ls 3 [(0, .ref a_t)] → W p l e ({ frames := 10, cells := 0, slots := 0, locals := 221 } : Room) s m args below meth c H locs 0 0 (MQ below (EndI g r [oX10 a_t p_t o_t', aI g (p_t 1) 800 f_t_1, aI g (p_t 12) 8 f_t_12', aI g (p_t 15) 266 f_t_15', aI g (p_t 16) 266 f_t_16', aI g (p_t 17) 17 f_t_17'] A) args s 0 0 A) (F0 m 162 ls []) := by
            intro o_t_162 H locs ls hF hP hD hS hl
            have hF := jj1 eJ162 hF
            refine lv_aload_n hx hb dX10_evening_162 rfl (lv_at hl 0 rfl) ?_
            refine va_get (D := g.1) (ci := 10) (v := .int (o_t_162 13)) (C := RX10) (T := TX10) (N := 35) hx hb hts iX10_evening_X10 hown hK.1 hP 0 rfl rfl 13 (by decide) (hts _ kX10_evening_91) (fun _ h9 => h9) rfl dX10_evening_163 ?_
            refine lv_if_eq (tgt := 175) hx hb dX10_evening_166 (by decide) (fun c_25 => ?_) (fun c_25 => ?_)
            · have hF := it_p c_25 hF
              refine lv_aload_n hx hb dX10_evening_175 rfl (lv_at hl 0 rfl) ?_
              refine va_get (D := g.1) (ci := 10) (v := .ref (p_t 16)) (C := RX10) (T := TX10) (N := 35) hx hb hts iX10_evening_X10 hown hK.1 hP 0 rfl rfl 16 (by decide) (hts _ kX10_evening_23) (fun _ h9 => h9) rfl dX10_evening_176 ?_
              refine lv_iconst (v := (0 : Int32)) hx hb dX10_evening_179 (by decide) ?_
              refine lv_aload_n hx hb dX10_evening_180 rfl (lv_at hl 0 rfl) ?_
              refine va_get (D := g.1) (ci := 10) (v := .ref (p_t 15)) (C := RX10) (T := TX10) (N := 35) hx hb hts iX10_evening_X10 hown hK.1 hP 0 rfl rfl 15 (by decide) (hts _ kX10_evening_20) (fun _ h9 => h9) rfl dX10_evening_181 ?_
              refine lv_iconst (v := (0 : Int32)) hx hb dX10_evening_184 (by decide) ?_
              refine lv_sipush (v := (266 : Int32)) hx hb dX10_evening_185 (by decide) ?_
              obtain ⟨u_26, hu_27, hF⟩ := ob1_some hF
              refine call_sv (wr := [oX10 a_t p_t o_t_162, aI g (p_t 1) 800 f_t_1, aI g (p_t 12) 8 f_t_12_x77, aI g (p_t 17) 17 f_t_17]) (As := [.ref (p_t 16), .int (0 : Int32), .ref (p_t 15), .int (0 : Int32), .int (266 : Int32)]) (rest := []) C0 (mX10_copy l g (p_t 16) (p_t 15) n (0 : Int32) (0 : Int32) (266 : Int32) 266 266 f_t_16_x77 f_t_15 u_26 hu_27) (va_cwS 5 hts gX10_evening_X10_copy rfl rfl rfl (by decide +kernel) ⟨Nat.le_of_ble_eq_true rfl, Nat.le_of_ble_eq_true rfl⟩) hP hD hS [4, 3] [0, 1, 2, 5] rfl rfl rfl rfl rfl (by decide) hl.1 rfl rfl (Nat.le_of_ble_eq_true rfl) ⟨Nat.zero_le _, Nat.zero_le _⟩ dX10_evening_188 ?_
              intro H locs hP hD hS
              refine lv_aload_n hx hb dX10_evening_191 rfl (lv_at hl 0 rfl) ?_
              refine lv_aload_n hx hb dX10_evening_192 rfl (lv_at hl 0 rfl) ?_
              refine va_get (D := g.1) (ci := 10) (v := .ref (p_t 17)) (C := RX10) (T := TX10) (N := 35) hx hb hts iX10_evening_X10 hown hK.1 hP 0 rfl rfl 17 (by decide) (hts _ kX10_evening_26) (fun _ h9 => h9) rfl dX10_evening_193 ?_
              obtain ⟨u_28, hu_29, hF⟩ := ob1_some hF
              refine call_v (wr := [aI g (p_t 1) 800 f_t_1, aI g (p_t 12) 8 f_t_12_x77, aI g (p_t 16) 266 f_t_16_x77]) (As := [.ref (p_t 17)]) (rest := []) (ci := 10) (q0 := 0) C0 (mX10_layTold l g a_t (p_t 17) p_t n o_t_162 u_26 f_t_17 u_28 hu_29) (cwV 1 hts gX10_evening_X10_layTold rfl rfl rfl (by decide +kernel) ⟨Nat.le_of_ble_eq_true rfl, Nat.le_of_ble_eq_true rfl⟩) hP hD hS [0, 5, 3] [1, 2, 4] rfl rfl rfl rfl rfl (by decide) rfl rfl hl.1 rfl rfl (Nat.le_of_ble_eq_true rfl) ⟨Nat.zero_le _, Nat.zero_le _⟩ dX10_evening_196 ?_
              intro H locs hP hD hS
              refine lv_aload_n hx hb dX10_evening_199 rfl (lv_at hl 0 rfl) ?_
              refine lv_iconst (v := (1 : Int32)) hx hb dX10_evening_200 (by decide) ?_
              refine va_put (D := g.1) (ci := 10) (v := .int (1 : Int32)) (ty := .boolean) (C := RX10) (T := TX10) (N := 35) hx hb hts iX10_evening_X10 tyX10 tyX10_ok nmX10 hown hK.1 hP hD hS 3 rfl rfl 14 (by decide) (hts _ kX10_evening_176) (fun _ h9 => h9) rfl (by decide +kernel) rfl rfl (Nat.le_of_ble_eq_true rfl) dX10_evening_201 (fun H locs hP hD hS => ?_)
              have hP : va_P g.1 vwCl [aI g (p_t 1) 800 f_t_1, aI g (p_t 12) 8 f_t_12_x77, aI g (p_t 16) 266 f_t_16_x77, oX10 a_t p_t (upd o_t_162 14 (1 : Int32)), aI g (p_t 15) 266 u_26, aI g (p_t 17) 17 u_28] H := hP
              have hD : va_D A [aI g (p_t 1) 800 f_t_1, aI g (p_t 12) 8 f_t_12_x77, aI g (p_t 16) 266 f_t_16_x77, oX10 a_t p_t (upd o_t_162 14 (1 : Int32)), aI g (p_t 15) 266 u_26, aI g (p_t 17) 17 u_28] := hD
              refine lv_aload_n hx hb dX10_evening_204 rfl (lv_at hl 0 rfl) ?_
              refine lv_iconst (v := (0 : Int32)) hx hb dX10_evening_205 (by decide) ?_
              refine va_put (D := g.1) (ci := 10) (v := .int (0 : Int32)) (ty := .int) (C := RX10) (T := TX10) (N := 35) hx hb hts iX10_evening_X10 tyX10 tyX10_ok nmX10 hown hK.1 hP hD hS 3 rfl rfl 20 (by decide) (hts _ kX10_evening_179) (fun _ h9 => h9) rfl (by decide +kernel) rfl rfl (Nat.le_of_ble_eq_true rfl) dX10_evening_206 (fun H locs hP hD hS => ?_)
              have hP : va_P g.1 vwCl [aI g (p_t 1) 800 f_t_1, aI g (p_t 12) 8 f_t_12_x77, aI g (p_t 16) 266 f_t_16_x77, oX10 a_t p_t (upd (upd o_t_162 14 (1 : Int32)) 20 (0 : Int32)), aI g (p_t 15) 266 u_26, aI g (p_t 17) 17 u_28] H := hP
              have hD : va_D A [aI g (p_t 1) 800 f_t_1, aI g (p_t 12) 8 f_t_12_x77, aI g (p_t 16) 266 f_t_16_x77, oX10 a_t p_t (upd (upd o_t_162 14 (1 : Int32)) 20 (0 : Int32)), aI g (p_t 15) 266 u_26, aI g (p_t 17) 17 u_28] := hD
              refine lv_aload_n hx hb dX10_evening_209 rfl (lv_at hl 0 rfl) ?_
              refine lv_iconst (v := (0 : Int32)) hx hb dX10_evening_210 (by decide) ?_
              refine va_put (D := g.1) (ci := 10) (v := .int (0 : Int32)) (ty := .int) (C := RX10) (T := TX10) (N := 35) hx hb hts iX10_evening_X10 tyX10 tyX10_ok nmX10 hown hK.1 hP hD hS 3 rfl rfl 21 (by decide) (hts _ kX10_evening_182) (fun _ h9 => h9) rfl (by decide +kernel) rfl rfl (Nat.le_of_ble_eq_true rfl) dX10_evening_211 (fun H locs hP hD hS => ?_)
              have hP : va_P g.1 vwCl [aI g (p_t 1) 800 f_t_1, aI g (p_t 12) 8 f_t_12_x77, aI g (p_t 16) 266 f_t_16_x77, oX10 a_t p_t (upd (upd (upd o_t_162 14 (1 : Int32)) 20 (0 : Int32)) 21 (0 : Int32)), aI g (p_t 15) 266 u_26, aI g (p_t 17) 17 u_28] H := hP
              have hD : va_D A [aI g (p_t 1) 800 f_t_1, aI g (p_t 12) 8 f_t_12_x77, aI g (p_t 16) 266 f_t_16_x77, oX10 a_t p_t (upd (upd (upd o_t_162 14 (1 : Int32)) 20 (0 : Int32)) 21 (0 : Int32)), aI g (p_t 15) 266 u_26, aI g (p_t 17) 17 u_28] := hD
              refine lv_aload_n hx hb dX10_evening_214 rfl (lv_at hl 0 rfl) ?_
              refine va_get (D := g.1) (ci := 10) (v := .ref (p_t 15)) (C := RX10) (T := TX10) (N := 35) hx hb hts iX10_evening_X10 hown hK.1 hP 3 rfl rfl 15 (by decide) (hts _ kX10_evening_20) (fun _ h9 => h9) rfl dX10_evening_215 ?_
              refine lv_iconst (v := (3 : Int32)) hx hb dX10_evening_218 (by decide) ?_
              refine va_iald_k (j := 3) hx hb hK.1 hP 4 0 rfl rfl (by unfold vp_in; decide) rfl dX10_evening_219 ?_
              cases hF
              exact ret_i C0 hP hD hS [3, 0, 1, 4, 2, 5] rfl rfl rfl dX10_evening_220 rfl
            · have hF := it_n c_25 hF
              refine lv_aload_n hx hb dX10_evening_169 rfl (lv_at hl 0 rfl) ?_
              refine lv_iconst (v := (4 : Int32)) hx hb dX10_evening_170 (by decide) ?_
              obtain ⟨u_30, u_31, hu_32, hF⟩ := ob2_some hF
              refine call_i (wr := [aI g (p_t 1) 800 f_t_1, aI g (p_t 12) 8 f_t_12_x77, aI g (p_t 15) 266 f_t_15, aI g (p_t 16) 266 f_t_16_x77, aI g (p_t 17) 17 f_t_17]) (As := [.int (4 : Int32)]) (rest := []) (ci := 10) (q0 := 0) C0 (mX10_no l g a_t p_t n (4 : Int32) o_t_162 u_30 u_31 hu_32) (cwV 1 hts gX10_evening_X10_no rfl rfl rfl (by decide +kernel) ⟨Nat.le_of_ble_eq_true rfl, Nat.le_of_ble_eq_true rfl⟩) hP hD hS [0] [1, 2, 3, 4, 5] rfl rfl rfl rfl rfl (by decide) rfl rfl hl.1 rfl rfl (Nat.le_of_ble_eq_true rfl) ⟨Nat.zero_le _, Nat.zero_le _⟩ dX10_evening_171 ?_
              intro H locs hP hD hS
              cases hF
              exact ret_i C0 hP hD hS [5, 0, 1, 2, 3, 4] rfl rfl rfl dX10_evening_174 rfl
          refine lv_if_ne (tgt := 162) hx hb dX10_evening_131 (by decide) (fun c_33 => ?_) (fun c_33 => ?_)
          · have hF := it_n c_33 hF
            exact hJ162 o_t_x77 _ _ _ hF (hP.sub [0, 1, 2, 3, 4, 5] rfl) (hD.sub [0, 1, 2, 3, 4, 5] rfl rfl) hS (lv_sub hl [0] rfl)
          · have hF := it_p c_33 hF
            refine lv_aload_n hx hb dX10_evening_134 rfl (lv_at hl 0 rfl) ?_
            refine va_get (D := g.1) (ci := 10) (v := .ref (p_t 16)) (C := RX10) (T := TX10) (N := 35) hx hb hts iX10_evening_X10 hown hK.1 hP 0 rfl rfl 16 (by decide) (hts _ kX10_evening_23) (fun _ h9 => h9) rfl dX10_evening_135 ?_
            refine lv_iconst (v := (1 : Int32)) hx hb dX10_evening_138 (by decide) ?_
            refine va_iald_k (j := 1) hx hb hK.1 hP 4 0 rfl rfl (by unfold vp_in; decide) rfl dX10_evening_139 ?_
            refine lv_if_eq (tgt := 152) hx hb dX10_evening_140 (by decide) (fun c_34 => ?_) (fun c_34 => ?_)
            · have hF := it_p c_34 hF
              refine lv_aload_n hx hb dX10_evening_152 rfl (lv_at hl 0 rfl) ?_
              refine lv_bipush (v := (6 : Int32)) hx hb dX10_evening_153 (by decide) ?_
              refine lv_aload_n hx hb dX10_evening_155 rfl (lv_at hl 0 rfl) ?_
              refine va_get (D := g.1) (ci := 10) (v := .int (o_t_x77 4)) (C := RX10) (T := TX10) (N := 35) hx hb hts iX10_evening_X10 hown hK.1 hP 0 rfl rfl 4 (by decide) (hts _ kX10_evening_72) (fun _ h9 => h9) rfl dX10_evening_156 ?_
              obtain ⟨u_35, hu_36, hF⟩ := ob1_some hF
              refine call_v (wr := [aI g (p_t 1) 800 f_t_1, aI g (p_t 12) 8 f_t_12_x77, aI g (p_t 15) 266 f_t_15, aI g (p_t 16) 266 f_t_16_x77, aI g (p_t 17) 17 f_t_17]) (As := [.int (6 : Int32), .int (o_t_x77 4)]) (rest := []) (ci := 10) (q0 := 0) C0 (mX10_wrong l g a_t p_t n (6 : Int32) (o_t_x77 4) o_t_x77 u_35 hu_36) (cwV 2 hts gX10_evening_X10_wrong rfl rfl rfl (by decide +kernel) ⟨Nat.le_of_ble_eq_true rfl, Nat.le_of_ble_eq_true rfl⟩) hP hD hS [0] [1, 2, 3, 4, 5] rfl rfl rfl rfl rfl (by decide) rfl rfl hl.1 rfl rfl (Nat.le_of_ble_eq_true rfl) ⟨Nat.zero_le _, Nat.zero_le _⟩ dX10_evening_159 ?_
              intro H locs hP hD hS
              exact hJ162 u_35 _ _ _ hF (hP.sub [5, 0, 1, 2, 3, 4] rfl) (hD.sub [5, 0, 1, 2, 3, 4] rfl rfl) hS (lv_sub hl [0] rfl)
            · have hF := it_n c_34 hF
              refine lv_aload_n hx hb dX10_evening_143 rfl (lv_at hl 0 rfl) ?_
              refine va_get (D := g.1) (ci := 10) (v := .ref (p_t 16)) (C := RX10) (T := TX10) (N := 35) hx hb hts iX10_evening_X10 hown hK.1 hP 0 rfl rfl 16 (by decide) (hts _ kX10_evening_23) (fun _ h9 => h9) rfl dX10_evening_144 ?_
              refine lv_iconst (v := (3 : Int32)) hx hb dX10_evening_147 (by decide) ?_
              refine va_iald_k (j := 3) hx hb hK.1 hP 4 0 rfl rfl (by unfold vp_in; decide) rfl dX10_evening_148 ?_
              refine lv_if_ne (tgt := 162) hx hb dX10_evening_149 (by decide) (fun c_37 => ?_) (fun c_37 => ?_)
              · have hF := it_n c_37 hF
                exact hJ162 o_t_x77 _ _ _ hF (hP.sub [0, 1, 2, 3, 4, 5] rfl) (hD.sub [0, 1, 2, 3, 4, 5] rfl rfl) hS (lv_sub hl [0] rfl)
              · have hF := it_p c_37 hF
                refine lv_aload_n hx hb dX10_evening_152 rfl (lv_at hl 0 rfl) ?_
                refine lv_bipush (v := (6 : Int32)) hx hb dX10_evening_153 (by decide) ?_
                refine lv_aload_n hx hb dX10_evening_155 rfl (lv_at hl 0 rfl) ?_
                refine va_get (D := g.1) (ci := 10) (v := .int (o_t_x77 4)) (C := RX10) (T := TX10) (N := 35) hx hb hts iX10_evening_X10 hown hK.1 hP 0 rfl rfl 4 (by decide) (hts _ kX10_evening_72) (fun _ h9 => h9) rfl dX10_evening_156 ?_
                obtain ⟨u_38, hu_39, hF⟩ := ob1_some hF
                refine call_v (wr := [aI g (p_t 1) 800 f_t_1, aI g (p_t 12) 8 f_t_12_x77, aI g (p_t 15) 266 f_t_15, aI g (p_t 16) 266 f_t_16_x77, aI g (p_t 17) 17 f_t_17]) (As := [.int (6 : Int32), .int (o_t_x77 4)]) (rest := []) (ci := 10) (q0 := 0) C0 (mX10_wrong l g a_t p_t n (6 : Int32) (o_t_x77 4) o_t_x77 u_38 hu_39) (cwV 2 hts gX10_evening_X10_wrong rfl rfl rfl (by decide +kernel) ⟨Nat.le_of_ble_eq_true rfl, Nat.le_of_ble_eq_true rfl⟩) hP hD hS [0] [1, 2, 3, 4, 5] rfl rfl rfl rfl rfl (by decide) rfl rfl hl.1 rfl rfl (Nat.le_of_ble_eq_true rfl) ⟨Nat.zero_le _, Nat.zero_le _⟩ dX10_evening_159 ?_
                intro H locs hP hD hS
                exact hJ162 u_38 _ _ _ hF (hP.sub [5, 0, 1, 2, 3, 4] rfl) (hD.sub [5, 0, 1, 2, 3, 4] rfl rfl) hS (lv_sub hl [0] rfl)
        · have hF := it_p c_24 hF
          refine lv_aload_n hx hb dX10_evening_111 rfl (lv_at hl 0 rfl) ?_
          refine va_get (D := g.1) (ci := 10) (v := .int (o_t_x77 6)) (C := RX10) (T := TX10) (N := 35) hx hb hts iX10_evening_X10 hown hK.1 hP 0 rfl rfl 6 (by decide) (hts _ kX10_evening_81) (fun _ h9 => h9) rfl dX10_evening_112 ?_
          refine lv_if_eq (tgt := 127) hx hb dX10_evening_115 (by decide) (fun c_40 => ?_) (fun c_40 => ?_)
          · have hF := it_p c_40 hF
            refine lv_aload_n hx hb dX10_evening_127 rfl (lv_at hl 0 rfl) ?_
            refine va_get (D := g.1) (ci := 10) (v := .int (o_t_x77 13)) (C := RX10) (T := TX10) (N := 35) hx hb hts iX10_evening_X10 hown hK.1 hP 0 rfl rfl 13 (by decide) (hts _ kX10_evening_91) (fun _ h9 => h9) rfl dX10_evening_128 ?_
            obtain ⟨J162, eJ162, hF⟩ := jn_some hF
            have hJ162 : ∀ (o_t_162 : Nat → Int32) (H : Heap) (locs : List Loc) (ls : Array Slot), J162 o_t_162 = some (r, o_t', f_t_12', f_t_15', f_t_16', f_t_17') → va_P g.1 vwCl [oX10 a_t p_t o_t_162, aI g (p_t 1) 800 f_t_1, aI g (p_t 12) 8 f_t_12_x77, aI g (p_t 15) 266 f_t_15, aI g (p_t 16) 266 f_t_16_x77, aI g (p_t 17) 17 f_t_17] H → va_D A [oX10 a_t p_t o_t_162, aI g (p_t 1) 800 f_t_1, aI g (p_t 12) 8 f_t_12_x77, aI g (p_t 15) 266 f_t_15, aI g (p_t 16) 266 f_t_16_x77, aI g (p_t 17) 17 f_t_17] → va_S A s.heap H locs → lv_has ls 3 [(0, .ref a_t)] → W p l e ({ frames := 10, cells := 0, slots := 0, locals := 221 } : Room) s m args below meth c H locs 0 0 (MQ below (EndI g r [oX10 a_t p_t o_t', aI g (p_t 1) 800 f_t_1, aI g (p_t 12) 8 f_t_12', aI g (p_t 15) 266 f_t_15', aI g (p_t 16) 266 f_t_16', aI g (p_t 17) 17 f_t_17'] A) args s 0 0 A) (F0 m 162 ls []) := by
              intro o_t_162 H locs ls hF hP hD hS hl
              have hF := jj1 eJ162 hF
              refine lv_aload_n hx hb dX10_evening_162 rfl (lv_at hl 0 rfl) ?_
              refine va_get (D := g.1) (ci := 10) (v := .int (o_t_162 13)) (C := RX10) (T := TX10) (N := 35) hx hb hts iX10_evening_X10 hown hK.1 hP 0 rfl rfl 13 (by decide) (hts _ kX10_evening_91) (fun _ h9 => h9) rfl dX10_evening_163 ?_
              refine lv_if_eq (tgt := 175) hx hb dX10_evening_166 (by decide) (fun c_41 => ?_) (fun c_41 => ?_)
              · have hF := it_p c_41 hF
                refine lv_aload_n hx hb dX10_evening_175 rfl (lv_at hl 0 rfl) ?_
                refine va_get (D := g.1) (ci := 10) (v := .ref (p_t 16)) (C := RX10) (T := TX10) (N := 35) hx hb hts iX10_evening_X10 hown hK.1 hP 0 rfl rfl 16 (by decide) (hts _ kX10_evening_23) (fun _ h9 => h9) rfl dX10_evening_176 ?_
                refine lv_iconst (v := (0 : Int32)) hx hb dX10_evening_179 (by decide) ?_
                refine lv_aload_n hx hb dX10_evening_180 rfl (lv_at hl 0 rfl) ?_
                refine va_get (D := g.1) (ci := 10) (v := .ref (p_t 15)) (C := RX10) (T := TX10) (N := 35) hx hb hts iX10_evening_X10 hown hK.1 hP 0 rfl rfl 15 (by decide) (hts _ kX10_evening_20) (fun _ h9 => h9) rfl dX10_evening_181 ?_
                refine lv_iconst (v := (0 : Int32)) hx hb dX10_evening_184 (by decide) ?_
                refine lv_sipush (v := (266 : Int32)) hx hb dX10_evening_185 (by decide) ?_
                obtain ⟨u_42, hu_43, hF⟩ := ob1_some hF
                refine call_sv (wr := [oX10 a_t p_t o_t_162, aI g (p_t 1) 800 f_t_1, aI g (p_t 12) 8 f_t_12_x77, aI g (p_t 17) 17 f_t_17]) (As := [.ref (p_t 16), .int (0 : Int32), .ref (p_t 15), .int (0 : Int32), .int (266 : Int32)]) (rest := []) C0 (mX10_copy l g (p_t 16) (p_t 15) n (0 : Int32) (0 : Int32) (266 : Int32) 266 266 f_t_16_x77 f_t_15 u_42 hu_43) (va_cwS 5 hts gX10_evening_X10_copy rfl rfl rfl (by decide +kernel) ⟨Nat.le_of_ble_eq_true rfl, Nat.le_of_ble_eq_true rfl⟩) hP hD hS [4, 3] [0, 1, 2, 5] rfl rfl rfl rfl rfl (by decide) hl.1 rfl rfl (Nat.le_of_ble_eq_true rfl) ⟨Nat.zero_le _, Nat.zero_le _⟩ dX10_evening_188 ?_
                intro H locs hP hD hS
                refine lv_aload_n hx hb dX10_evening_191 rfl (lv_at hl 0 rfl) ?_
                refine lv_aload_n hx hb dX10_evening_192 rfl (lv_at hl 0 rfl) ?_
                refine va_get (D := g.1) (ci := 10) (v := .ref (p_t 17)) (C := RX10) (T := TX10) (N := 35) hx hb hts iX10_evening_X10 hown hK.1 hP 0 rfl rfl 17 (by decide) (hts _ kX10_evening_26) (fun _ h9 => h9) rfl dX10_evening_193 ?_
                obtain ⟨u_44, hu_45, hF⟩ := ob1_some hF
                refine call_v (wr := [aI g (p_t 1) 800 f_t_1, aI g (p_t 12) 8 f_t_12_x77, aI g (p_t 16) 266 f_t_16_x77]) (As := [.ref (p_t 17)]) (rest := []) (ci := 10) (q0 := 0) C0 (mX10_layTold l g a_t (p_t 17) p_t n o_t_162 u_42 f_t_17 u_44 hu_45) (cwV 1 hts gX10_evening_X10_layTold rfl rfl rfl (by decide +kernel) ⟨Nat.le_of_ble_eq_true rfl, Nat.le_of_ble_eq_true rfl⟩) hP hD hS [0, 5, 3] [1, 2, 4] rfl rfl rfl rfl rfl (by decide) rfl rfl hl.1 rfl rfl (Nat.le_of_ble_eq_true rfl) ⟨Nat.zero_le _, Nat.zero_le _⟩ dX10_evening_196 ?_
                intro H locs hP hD hS
                refine lv_aload_n hx hb dX10_evening_199 rfl (lv_at hl 0 rfl) ?_
                refine lv_iconst (v := (1 : Int32)) hx hb dX10_evening_200 (by decide) ?_
                refine va_put (D := g.1) (ci := 10) (v := .int (1 : Int32)) (ty := .boolean) (C := RX10) (T := TX10) (N := 35) hx hb hts iX10_evening_X10 tyX10 tyX10_ok nmX10 hown hK.1 hP hD hS 3 rfl rfl 14 (by decide) (hts _ kX10_evening_176) (fun _ h9 => h9) rfl (by decide +kernel) rfl rfl (Nat.le_of_ble_eq_true rfl) dX10_evening_201 (fun H locs hP hD hS => ?_)
                have hP : va_P g.1 vwCl [aI g (p_t 1) 800 f_t_1, aI g (p_t 12) 8 f_t_12_x77, aI g (p_t 16) 266 f_t_16_x77, oX10 a_t p_t (upd o_t_162 14 (1 : Int32)), aI g (p_t 15) 266 u_42, aI g (p_t 17) 17 u_44] H := hP
                have hD : va_D A [aI g (p_t 1) 800 f_t_1, aI g (p_t 12) 8 f_t_12_x77, aI g (p_t 16) 266 f_t_16_x77, oX10 a_t p_t (upd o_t_162 14 (1 : Int32)), aI g (p_t 15) 266 u_42, aI g (p_t 17) 17 u_44] := hD
                refine lv_aload_n hx hb dX10_evening_204 rfl (lv_at hl 0 rfl) ?_
                refine lv_iconst (v := (0 : Int32)) hx hb dX10_evening_205 (by decide) ?_
                refine va_put (D := g.1) (ci := 10) (v := .int (0 : Int32)) (ty := .int) (C := RX10) (T := TX10) (N := 35) hx hb hts iX10_evening_X10 tyX10 tyX10_ok nmX10 hown hK.1 hP hD hS 3 rfl rfl 20 (by decide) (hts _ kX10_evening_179) (fun _ h9 => h9) rfl (by decide +kernel) rfl rfl (Nat.le_of_ble_eq_true rfl) dX10_evening_206 (fun H locs hP hD hS => ?_)
                have hP : va_P g.1 vwCl [aI g (p_t 1) 800 f_t_1, aI g (p_t 12) 8 f_t_12_x77, aI g (p_t 16) 266 f_t_16_x77, oX10 a_t p_t (upd (upd o_t_162 14 (1 : Int32)) 20 (0 : Int32)), aI g (p_t 15) 266 u_42, aI g (p_t 17) 17 u_44] H := hP
                have hD : va_D A [aI g (p_t 1) 800 f_t_1, aI g (p_t 12) 8 f_t_12_x77, aI g (p_t 16) 266 f_t_16_x77, oX10 a_t p_t (upd (upd o_t_162 14 (1 : Int32)) 20 (0 : Int32)), aI g (p_t 15) 266 u_42, aI g (p_t 17) 17 u_44] := hD
                refine lv_aload_n hx hb dX10_evening_209 rfl (lv_at hl 0 rfl) ?_
                refine lv_iconst (v := (0 : Int32)) hx hb dX10_evening_210 (by decide) ?_
                refine va_put (D := g.1) (ci := 10) (v := .int (0 : Int32)) (ty := .int) (C := RX10) (T := TX10) (N := 35) hx hb hts iX10_evening_X10 tyX10 tyX10_ok nmX10 hown hK.1 hP hD hS 3 rfl rfl 21 (by decide) (hts _ kX10_evening_182) (fun _ h9 => h9) rfl (by decide +kernel) rfl rfl (Nat.le_of_ble_eq_true rfl) dX10_evening_211 (fun H locs hP hD hS => ?_)
                have hP : va_P g.1 vwCl [aI g (p_t 1) 800 f_t_1, aI g (p_t 12) 8 f_t_12_x77, aI g (p_t 16) 266 f_t_16_x77, oX10 a_t p_t (upd (upd (upd o_t_162 14 (1 : Int32)) 20 (0 : Int32)) 21 (0 : Int32)), aI g (p_t 15) 266 u_42, aI g (p_t 17) 17 u_44] H := hP
                have hD : va_D A [aI g (p_t 1) 800 f_t_1, aI g (p_t 12) 8 f_t_12_x77, aI g (p_t 16) 266 f_t_16_x77, oX10 a_t p_t (upd (upd (upd o_t_162 14 (1 : Int32)) 20 (0 : Int32)) 21 (0 : Int32)), aI g (p_t 15) 266 u_42, aI g (p_t 17) 17 u_44] := hD
                refine lv_aload_n hx hb dX10_evening_214 rfl (lv_at hl 0 rfl) ?_
                refine va_get (D := g.1) (ci := 10) (v := .ref (p_t 15)) (C := RX10) (T := TX10) (N := 35) hx hb hts iX10_evening_X10 hown hK.1 hP 3 rfl rfl 15 (by decide) (hts _ kX10_evening_20) (fun _ h9 => h9) rfl dX10_evening_215 ?_
                refine lv_iconst (v := (3 : Int32)) hx hb dX10_evening_218 (by decide) ?_
                refine va_iald_k (j := 3) hx hb hK.1 hP 4 0 rfl rfl (by unfold vp_in; decide) rfl dX10_evening_219 ?_
                cases hF
                exact ret_i C0 hP hD hS [3, 0, 1, 4, 2, 5] rfl rfl rfl dX10_evening_220 rfl
              · have hF := it_n c_41 hF
                refine lv_aload_n hx hb dX10_evening_169 rfl (lv_at hl 0 rfl) ?_
                refine lv_iconst (v := (4 : Int32)) hx hb dX10_evening_170 (by decide) ?_
                obtain ⟨u_46, u_47, hu_48, hF⟩ := ob2_some hF
                refine call_i (wr := [aI g (p_t 1) 800 f_t_1, aI g (p_t 12) 8 f_t_12_x77, aI g (p_t 15) 266 f_t_15, aI g (p_t 16) 266 f_t_16_x77, aI g (p_t 17) 17 f_t_17]) (As := [.int (4 : Int32)]) (rest := []) (ci := 10) (q0 := 0) C0 (mX10_no l g a_t p_t n (4 : Int32) o_t_162 u_46 u_47 hu_48) (cwV 1 hts gX10_evening_X10_no rfl rfl rfl (by decide +kernel) ⟨Nat.le_of_ble_eq_true rfl, Nat.le_of_ble_eq_true rfl⟩) hP hD hS [0] [1, 2, 3, 4, 5] rfl rfl rfl rfl rfl (by decide) rfl rfl hl.1 rfl rfl (Nat.le_of_ble_eq_true rfl) ⟨Nat.zero_le _, Nat.zero_le _⟩ dX10_evening_171 ?_
                intro H locs hP hD hS
                cases hF
                exact ret_i C0 hP hD hS [5, 0, 1, 2, 3, 4] rfl rfl rfl dX10_evening_174 rfl
            refine lv_if_ne (tgt := 162) hx hb dX10_evening_131 (by decide) (fun c_49 => ?_) (fun c_49 => ?_)
            · have hF := it_n c_49 hF
              exact hJ162 o_t_x77 _ _ _ hF (hP.sub [0, 1, 2, 3, 4, 5] rfl) (hD.sub [0, 1, 2, 3, 4, 5] rfl rfl) hS (lv_sub hl [0] rfl)
            · have hF := it_p c_49 hF
              refine lv_aload_n hx hb dX10_evening_134 rfl (lv_at hl 0 rfl) ?_
              refine va_get (D := g.1) (ci := 10) (v := .ref (p_t 16)) (C := RX10) (T := TX10) (N := 35) hx hb hts iX10_evening_X10 hown hK.1 hP 0 rfl rfl 16 (by decide) (hts _ kX10_evening_23) (fun _ h9 => h9) rfl dX10_evening_135 ?_
              refine lv_iconst (v := (1 : Int32)) hx hb dX10_evening_138 (by decide) ?_
              refine va_iald_k (j := 1) hx hb hK.1 hP 4 0 rfl rfl (by unfold vp_in; decide) rfl dX10_evening_139 ?_
              refine lv_if_eq (tgt := 152) hx hb dX10_evening_140 (by decide) (fun c_50 => ?_) (fun c_50 => ?_)
              · have hF := it_p c_50 hF
                refine lv_aload_n hx hb dX10_evening_152 rfl (lv_at hl 0 rfl) ?_
                refine lv_bipush (v := (6 : Int32)) hx hb dX10_evening_153 (by decide) ?_
                refine lv_aload_n hx hb dX10_evening_155 rfl (lv_at hl 0 rfl) ?_
                refine va_get (D := g.1) (ci := 10) (v := .int (o_t_x77 4)) (C := RX10) (T := TX10) (N := 35) hx hb hts iX10_evening_X10 hown hK.1 hP 0 rfl rfl 4 (by decide) (hts _ kX10_evening_72) (fun _ h9 => h9) rfl dX10_evening_156 ?_
                obtain ⟨u_51, hu_52, hF⟩ := ob1_some hF
                refine call_v (wr := [aI g (p_t 1) 800 f_t_1, aI g (p_t 12) 8 f_t_12_x77, aI g (p_t 15) 266 f_t_15, aI g (p_t 16) 266 f_t_16_x77, aI g (p_t 17) 17 f_t_17]) (As := [.int (6 : Int32), .int (o_t_x77 4)]) (rest := []) (ci := 10) (q0 := 0) C0 (mX10_wrong l g a_t p_t n (6 : Int32) (o_t_x77 4) o_t_x77 u_51 hu_52) (cwV 2 hts gX10_evening_X10_wrong rfl rfl rfl (by decide +kernel) ⟨Nat.le_of_ble_eq_true rfl, Nat.le_of_ble_eq_true rfl⟩) hP hD hS [0] [1, 2, 3, 4, 5] rfl rfl rfl rfl rfl (by decide) rfl rfl hl.1 rfl rfl (Nat.le_of_ble_eq_true rfl) ⟨Nat.zero_le _, Nat.zero_le _⟩ dX10_evening_159 ?_
                intro H locs hP hD hS
                exact hJ162 u_51 _ _ _ hF (hP.sub [5, 0, 1, 2, 3, 4] rfl) (hD.sub [5, 0, 1, 2, 3, 4] rfl rfl) hS (lv_sub hl [0] rfl)
              · have hF := it_n c_50 hF
                refine lv_aload_n hx hb dX10_evening_143 rfl (lv_at hl 0 rfl) ?_
                refine va_get (D := g.1) (ci := 10) (v := .ref (p_t 16)) (C := RX10) (T := TX10) (N := 35) hx hb hts iX10_evening_X10 hown hK.1 hP 0 rfl rfl 16 (by decide) (hts _ kX10_evening_23) (fun _ h9 => h9) rfl dX10_evening_144 ?_
                refine lv_iconst (v := (3 : Int32)) hx hb dX10_evening_147 (by decide) ?_
                refine va_iald_k (j := 3) hx hb hK.1 hP 4 0 rfl rfl (by unfold vp_in; decide) rfl dX10_evening_148 ?_
                refine lv_if_ne (tgt := 162) hx hb dX10_evening_149 (by decide) (fun c_53 => ?_) (fun c_53 => ?_)
                · have hF := it_n c_53 hF
                  exact hJ162 o_t_x77 _ _ _ hF (hP.sub [0, 1, 2, 3, 4, 5] rfl) (hD.sub [0, 1, 2, 3, 4, 5] rfl rfl) hS (lv_sub hl [0] rfl)
                · have hF := it_p c_53 hF
                  refine lv_aload_n hx hb dX10_evening_152 rfl (lv_at hl 0 rfl) ?_
                  refine lv_bipush (v := (6 : Int32)) hx hb dX10_evening_153 (by decide) ?_
                  refine lv_aload_n hx hb dX10_evening_155 rfl (lv_at hl 0 rfl) ?_
                  refine va_get (D := g.1) (ci := 10) (v := .int (o_t_x77 4)) (C := RX10) (T := TX10) (N := 35) hx hb hts iX10_evening_X10 hown hK.1 hP 0 rfl rfl 4 (by decide) (hts _ kX10_evening_72) (fun _ h9 => h9) rfl dX10_evening_156 ?_
                  obtain ⟨u_54, hu_55, hF⟩ := ob1_some hF
                  refine call_v (wr := [aI g (p_t 1) 800 f_t_1, aI g (p_t 12) 8 f_t_12_x77, aI g (p_t 15) 266 f_t_15, aI g (p_t 16) 266 f_t_16_x77, aI g (p_t 17) 17 f_t_17]) (As := [.int (6 : Int32), .int (o_t_x77 4)]) (rest := []) (ci := 10) (q0 := 0) C0 (mX10_wrong l g a_t p_t n (6 : Int32) (o_t_x77 4) o_t_x77 u_54 hu_55) (cwV 2 hts gX10_evening_X10_wrong rfl rfl rfl (by decide +kernel) ⟨Nat.le_of_ble_eq_true rfl, Nat.le_of_ble_eq_true rfl⟩) hP hD hS [0] [1, 2, 3, 4, 5] rfl rfl rfl rfl rfl (by decide) rfl rfl hl.1 rfl rfl (Nat.le_of_ble_eq_true rfl) ⟨Nat.zero_le _, Nat.zero_le _⟩ dX10_evening_159 ?_
                  intro H locs hP hD hS
                  exact hJ162 u_54 _ _ _ hF (hP.sub [5, 0, 1, 2, 3, 4] rfl) (hD.sub [5, 0, 1, 2, 3, 4] rfl rfl) hS (lv_sub hl [0] rfl)
          · have hF := it_n c_40 hF
            refine lv_aload_n hx hb dX10_evening_118 rfl (lv_at hl 0 rfl) ?_
            refine lv_iconst (v := (1 : Int32)) hx hb dX10_evening_119 (by decide) ?_
            refine lv_aload_n hx hb dX10_evening_120 rfl (lv_at hl 0 rfl) ?_
            refine va_get (D := g.1) (ci := 10) (v := .int (o_t_x77 4)) (C := RX10) (T := TX10) (N := 35) hx hb hts iX10_evening_X10 hown hK.1 hP 0 rfl rfl 4 (by decide) (hts _ kX10_evening_72) (fun _ h9 => h9) rfl dX10_evening_121 ?_
            obtain ⟨u_56, hu_57, hF⟩ := ob1_some hF
            refine call_v (wr := [aI g (p_t 1) 800 f_t_1, aI g (p_t 12) 8 f_t_12_x77, aI g (p_t 15) 266 f_t_15, aI g (p_t 16) 266 f_t_16_x77, aI g (p_t 17) 17 f_t_17]) (As := [.int (1 : Int32), .int (o_t_x77 4)]) (rest := []) (ci := 10) (q0 := 0) C0 (mX10_wrong l g a_t p_t n (1 : Int32) (o_t_x77 4) o_t_x77 u_56 hu_57) (cwV 2 hts gX10_evening_X10_wrong rfl rfl rfl (by decide +kernel) ⟨Nat.le_of_ble_eq_true rfl, Nat.le_of_ble_eq_true rfl⟩) hP hD hS [0] [1, 2, 3, 4, 5] rfl rfl rfl rfl rfl (by decide) rfl rfl hl.1 rfl rfl (Nat.le_of_ble_eq_true rfl) ⟨Nat.zero_le _, Nat.zero_le _⟩ dX10_evening_124 ?_
            intro H locs hP hD hS
            refine lv_aload_n hx hb dX10_evening_127 rfl (lv_at hl 0 rfl) ?_
            refine va_get (D := g.1) (ci := 10) (v := .int (u_56 13)) (C := RX10) (T := TX10) (N := 35) hx hb hts iX10_evening_X10 hown hK.1 hP 5 rfl rfl 13 (by decide) (hts _ kX10_evening_91) (fun _ h9 => h9) rfl dX10_evening_128 ?_
            obtain ⟨J162, eJ162, hF⟩ := jn_some hF
            have hJ162 : ∀ (o_t_162 : Nat → Int32) (H : Heap) (locs : List Loc) (ls : Array Slot), J162 o_t_162 = some (r, o_t', f_t_12', f_t_15', f_t_16', f_t_17') → va_P g.1 vwCl [aI g (p_t 1) 800 f_t_1, aI g (p_t 12) 8 f_t_12_x77, aI g (p_t 15) 266 f_t_15, aI g (p_t 16) 266 f_t_16_x77, aI g (p_t 17) 17 f_t_17, oX10 a_t p_t o_t_162] H → va_D A [aI g (p_t 1) 800 f_t_1, aI g (p_t 12) 8 f_t_12_x77, aI g (p_t 15) 266 f_t_15, aI g (p_t 16) 266 f_t_16_x77, aI g (p_t 17) 17 f_t_17, oX10 a_t p_t o_t_162] → va_S A s.heap H locs → lv_has ls 3 [(0, .ref a_t)] → W p l e ({ frames := 10, cells := 0, slots := 0, locals := 221 } : Room) s m args below meth c H locs 0 0 (MQ below (EndI g r [oX10 a_t p_t o_t', aI g (p_t 1) 800 f_t_1, aI g (p_t 12) 8 f_t_12', aI g (p_t 15) 266 f_t_15', aI g (p_t 16) 266 f_t_16', aI g (p_t 17) 17 f_t_17'] A) args s 0 0 A) (F0 m 162 ls []) := by
              intro o_t_162 H locs ls hF hP hD hS hl
              have hF := jj1 eJ162 hF
              refine lv_aload_n hx hb dX10_evening_162 rfl (lv_at hl 0 rfl) ?_
              refine va_get (D := g.1) (ci := 10) (v := .int (o_t_162 13)) (C := RX10) (T := TX10) (N := 35) hx hb hts iX10_evening_X10 hown hK.1 hP 5 rfl rfl 13 (by decide) (hts _ kX10_evening_91) (fun _ h9 => h9) rfl dX10_evening_163 ?_
              refine lv_if_eq (tgt := 175) hx hb dX10_evening_166 (by decide) (fun c_58 => ?_) (fun c_58 => ?_)
              · have hF := it_p c_58 hF
                refine lv_aload_n hx hb dX10_evening_175 rfl (lv_at hl 0 rfl) ?_
                refine va_get (D := g.1) (ci := 10) (v := .ref (p_t 16)) (C := RX10) (T := TX10) (N := 35) hx hb hts iX10_evening_X10 hown hK.1 hP 5 rfl rfl 16 (by decide) (hts _ kX10_evening_23) (fun _ h9 => h9) rfl dX10_evening_176 ?_
                refine lv_iconst (v := (0 : Int32)) hx hb dX10_evening_179 (by decide) ?_
                refine lv_aload_n hx hb dX10_evening_180 rfl (lv_at hl 0 rfl) ?_
                refine va_get (D := g.1) (ci := 10) (v := .ref (p_t 15)) (C := RX10) (T := TX10) (N := 35) hx hb hts iX10_evening_X10 hown hK.1 hP 5 rfl rfl 15 (by decide) (hts _ kX10_evening_20) (fun _ h9 => h9) rfl dX10_evening_181 ?_
                refine lv_iconst (v := (0 : Int32)) hx hb dX10_evening_184 (by decide) ?_
                refine lv_sipush (v := (266 : Int32)) hx hb dX10_evening_185 (by decide) ?_
                obtain ⟨u_59, hu_60, hF⟩ := ob1_some hF
                refine call_sv (wr := [aI g (p_t 1) 800 f_t_1, aI g (p_t 12) 8 f_t_12_x77, aI g (p_t 17) 17 f_t_17, oX10 a_t p_t o_t_162]) (As := [.ref (p_t 16), .int (0 : Int32), .ref (p_t 15), .int (0 : Int32), .int (266 : Int32)]) (rest := []) C0 (mX10_copy l g (p_t 16) (p_t 15) n (0 : Int32) (0 : Int32) (266 : Int32) 266 266 f_t_16_x77 f_t_15 u_59 hu_60) (va_cwS 5 hts gX10_evening_X10_copy rfl rfl rfl (by decide +kernel) ⟨Nat.le_of_ble_eq_true rfl, Nat.le_of_ble_eq_true rfl⟩) hP hD hS [3, 2] [0, 1, 4, 5] rfl rfl rfl rfl rfl (by decide) hl.1 rfl rfl (Nat.le_of_ble_eq_true rfl) ⟨Nat.zero_le _, Nat.zero_le _⟩ dX10_evening_188 ?_
                intro H locs hP hD hS
                refine lv_aload_n hx hb dX10_evening_191 rfl (lv_at hl 0 rfl) ?_
                refine lv_aload_n hx hb dX10_evening_192 rfl (lv_at hl 0 rfl) ?_
                refine va_get (D := g.1) (ci := 10) (v := .ref (p_t 17)) (C := RX10) (T := TX10) (N := 35) hx hb hts iX10_evening_X10 hown hK.1 hP 3 rfl rfl 17 (by decide) (hts _ kX10_evening_26) (fun _ h9 => h9) rfl dX10_evening_193 ?_
                obtain ⟨u_61, hu_62, hF⟩ := ob1_some hF
                refine call_v (wr := [aI g (p_t 1) 800 f_t_1, aI g (p_t 12) 8 f_t_12_x77, aI g (p_t 16) 266 f_t_16_x77]) (As := [.ref (p_t 17)]) (rest := []) (ci := 10) (q0 := 0) C0 (mX10_layTold l g a_t (p_t 17) p_t n o_t_162 u_59 f_t_17 u_61 hu_62) (cwV 1 hts gX10_evening_X10_layTold rfl rfl rfl (by decide +kernel) ⟨Nat.le_of_ble_eq_true rfl, Nat.le_of_ble_eq_true rfl⟩) hP hD hS [3, 5, 2] [0, 1, 4] rfl rfl rfl rfl rfl (by decide) rfl rfl hl.1 rfl rfl (Nat.le_of_ble_eq_true rfl) ⟨Nat.zero_le _, Nat.zero_le _⟩ dX10_evening_196 ?_
                intro H locs hP hD hS
                refine lv_aload_n hx hb dX10_evening_199 rfl (lv_at hl 0 rfl) ?_
                refine lv_iconst (v := (1 : Int32)) hx hb dX10_evening_200 (by decide) ?_
                refine va_put (D := g.1) (ci := 10) (v := .int (1 : Int32)) (ty := .boolean) (C := RX10) (T := TX10) (N := 35) hx hb hts iX10_evening_X10 tyX10 tyX10_ok nmX10 hown hK.1 hP hD hS 3 rfl rfl 14 (by decide) (hts _ kX10_evening_176) (fun _ h9 => h9) rfl (by decide +kernel) rfl rfl (Nat.le_of_ble_eq_true rfl) dX10_evening_201 (fun H locs hP hD hS => ?_)
                have hP : va_P g.1 vwCl [aI g (p_t 1) 800 f_t_1, aI g (p_t 12) 8 f_t_12_x77, aI g (p_t 16) 266 f_t_16_x77, oX10 a_t p_t (upd o_t_162 14 (1 : Int32)), aI g (p_t 15) 266 u_59, aI g (p_t 17) 17 u_61] H := hP
                have hD : va_D A [aI g (p_t 1) 800 f_t_1, aI g (p_t 12) 8 f_t_12_x77, aI g (p_t 16) 266 f_t_16_x77, oX10 a_t p_t (upd o_t_162 14 (1 : Int32)), aI g (p_t 15) 266 u_59, aI g (p_t 17) 17 u_61] := hD
                refine lv_aload_n hx hb dX10_evening_204 rfl (lv_at hl 0 rfl) ?_
                refine lv_iconst (v := (0 : Int32)) hx hb dX10_evening_205 (by decide) ?_
                refine va_put (D := g.1) (ci := 10) (v := .int (0 : Int32)) (ty := .int) (C := RX10) (T := TX10) (N := 35) hx hb hts iX10_evening_X10 tyX10 tyX10_ok nmX10 hown hK.1 hP hD hS 3 rfl rfl 20 (by decide) (hts _ kX10_evening_179) (fun _ h9 => h9) rfl (by decide +kernel) rfl rfl (Nat.le_of_ble_eq_true rfl) dX10_evening_206 (fun H locs hP hD hS => ?_)
                have hP : va_P g.1 vwCl [aI g (p_t 1) 800 f_t_1, aI g (p_t 12) 8 f_t_12_x77, aI g (p_t 16) 266 f_t_16_x77, oX10 a_t p_t (upd (upd o_t_162 14 (1 : Int32)) 20 (0 : Int32)), aI g (p_t 15) 266 u_59, aI g (p_t 17) 17 u_61] H := hP
                have hD : va_D A [aI g (p_t 1) 800 f_t_1, aI g (p_t 12) 8 f_t_12_x77, aI g (p_t 16) 266 f_t_16_x77, oX10 a_t p_t (upd (upd o_t_162 14 (1 : Int32)) 20 (0 : Int32)), aI g (p_t 15) 266 u_59, aI g (p_t 17) 17 u_61] := hD
                refine lv_aload_n hx hb dX10_evening_209 rfl (lv_at hl 0 rfl) ?_
                refine lv_iconst (v := (0 : Int32)) hx hb dX10_evening_210 (by decide) ?_
                refine va_put (D := g.1) (ci := 10) (v := .int (0 : Int32)) (ty := .int) (C := RX10) (T := TX10) (N := 35) hx hb hts iX10_evening_X10 tyX10 tyX10_ok nmX10 hown hK.1 hP hD hS 3 rfl rfl 21 (by decide) (hts _ kX10_evening_182) (fun _ h9 => h9) rfl (by decide +kernel) rfl rfl (Nat.le_of_ble_eq_true rfl) dX10_evening_211 (fun H locs hP hD hS => ?_)
                have hP : va_P g.1 vwCl [aI g (p_t 1) 800 f_t_1, aI g (p_t 12) 8 f_t_12_x77, aI g (p_t 16) 266 f_t_16_x77, oX10 a_t p_t (upd (upd (upd o_t_162 14 (1 : Int32)) 20 (0 : Int32)) 21 (0 : Int32)), aI g (p_t 15) 266 u_59, aI g (p_t 17) 17 u_61] H := hP
                have hD : va_D A [aI g (p_t 1) 800 f_t_1, aI g (p_t 12) 8 f_t_12_x77, aI g (p_t 16) 266 f_t_16_x77, oX10 a_t p_t (upd (upd (upd o_t_162 14 (1 : Int32)) 20 (0 : Int32)) 21 (0 : Int32)), aI g (p_t 15) 266 u_59, aI g (p_t 17) 17 u_61] := hD
                refine lv_aload_n hx hb dX10_evening_214 rfl (lv_at hl 0 rfl) ?_
                refine va_get (D := g.1) (ci := 10) (v := .ref (p_t 15)) (C := RX10) (T := TX10) (N := 35) hx hb hts iX10_evening_X10 hown hK.1 hP 3 rfl rfl 15 (by decide) (hts _ kX10_evening_20) (fun _ h9 => h9) rfl dX10_evening_215 ?_
                refine lv_iconst (v := (3 : Int32)) hx hb dX10_evening_218 (by decide) ?_
                refine va_iald_k (j := 3) hx hb hK.1 hP 4 0 rfl rfl (by unfold vp_in; decide) rfl dX10_evening_219 ?_
                cases hF
                exact ret_i C0 hP hD hS [3, 0, 1, 4, 2, 5] rfl rfl rfl dX10_evening_220 rfl
              · have hF := it_n c_58 hF
                refine lv_aload_n hx hb dX10_evening_169 rfl (lv_at hl 0 rfl) ?_
                refine lv_iconst (v := (4 : Int32)) hx hb dX10_evening_170 (by decide) ?_
                obtain ⟨u_63, u_64, hu_65, hF⟩ := ob2_some hF
                refine call_i (wr := [aI g (p_t 1) 800 f_t_1, aI g (p_t 12) 8 f_t_12_x77, aI g (p_t 15) 266 f_t_15, aI g (p_t 16) 266 f_t_16_x77, aI g (p_t 17) 17 f_t_17]) (As := [.int (4 : Int32)]) (rest := []) (ci := 10) (q0 := 0) C0 (mX10_no l g a_t p_t n (4 : Int32) o_t_162 u_63 u_64 hu_65) (cwV 1 hts gX10_evening_X10_no rfl rfl rfl (by decide +kernel) ⟨Nat.le_of_ble_eq_true rfl, Nat.le_of_ble_eq_true rfl⟩) hP hD hS [5] [0, 1, 2, 3, 4] rfl rfl rfl rfl rfl (by decide) rfl rfl hl.1 rfl rfl (Nat.le_of_ble_eq_true rfl) ⟨Nat.zero_le _, Nat.zero_le _⟩ dX10_evening_171 ?_
                intro H locs hP hD hS
                cases hF
                exact ret_i C0 hP hD hS [5, 0, 1, 2, 3, 4] rfl rfl rfl dX10_evening_174 rfl
            refine lv_if_ne (tgt := 162) hx hb dX10_evening_131 (by decide) (fun c_66 => ?_) (fun c_66 => ?_)
            · have hF := it_n c_66 hF
              exact hJ162 u_56 _ _ _ hF (hP.sub [0, 1, 2, 3, 4, 5] rfl) (hD.sub [0, 1, 2, 3, 4, 5] rfl rfl) hS (lv_sub hl [0] rfl)
            · have hF := it_p c_66 hF
              refine lv_aload_n hx hb dX10_evening_134 rfl (lv_at hl 0 rfl) ?_
              refine va_get (D := g.1) (ci := 10) (v := .ref (p_t 16)) (C := RX10) (T := TX10) (N := 35) hx hb hts iX10_evening_X10 hown hK.1 hP 5 rfl rfl 16 (by decide) (hts _ kX10_evening_23) (fun _ h9 => h9) rfl dX10_evening_135 ?_
              refine lv_iconst (v := (1 : Int32)) hx hb dX10_evening_138 (by decide) ?_
              refine va_iald_k (j := 1) hx hb hK.1 hP 3 0 rfl rfl (by unfold vp_in; decide) rfl dX10_evening_139 ?_
              refine lv_if_eq (tgt := 152) hx hb dX10_evening_140 (by decide) (fun c_67 => ?_) (fun c_67 => ?_)
              · have hF := it_p c_67 hF
                refine lv_aload_n hx hb dX10_evening_152 rfl (lv_at hl 0 rfl) ?_
                refine lv_bipush (v := (6 : Int32)) hx hb dX10_evening_153 (by decide) ?_
                refine lv_aload_n hx hb dX10_evening_155 rfl (lv_at hl 0 rfl) ?_
                refine va_get (D := g.1) (ci := 10) (v := .int (u_56 4)) (C := RX10) (T := TX10) (N := 35) hx hb hts iX10_evening_X10 hown hK.1 hP 5 rfl rfl 4 (by decide) (hts _ kX10_evening_72) (fun _ h9 => h9) rfl dX10_evening_156 ?_
                obtain ⟨u_68, hu_69, hF⟩ := ob1_some hF
                refine call_v (wr := [aI g (p_t 1) 800 f_t_1, aI g (p_t 12) 8 f_t_12_x77, aI g (p_t 15) 266 f_t_15, aI g (p_t 16) 266 f_t_16_x77, aI g (p_t 17) 17 f_t_17]) (As := [.int (6 : Int32), .int (u_56 4)]) (rest := []) (ci := 10) (q0 := 0) C0 (mX10_wrong l g a_t p_t n (6 : Int32) (u_56 4) u_56 u_68 hu_69) (cwV 2 hts gX10_evening_X10_wrong rfl rfl rfl (by decide +kernel) ⟨Nat.le_of_ble_eq_true rfl, Nat.le_of_ble_eq_true rfl⟩) hP hD hS [5] [0, 1, 2, 3, 4] rfl rfl rfl rfl rfl (by decide) rfl rfl hl.1 rfl rfl (Nat.le_of_ble_eq_true rfl) ⟨Nat.zero_le _, Nat.zero_le _⟩ dX10_evening_159 ?_
                intro H locs hP hD hS
                exact hJ162 u_68 _ _ _ hF (hP.sub [0, 1, 2, 3, 4, 5] rfl) (hD.sub [0, 1, 2, 3, 4, 5] rfl rfl) hS (lv_sub hl [0] rfl)
              · have hF := it_n c_67 hF
                refine lv_aload_n hx hb dX10_evening_143 rfl (lv_at hl 0 rfl) ?_
                refine va_get (D := g.1) (ci := 10) (v := .ref (p_t 16)) (C := RX10) (T := TX10) (N := 35) hx hb hts iX10_evening_X10 hown hK.1 hP 5 rfl rfl 16 (by decide) (hts _ kX10_evening_23) (fun _ h9 => h9) rfl dX10_evening_144 ?_
                refine lv_iconst (v := (3 : Int32)) hx hb dX10_evening_147 (by decide) ?_
                refine va_iald_k (j := 3) hx hb hK.1 hP 3 0 rfl rfl (by unfold vp_in; decide) rfl dX10_evening_148 ?_
                refine lv_if_ne (tgt := 162) hx hb dX10_evening_149 (by decide) (fun c_70 => ?_) (fun c_70 => ?_)
                · have hF := it_n c_70 hF
                  exact hJ162 u_56 _ _ _ hF (hP.sub [0, 1, 2, 3, 4, 5] rfl) (hD.sub [0, 1, 2, 3, 4, 5] rfl rfl) hS (lv_sub hl [0] rfl)
                · have hF := it_p c_70 hF
                  refine lv_aload_n hx hb dX10_evening_152 rfl (lv_at hl 0 rfl) ?_
                  refine lv_bipush (v := (6 : Int32)) hx hb dX10_evening_153 (by decide) ?_
                  refine lv_aload_n hx hb dX10_evening_155 rfl (lv_at hl 0 rfl) ?_
                  refine va_get (D := g.1) (ci := 10) (v := .int (u_56 4)) (C := RX10) (T := TX10) (N := 35) hx hb hts iX10_evening_X10 hown hK.1 hP 5 rfl rfl 4 (by decide) (hts _ kX10_evening_72) (fun _ h9 => h9) rfl dX10_evening_156 ?_
                  obtain ⟨u_71, hu_72, hF⟩ := ob1_some hF
                  refine call_v (wr := [aI g (p_t 1) 800 f_t_1, aI g (p_t 12) 8 f_t_12_x77, aI g (p_t 15) 266 f_t_15, aI g (p_t 16) 266 f_t_16_x77, aI g (p_t 17) 17 f_t_17]) (As := [.int (6 : Int32), .int (u_56 4)]) (rest := []) (ci := 10) (q0 := 0) C0 (mX10_wrong l g a_t p_t n (6 : Int32) (u_56 4) u_56 u_71 hu_72) (cwV 2 hts gX10_evening_X10_wrong rfl rfl rfl (by decide +kernel) ⟨Nat.le_of_ble_eq_true rfl, Nat.le_of_ble_eq_true rfl⟩) hP hD hS [5] [0, 1, 2, 3, 4] rfl rfl rfl rfl rfl (by decide) rfl rfl hl.1 rfl rfl (Nat.le_of_ble_eq_true rfl) ⟨Nat.zero_le _, Nat.zero_le _⟩ dX10_evening_159 ?_
                  intro H locs hP hD hS
                  exact hJ162 u_71 _ _ _ hF (hP.sub [0, 1, 2, 3, 4, 5] rfl) (hD.sub [0, 1, 2, 3, 4, 5] rfl rfl) hS (lv_sub hl [0] rfl)
  · have hF := it_p c_5 hF
    refine lv_aload_n hx hb dX10_evening_16 rfl (lv_at hl 0 rfl) ?_
    refine lv_iconst (v := (2 : Int32)) hx hb dX10_evening_17 (by decide) ?_
    obtain ⟨u_73, u_74, hu_75, hF⟩ := ob2_some hF
    refine call_i (wr := [aI g (p_t 1) 800 f_t_1, aI g (p_t 12) 8 f_t_12, aI g (p_t 15) 266 f_t_15, aI g (p_t 16) 266 f_t_16, aI g (p_t 17) 17 f_t_17]) (As := [.int (2 : Int32)]) (rest := []) (ci := 10) (q0 := 0) C0 (mX10_no l g a_t p_t n (2 : Int32) u_1 u_73 u_74 hu_75) (cwV 1 hts gX10_evening_X10_no rfl rfl rfl (by decide +kernel) ⟨Nat.le_of_ble_eq_true rfl, Nat.le_of_ble_eq_true rfl⟩) hP hD hS [5] [0, 1, 2, 3, 4] rfl rfl rfl rfl rfl (by decide) rfl rfl hl.1 rfl rfl (Nat.le_of_ble_eq_true rfl) ⟨Nat.zero_le _, Nat.zero_le _⟩ dX10_evening_18 ?_
    intro H locs hP hD hS
    cases hF
    exact ret_i C0 hP hD hS [5, 0, 1, 2, 3, 4] rfl rfl rfl dX10_evening_21 rfl

theorem dAX10_fault : ∀ q ∈ ([(0, (.aload_n 0, 1)), (1, (.iconst 0, 1)), (2, (.putfield 53, 3)), (5, (.aload_n 0, 1)), (6, (.getfield 95, 3)), (9, (.ireturn, 1))] : List (Nat × (Instr × Nat))), decode cX10_fault q.1 = .ok q.2 := by decide +kernel
theorem dX10_fault_0 : decode cX10_fault 0 = .ok (.aload_n 0, 1) := dAX10_fault (0, (.aload_n 0, 1)) (List.mem_of_getElem? (i := 0) rfl)
theorem dX10_fault_1 : decode cX10_fault 1 = .ok (.iconst 0, 1) := dAX10_fault (1, (.iconst 0, 1)) (List.mem_of_getElem? (i := 1) rfl)
theorem dX10_fault_2 : decode cX10_fault 2 = .ok (.putfield 53, 3) := dAX10_fault (2, (.putfield 53, 3)) (List.mem_of_getElem? (i := 2) rfl)
theorem dX10_fault_5 : decode cX10_fault 5 = .ok (.aload_n 0, 1) := dAX10_fault (5, (.aload_n 0, 1)) (List.mem_of_getElem? (i := 3) rfl)
theorem dX10_fault_6 : decode cX10_fault 6 = .ok (.getfield 95, 3) := dAX10_fault (6, (.getfield 95, 3)) (List.mem_of_getElem? (i := 4) rfl)
theorem dX10_fault_9 : decode cX10_fault 9 = .ok (.ireturn, 1) := dAX10_fault (9, (.ireturn, 1)) (List.mem_of_getElem? (i := 5) rfl)
theorem kX10_fault_53 : Cond.fieldLink RX10 53 "EveningVowModel" "thrown" "I" ∈ wsX10_fault := List.mem_of_getElem? (i := 1) rfl
theorem iX10_fault_X10 : ∀ w ∈ u_ws RX10 TX10 35, w ∈ wsX10_fault := fun w h => (List.mem_cons_of_mem _ (List.mem_append_right _ h))
theorem kX10_fault_95 : Cond.fieldLink RX10 95 "EveningVowModel" "fault" "I" ∈ wsX10_fault := List.mem_of_getElem? (i := 2) rfl
set_option maxHeartbeats 4000000 in
set_option maxRecDepth 100000 in
theorem mX10_fault (l : Launch) (g : GG) (a_t : Nat) (p_t : Nat → Nat) (n : Nat) (o_t : Nat → Int32) (r : Int32) (o_t' : Nat → Int32) (hF : fX10_fault n o_t = some (r, o_t')) : MI l g yX10_fault wsX10_fault ({ frames := 0, cells := 0, slots := 0, locals := 0 } : Room) [.ref a_t] [oX10 a_t p_t o_t] r [oX10 a_t p_t o_t'] := by
  refine MI.of (cc := cX10_fault) (maxL := 1) (rt := .int) (own := RX10) rfl rfl (by decide) (Nat.le_of_ble_eq_true rfl) ?_
  intro p e s m args below meth c A C0 hP hD hS ls hl
  obtain ⟨hx, hb, hml, hown, hts, hr, hlk, hK, hA, hSW⟩ := id C0
  have hl : lv_has ls 1 [(0, .ref a_t)] := hl
  rw [fX10_fault] at hF
  refine lv_aload_n hx hb dX10_fault_0 rfl (lv_at hl 0 rfl) ?_
  refine lv_iconst (v := (0 : Int32)) hx hb dX10_fault_1 (by decide) ?_
  refine va_put (D := g.1) (ci := 10) (v := .int (0 : Int32)) (ty := .int) (C := RX10) (T := TX10) (N := 35) hx hb hts iX10_fault_X10 tyX10 tyX10_ok nmX10 hown hK.1 hP hD hS 0 rfl rfl 0 (by decide) (hts _ kX10_fault_53) (fun _ h9 => h9) rfl (by decide +kernel) rfl rfl (Nat.le_of_ble_eq_true rfl) dX10_fault_2 (fun H locs hP hD hS => ?_)
  have hP : va_P g.1 vwCl [oX10 a_t p_t (upd o_t 0 (0 : Int32))] H := hP
  have hD : va_D A [oX10 a_t p_t (upd o_t 0 (0 : Int32))] := hD
  refine lv_aload_n hx hb dX10_fault_5 rfl (lv_at hl 0 rfl) ?_
  refine va_get (D := g.1) (ci := 10) (v := .int (o_t 9)) (C := RX10) (T := TX10) (N := 35) hx hb hts iX10_fault_X10 hown hK.1 hP 0 rfl rfl 9 (by decide) (hts _ kX10_fault_95) (fun _ h9 => h9) rfl dX10_fault_6 ?_
  cases hF
  exact ret_i C0 hP hD hS [0] rfl rfl rfl dX10_fault_9 rfl

theorem dAX10_where : ∀ q ∈ ([(0, (.aload_n 0, 1)), (1, (.iconst 0, 1)), (2, (.putfield 53, 3)), (5, (.aload_n 0, 1)), (6, (.getfield 56, 3)), (9, (.iconst 4, 1)), (10, (.if_icmp .ne 10, 3)), (13, (.aload_n 0, 1)), (14, (.getfield 13, 3)), (17, (.goto 4, 3)), (20, (.iconst (-1), 1)), (21, (.ireturn, 1))] : List (Nat × (Instr × Nat))), decode cX10_where q.1 = .ok q.2 := by decide +kernel
theorem dX10_where_0 : decode cX10_where 0 = .ok (.aload_n 0, 1) := dAX10_where (0, (.aload_n 0, 1)) (List.mem_of_getElem? (i := 0) rfl)
theorem dX10_where_1 : decode cX10_where 1 = .ok (.iconst 0, 1) := dAX10_where (1, (.iconst 0, 1)) (List.mem_of_getElem? (i := 1) rfl)
theorem dX10_where_2 : decode cX10_where 2 = .ok (.putfield 53, 3) := dAX10_where (2, (.putfield 53, 3)) (List.mem_of_getElem? (i := 2) rfl)
theorem dX10_where_5 : decode cX10_where 5 = .ok (.aload_n 0, 1) := dAX10_where (5, (.aload_n 0, 1)) (List.mem_of_getElem? (i := 3) rfl)
theorem dX10_where_6 : decode cX10_where 6 = .ok (.getfield 56, 3) := dAX10_where (6, (.getfield 56, 3)) (List.mem_of_getElem? (i := 4) rfl)
theorem dX10_where_9 : decode cX10_where 9 = .ok (.iconst 4, 1) := dAX10_where (9, (.iconst 4, 1)) (List.mem_of_getElem? (i := 5) rfl)
theorem dX10_where_10 : decode cX10_where 10 = .ok (.if_icmp .ne 10, 3) := dAX10_where (10, (.if_icmp .ne 10, 3)) (List.mem_of_getElem? (i := 6) rfl)
theorem dX10_where_13 : decode cX10_where 13 = .ok (.aload_n 0, 1) := dAX10_where (13, (.aload_n 0, 1)) (List.mem_of_getElem? (i := 7) rfl)
theorem dX10_where_14 : decode cX10_where 14 = .ok (.getfield 13, 3) := dAX10_where (14, (.getfield 13, 3)) (List.mem_of_getElem? (i := 8) rfl)
theorem dX10_where_17 : decode cX10_where 17 = .ok (.goto 4, 3) := dAX10_where (17, (.goto 4, 3)) (List.mem_of_getElem? (i := 9) rfl)
theorem dX10_where_20 : decode cX10_where 20 = .ok (.iconst (-1), 1) := dAX10_where (20, (.iconst (-1), 1)) (List.mem_of_getElem? (i := 10) rfl)
theorem dX10_where_21 : decode cX10_where 21 = .ok (.ireturn, 1) := dAX10_where (21, (.ireturn, 1)) (List.mem_of_getElem? (i := 11) rfl)
theorem kX10_where_53 : Cond.fieldLink RX10 53 "EveningVowModel" "thrown" "I" ∈ wsX10_where := List.mem_of_getElem? (i := 1) rfl
theorem iX10_where_X10 : ∀ w ∈ u_ws RX10 TX10 35, w ∈ wsX10_where := fun w h => (List.mem_cons_of_mem _ (List.mem_append_right _ h))
theorem kX10_where_56 : Cond.fieldLink RX10 56 "EveningVowModel" "trouble" "I" ∈ wsX10_where := List.mem_of_getElem? (i := 2) rfl
theorem kX10_where_13 : Cond.fieldLink RX10 13 "EveningVowModel" "place" "I" ∈ wsX10_where := List.mem_of_getElem? (i := 3) rfl
set_option maxHeartbeats 4000000 in
set_option maxRecDepth 100000 in
theorem mX10_where (l : Launch) (g : GG) (a_t : Nat) (p_t : Nat → Nat) (n : Nat) (o_t : Nat → Int32) (r : Int32) (o_t' : Nat → Int32) (hF : fX10_where n o_t = some (r, o_t')) : MI l g yX10_where wsX10_where ({ frames := 0, cells := 0, slots := 0, locals := 0 } : Room) [.ref a_t] [oX10 a_t p_t o_t] r [oX10 a_t p_t o_t'] := by
  refine MI.of (cc := cX10_where) (maxL := 1) (rt := .int) (own := RX10) rfl rfl (by decide) (Nat.le_of_ble_eq_true rfl) ?_
  intro p e s m args below meth c A C0 hP hD hS ls hl
  obtain ⟨hx, hb, hml, hown, hts, hr, hlk, hK, hA, hSW⟩ := id C0
  have hl : lv_has ls 1 [(0, .ref a_t)] := hl
  rw [fX10_where] at hF
  refine lv_aload_n hx hb dX10_where_0 rfl (lv_at hl 0 rfl) ?_
  refine lv_iconst (v := (0 : Int32)) hx hb dX10_where_1 (by decide) ?_
  refine va_put (D := g.1) (ci := 10) (v := .int (0 : Int32)) (ty := .int) (C := RX10) (T := TX10) (N := 35) hx hb hts iX10_where_X10 tyX10 tyX10_ok nmX10 hown hK.1 hP hD hS 0 rfl rfl 0 (by decide) (hts _ kX10_where_53) (fun _ h9 => h9) rfl (by decide +kernel) rfl rfl (Nat.le_of_ble_eq_true rfl) dX10_where_2 (fun H locs hP hD hS => ?_)
  have hP : va_P g.1 vwCl [oX10 a_t p_t (upd o_t 0 (0 : Int32))] H := hP
  have hD : va_D A [oX10 a_t p_t (upd o_t 0 (0 : Int32))] := hD
  refine lv_aload_n hx hb dX10_where_5 rfl (lv_at hl 0 rfl) ?_
  refine va_get (D := g.1) (ci := 10) (v := .int (o_t 11)) (C := RX10) (T := TX10) (N := 35) hx hb hts iX10_where_X10 hown hK.1 hP 0 rfl rfl 11 (by decide) (hts _ kX10_where_56) (fun _ h9 => h9) rfl dX10_where_6 ?_
  refine lv_iconst (v := (4 : Int32)) hx hb dX10_where_9 (by decide) ?_
  refine lv_icmp_ne (tgt := 20) hx hb dX10_where_10 (by decide) (fun c_1 => ?_) (fun c_1 => ?_)
  · have hF := it_n c_1 hF
    refine lv_iconst (v := (-1 : Int32)) hx hb dX10_where_20 (by decide) ?_
    cases hF
    exact ret_i C0 hP hD hS [0] rfl rfl rfl dX10_where_21 rfl
  · have hF := it_p c_1 hF
    refine lv_aload_n hx hb dX10_where_13 rfl (lv_at hl 0 rfl) ?_
    refine va_get (D := g.1) (ci := 10) (v := .int (o_t 10)) (C := RX10) (T := TX10) (N := 35) hx hb hts iX10_where_X10 hown hK.1 hP 0 rfl rfl 10 (by decide) (hts _ kX10_where_13) (fun _ h9 => h9) rfl dX10_where_14 ?_
    refine lv_goto (tgt := 21) hx hb dX10_where_17 (by decide) ?_
    cases hF
    exact ret_i C0 hP hD hS [0] rfl rfl rfl dX10_where_21 rfl

theorem dAX10_isGuest : ∀ q ∈ ([(0, (.aload_n 0, 1)), (1, (.getfield 176, 3)), (4, (.ifCond .eq 23, 3)), (7, (.iload_n 1, 1)), (8, (.iconst 0, 1)), (9, (.aload_n 0, 1)), (10, (.getfield 20, 3)), (13, (.iconst 3, 1)), (14, (.iaload, 1)), (15, (.iconst 1, 1)), (16, (.isub, 1)), (17, (.invokestatic 144, 3)), (20, (.ifCond .eq 7, 3)), (23, (.iconst 1, 1)), (24, (.goto 4, 3)), (27, (.iconst 0, 1)), (28, (.ireturn, 1))] : List (Nat × (Instr × Nat))), decode cX10_isGuest q.1 = .ok q.2 := by decide +kernel
theorem dX10_isGuest_0 : decode cX10_isGuest 0 = .ok (.aload_n 0, 1) := dAX10_isGuest (0, (.aload_n 0, 1)) (List.mem_of_getElem? (i := 0) rfl)
theorem dX10_isGuest_1 : decode cX10_isGuest 1 = .ok (.getfield 176, 3) := dAX10_isGuest (1, (.getfield 176, 3)) (List.mem_of_getElem? (i := 1) rfl)
theorem dX10_isGuest_4 : decode cX10_isGuest 4 = .ok (.ifCond .eq 23, 3) := dAX10_isGuest (4, (.ifCond .eq 23, 3)) (List.mem_of_getElem? (i := 2) rfl)
theorem dX10_isGuest_7 : decode cX10_isGuest 7 = .ok (.iload_n 1, 1) := dAX10_isGuest (7, (.iload_n 1, 1)) (List.mem_of_getElem? (i := 3) rfl)
theorem dX10_isGuest_8 : decode cX10_isGuest 8 = .ok (.iconst 0, 1) := dAX10_isGuest (8, (.iconst 0, 1)) (List.mem_of_getElem? (i := 4) rfl)
theorem dX10_isGuest_9 : decode cX10_isGuest 9 = .ok (.aload_n 0, 1) := dAX10_isGuest (9, (.aload_n 0, 1)) (List.mem_of_getElem? (i := 5) rfl)
theorem dX10_isGuest_10 : decode cX10_isGuest 10 = .ok (.getfield 20, 3) := dAX10_isGuest (10, (.getfield 20, 3)) (List.mem_of_getElem? (i := 6) rfl)
theorem dX10_isGuest_13 : decode cX10_isGuest 13 = .ok (.iconst 3, 1) := dAX10_isGuest (13, (.iconst 3, 1)) (List.mem_of_getElem? (i := 7) rfl)
theorem dX10_isGuest_14 : decode cX10_isGuest 14 = .ok (.iaload, 1) := dAX10_isGuest (14, (.iaload, 1)) (List.mem_of_getElem? (i := 8) rfl)
theorem dX10_isGuest_15 : decode cX10_isGuest 15 = .ok (.iconst 1, 1) := dAX10_isGuest (15, (.iconst 1, 1)) (List.mem_of_getElem? (i := 9) rfl)
theorem dX10_isGuest_16 : decode cX10_isGuest 16 = .ok (.isub, 1) := dAX10_isGuest (16, (.isub, 1)) (List.mem_of_getElem? (i := 10) rfl)
theorem dX10_isGuest_17 : decode cX10_isGuest 17 = .ok (.invokestatic 144, 3) := dAX10_isGuest (17, (.invokestatic 144, 3)) (List.mem_of_getElem? (i := 11) rfl)
theorem dX10_isGuest_20 : decode cX10_isGuest 20 = .ok (.ifCond .eq 7, 3) := dAX10_isGuest (20, (.ifCond .eq 7, 3)) (List.mem_of_getElem? (i := 12) rfl)
theorem dX10_isGuest_23 : decode cX10_isGuest 23 = .ok (.iconst 1, 1) := dAX10_isGuest (23, (.iconst 1, 1)) (List.mem_of_getElem? (i := 13) rfl)
theorem dX10_isGuest_24 : decode cX10_isGuest 24 = .ok (.goto 4, 3) := dAX10_isGuest (24, (.goto 4, 3)) (List.mem_of_getElem? (i := 14) rfl)
theorem dX10_isGuest_27 : decode cX10_isGuest 27 = .ok (.iconst 0, 1) := dAX10_isGuest (27, (.iconst 0, 1)) (List.mem_of_getElem? (i := 15) rfl)
theorem dX10_isGuest_28 : decode cX10_isGuest 28 = .ok (.ireturn, 1) := dAX10_isGuest (28, (.ireturn, 1)) (List.mem_of_getElem? (i := 16) rfl)
set_option maxRecDepth 20000 in
theorem ggX10_isGuest_X10_in : GoodIn wsX10_isGuest wsX10_in := goodIn_r _ [6] rfl (by decide +kernel)
set_option maxRecDepth 20000 in
theorem gX10_isGuest_X10_in : GoodIn wsX10_isGuest (va_wsS RX10 144 yX10_in wsX10_in) := goodIn_app (goodIn_of _ (by decide +kernel)) ggX10_isGuest_X10_in
theorem kX10_isGuest_176 : Cond.fieldLink RX10 176 "EveningVowModel" "hasEvening" "Z" ∈ wsX10_isGuest := List.mem_of_getElem? (i := 1) rfl
theorem iX10_isGuest_X10 : ∀ w ∈ u_ws RX10 TX10 35, w ∈ wsX10_isGuest := fun w h => (List.mem_cons_of_mem _ (List.mem_append_right _ h))
theorem kX10_isGuest_20 : Cond.fieldLink RX10 20 "EveningVowModel" "\x72" "[I" ∈ wsX10_isGuest := List.mem_of_getElem? (i := 2) rfl
set_option maxHeartbeats 4000000 in
set_option maxRecDepth 100000 in
theorem mX10_isGuest (l : Launch) (g : GG) (a_t : Nat) (p_t : Nat → Nat) (n : Nat) (x1 : Int32) (o_t : Nat → Int32) (f_t_15 : Nat → Int32) (r : Int32) (hF : fX10_isGuest n x1 o_t f_t_15 = some (r)) : MI l g yX10_isGuest wsX10_isGuest ({ frames := 1, cells := 0, slots := 0, locals := 22 } : Room) [.ref a_t, .int x1] [oX10 a_t p_t o_t, aI g (p_t 15) 266 f_t_15] r [oX10 a_t p_t o_t, aI g (p_t 15) 266 f_t_15] := by
  refine MI.of (cc := cX10_isGuest) (maxL := 2) (rt := .boolean) (own := RX10) rfl rfl (by decide) (Nat.le_of_ble_eq_true rfl) ?_
  intro p e s m args below meth c A C0 hP hD hS ls hl
  obtain ⟨hx, hb, hml, hown, hts, hr, hlk, hK, hA, hSW⟩ := id C0
  have hl : lv_has ls 2 [(0, .ref a_t), (1, .int x1)] := hl
  rw [fX10_isGuest] at hF
  refine lv_aload_n hx hb dX10_isGuest_0 rfl (lv_at hl 0 rfl) ?_
  refine va_get (D := g.1) (ci := 10) (v := .int (o_t 14)) (C := RX10) (T := TX10) (N := 35) hx hb hts iX10_isGuest_X10 hown hK.1 hP 0 rfl rfl 14 (by decide) (hts _ kX10_isGuest_176) (fun _ h9 => h9) rfl dX10_isGuest_1 ?_
  refine lv_if_eq (tgt := 27) hx hb dX10_isGuest_4 (by decide) (fun c_1 => ?_) (fun c_1 => ?_)
  · have hF := it_p c_1 hF
    refine lv_iconst (v := (0 : Int32)) hx hb dX10_isGuest_27 (by decide) ?_
    cases hF
    exact ret_z C0 hP hD hS [0, 1] rfl rfl rfl dX10_isGuest_28 rfl rfl
  · have hF := it_n c_1 hF
    refine lv_iload_n hx hb dX10_isGuest_7 rfl (lv_at hl 1 rfl) ?_
    refine lv_iconst (v := (0 : Int32)) hx hb dX10_isGuest_8 (by decide) ?_
    refine lv_aload_n hx hb dX10_isGuest_9 rfl (lv_at hl 0 rfl) ?_
    refine va_get (D := g.1) (ci := 10) (v := .ref (p_t 15)) (C := RX10) (T := TX10) (N := 35) hx hb hts iX10_isGuest_X10 hown hK.1 hP 0 rfl rfl 15 (by decide) (hts _ kX10_isGuest_20) (fun _ h9 => h9) rfl dX10_isGuest_10 ?_
    refine lv_iconst (v := (3 : Int32)) hx hb dX10_isGuest_13 (by decide) ?_
    refine va_iald_k (j := 3) hx hb hK.1 hP 1 0 rfl rfl (by unfold vp_in; decide) rfl dX10_isGuest_14 ?_
    refine lv_iconst (v := (1 : Int32)) hx hb dX10_isGuest_15 (by decide) ?_
    refine lv_isub hx hb dX10_isGuest_16 ?_
    obtain ⟨u_2, hu_3, hF⟩ := ob1_some hF
    refine call_si (wr := [oX10 a_t p_t o_t, aI g (p_t 15) 266 f_t_15]) (As := [.int x1, .int (0 : Int32), .int ((f_t_15 3) - (1 : Int32))]) (rest := []) C0 (mX10_in l g n x1 (0 : Int32) ((f_t_15 3) - (1 : Int32)) u_2 hu_3) (va_cwS 3 hts gX10_isGuest_X10_in rfl rfl rfl (by decide +kernel) ⟨Nat.le_of_ble_eq_true rfl, Nat.le_of_ble_eq_true rfl⟩) hP hD hS [] [0, 1] rfl rfl rfl rfl rfl (by decide) hl.1 rfl rfl (Nat.le_of_ble_eq_true rfl) ⟨Nat.zero_le _, Nat.zero_le _⟩ dX10_isGuest_17 ?_
    intro H locs hP hD hS
    refine lv_if_eq (tgt := 27) hx hb dX10_isGuest_20 (by decide) (fun c_4 => ?_) (fun c_4 => ?_)
    · have hF := it_p c_4 hF
      refine lv_iconst (v := (0 : Int32)) hx hb dX10_isGuest_27 (by decide) ?_
      cases hF
      exact ret_z C0 hP hD hS [0, 1] rfl rfl rfl dX10_isGuest_28 rfl rfl
    · have hF := it_n c_4 hF
      refine lv_iconst (v := (1 : Int32)) hx hb dX10_isGuest_23 (by decide) ?_
      refine lv_goto (tgt := 28) hx hb dX10_isGuest_24 (by decide) ?_
      cases hF
      exact ret_z C0 hP hD hS [0, 1] rfl rfl rfl dX10_isGuest_28 rfl rfl

theorem dAX10_kindOf : ∀ q ∈ ([(0, (.aload_n 0, 1)), (1, (.getfield 20, 3)), (4, (.bipush 9, 2)), (6, (.iconst 4, 1)), (7, (.iload_n 1, 1)), (8, (.imul, 1)), (9, (.iadd, 1)), (10, (.iaload, 1)), (11, (.ireturn, 1))] : List (Nat × (Instr × Nat))), decode cX10_kindOf q.1 = .ok q.2 := by decide +kernel
theorem dX10_kindOf_0 : decode cX10_kindOf 0 = .ok (.aload_n 0, 1) := dAX10_kindOf (0, (.aload_n 0, 1)) (List.mem_of_getElem? (i := 0) rfl)
theorem dX10_kindOf_1 : decode cX10_kindOf 1 = .ok (.getfield 20, 3) := dAX10_kindOf (1, (.getfield 20, 3)) (List.mem_of_getElem? (i := 1) rfl)
theorem dX10_kindOf_4 : decode cX10_kindOf 4 = .ok (.bipush 9, 2) := dAX10_kindOf (4, (.bipush 9, 2)) (List.mem_of_getElem? (i := 2) rfl)
theorem dX10_kindOf_6 : decode cX10_kindOf 6 = .ok (.iconst 4, 1) := dAX10_kindOf (6, (.iconst 4, 1)) (List.mem_of_getElem? (i := 3) rfl)
theorem dX10_kindOf_7 : decode cX10_kindOf 7 = .ok (.iload_n 1, 1) := dAX10_kindOf (7, (.iload_n 1, 1)) (List.mem_of_getElem? (i := 4) rfl)
theorem dX10_kindOf_8 : decode cX10_kindOf 8 = .ok (.imul, 1) := dAX10_kindOf (8, (.imul, 1)) (List.mem_of_getElem? (i := 5) rfl)
theorem dX10_kindOf_9 : decode cX10_kindOf 9 = .ok (.iadd, 1) := dAX10_kindOf (9, (.iadd, 1)) (List.mem_of_getElem? (i := 6) rfl)
theorem dX10_kindOf_10 : decode cX10_kindOf 10 = .ok (.iaload, 1) := dAX10_kindOf (10, (.iaload, 1)) (List.mem_of_getElem? (i := 7) rfl)
theorem dX10_kindOf_11 : decode cX10_kindOf 11 = .ok (.ireturn, 1) := dAX10_kindOf (11, (.ireturn, 1)) (List.mem_of_getElem? (i := 8) rfl)
theorem kX10_kindOf_20 : Cond.fieldLink RX10 20 "EveningVowModel" "\x72" "[I" ∈ wsX10_kindOf := List.mem_of_getElem? (i := 1) rfl
theorem iX10_kindOf_X10 : ∀ w ∈ u_ws RX10 TX10 35, w ∈ wsX10_kindOf := fun w h => (List.mem_cons_of_mem _ (List.mem_append_right _ h))
set_option maxHeartbeats 4000000 in
set_option maxRecDepth 100000 in
theorem mX10_kindOf (l : Launch) (g : GG) (a_t : Nat) (p_t : Nat → Nat) (n : Nat) (x1 : Int32) (o_t : Nat → Int32) (f_t_15 : Nat → Int32) (r : Int32) (hF : fX10_kindOf n x1 o_t f_t_15 = some (r)) : MI l g yX10_kindOf wsX10_kindOf ({ frames := 0, cells := 0, slots := 0, locals := 0 } : Room) [.ref a_t, .int x1] [oX10 a_t p_t o_t, aI g (p_t 15) 266 f_t_15] r [oX10 a_t p_t o_t, aI g (p_t 15) 266 f_t_15] := by
  refine MI.of (cc := cX10_kindOf) (maxL := 2) (rt := .int) (own := RX10) rfl rfl (by decide) (Nat.le_of_ble_eq_true rfl) ?_
  intro p e s m args below meth c A C0 hP hD hS ls hl
  obtain ⟨hx, hb, hml, hown, hts, hr, hlk, hK, hA, hSW⟩ := id C0
  have hl : lv_has ls 2 [(0, .ref a_t), (1, .int x1)] := hl
  rw [fX10_kindOf] at hF
  refine lv_aload_n hx hb dX10_kindOf_0 rfl (lv_at hl 0 rfl) ?_
  refine va_get (D := g.1) (ci := 10) (v := .ref (p_t 15)) (C := RX10) (T := TX10) (N := 35) hx hb hts iX10_kindOf_X10 hown hK.1 hP 0 rfl rfl 15 (by decide) (hts _ kX10_kindOf_20) (fun _ h9 => h9) rfl dX10_kindOf_1 ?_
  refine lv_bipush (v := (9 : Int32)) hx hb dX10_kindOf_4 (by decide) ?_
  refine lv_iconst (v := (4 : Int32)) hx hb dX10_kindOf_6 (by decide) ?_
  refine lv_iload_n hx hb dX10_kindOf_7 rfl (lv_at hl 1 rfl) ?_
  refine lv_imul hx hb dX10_kindOf_8 ?_
  refine lv_iadd hx hb dX10_kindOf_9 ?_
  obtain ⟨h_1, hF⟩ := it_ck hF
  refine va_iald hx hb hK.1 hP 1 0 rfl rfl h_1 dX10_kindOf_10 ?_
  cases hF
  exact ret_i C0 hP hD hS [0, 1] rfl rfl rfl dX10_kindOf_11 rfl

theorem dAX10_sinksOf : ∀ q ∈ ([(0, (.aload_n 0, 1)), (1, (.getfield 20, 3)), (4, (.bipush 9, 2)), (6, (.iconst 4, 1)), (7, (.iload_n 1, 1)), (8, (.imul, 1)), (9, (.iadd, 1)), (10, (.iconst 2, 1)), (11, (.iadd, 1)), (12, (.iaload, 1)), (13, (.ireturn, 1))] : List (Nat × (Instr × Nat))), decode cX10_sinksOf q.1 = .ok q.2 := by decide +kernel
theorem dX10_sinksOf_0 : decode cX10_sinksOf 0 = .ok (.aload_n 0, 1) := dAX10_sinksOf (0, (.aload_n 0, 1)) (List.mem_of_getElem? (i := 0) rfl)
theorem dX10_sinksOf_1 : decode cX10_sinksOf 1 = .ok (.getfield 20, 3) := dAX10_sinksOf (1, (.getfield 20, 3)) (List.mem_of_getElem? (i := 1) rfl)
theorem dX10_sinksOf_4 : decode cX10_sinksOf 4 = .ok (.bipush 9, 2) := dAX10_sinksOf (4, (.bipush 9, 2)) (List.mem_of_getElem? (i := 2) rfl)
theorem dX10_sinksOf_6 : decode cX10_sinksOf 6 = .ok (.iconst 4, 1) := dAX10_sinksOf (6, (.iconst 4, 1)) (List.mem_of_getElem? (i := 3) rfl)
theorem dX10_sinksOf_7 : decode cX10_sinksOf 7 = .ok (.iload_n 1, 1) := dAX10_sinksOf (7, (.iload_n 1, 1)) (List.mem_of_getElem? (i := 4) rfl)
theorem dX10_sinksOf_8 : decode cX10_sinksOf 8 = .ok (.imul, 1) := dAX10_sinksOf (8, (.imul, 1)) (List.mem_of_getElem? (i := 5) rfl)
theorem dX10_sinksOf_9 : decode cX10_sinksOf 9 = .ok (.iadd, 1) := dAX10_sinksOf (9, (.iadd, 1)) (List.mem_of_getElem? (i := 6) rfl)
theorem dX10_sinksOf_10 : decode cX10_sinksOf 10 = .ok (.iconst 2, 1) := dAX10_sinksOf (10, (.iconst 2, 1)) (List.mem_of_getElem? (i := 7) rfl)
theorem dX10_sinksOf_11 : decode cX10_sinksOf 11 = .ok (.iadd, 1) := dAX10_sinksOf (11, (.iadd, 1)) (List.mem_of_getElem? (i := 8) rfl)
theorem dX10_sinksOf_12 : decode cX10_sinksOf 12 = .ok (.iaload, 1) := dAX10_sinksOf (12, (.iaload, 1)) (List.mem_of_getElem? (i := 9) rfl)
theorem dX10_sinksOf_13 : decode cX10_sinksOf 13 = .ok (.ireturn, 1) := dAX10_sinksOf (13, (.ireturn, 1)) (List.mem_of_getElem? (i := 10) rfl)
theorem kX10_sinksOf_20 : Cond.fieldLink RX10 20 "EveningVowModel" "\x72" "[I" ∈ wsX10_sinksOf := List.mem_of_getElem? (i := 1) rfl
theorem iX10_sinksOf_X10 : ∀ w ∈ u_ws RX10 TX10 35, w ∈ wsX10_sinksOf := fun w h => (List.mem_cons_of_mem _ (List.mem_append_right _ h))
set_option maxHeartbeats 4000000 in
set_option maxRecDepth 100000 in
theorem mX10_sinksOf (l : Launch) (g : GG) (a_t : Nat) (p_t : Nat → Nat) (n : Nat) (x1 : Int32) (o_t : Nat → Int32) (f_t_15 : Nat → Int32) (r : Int32) (hF : fX10_sinksOf n x1 o_t f_t_15 = some (r)) : MI l g yX10_sinksOf wsX10_sinksOf ({ frames := 0, cells := 0, slots := 0, locals := 0 } : Room) [.ref a_t, .int x1] [oX10 a_t p_t o_t, aI g (p_t 15) 266 f_t_15] r [oX10 a_t p_t o_t, aI g (p_t 15) 266 f_t_15] := by
  refine MI.of (cc := cX10_sinksOf) (maxL := 2) (rt := .int) (own := RX10) rfl rfl (by decide) (Nat.le_of_ble_eq_true rfl) ?_
  intro p e s m args below meth c A C0 hP hD hS ls hl
  obtain ⟨hx, hb, hml, hown, hts, hr, hlk, hK, hA, hSW⟩ := id C0
  have hl : lv_has ls 2 [(0, .ref a_t), (1, .int x1)] := hl
  rw [fX10_sinksOf] at hF
  refine lv_aload_n hx hb dX10_sinksOf_0 rfl (lv_at hl 0 rfl) ?_
  refine va_get (D := g.1) (ci := 10) (v := .ref (p_t 15)) (C := RX10) (T := TX10) (N := 35) hx hb hts iX10_sinksOf_X10 hown hK.1 hP 0 rfl rfl 15 (by decide) (hts _ kX10_sinksOf_20) (fun _ h9 => h9) rfl dX10_sinksOf_1 ?_
  refine lv_bipush (v := (9 : Int32)) hx hb dX10_sinksOf_4 (by decide) ?_
  refine lv_iconst (v := (4 : Int32)) hx hb dX10_sinksOf_6 (by decide) ?_
  refine lv_iload_n hx hb dX10_sinksOf_7 rfl (lv_at hl 1 rfl) ?_
  refine lv_imul hx hb dX10_sinksOf_8 ?_
  refine lv_iadd hx hb dX10_sinksOf_9 ?_
  refine lv_iconst (v := (2 : Int32)) hx hb dX10_sinksOf_10 (by decide) ?_
  refine lv_iadd hx hb dX10_sinksOf_11 ?_
  obtain ⟨h_1, hF⟩ := it_ck hF
  refine va_iald hx hb hK.1 hP 1 0 rfl rfl h_1 dX10_sinksOf_12 ?_
  cases hF
  exact ret_i C0 hP hD hS [0, 1] rfl rfl rfl dX10_sinksOf_13 rfl

theorem dAX10_isIn : ∀ q ∈ ([(0, (.aload_n 0, 1)), (1, (.bipush 7, 2)), (3, (.iload_n 1, 1)), (4, (.iadd, 1)), (5, (.iaload, 1)), (6, (.ifCond .ne 7, 3)), (9, (.iconst 1, 1)), (10, (.goto 4, 3)), (13, (.iconst 0, 1)), (14, (.ireturn, 1))] : List (Nat × (Instr × Nat))), decode cX10_isIn q.1 = .ok q.2 := by decide +kernel
theorem dX10_isIn_0 : decode cX10_isIn 0 = .ok (.aload_n 0, 1) := dAX10_isIn (0, (.aload_n 0, 1)) (List.mem_of_getElem? (i := 0) rfl)
theorem dX10_isIn_1 : decode cX10_isIn 1 = .ok (.bipush 7, 2) := dAX10_isIn (1, (.bipush 7, 2)) (List.mem_of_getElem? (i := 1) rfl)
theorem dX10_isIn_3 : decode cX10_isIn 3 = .ok (.iload_n 1, 1) := dAX10_isIn (3, (.iload_n 1, 1)) (List.mem_of_getElem? (i := 2) rfl)
theorem dX10_isIn_4 : decode cX10_isIn 4 = .ok (.iadd, 1) := dAX10_isIn (4, (.iadd, 1)) (List.mem_of_getElem? (i := 3) rfl)
theorem dX10_isIn_5 : decode cX10_isIn 5 = .ok (.iaload, 1) := dAX10_isIn (5, (.iaload, 1)) (List.mem_of_getElem? (i := 4) rfl)
theorem dX10_isIn_6 : decode cX10_isIn 6 = .ok (.ifCond .ne 7, 3) := dAX10_isIn (6, (.ifCond .ne 7, 3)) (List.mem_of_getElem? (i := 5) rfl)
theorem dX10_isIn_9 : decode cX10_isIn 9 = .ok (.iconst 1, 1) := dAX10_isIn (9, (.iconst 1, 1)) (List.mem_of_getElem? (i := 6) rfl)
theorem dX10_isIn_10 : decode cX10_isIn 10 = .ok (.goto 4, 3) := dAX10_isIn (10, (.goto 4, 3)) (List.mem_of_getElem? (i := 7) rfl)
theorem dX10_isIn_13 : decode cX10_isIn 13 = .ok (.iconst 0, 1) := dAX10_isIn (13, (.iconst 0, 1)) (List.mem_of_getElem? (i := 8) rfl)
theorem dX10_isIn_14 : decode cX10_isIn 14 = .ok (.ireturn, 1) := dAX10_isIn (14, (.ireturn, 1)) (List.mem_of_getElem? (i := 9) rfl)
set_option maxHeartbeats 4000000 in
set_option maxRecDepth 100000 in
theorem mX10_isIn (l : Launch) (g : GG) (a_r0 : Nat)  (n : Nat) (x1 : Int32) (f_r0 : Nat → Int32) (r : Int32) (hF : fX10_isIn n x1 f_r0 = some (r)) : MI l g yX10_isIn wsX10_isIn ({ frames := 0, cells := 0, slots := 0, locals := 0 } : Room) [.ref a_r0, .int x1] [aI g a_r0 17 f_r0] r [aI g a_r0 17 f_r0] := by
  refine MI.of (cc := cX10_isIn) (maxL := 2) (rt := .boolean) (own := RX10) rfl rfl (by decide) (Nat.le_of_ble_eq_true rfl) ?_
  intro p e s m args below meth c A C0 hP hD hS ls hl
  obtain ⟨hx, hb, hml, hown, hts, hr, hlk, hK, hA, hSW⟩ := id C0
  have hl : lv_has ls 2 [(0, .ref a_r0), (1, .int x1)] := hl
  rw [fX10_isIn] at hF
  refine lv_aload_n hx hb dX10_isIn_0 rfl (lv_at hl 0 rfl) ?_
  refine lv_bipush (v := (7 : Int32)) hx hb dX10_isIn_1 (by decide) ?_
  refine lv_iload_n hx hb dX10_isIn_3 rfl (lv_at hl 1 rfl) ?_
  refine lv_iadd hx hb dX10_isIn_4 ?_
  obtain ⟨h_1, hF⟩ := it_ck hF
  refine va_iald hx hb hK.1 hP 0 0 rfl rfl h_1 dX10_isIn_5 ?_
  refine lv_if_ne (tgt := 13) hx hb dX10_isIn_6 (by decide) (fun c_2 => ?_) (fun c_2 => ?_)
  · have hF := it_n c_2 hF
    refine lv_iconst (v := (0 : Int32)) hx hb dX10_isIn_13 (by decide) ?_
    cases hF
    exact ret_z C0 hP hD hS [0] rfl rfl rfl dX10_isIn_14 rfl rfl
  · have hF := it_p c_2 hF
    refine lv_iconst (v := (1 : Int32)) hx hb dX10_isIn_9 (by decide) ?_
    refine lv_goto (tgt := 14) hx hb dX10_isIn_10 (by decide) ?_
    cases hF
    exact ret_z C0 hP hD hS [0] rfl rfl rfl dX10_isIn_14 rfl rfl

theorem dAX10_thereOf : ∀ q ∈ ([(0, (.iconst 0, 1)), (1, (.istore_n 2, 1)), (2, (.iconst 0, 1)), (3, (.istore_n 3, 1)), (4, (.iload_n 3, 1)), (5, (.aload_n 0, 1)), (6, (.getfield 20, 3)), (9, (.iconst 3, 1)), (10, (.iaload, 1)), (11, (.if_icmp .ge 27, 3)), (14, (.iload_n 2, 1)), (15, (.aload_n 1, 1)), (16, (.iload_n 3, 1)), (17, (.invokestatic 248, 3)), (20, (.ifCond .eq 9, 3)), (23, (.iconst 1, 1)), (24, (.iload_n 3, 1)), (25, (.ishl, 1)), (26, (.goto 4, 3)), (29, (.iconst 0, 1)), (30, (.ior, 1)), (31, (.istore_n 2, 1)), (32, (.iinc 3 1, 3)), (35, (.goto (-31), 3)), (38, (.iload_n 2, 1)), (39, (.ireturn, 1))] : List (Nat × (Instr × Nat))), decode cX10_thereOf q.1 = .ok q.2 := by decide +kernel
theorem dX10_thereOf_0 : decode cX10_thereOf 0 = .ok (.iconst 0, 1) := dAX10_thereOf (0, (.iconst 0, 1)) (List.mem_of_getElem? (i := 0) rfl)
theorem dX10_thereOf_1 : decode cX10_thereOf 1 = .ok (.istore_n 2, 1) := dAX10_thereOf (1, (.istore_n 2, 1)) (List.mem_of_getElem? (i := 1) rfl)
theorem dX10_thereOf_2 : decode cX10_thereOf 2 = .ok (.iconst 0, 1) := dAX10_thereOf (2, (.iconst 0, 1)) (List.mem_of_getElem? (i := 2) rfl)
theorem dX10_thereOf_3 : decode cX10_thereOf 3 = .ok (.istore_n 3, 1) := dAX10_thereOf (3, (.istore_n 3, 1)) (List.mem_of_getElem? (i := 3) rfl)
theorem dX10_thereOf_4 : decode cX10_thereOf 4 = .ok (.iload_n 3, 1) := dAX10_thereOf (4, (.iload_n 3, 1)) (List.mem_of_getElem? (i := 4) rfl)
theorem dX10_thereOf_5 : decode cX10_thereOf 5 = .ok (.aload_n 0, 1) := dAX10_thereOf (5, (.aload_n 0, 1)) (List.mem_of_getElem? (i := 5) rfl)
theorem dX10_thereOf_6 : decode cX10_thereOf 6 = .ok (.getfield 20, 3) := dAX10_thereOf (6, (.getfield 20, 3)) (List.mem_of_getElem? (i := 6) rfl)
theorem dX10_thereOf_9 : decode cX10_thereOf 9 = .ok (.iconst 3, 1) := dAX10_thereOf (9, (.iconst 3, 1)) (List.mem_of_getElem? (i := 7) rfl)
theorem dX10_thereOf_10 : decode cX10_thereOf 10 = .ok (.iaload, 1) := dAX10_thereOf (10, (.iaload, 1)) (List.mem_of_getElem? (i := 8) rfl)
theorem dX10_thereOf_11 : decode cX10_thereOf 11 = .ok (.if_icmp .ge 27, 3) := dAX10_thereOf (11, (.if_icmp .ge 27, 3)) (List.mem_of_getElem? (i := 9) rfl)
theorem dX10_thereOf_14 : decode cX10_thereOf 14 = .ok (.iload_n 2, 1) := dAX10_thereOf (14, (.iload_n 2, 1)) (List.mem_of_getElem? (i := 10) rfl)
theorem dX10_thereOf_15 : decode cX10_thereOf 15 = .ok (.aload_n 1, 1) := dAX10_thereOf (15, (.aload_n 1, 1)) (List.mem_of_getElem? (i := 11) rfl)
theorem dX10_thereOf_16 : decode cX10_thereOf 16 = .ok (.iload_n 3, 1) := dAX10_thereOf (16, (.iload_n 3, 1)) (List.mem_of_getElem? (i := 12) rfl)
theorem dX10_thereOf_17 : decode cX10_thereOf 17 = .ok (.invokestatic 248, 3) := dAX10_thereOf (17, (.invokestatic 248, 3)) (List.mem_of_getElem? (i := 13) rfl)
theorem dX10_thereOf_20 : decode cX10_thereOf 20 = .ok (.ifCond .eq 9, 3) := dAX10_thereOf (20, (.ifCond .eq 9, 3)) (List.mem_of_getElem? (i := 14) rfl)
theorem dX10_thereOf_23 : decode cX10_thereOf 23 = .ok (.iconst 1, 1) := dAX10_thereOf (23, (.iconst 1, 1)) (List.mem_of_getElem? (i := 15) rfl)
theorem dX10_thereOf_24 : decode cX10_thereOf 24 = .ok (.iload_n 3, 1) := dAX10_thereOf (24, (.iload_n 3, 1)) (List.mem_of_getElem? (i := 16) rfl)
theorem dX10_thereOf_25 : decode cX10_thereOf 25 = .ok (.ishl, 1) := dAX10_thereOf (25, (.ishl, 1)) (List.mem_of_getElem? (i := 17) rfl)
theorem dX10_thereOf_26 : decode cX10_thereOf 26 = .ok (.goto 4, 3) := dAX10_thereOf (26, (.goto 4, 3)) (List.mem_of_getElem? (i := 18) rfl)
theorem dX10_thereOf_29 : decode cX10_thereOf 29 = .ok (.iconst 0, 1) := dAX10_thereOf (29, (.iconst 0, 1)) (List.mem_of_getElem? (i := 19) rfl)
theorem dX10_thereOf_30 : decode cX10_thereOf 30 = .ok (.ior, 1) := dAX10_thereOf (30, (.ior, 1)) (List.mem_of_getElem? (i := 20) rfl)
theorem dX10_thereOf_31 : decode cX10_thereOf 31 = .ok (.istore_n 2, 1) := dAX10_thereOf (31, (.istore_n 2, 1)) (List.mem_of_getElem? (i := 21) rfl)
theorem dX10_thereOf_32 : decode cX10_thereOf 32 = .ok (.iinc 3 1, 3) := dAX10_thereOf (32, (.iinc 3 1, 3)) (List.mem_of_getElem? (i := 22) rfl)
theorem dX10_thereOf_35 : decode cX10_thereOf 35 = .ok (.goto (-31), 3) := dAX10_thereOf (35, (.goto (-31), 3)) (List.mem_of_getElem? (i := 23) rfl)
theorem dX10_thereOf_38 : decode cX10_thereOf 38 = .ok (.iload_n 2, 1) := dAX10_thereOf (38, (.iload_n 2, 1)) (List.mem_of_getElem? (i := 24) rfl)
theorem dX10_thereOf_39 : decode cX10_thereOf 39 = .ok (.ireturn, 1) := dAX10_thereOf (39, (.ireturn, 1)) (List.mem_of_getElem? (i := 25) rfl)
set_option maxRecDepth 20000 in
theorem ggX10_thereOf_X10_isIn : GoodIn wsX10_thereOf wsX10_isIn := goodIn_r _ [5] rfl (by decide +kernel)
set_option maxRecDepth 20000 in
theorem gX10_thereOf_X10_isIn : GoodIn wsX10_thereOf (va_wsS RX10 248 yX10_isIn wsX10_isIn) := goodIn_app (goodIn_of _ (by decide +kernel)) ggX10_thereOf_X10_isIn
theorem kX10_thereOf_20 : Cond.fieldLink RX10 20 "EveningVowModel" "\x72" "[I" ∈ wsX10_thereOf := List.mem_of_getElem? (i := 1) rfl
theorem iX10_thereOf_X10 : ∀ w ∈ u_ws RX10 TX10 35, w ∈ wsX10_thereOf := fun w h => (List.mem_cons_of_mem _ (List.mem_append_right _ h))
set_option maxHeartbeats 4000000 in
set_option maxRecDepth 100000 in
theorem wX10_thereOf_L4 {p : Program} {l : Launch} {e : Env} {s : State} {m : MethodId} {args : Array Value} {below : List Frame} {meth : Method} {c : Code} {g : GG} {A : Nat → Prop} (C0 : Cx p s m args meth c cX10_thereOf 4 (some .int) RX10 wsX10_thereOf g A) (a_t : Nat) (a_r1 : Nat) (p_t : Nat → Nat) (n : Nat) (o_t : Nat → Int32) (f_t_15 : Nat → Int32) (f_r1 : Nat → Int32)  (r : Int32) (K : Int32 → Option (Int32)) (hKx : ∀ (x2 : Int32) (H : Heap) (locs : List Loc) (ls : Array Slot), K x2 = some (r) → va_P g.1 vwCl [oX10 a_t p_t o_t, aI g (p_t 15) 266 f_t_15, aI g a_r1 17 f_r1] H → va_D A [oX10 a_t p_t o_t, aI g (p_t 15) 266 f_t_15, aI g a_r1 17 f_r1] → va_S A s.heap H locs → lv_has ls 4 [(2, .int x2)] → W p l e ({ frames := 1, cells := 0, slots := 0, locals := 21 } : Room) s m args below meth c H locs 0 0 (MQ below (EndI g r [oX10 a_t p_t o_t, aI g (p_t 15) 266 f_t_15, aI g a_r1 17 f_r1] A) args s 0 0 A) (F0 m 38 ls [])) : ∀ (k : Nat) (x2 : Int32) (x3 : Int32), fX10_thereOf_L4 n o_t f_t_15 f_r1 K k x2 x3 = some (r) → ∀ (H : Heap) (locs : List Loc) (ls : Array Slot), va_P g.1 vwCl [oX10 a_t p_t o_t, aI g (p_t 15) 266 f_t_15, aI g a_r1 17 f_r1] H → va_D A [oX10 a_t p_t o_t, aI g (p_t 15) 266 f_t_15, aI g a_r1 17 f_r1] → va_S A s.heap H locs → lv_has ls 4 [(0, .ref a_t), (1, .ref a_r1), (2, .int x2), (3, .int x3)] → W p l e ({ frames := 1, cells := 0, slots := 0, locals := 21 } : Room) s m args below meth c H locs 0 0 (MQ below (EndI g r [oX10 a_t p_t o_t, aI g (p_t 15) 266 f_t_15, aI g a_r1 17 f_r1] A) args s 0 0 A) (F0 m 4 ls []) := by
  obtain ⟨hx, hb, hml, hown, hts, hr, hlk, hK, hA, hSW⟩ := id C0
  intro k
  induction k with
  | zero =>
    intro x2 x3 hF
    exact absurd hF (by simp [fX10_thereOf_L4])
  | succ k ih =>
    intro x2 x3 hF H locs ls hP hD hS hl
    rw [fX10_thereOf_L4] at hF
    refine lv_iload_n hx hb dX10_thereOf_4 rfl (lv_at hl 3 rfl) ?_
    refine lv_aload_n hx hb dX10_thereOf_5 rfl (lv_at hl 0 rfl) ?_
    refine va_get (D := g.1) (ci := 10) (v := .ref (p_t 15)) (C := RX10) (T := TX10) (N := 35) hx hb hts iX10_thereOf_X10 hown hK.1 hP 0 rfl rfl 15 (by decide) (hts _ kX10_thereOf_20) (fun _ h9 => h9) rfl dX10_thereOf_6 ?_
    refine lv_iconst (v := (3 : Int32)) hx hb dX10_thereOf_9 (by decide) ?_
    refine va_iald_k (j := 3) hx hb hK.1 hP 1 0 rfl rfl (by unfold vp_in; decide) rfl dX10_thereOf_10 ?_
    refine lv_icmp_ge (tgt := 38) hx hb dX10_thereOf_11 (by decide) (fun c_1 => ?_) (fun c_1 => ?_)
    · have hF := it_p c_1 hF
      exact hKx x2 _ _ _ hF (hP.sub [0, 1, 2] rfl) (hD.sub [0, 1, 2] rfl rfl) hS (lv_sub hl [2] rfl)
    · have hF := it_n c_1 hF
      refine lv_iload_n hx hb dX10_thereOf_14 rfl (lv_at hl 2 rfl) ?_
      refine lv_aload_n hx hb dX10_thereOf_15 rfl (lv_at hl 1 rfl) ?_
      refine lv_iload_n hx hb dX10_thereOf_16 rfl (lv_at hl 3 rfl) ?_
      obtain ⟨u_2, hu_3, hF⟩ := ob1_some hF
      refine call_si (wr := [oX10 a_t p_t o_t, aI g (p_t 15) 266 f_t_15]) (As := [.ref a_r1, .int x3]) (rest := [.int x2]) C0 (mX10_isIn l g a_r1 n x3 f_r1 u_2 hu_3) (va_cwS 2 hts gX10_thereOf_X10_isIn rfl rfl rfl (by decide +kernel) ⟨Nat.le_of_ble_eq_true rfl, Nat.le_of_ble_eq_true rfl⟩) hP hD hS [2] [0, 1] rfl rfl rfl rfl rfl (by decide) hl.1 rfl rfl (Nat.le_of_ble_eq_true rfl) ⟨Nat.zero_le _, Nat.zero_le _⟩ dX10_thereOf_17 ?_
      intro H locs hP hD hS
      refine lv_if_eq (tgt := 29) hx hb dX10_thereOf_20 (by decide) (fun c_4 => ?_) (fun c_4 => ?_)
      · have hF := it_p c_4 hF
        refine lv_iconst (v := (0 : Int32)) hx hb dX10_thereOf_29 (by decide) ?_
        refine lv_ior hx hb dX10_thereOf_30 ?_
        refine lv_istore_n (lv' := [(2, .int (x2 ||| (0 : Int32))), (0, .ref a_t), (1, .ref a_r1), (3, .int x3)]) hx hb dX10_thereOf_31 rfl hl (by decide) rfl (fun ls hl => ?_)
        refine lv_iinc (v := (x3 + (1 : Int32))) (lv' := [(3, .int (x3 + (1 : Int32))), (2, .int (x2 ||| (0 : Int32))), (0, .ref a_t), (1, .ref a_r1)]) hx hb dX10_thereOf_32 hl (k := 3) rfl rfl (by decide) rfl (fun ls hl => ?_)
        refine lv_goto (tgt := 4) hx hb dX10_thereOf_35 (by decide) ?_
        exact ih (x2 ||| (0 : Int32)) (x3 + (1 : Int32)) hF _ _ _ (hP.sub [0, 1, 2] rfl) (hD.sub [0, 1, 2] rfl rfl) hS (lv_sub hl [2, 3, 1, 0] rfl)
      · have hF := it_n c_4 hF
        refine lv_iconst (v := (1 : Int32)) hx hb dX10_thereOf_23 (by decide) ?_
        refine lv_iload_n hx hb dX10_thereOf_24 rfl (lv_at hl 3 rfl) ?_
        refine lv_ishl hx hb dX10_thereOf_25 ?_
        refine lv_goto (tgt := 30) hx hb dX10_thereOf_26 (by decide) ?_
        refine lv_ior hx hb dX10_thereOf_30 ?_
        refine lv_istore_n (lv' := [(2, .int (x2 ||| ((1 : Int32) <<< (x3 &&& 31)))), (0, .ref a_t), (1, .ref a_r1), (3, .int x3)]) hx hb dX10_thereOf_31 rfl hl (by decide) rfl (fun ls hl => ?_)
        refine lv_iinc (v := (x3 + (1 : Int32))) (lv' := [(3, .int (x3 + (1 : Int32))), (2, .int (x2 ||| ((1 : Int32) <<< (x3 &&& 31)))), (0, .ref a_t), (1, .ref a_r1)]) hx hb dX10_thereOf_32 hl (k := 3) rfl rfl (by decide) rfl (fun ls hl => ?_)
        refine lv_goto (tgt := 4) hx hb dX10_thereOf_35 (by decide) ?_
        exact ih (x2 ||| ((1 : Int32) <<< (x3 &&& 31))) (x3 + (1 : Int32)) hF _ _ _ (hP.sub [0, 1, 2] rfl) (hD.sub [0, 1, 2] rfl rfl) hS (lv_sub hl [2, 3, 1, 0] rfl)
set_option maxHeartbeats 4000000 in
set_option maxRecDepth 100000 in
theorem mX10_thereOf (l : Launch) (g : GG) (a_t : Nat) (a_r1 : Nat) (p_t : Nat → Nat) (n : Nat) (o_t : Nat → Int32) (f_t_15 : Nat → Int32) (f_r1 : Nat → Int32) (r : Int32) (hF : fX10_thereOf n o_t f_t_15 f_r1 = some (r)) : MI l g yX10_thereOf wsX10_thereOf ({ frames := 1, cells := 0, slots := 0, locals := 21 } : Room) [.ref a_t, .ref a_r1] [oX10 a_t p_t o_t, aI g (p_t 15) 266 f_t_15, aI g a_r1 17 f_r1] r [oX10 a_t p_t o_t, aI g (p_t 15) 266 f_t_15, aI g a_r1 17 f_r1] := by
  refine MI.of (cc := cX10_thereOf) (maxL := 4) (rt := .int) (own := RX10) rfl rfl (by decide) (Nat.le_of_ble_eq_true rfl) ?_
  intro p e s m args below meth c A C0 hP hD hS ls hl
  obtain ⟨hx, hb, hml, hown, hts, hr, hlk, hK, hA, hSW⟩ := id C0
  have hl : lv_has ls 4 [(0, .ref a_t), (1, .ref a_r1)] := hl
  rw [fX10_thereOf] at hF
  refine lv_iconst (v := (0 : Int32)) hx hb dX10_thereOf_0 (by decide) ?_
  refine lv_istore_n (lv' := [(2, .int (0 : Int32)), (0, .ref a_t), (1, .ref a_r1)]) hx hb dX10_thereOf_1 rfl hl (by decide) rfl (fun ls hl => ?_)
  refine lv_iconst (v := (0 : Int32)) hx hb dX10_thereOf_2 (by decide) ?_
  refine lv_istore_n (lv' := [(3, .int (0 : Int32)), (2, .int (0 : Int32)), (0, .ref a_t), (1, .ref a_r1)]) hx hb dX10_thereOf_3 rfl hl (by decide) rfl (fun ls hl => ?_)
  refine wX10_thereOf_L4 C0 a_t a_r1 p_t n o_t f_t_15 f_r1 r _ ?_ n (0 : Int32) (0 : Int32) hF _ _ _ (hP.sub [0, 1, 2] rfl) (hD.sub [0, 1, 2] rfl rfl) hS (lv_sub hl [2, 3, 1, 0] rfl)
  · intro x2_x4 H locs ls hF hP hD hS hl
    refine lv_iload_n hx hb dX10_thereOf_38 rfl (lv_at hl 0 rfl) ?_
    cases hF
    exact ret_i C0 hP hD hS [0, 1, 2] rfl rfl rfl dX10_thereOf_39 rfl

theorem dAX10_willOf : ∀ q ∈ ([(0, (.aload_n 1, 1)), (1, (.iload_n 2, 1)), (2, (.iaload, 1)), (3, (.istore_n 3, 1)), (4, (.iconst 0, 1)), (5, (.istore 4, 2)), (7, (.iload 4, 2)), (9, (.aload_n 0, 1)), (10, (.getfield 20, 3)), (13, (.iconst 3, 1)), (14, (.iaload, 1)), (15, (.if_icmp .ge 46, 3)), (18, (.iload_n 3, 1)), (19, (.iload 4, 2)), (21, (.iload_n 2, 1)), (22, (.if_icmp .eq 30, 3)), (25, (.aload_n 1, 1)), (26, (.iload 4, 2)), (28, (.invokestatic 248, 3)), (31, (.ifCond .eq 21, 3)), (34, (.aload_n 0, 1)), (35, (.getfield 20, 3)), (38, (.bipush 37, 2)), (40, (.bipush 7, 2)), (42, (.iload_n 2, 1)), (43, (.imul, 1)), (44, (.iadd, 1)), (45, (.iload 4, 2)), (47, (.iadd, 1)), (48, (.iaload, 1)), (49, (.goto 4, 3)), (52, (.iconst 0, 1)), (53, (.iadd, 1)), (54, (.istore_n 3, 1)), (55, (.iinc 4 1, 3)), (58, (.goto (-51), 3)), (61, (.iload_n 3, 1)), (62, (.ireturn, 1))] : List (Nat × (Instr × Nat))), decode cX10_willOf q.1 = .ok q.2 := by decide +kernel
theorem dX10_willOf_0 : decode cX10_willOf 0 = .ok (.aload_n 1, 1) := dAX10_willOf (0, (.aload_n 1, 1)) (List.mem_of_getElem? (i := 0) rfl)
theorem dX10_willOf_1 : decode cX10_willOf 1 = .ok (.iload_n 2, 1) := dAX10_willOf (1, (.iload_n 2, 1)) (List.mem_of_getElem? (i := 1) rfl)
theorem dX10_willOf_2 : decode cX10_willOf 2 = .ok (.iaload, 1) := dAX10_willOf (2, (.iaload, 1)) (List.mem_of_getElem? (i := 2) rfl)
theorem dX10_willOf_3 : decode cX10_willOf 3 = .ok (.istore_n 3, 1) := dAX10_willOf (3, (.istore_n 3, 1)) (List.mem_of_getElem? (i := 3) rfl)
theorem dX10_willOf_4 : decode cX10_willOf 4 = .ok (.iconst 0, 1) := dAX10_willOf (4, (.iconst 0, 1)) (List.mem_of_getElem? (i := 4) rfl)
theorem dX10_willOf_5 : decode cX10_willOf 5 = .ok (.istore 4, 2) := dAX10_willOf (5, (.istore 4, 2)) (List.mem_of_getElem? (i := 5) rfl)
theorem dX10_willOf_7 : decode cX10_willOf 7 = .ok (.iload 4, 2) := dAX10_willOf (7, (.iload 4, 2)) (List.mem_of_getElem? (i := 6) rfl)
theorem dX10_willOf_9 : decode cX10_willOf 9 = .ok (.aload_n 0, 1) := dAX10_willOf (9, (.aload_n 0, 1)) (List.mem_of_getElem? (i := 7) rfl)
theorem dX10_willOf_10 : decode cX10_willOf 10 = .ok (.getfield 20, 3) := dAX10_willOf (10, (.getfield 20, 3)) (List.mem_of_getElem? (i := 8) rfl)
theorem dX10_willOf_13 : decode cX10_willOf 13 = .ok (.iconst 3, 1) := dAX10_willOf (13, (.iconst 3, 1)) (List.mem_of_getElem? (i := 9) rfl)
theorem dX10_willOf_14 : decode cX10_willOf 14 = .ok (.iaload, 1) := dAX10_willOf (14, (.iaload, 1)) (List.mem_of_getElem? (i := 10) rfl)
theorem dX10_willOf_15 : decode cX10_willOf 15 = .ok (.if_icmp .ge 46, 3) := dAX10_willOf (15, (.if_icmp .ge 46, 3)) (List.mem_of_getElem? (i := 11) rfl)
theorem dX10_willOf_18 : decode cX10_willOf 18 = .ok (.iload_n 3, 1) := dAX10_willOf (18, (.iload_n 3, 1)) (List.mem_of_getElem? (i := 12) rfl)
theorem dX10_willOf_19 : decode cX10_willOf 19 = .ok (.iload 4, 2) := dAX10_willOf (19, (.iload 4, 2)) (List.mem_of_getElem? (i := 13) rfl)
theorem dX10_willOf_21 : decode cX10_willOf 21 = .ok (.iload_n 2, 1) := dAX10_willOf (21, (.iload_n 2, 1)) (List.mem_of_getElem? (i := 14) rfl)
theorem dX10_willOf_22 : decode cX10_willOf 22 = .ok (.if_icmp .eq 30, 3) := dAX10_willOf (22, (.if_icmp .eq 30, 3)) (List.mem_of_getElem? (i := 15) rfl)
theorem dX10_willOf_25 : decode cX10_willOf 25 = .ok (.aload_n 1, 1) := dAX10_willOf (25, (.aload_n 1, 1)) (List.mem_of_getElem? (i := 16) rfl)
theorem dX10_willOf_26 : decode cX10_willOf 26 = .ok (.iload 4, 2) := dAX10_willOf (26, (.iload 4, 2)) (List.mem_of_getElem? (i := 17) rfl)
theorem dX10_willOf_28 : decode cX10_willOf 28 = .ok (.invokestatic 248, 3) := dAX10_willOf (28, (.invokestatic 248, 3)) (List.mem_of_getElem? (i := 18) rfl)
theorem dX10_willOf_31 : decode cX10_willOf 31 = .ok (.ifCond .eq 21, 3) := dAX10_willOf (31, (.ifCond .eq 21, 3)) (List.mem_of_getElem? (i := 19) rfl)
theorem dX10_willOf_34 : decode cX10_willOf 34 = .ok (.aload_n 0, 1) := dAX10_willOf (34, (.aload_n 0, 1)) (List.mem_of_getElem? (i := 20) rfl)
theorem dX10_willOf_35 : decode cX10_willOf 35 = .ok (.getfield 20, 3) := dAX10_willOf (35, (.getfield 20, 3)) (List.mem_of_getElem? (i := 21) rfl)
theorem dX10_willOf_38 : decode cX10_willOf 38 = .ok (.bipush 37, 2) := dAX10_willOf (38, (.bipush 37, 2)) (List.mem_of_getElem? (i := 22) rfl)
theorem dX10_willOf_40 : decode cX10_willOf 40 = .ok (.bipush 7, 2) := dAX10_willOf (40, (.bipush 7, 2)) (List.mem_of_getElem? (i := 23) rfl)
theorem dX10_willOf_42 : decode cX10_willOf 42 = .ok (.iload_n 2, 1) := dAX10_willOf (42, (.iload_n 2, 1)) (List.mem_of_getElem? (i := 24) rfl)
theorem dX10_willOf_43 : decode cX10_willOf 43 = .ok (.imul, 1) := dAX10_willOf (43, (.imul, 1)) (List.mem_of_getElem? (i := 25) rfl)
theorem dX10_willOf_44 : decode cX10_willOf 44 = .ok (.iadd, 1) := dAX10_willOf (44, (.iadd, 1)) (List.mem_of_getElem? (i := 26) rfl)
theorem dX10_willOf_45 : decode cX10_willOf 45 = .ok (.iload 4, 2) := dAX10_willOf (45, (.iload 4, 2)) (List.mem_of_getElem? (i := 27) rfl)
theorem dX10_willOf_47 : decode cX10_willOf 47 = .ok (.iadd, 1) := dAX10_willOf (47, (.iadd, 1)) (List.mem_of_getElem? (i := 28) rfl)
theorem dX10_willOf_48 : decode cX10_willOf 48 = .ok (.iaload, 1) := dAX10_willOf (48, (.iaload, 1)) (List.mem_of_getElem? (i := 29) rfl)
theorem dX10_willOf_49 : decode cX10_willOf 49 = .ok (.goto 4, 3) := dAX10_willOf (49, (.goto 4, 3)) (List.mem_of_getElem? (i := 30) rfl)
theorem dX10_willOf_52 : decode cX10_willOf 52 = .ok (.iconst 0, 1) := dAX10_willOf (52, (.iconst 0, 1)) (List.mem_of_getElem? (i := 31) rfl)
theorem dX10_willOf_53 : decode cX10_willOf 53 = .ok (.iadd, 1) := dAX10_willOf (53, (.iadd, 1)) (List.mem_of_getElem? (i := 32) rfl)
theorem dX10_willOf_54 : decode cX10_willOf 54 = .ok (.istore_n 3, 1) := dAX10_willOf (54, (.istore_n 3, 1)) (List.mem_of_getElem? (i := 33) rfl)
theorem dX10_willOf_55 : decode cX10_willOf 55 = .ok (.iinc 4 1, 3) := dAX10_willOf (55, (.iinc 4 1, 3)) (List.mem_of_getElem? (i := 34) rfl)
theorem dX10_willOf_58 : decode cX10_willOf 58 = .ok (.goto (-51), 3) := dAX10_willOf (58, (.goto (-51), 3)) (List.mem_of_getElem? (i := 35) rfl)
theorem dX10_willOf_61 : decode cX10_willOf 61 = .ok (.iload_n 3, 1) := dAX10_willOf (61, (.iload_n 3, 1)) (List.mem_of_getElem? (i := 36) rfl)
theorem dX10_willOf_62 : decode cX10_willOf 62 = .ok (.ireturn, 1) := dAX10_willOf (62, (.ireturn, 1)) (List.mem_of_getElem? (i := 37) rfl)
set_option maxRecDepth 20000 in
theorem ggX10_willOf_X10_isIn : GoodIn wsX10_willOf wsX10_isIn := goodIn_r _ [5] rfl (by decide +kernel)
set_option maxRecDepth 20000 in
theorem gX10_willOf_X10_isIn : GoodIn wsX10_willOf (va_wsS RX10 248 yX10_isIn wsX10_isIn) := goodIn_app (goodIn_of _ (by decide +kernel)) ggX10_willOf_X10_isIn
theorem kX10_willOf_20 : Cond.fieldLink RX10 20 "EveningVowModel" "\x72" "[I" ∈ wsX10_willOf := List.mem_of_getElem? (i := 1) rfl
theorem iX10_willOf_X10 : ∀ w ∈ u_ws RX10 TX10 35, w ∈ wsX10_willOf := fun w h => (List.mem_cons_of_mem _ (List.mem_append_right _ h))
set_option maxHeartbeats 4000000 in
set_option maxRecDepth 100000 in
theorem wX10_willOf_L7 {p : Program} {l : Launch} {e : Env} {s : State} {m : MethodId} {args : Array Value} {below : List Frame} {meth : Method} {c : Code} {g : GG} {A : Nat → Prop} (C0 : Cx p s m args meth c cX10_willOf 5 (some .int) RX10 wsX10_willOf g A) (a_t : Nat) (a_r1 : Nat) (p_t : Nat → Nat) (n : Nat) (x2 : Int32) (o_t : Nat → Int32) (f_t_15 : Nat → Int32) (f_r1 : Nat → Int32)  (r : Int32) (K : Int32 → Option (Int32)) (hKx : ∀ (x3 : Int32) (H : Heap) (locs : List Loc) (ls : Array Slot), K x3 = some (r) → va_P g.1 vwCl [oX10 a_t p_t o_t, aI g (p_t 15) 266 f_t_15, aI g a_r1 17 f_r1] H → va_D A [oX10 a_t p_t o_t, aI g (p_t 15) 266 f_t_15, aI g a_r1 17 f_r1] → va_S A s.heap H locs → lv_has ls 5 [(3, .int x3)] → W p l e ({ frames := 1, cells := 0, slots := 0, locals := 21 } : Room) s m args below meth c H locs 0 0 (MQ below (EndI g r [oX10 a_t p_t o_t, aI g (p_t 15) 266 f_t_15, aI g a_r1 17 f_r1] A) args s 0 0 A) (F0 m 61 ls [])) : ∀ (k : Nat) (x3 : Int32) (x4 : Int32), fX10_willOf_L7 n x2 o_t f_t_15 f_r1 K k x3 x4 = some (r) → ∀ (H : Heap) (locs : List Loc) (ls : Array Slot), va_P g.1 vwCl [oX10 a_t p_t o_t, aI g (p_t 15) 266 f_t_15, aI g a_r1 17 f_r1] H → va_D A [oX10 a_t p_t o_t, aI g (p_t 15) 266 f_t_15, aI g a_r1 17 f_r1] → va_S A s.heap H locs → lv_has ls 5 [(0, .ref a_t), (1, .ref a_r1), (2, .int x2), (3, .int x3), (4, .int x4)] → W p l e ({ frames := 1, cells := 0, slots := 0, locals := 21 } : Room) s m args below meth c H locs 0 0 (MQ below (EndI g r [oX10 a_t p_t o_t, aI g (p_t 15) 266 f_t_15, aI g a_r1 17 f_r1] A) args s 0 0 A) (F0 m 7 ls []) := by
  obtain ⟨hx, hb, hml, hown, hts, hr, hlk, hK, hA, hSW⟩ := id C0
  intro k
  induction k with
  | zero =>
    intro x3 x4 hF
    exact absurd hF (by simp [fX10_willOf_L7])
  | succ k ih =>
    intro x3 x4 hF H locs ls hP hD hS hl
    rw [fX10_willOf_L7] at hF
    refine lv_iload hx hb dX10_willOf_7 (lv_at hl 4 rfl) ?_
    refine lv_aload_n hx hb dX10_willOf_9 rfl (lv_at hl 0 rfl) ?_
    refine va_get (D := g.1) (ci := 10) (v := .ref (p_t 15)) (C := RX10) (T := TX10) (N := 35) hx hb hts iX10_willOf_X10 hown hK.1 hP 0 rfl rfl 15 (by decide) (hts _ kX10_willOf_20) (fun _ h9 => h9) rfl dX10_willOf_10 ?_
    refine lv_iconst (v := (3 : Int32)) hx hb dX10_willOf_13 (by decide) ?_
    refine va_iald_k (j := 3) hx hb hK.1 hP 1 0 rfl rfl (by unfold vp_in; decide) rfl dX10_willOf_14 ?_
    refine lv_icmp_ge (tgt := 61) hx hb dX10_willOf_15 (by decide) (fun c_2 => ?_) (fun c_2 => ?_)
    · have hF := it_p c_2 hF
      exact hKx x3 _ _ _ hF (hP.sub [0, 1, 2] rfl) (hD.sub [0, 1, 2] rfl rfl) hS (lv_sub hl [3] rfl)
    · have hF := it_n c_2 hF
      refine lv_iload_n hx hb dX10_willOf_18 rfl (lv_at hl 3 rfl) ?_
      refine lv_iload hx hb dX10_willOf_19 (lv_at hl 4 rfl) ?_
      refine lv_iload_n hx hb dX10_willOf_21 rfl (lv_at hl 2 rfl) ?_
      refine lv_icmp_eq (tgt := 52) hx hb dX10_willOf_22 (by decide) (fun c_3 => ?_) (fun c_3 => ?_)
      · have hF := it_p c_3 hF
        refine lv_iconst (v := (0 : Int32)) hx hb dX10_willOf_52 (by decide) ?_
        refine lv_iadd hx hb dX10_willOf_53 ?_
        refine lv_istore_n (lv' := [(3, .int (x3 + (0 : Int32))), (0, .ref a_t), (1, .ref a_r1), (2, .int x2), (4, .int x4)]) hx hb dX10_willOf_54 rfl hl (by decide) rfl (fun ls hl => ?_)
        refine lv_iinc (v := (x4 + (1 : Int32))) (lv' := [(4, .int (x4 + (1 : Int32))), (3, .int (x3 + (0 : Int32))), (0, .ref a_t), (1, .ref a_r1), (2, .int x2)]) hx hb dX10_willOf_55 hl (k := 4) rfl rfl (by decide) rfl (fun ls hl => ?_)
        refine lv_goto (tgt := 7) hx hb dX10_willOf_58 (by decide) ?_
        exact ih (x3 + (0 : Int32)) (x4 + (1 : Int32)) hF _ _ _ (hP.sub [0, 1, 2] rfl) (hD.sub [0, 1, 2] rfl rfl) hS (lv_sub hl [2, 3, 4, 1, 0] rfl)
      · have hF := it_n c_3 hF
        refine lv_aload_n hx hb dX10_willOf_25 rfl (lv_at hl 1 rfl) ?_
        refine lv_iload hx hb dX10_willOf_26 (lv_at hl 4 rfl) ?_
        obtain ⟨u_4, hu_5, hF⟩ := ob1_some hF
        refine call_si (wr := [oX10 a_t p_t o_t, aI g (p_t 15) 266 f_t_15]) (As := [.ref a_r1, .int x4]) (rest := [.int x3]) C0 (mX10_isIn l g a_r1 n x4 f_r1 u_4 hu_5) (va_cwS 2 hts gX10_willOf_X10_isIn rfl rfl rfl (by decide +kernel) ⟨Nat.le_of_ble_eq_true rfl, Nat.le_of_ble_eq_true rfl⟩) hP hD hS [2] [0, 1] rfl rfl rfl rfl rfl (by decide) hl.1 rfl rfl (Nat.le_of_ble_eq_true rfl) ⟨Nat.zero_le _, Nat.zero_le _⟩ dX10_willOf_28 ?_
        intro H locs hP hD hS
        refine lv_if_eq (tgt := 52) hx hb dX10_willOf_31 (by decide) (fun c_6 => ?_) (fun c_6 => ?_)
        · have hF := it_p c_6 hF
          refine lv_iconst (v := (0 : Int32)) hx hb dX10_willOf_52 (by decide) ?_
          refine lv_iadd hx hb dX10_willOf_53 ?_
          refine lv_istore_n (lv' := [(3, .int (x3 + (0 : Int32))), (0, .ref a_t), (1, .ref a_r1), (2, .int x2), (4, .int x4)]) hx hb dX10_willOf_54 rfl hl (by decide) rfl (fun ls hl => ?_)
          refine lv_iinc (v := (x4 + (1 : Int32))) (lv' := [(4, .int (x4 + (1 : Int32))), (3, .int (x3 + (0 : Int32))), (0, .ref a_t), (1, .ref a_r1), (2, .int x2)]) hx hb dX10_willOf_55 hl (k := 4) rfl rfl (by decide) rfl (fun ls hl => ?_)
          refine lv_goto (tgt := 7) hx hb dX10_willOf_58 (by decide) ?_
          exact ih (x3 + (0 : Int32)) (x4 + (1 : Int32)) hF _ _ _ (hP.sub [0, 1, 2] rfl) (hD.sub [0, 1, 2] rfl rfl) hS (lv_sub hl [2, 3, 4, 1, 0] rfl)
        · have hF := it_n c_6 hF
          refine lv_aload_n hx hb dX10_willOf_34 rfl (lv_at hl 0 rfl) ?_
          refine va_get (D := g.1) (ci := 10) (v := .ref (p_t 15)) (C := RX10) (T := TX10) (N := 35) hx hb hts iX10_willOf_X10 hown hK.1 hP 0 rfl rfl 15 (by decide) (hts _ kX10_willOf_20) (fun _ h9 => h9) rfl dX10_willOf_35 ?_
          refine lv_bipush (v := (37 : Int32)) hx hb dX10_willOf_38 (by decide) ?_
          refine lv_bipush (v := (7 : Int32)) hx hb dX10_willOf_40 (by decide) ?_
          refine lv_iload_n hx hb dX10_willOf_42 rfl (lv_at hl 2 rfl) ?_
          refine lv_imul hx hb dX10_willOf_43 ?_
          refine lv_iadd hx hb dX10_willOf_44 ?_
          refine lv_iload hx hb dX10_willOf_45 (lv_at hl 4 rfl) ?_
          refine lv_iadd hx hb dX10_willOf_47 ?_
          obtain ⟨h_7, hF⟩ := it_ck hF
          refine va_iald hx hb hK.1 hP 1 0 rfl rfl h_7 dX10_willOf_48 ?_
          refine lv_goto (tgt := 53) hx hb dX10_willOf_49 (by decide) ?_
          refine lv_iadd hx hb dX10_willOf_53 ?_
          refine lv_istore_n (lv' := [(3, .int (x3 + (f_t_15 ((((37 : Int32) + ((7 : Int32) * x2)) + x4)).toNatClampNeg))), (0, .ref a_t), (1, .ref a_r1), (2, .int x2), (4, .int x4)]) hx hb dX10_willOf_54 rfl hl (by decide) rfl (fun ls hl => ?_)
          refine lv_iinc (v := (x4 + (1 : Int32))) (lv' := [(4, .int (x4 + (1 : Int32))), (3, .int (x3 + (f_t_15 ((((37 : Int32) + ((7 : Int32) * x2)) + x4)).toNatClampNeg))), (0, .ref a_t), (1, .ref a_r1), (2, .int x2)]) hx hb dX10_willOf_55 hl (k := 4) rfl rfl (by decide) rfl (fun ls hl => ?_)
          refine lv_goto (tgt := 7) hx hb dX10_willOf_58 (by decide) ?_
          exact ih (x3 + (f_t_15 ((((37 : Int32) + ((7 : Int32) * x2)) + x4)).toNatClampNeg)) (x4 + (1 : Int32)) hF _ _ _ (hP.sub [0, 1, 2] rfl) (hD.sub [0, 1, 2] rfl rfl) hS (lv_sub hl [2, 3, 4, 1, 0] rfl)
set_option maxHeartbeats 4000000 in
set_option maxRecDepth 100000 in
theorem mX10_willOf (l : Launch) (g : GG) (a_t : Nat) (a_r1 : Nat) (p_t : Nat → Nat) (n : Nat) (x2 : Int32) (o_t : Nat → Int32) (f_t_15 : Nat → Int32) (f_r1 : Nat → Int32) (r : Int32) (hF : fX10_willOf n x2 o_t f_t_15 f_r1 = some (r)) : MI l g yX10_willOf wsX10_willOf ({ frames := 1, cells := 0, slots := 0, locals := 21 } : Room) [.ref a_t, .ref a_r1, .int x2] [oX10 a_t p_t o_t, aI g (p_t 15) 266 f_t_15, aI g a_r1 17 f_r1] r [oX10 a_t p_t o_t, aI g (p_t 15) 266 f_t_15, aI g a_r1 17 f_r1] := by
  refine MI.of (cc := cX10_willOf) (maxL := 5) (rt := .int) (own := RX10) rfl rfl (by decide) (Nat.le_of_ble_eq_true rfl) ?_
  intro p e s m args below meth c A C0 hP hD hS ls hl
  obtain ⟨hx, hb, hml, hown, hts, hr, hlk, hK, hA, hSW⟩ := id C0
  have hl : lv_has ls 5 [(0, .ref a_t), (1, .ref a_r1), (2, .int x2)] := hl
  rw [fX10_willOf] at hF
  refine lv_aload_n hx hb dX10_willOf_0 rfl (lv_at hl 1 rfl) ?_
  refine lv_iload_n hx hb dX10_willOf_1 rfl (lv_at hl 2 rfl) ?_
  obtain ⟨h_1, hF⟩ := it_ck hF
  refine va_iald hx hb hK.1 hP 2 0 rfl rfl h_1 dX10_willOf_2 ?_
  refine lv_istore_n (lv' := [(3, .int (f_r1 (x2).toNatClampNeg)), (0, .ref a_t), (1, .ref a_r1), (2, .int x2)]) hx hb dX10_willOf_3 rfl hl (by decide) rfl (fun ls hl => ?_)
  refine lv_iconst (v := (0 : Int32)) hx hb dX10_willOf_4 (by decide) ?_
  refine lv_istore (lv' := [(4, .int (0 : Int32)), (3, .int (f_r1 (x2).toNatClampNeg)), (0, .ref a_t), (1, .ref a_r1), (2, .int x2)]) hx hb dX10_willOf_5 hl (by decide) rfl (fun ls hl => ?_)
  refine wX10_willOf_L7 C0 a_t a_r1 p_t n x2 o_t f_t_15 f_r1 r _ ?_ n (f_r1 (x2).toNatClampNeg) (0 : Int32) hF _ _ _ (hP.sub [0, 1, 2] rfl) (hD.sub [0, 1, 2] rfl rfl) hS (lv_sub hl [2, 3, 4, 1, 0] rfl)
  · intro x3_x7 H locs ls hF hP hD hS hl
    refine lv_iload_n hx hb dX10_willOf_61 rfl (lv_at hl 0 rfl) ?_
    cases hF
    exact ret_i C0 hP hD hS [0, 1, 2] rfl rfl rfl dX10_willOf_62 rfl

theorem dAX10_goes : ∀ q ∈ ([(0, (.iconst 0, 1)), (1, (.istore_n 3, 1)), (2, (.iload_n 3, 1)), (3, (.aload_n 0, 1)), (4, (.getfield 20, 3)), (7, (.iconst 3, 1)), (8, (.iaload, 1)), (9, (.if_icmp .ge 29, 3)), (12, (.iload_n 2, 1)), (13, (.iload_n 3, 1)), (14, (.invokestatic 252, 3)), (17, (.ifCond .eq 15, 3)), (20, (.aload_n 1, 1)), (21, (.bipush 7, 2)), (23, (.iload_n 3, 1)), (24, (.iadd, 1)), (25, (.aload_n 1, 1)), (26, (.bipush 14, 2)), (28, (.iaload, 1)), (29, (.iconst 1, 1)), (30, (.iadd, 1)), (31, (.iastore, 1)), (32, (.iinc 3 1, 3)), (35, (.goto (-33), 3)), (38, (.iconst 0, 1)), (39, (.istore_n 3, 1)), (40, (.iload_n 3, 1)), (41, (.aload_n 0, 1)), (42, (.getfield 20, 3)), (45, (.iconst 3, 1)), (46, (.iaload, 1)), (47, (.if_icmp .ge 61, 3)), (50, (.aload_n 0, 1)), (51, (.getfield 20, 3)), (54, (.bipush 9, 2)), (56, (.iconst 4, 1)), (57, (.iload_n 3, 1)), (58, (.imul, 1)), (59, (.iadd, 1)), (60, (.iconst 3, 1)), (61, (.iadd, 1)), (62, (.iaload, 1)), (63, (.iconst 1, 1)), (64, (.isub, 1)), (65, (.istore 4, 2)), (67, (.iload_n 2, 1)), (68, (.iload_n 3, 1)), (69, (.invokestatic 252, 3)), (72, (.ifCond .eq 30, 3)), (75, (.iload 4, 2)), (77, (.ifCond .lt 25, 3)), (80, (.aload_n 1, 1)), (81, (.iload 4, 2)), (83, (.invokestatic 248, 3)), (86, (.ifCond .eq 16, 3)), (89, (.aload_n 1, 1)), (90, (.iload 4, 2)), (92, (.dup2, 1)), (93, (.iaload, 1)), (94, (.aload_n 0, 1)), (95, (.getfield 20, 3)), (98, (.iconst 2, 1)), (99, (.iaload, 1)), (100, (.isub, 1)), (101, (.iastore, 1)), (102, (.iinc 3 1, 3)), (105, (.goto (-65), 3)), (108, (.return_, 1))] : List (Nat × (Instr × Nat))), decode cX10_goes q.1 = .ok q.2 := by decide +kernel
theorem dX10_goes_0 : decode cX10_goes 0 = .ok (.iconst 0, 1) := dAX10_goes (0, (.iconst 0, 1)) (List.mem_of_getElem? (i := 0) rfl)
theorem dX10_goes_1 : decode cX10_goes 1 = .ok (.istore_n 3, 1) := dAX10_goes (1, (.istore_n 3, 1)) (List.mem_of_getElem? (i := 1) rfl)
theorem dX10_goes_2 : decode cX10_goes 2 = .ok (.iload_n 3, 1) := dAX10_goes (2, (.iload_n 3, 1)) (List.mem_of_getElem? (i := 2) rfl)
theorem dX10_goes_3 : decode cX10_goes 3 = .ok (.aload_n 0, 1) := dAX10_goes (3, (.aload_n 0, 1)) (List.mem_of_getElem? (i := 3) rfl)
theorem dX10_goes_4 : decode cX10_goes 4 = .ok (.getfield 20, 3) := dAX10_goes (4, (.getfield 20, 3)) (List.mem_of_getElem? (i := 4) rfl)
theorem dX10_goes_7 : decode cX10_goes 7 = .ok (.iconst 3, 1) := dAX10_goes (7, (.iconst 3, 1)) (List.mem_of_getElem? (i := 5) rfl)
theorem dX10_goes_8 : decode cX10_goes 8 = .ok (.iaload, 1) := dAX10_goes (8, (.iaload, 1)) (List.mem_of_getElem? (i := 6) rfl)
theorem dX10_goes_9 : decode cX10_goes 9 = .ok (.if_icmp .ge 29, 3) := dAX10_goes (9, (.if_icmp .ge 29, 3)) (List.mem_of_getElem? (i := 7) rfl)
theorem dX10_goes_12 : decode cX10_goes 12 = .ok (.iload_n 2, 1) := dAX10_goes (12, (.iload_n 2, 1)) (List.mem_of_getElem? (i := 8) rfl)
theorem dX10_goes_13 : decode cX10_goes 13 = .ok (.iload_n 3, 1) := dAX10_goes (13, (.iload_n 3, 1)) (List.mem_of_getElem? (i := 9) rfl)
theorem dX10_goes_14 : decode cX10_goes 14 = .ok (.invokestatic 252, 3) := dAX10_goes (14, (.invokestatic 252, 3)) (List.mem_of_getElem? (i := 10) rfl)
theorem dX10_goes_17 : decode cX10_goes 17 = .ok (.ifCond .eq 15, 3) := dAX10_goes (17, (.ifCond .eq 15, 3)) (List.mem_of_getElem? (i := 11) rfl)
theorem dX10_goes_20 : decode cX10_goes 20 = .ok (.aload_n 1, 1) := dAX10_goes (20, (.aload_n 1, 1)) (List.mem_of_getElem? (i := 12) rfl)
theorem dX10_goes_21 : decode cX10_goes 21 = .ok (.bipush 7, 2) := dAX10_goes (21, (.bipush 7, 2)) (List.mem_of_getElem? (i := 13) rfl)
theorem dX10_goes_23 : decode cX10_goes 23 = .ok (.iload_n 3, 1) := dAX10_goes (23, (.iload_n 3, 1)) (List.mem_of_getElem? (i := 14) rfl)
theorem dX10_goes_24 : decode cX10_goes 24 = .ok (.iadd, 1) := dAX10_goes (24, (.iadd, 1)) (List.mem_of_getElem? (i := 15) rfl)
theorem dX10_goes_25 : decode cX10_goes 25 = .ok (.aload_n 1, 1) := dAX10_goes (25, (.aload_n 1, 1)) (List.mem_of_getElem? (i := 16) rfl)
theorem dX10_goes_26 : decode cX10_goes 26 = .ok (.bipush 14, 2) := dAX10_goes (26, (.bipush 14, 2)) (List.mem_of_getElem? (i := 17) rfl)
theorem dX10_goes_28 : decode cX10_goes 28 = .ok (.iaload, 1) := dAX10_goes (28, (.iaload, 1)) (List.mem_of_getElem? (i := 18) rfl)
theorem dX10_goes_29 : decode cX10_goes 29 = .ok (.iconst 1, 1) := dAX10_goes (29, (.iconst 1, 1)) (List.mem_of_getElem? (i := 19) rfl)
theorem dX10_goes_30 : decode cX10_goes 30 = .ok (.iadd, 1) := dAX10_goes (30, (.iadd, 1)) (List.mem_of_getElem? (i := 20) rfl)
theorem dX10_goes_31 : decode cX10_goes 31 = .ok (.iastore, 1) := dAX10_goes (31, (.iastore, 1)) (List.mem_of_getElem? (i := 21) rfl)
theorem dX10_goes_32 : decode cX10_goes 32 = .ok (.iinc 3 1, 3) := dAX10_goes (32, (.iinc 3 1, 3)) (List.mem_of_getElem? (i := 22) rfl)
theorem dX10_goes_35 : decode cX10_goes 35 = .ok (.goto (-33), 3) := dAX10_goes (35, (.goto (-33), 3)) (List.mem_of_getElem? (i := 23) rfl)
theorem dX10_goes_38 : decode cX10_goes 38 = .ok (.iconst 0, 1) := dAX10_goes (38, (.iconst 0, 1)) (List.mem_of_getElem? (i := 24) rfl)
theorem dX10_goes_39 : decode cX10_goes 39 = .ok (.istore_n 3, 1) := dAX10_goes (39, (.istore_n 3, 1)) (List.mem_of_getElem? (i := 25) rfl)
theorem dX10_goes_40 : decode cX10_goes 40 = .ok (.iload_n 3, 1) := dAX10_goes (40, (.iload_n 3, 1)) (List.mem_of_getElem? (i := 26) rfl)
theorem dX10_goes_41 : decode cX10_goes 41 = .ok (.aload_n 0, 1) := dAX10_goes (41, (.aload_n 0, 1)) (List.mem_of_getElem? (i := 27) rfl)
theorem dX10_goes_42 : decode cX10_goes 42 = .ok (.getfield 20, 3) := dAX10_goes (42, (.getfield 20, 3)) (List.mem_of_getElem? (i := 28) rfl)
theorem dX10_goes_45 : decode cX10_goes 45 = .ok (.iconst 3, 1) := dAX10_goes (45, (.iconst 3, 1)) (List.mem_of_getElem? (i := 29) rfl)
theorem dX10_goes_46 : decode cX10_goes 46 = .ok (.iaload, 1) := dAX10_goes (46, (.iaload, 1)) (List.mem_of_getElem? (i := 30) rfl)
theorem dX10_goes_47 : decode cX10_goes 47 = .ok (.if_icmp .ge 61, 3) := dAX10_goes (47, (.if_icmp .ge 61, 3)) (List.mem_of_getElem? (i := 31) rfl)
theorem dX10_goes_50 : decode cX10_goes 50 = .ok (.aload_n 0, 1) := dAX10_goes (50, (.aload_n 0, 1)) (List.mem_of_getElem? (i := 32) rfl)
theorem dX10_goes_51 : decode cX10_goes 51 = .ok (.getfield 20, 3) := dAX10_goes (51, (.getfield 20, 3)) (List.mem_of_getElem? (i := 33) rfl)
theorem dX10_goes_54 : decode cX10_goes 54 = .ok (.bipush 9, 2) := dAX10_goes (54, (.bipush 9, 2)) (List.mem_of_getElem? (i := 34) rfl)
theorem dX10_goes_56 : decode cX10_goes 56 = .ok (.iconst 4, 1) := dAX10_goes (56, (.iconst 4, 1)) (List.mem_of_getElem? (i := 35) rfl)
theorem dX10_goes_57 : decode cX10_goes 57 = .ok (.iload_n 3, 1) := dAX10_goes (57, (.iload_n 3, 1)) (List.mem_of_getElem? (i := 36) rfl)
theorem dX10_goes_58 : decode cX10_goes 58 = .ok (.imul, 1) := dAX10_goes (58, (.imul, 1)) (List.mem_of_getElem? (i := 37) rfl)
theorem dX10_goes_59 : decode cX10_goes 59 = .ok (.iadd, 1) := dAX10_goes (59, (.iadd, 1)) (List.mem_of_getElem? (i := 38) rfl)
theorem dX10_goes_60 : decode cX10_goes 60 = .ok (.iconst 3, 1) := dAX10_goes (60, (.iconst 3, 1)) (List.mem_of_getElem? (i := 39) rfl)
theorem dX10_goes_61 : decode cX10_goes 61 = .ok (.iadd, 1) := dAX10_goes (61, (.iadd, 1)) (List.mem_of_getElem? (i := 40) rfl)
theorem dX10_goes_62 : decode cX10_goes 62 = .ok (.iaload, 1) := dAX10_goes (62, (.iaload, 1)) (List.mem_of_getElem? (i := 41) rfl)
theorem dX10_goes_63 : decode cX10_goes 63 = .ok (.iconst 1, 1) := dAX10_goes (63, (.iconst 1, 1)) (List.mem_of_getElem? (i := 42) rfl)
theorem dX10_goes_64 : decode cX10_goes 64 = .ok (.isub, 1) := dAX10_goes (64, (.isub, 1)) (List.mem_of_getElem? (i := 43) rfl)
theorem dX10_goes_65 : decode cX10_goes 65 = .ok (.istore 4, 2) := dAX10_goes (65, (.istore 4, 2)) (List.mem_of_getElem? (i := 44) rfl)
theorem dX10_goes_67 : decode cX10_goes 67 = .ok (.iload_n 2, 1) := dAX10_goes (67, (.iload_n 2, 1)) (List.mem_of_getElem? (i := 45) rfl)
theorem dX10_goes_68 : decode cX10_goes 68 = .ok (.iload_n 3, 1) := dAX10_goes (68, (.iload_n 3, 1)) (List.mem_of_getElem? (i := 46) rfl)
theorem dX10_goes_69 : decode cX10_goes 69 = .ok (.invokestatic 252, 3) := dAX10_goes (69, (.invokestatic 252, 3)) (List.mem_of_getElem? (i := 47) rfl)
theorem dX10_goes_72 : decode cX10_goes 72 = .ok (.ifCond .eq 30, 3) := dAX10_goes (72, (.ifCond .eq 30, 3)) (List.mem_of_getElem? (i := 48) rfl)
theorem dX10_goes_75 : decode cX10_goes 75 = .ok (.iload 4, 2) := dAX10_goes (75, (.iload 4, 2)) (List.mem_of_getElem? (i := 49) rfl)
theorem dX10_goes_77 : decode cX10_goes 77 = .ok (.ifCond .lt 25, 3) := dAX10_goes (77, (.ifCond .lt 25, 3)) (List.mem_of_getElem? (i := 50) rfl)
theorem dX10_goes_80 : decode cX10_goes 80 = .ok (.aload_n 1, 1) := dAX10_goes (80, (.aload_n 1, 1)) (List.mem_of_getElem? (i := 51) rfl)
theorem dX10_goes_81 : decode cX10_goes 81 = .ok (.iload 4, 2) := dAX10_goes (81, (.iload 4, 2)) (List.mem_of_getElem? (i := 52) rfl)
theorem dX10_goes_83 : decode cX10_goes 83 = .ok (.invokestatic 248, 3) := dAX10_goes (83, (.invokestatic 248, 3)) (List.mem_of_getElem? (i := 53) rfl)
theorem dX10_goes_86 : decode cX10_goes 86 = .ok (.ifCond .eq 16, 3) := dAX10_goes (86, (.ifCond .eq 16, 3)) (List.mem_of_getElem? (i := 54) rfl)
theorem dX10_goes_89 : decode cX10_goes 89 = .ok (.aload_n 1, 1) := dAX10_goes (89, (.aload_n 1, 1)) (List.mem_of_getElem? (i := 55) rfl)
theorem dX10_goes_90 : decode cX10_goes 90 = .ok (.iload 4, 2) := dAX10_goes (90, (.iload 4, 2)) (List.mem_of_getElem? (i := 56) rfl)
theorem dX10_goes_92 : decode cX10_goes 92 = .ok (.dup2, 1) := dAX10_goes (92, (.dup2, 1)) (List.mem_of_getElem? (i := 57) rfl)
theorem dX10_goes_93 : decode cX10_goes 93 = .ok (.iaload, 1) := dAX10_goes (93, (.iaload, 1)) (List.mem_of_getElem? (i := 58) rfl)
theorem dX10_goes_94 : decode cX10_goes 94 = .ok (.aload_n 0, 1) := dAX10_goes (94, (.aload_n 0, 1)) (List.mem_of_getElem? (i := 59) rfl)
theorem dX10_goes_95 : decode cX10_goes 95 = .ok (.getfield 20, 3) := dAX10_goes (95, (.getfield 20, 3)) (List.mem_of_getElem? (i := 60) rfl)
theorem dX10_goes_98 : decode cX10_goes 98 = .ok (.iconst 2, 1) := dAX10_goes (98, (.iconst 2, 1)) (List.mem_of_getElem? (i := 61) rfl)
theorem dX10_goes_99 : decode cX10_goes 99 = .ok (.iaload, 1) := dAX10_goes (99, (.iaload, 1)) (List.mem_of_getElem? (i := 62) rfl)
theorem dX10_goes_100 : decode cX10_goes 100 = .ok (.isub, 1) := dAX10_goes (100, (.isub, 1)) (List.mem_of_getElem? (i := 63) rfl)
theorem dX10_goes_101 : decode cX10_goes 101 = .ok (.iastore, 1) := dAX10_goes (101, (.iastore, 1)) (List.mem_of_getElem? (i := 64) rfl)
theorem dX10_goes_102 : decode cX10_goes 102 = .ok (.iinc 3 1, 3) := dAX10_goes (102, (.iinc 3 1, 3)) (List.mem_of_getElem? (i := 65) rfl)
theorem dX10_goes_105 : decode cX10_goes 105 = .ok (.goto (-65), 3) := dAX10_goes (105, (.goto (-65), 3)) (List.mem_of_getElem? (i := 66) rfl)
theorem dX10_goes_108 : decode cX10_goes 108 = .ok (.return_, 1) := dAX10_goes (108, (.return_, 1)) (List.mem_of_getElem? (i := 67) rfl)
set_option maxRecDepth 20000 in
theorem ggX10_goes_X10_hasBit : GoodIn wsX10_goes wsX10_hasBit := goodIn_r _ [5] rfl (by decide +kernel)
set_option maxRecDepth 20000 in
theorem gX10_goes_X10_hasBit : GoodIn wsX10_goes (va_wsS RX10 252 yX10_hasBit wsX10_hasBit) := goodIn_app (goodIn_of _ (by decide +kernel)) ggX10_goes_X10_hasBit
set_option maxRecDepth 20000 in
theorem ggX10_goes_X10_isIn : GoodIn wsX10_goes wsX10_isIn := goodIn_r _ [8] rfl (by decide +kernel)
set_option maxRecDepth 20000 in
theorem gX10_goes_X10_isIn : GoodIn wsX10_goes (va_wsS RX10 248 yX10_isIn wsX10_isIn) := goodIn_app (goodIn_of _ (by decide +kernel)) ggX10_goes_X10_isIn
theorem kX10_goes_20 : Cond.fieldLink RX10 20 "EveningVowModel" "\x72" "[I" ∈ wsX10_goes := List.mem_of_getElem? (i := 1) rfl
theorem iX10_goes_X10 : ∀ w ∈ u_ws RX10 TX10 35, w ∈ wsX10_goes := fun w h => (List.mem_cons_of_mem _ (List.mem_append_right _ h))
set_option maxHeartbeats 4000000 in
set_option maxRecDepth 100000 in
theorem wX10_goes_L2 {p : Program} {l : Launch} {e : Env} {s : State} {m : MethodId} {args : Array Value} {below : List Frame} {meth : Method} {c : Code} {g : GG} {A : Nat → Prop} (C0 : Cx p s m args meth c cX10_goes 5 none RX10 wsX10_goes g A) (a_t : Nat) (a_r1 : Nat) (p_t : Nat → Nat) (n : Nat) (x2 : Int32) (o_t : Nat → Int32) (f_t_15 : Nat → Int32)  (f_r1' : Nat → Int32) (K : (Nat → Int32) → Option ((Nat → Int32))) (hKx : ∀ (f_r1 : Nat → Int32) (H : Heap) (locs : List Loc) (ls : Array Slot), K f_r1 = some (f_r1') → va_P g.1 vwCl [oX10 a_t p_t o_t, aI g (p_t 15) 266 f_t_15, aI g a_r1 17 f_r1] H → va_D A [oX10 a_t p_t o_t, aI g (p_t 15) 266 f_t_15, aI g a_r1 17 f_r1] → va_S A s.heap H locs → lv_has ls 5 [(0, .ref a_t), (1, .ref a_r1), (2, .int x2)] → W p l e ({ frames := 1, cells := 0, slots := 0, locals := 21 } : Room) s m args below meth c H locs 0 0 (MQ below (EndV g [oX10 a_t p_t o_t, aI g (p_t 15) 266 f_t_15, aI g a_r1 17 f_r1'] A) args s 0 0 A) (F0 m 38 ls [])) : ∀ (k : Nat) (x3 : Int32) (f_r1 : Nat → Int32), fX10_goes_L2 n x2 o_t f_t_15 K k x3 f_r1 = some (f_r1') → ∀ (H : Heap) (locs : List Loc) (ls : Array Slot), va_P g.1 vwCl [oX10 a_t p_t o_t, aI g (p_t 15) 266 f_t_15, aI g a_r1 17 f_r1] H → va_D A [oX10 a_t p_t o_t, aI g (p_t 15) 266 f_t_15, aI g a_r1 17 f_r1] → va_S A s.heap H locs → lv_has ls 5 [(0, .ref a_t), (1, .ref a_r1), (2, .int x2), (3, .int x3)] → W p l e ({ frames := 1, cells := 0, slots := 0, locals := 21 } : Room) s m args below meth c H locs 0 0 (MQ below (EndV g [oX10 a_t p_t o_t, aI g (p_t 15) 266 f_t_15, aI g a_r1 17 f_r1'] A) args s 0 0 A) (F0 m 2 ls []) := by
  obtain ⟨hx, hb, hml, hown, hts, hr, hlk, hK, hA, hSW⟩ := id C0
  intro k
  induction k with
  | zero =>
    intro x3 f_r1 hF
    exact absurd hF (by simp [fX10_goes_L2])
  | succ k ih =>
    intro x3 f_r1 hF H locs ls hP hD hS hl
    rw [fX10_goes_L2] at hF
    refine lv_iload_n hx hb dX10_goes_2 rfl (lv_at hl 3 rfl) ?_
    refine lv_aload_n hx hb dX10_goes_3 rfl (lv_at hl 0 rfl) ?_
    refine va_get (D := g.1) (ci := 10) (v := .ref (p_t 15)) (C := RX10) (T := TX10) (N := 35) hx hb hts iX10_goes_X10 hown hK.1 hP 0 rfl rfl 15 (by decide) (hts _ kX10_goes_20) (fun _ h9 => h9) rfl dX10_goes_4 ?_
    refine lv_iconst (v := (3 : Int32)) hx hb dX10_goes_7 (by decide) ?_
    refine va_iald_k (j := 3) hx hb hK.1 hP 1 0 rfl rfl (by unfold vp_in; decide) rfl dX10_goes_8 ?_
    refine lv_icmp_ge (tgt := 38) hx hb dX10_goes_9 (by decide) (fun c_1 => ?_) (fun c_1 => ?_)
    · have hF := it_p c_1 hF
      exact hKx f_r1 _ _ _ hF (hP.sub [0, 1, 2] rfl) (hD.sub [0, 1, 2] rfl rfl) hS (lv_sub hl [0, 1, 2] rfl)
    · have hF := it_n c_1 hF
      refine lv_iload_n hx hb dX10_goes_12 rfl (lv_at hl 2 rfl) ?_
      refine lv_iload_n hx hb dX10_goes_13 rfl (lv_at hl 3 rfl) ?_
      obtain ⟨u_2, hu_3, hF⟩ := ob1_some hF
      refine call_si (wr := [oX10 a_t p_t o_t, aI g (p_t 15) 266 f_t_15, aI g a_r1 17 f_r1]) (As := [.int x2, .int x3]) (rest := []) C0 (mX10_hasBit l g n x2 x3 u_2 hu_3) (va_cwS 2 hts gX10_goes_X10_hasBit rfl rfl rfl (by decide +kernel) ⟨Nat.le_of_ble_eq_true rfl, Nat.le_of_ble_eq_true rfl⟩) hP hD hS [] [0, 1, 2] rfl rfl rfl rfl rfl (by decide) hl.1 rfl rfl (Nat.le_of_ble_eq_true rfl) ⟨Nat.zero_le _, Nat.zero_le _⟩ dX10_goes_14 ?_
      intro H locs hP hD hS
      refine lv_if_eq (tgt := 32) hx hb dX10_goes_17 (by decide) (fun c_4 => ?_) (fun c_4 => ?_)
      · have hF := it_p c_4 hF
        refine lv_iinc (v := (x3 + (1 : Int32))) (lv' := [(3, .int (x3 + (1 : Int32))), (0, .ref a_t), (1, .ref a_r1), (2, .int x2)]) hx hb dX10_goes_32 hl (k := 3) rfl rfl (by decide) rfl (fun ls hl => ?_)
        refine lv_goto (tgt := 2) hx hb dX10_goes_35 (by decide) ?_
        exact ih (x3 + (1 : Int32)) f_r1 hF _ _ _ (hP.sub [0, 1, 2] rfl) (hD.sub [0, 1, 2] rfl rfl) hS (lv_sub hl [1, 2, 3, 0] rfl)
      · have hF := it_n c_4 hF
        refine lv_aload_n hx hb dX10_goes_20 rfl (lv_at hl 1 rfl) ?_
        refine lv_bipush (v := (7 : Int32)) hx hb dX10_goes_21 (by decide) ?_
        refine lv_iload_n hx hb dX10_goes_23 rfl (lv_at hl 3 rfl) ?_
        refine lv_iadd hx hb dX10_goes_24 ?_
        refine lv_aload_n hx hb dX10_goes_25 rfl (lv_at hl 1 rfl) ?_
        refine lv_bipush (v := (14 : Int32)) hx hb dX10_goes_26 (by decide) ?_
        refine va_iald_k (j := 14) hx hb hK.1 hP 2 0 rfl rfl (by unfold vp_in; decide) rfl dX10_goes_28 ?_
        refine lv_iconst (v := (1 : Int32)) hx hb dX10_goes_29 (by decide) ?_
        refine lv_iadd hx hb dX10_goes_30 ?_
        obtain ⟨h_5, hF⟩ := it_ck hF
        refine va_iast hx hb hK.1 hP hD hS 2 0 rfl rfl h_5 dX10_goes_31 (fun H locs hP hD hS => ?_)
        have hP : va_P g.1 vwCl [oX10 a_t p_t o_t, aI g (p_t 15) 266 f_t_15, aI g a_r1 17 (upd f_r1 (((7 : Int32) + x3)).toNatClampNeg ((f_r1 14) + (1 : Int32)))] H := hP
        have hD : va_D A [oX10 a_t p_t o_t, aI g (p_t 15) 266 f_t_15, aI g a_r1 17 (upd f_r1 (((7 : Int32) + x3)).toNatClampNeg ((f_r1 14) + (1 : Int32)))] := hD
        refine lv_iinc (v := (x3 + (1 : Int32))) (lv' := [(3, .int (x3 + (1 : Int32))), (0, .ref a_t), (1, .ref a_r1), (2, .int x2)]) hx hb dX10_goes_32 hl (k := 3) rfl rfl (by decide) rfl (fun ls hl => ?_)
        refine lv_goto (tgt := 2) hx hb dX10_goes_35 (by decide) ?_
        exact ih (x3 + (1 : Int32)) (upd f_r1 (((7 : Int32) + x3)).toNatClampNeg ((f_r1 14) + (1 : Int32))) hF _ _ _ (hP.sub [0, 1, 2] rfl) (hD.sub [0, 1, 2] rfl rfl) hS (lv_sub hl [1, 2, 3, 0] rfl)
set_option maxHeartbeats 4000000 in
set_option maxRecDepth 100000 in
theorem wX10_goes_L40 {p : Program} {l : Launch} {e : Env} {s : State} {m : MethodId} {args : Array Value} {below : List Frame} {meth : Method} {c : Code} {g : GG} {A : Nat → Prop} (C0 : Cx p s m args meth c cX10_goes 5 none RX10 wsX10_goes g A) (a_t : Nat) (a_r1 : Nat) (p_t : Nat → Nat) (n : Nat) (x2 : Int32) (o_t : Nat → Int32) (f_t_15 : Nat → Int32)  (f_r1' : Nat → Int32) (K : (Nat → Int32) → Option ((Nat → Int32))) (hKx : ∀ (f_r1 : Nat → Int32) (H : Heap) (locs : List Loc) (ls : Array Slot), K f_r1 = some (f_r1') → va_P g.1 vwCl [oX10 a_t p_t o_t, aI g (p_t 15) 266 f_t_15, aI g a_r1 17 f_r1] H → va_D A [oX10 a_t p_t o_t, aI g (p_t 15) 266 f_t_15, aI g a_r1 17 f_r1] → va_S A s.heap H locs → lv_has ls 5 [] → W p l e ({ frames := 1, cells := 0, slots := 0, locals := 21 } : Room) s m args below meth c H locs 0 0 (MQ below (EndV g [oX10 a_t p_t o_t, aI g (p_t 15) 266 f_t_15, aI g a_r1 17 f_r1'] A) args s 0 0 A) (F0 m 108 ls [])) : ∀ (k : Nat) (x3 : Int32) (f_r1 : Nat → Int32), fX10_goes_L40 n x2 o_t f_t_15 K k x3 f_r1 = some (f_r1') → ∀ (H : Heap) (locs : List Loc) (ls : Array Slot), va_P g.1 vwCl [oX10 a_t p_t o_t, aI g (p_t 15) 266 f_t_15, aI g a_r1 17 f_r1] H → va_D A [oX10 a_t p_t o_t, aI g (p_t 15) 266 f_t_15, aI g a_r1 17 f_r1] → va_S A s.heap H locs → lv_has ls 5 [(0, .ref a_t), (1, .ref a_r1), (2, .int x2), (3, .int x3)] → W p l e ({ frames := 1, cells := 0, slots := 0, locals := 21 } : Room) s m args below meth c H locs 0 0 (MQ below (EndV g [oX10 a_t p_t o_t, aI g (p_t 15) 266 f_t_15, aI g a_r1 17 f_r1'] A) args s 0 0 A) (F0 m 40 ls []) := by
  obtain ⟨hx, hb, hml, hown, hts, hr, hlk, hK, hA, hSW⟩ := id C0
  intro k
  induction k with
  | zero =>
    intro x3 f_r1 hF
    exact absurd hF (by simp [fX10_goes_L40])
  | succ k ih =>
    intro x3 f_r1 hF H locs ls hP hD hS hl
    rw [fX10_goes_L40] at hF
    refine lv_iload_n hx hb dX10_goes_40 rfl (lv_at hl 3 rfl) ?_
    refine lv_aload_n hx hb dX10_goes_41 rfl (lv_at hl 0 rfl) ?_
    refine va_get (D := g.1) (ci := 10) (v := .ref (p_t 15)) (C := RX10) (T := TX10) (N := 35) hx hb hts iX10_goes_X10 hown hK.1 hP 0 rfl rfl 15 (by decide) (hts _ kX10_goes_20) (fun _ h9 => h9) rfl dX10_goes_42 ?_
    refine lv_iconst (v := (3 : Int32)) hx hb dX10_goes_45 (by decide) ?_
    refine va_iald_k (j := 3) hx hb hK.1 hP 1 0 rfl rfl (by unfold vp_in; decide) rfl dX10_goes_46 ?_
    refine lv_icmp_ge (tgt := 108) hx hb dX10_goes_47 (by decide) (fun c_6 => ?_) (fun c_6 => ?_)
    · have hF := it_p c_6 hF
      exact hKx f_r1 _ _ _ hF (hP.sub [0, 1, 2] rfl) (hD.sub [0, 1, 2] rfl rfl) hS (lv_sub hl [] rfl)
    · have hF := it_n c_6 hF
      refine lv_aload_n hx hb dX10_goes_50 rfl (lv_at hl 0 rfl) ?_
      refine va_get (D := g.1) (ci := 10) (v := .ref (p_t 15)) (C := RX10) (T := TX10) (N := 35) hx hb hts iX10_goes_X10 hown hK.1 hP 0 rfl rfl 15 (by decide) (hts _ kX10_goes_20) (fun _ h9 => h9) rfl dX10_goes_51 ?_
      refine lv_bipush (v := (9 : Int32)) hx hb dX10_goes_54 (by decide) ?_
      refine lv_iconst (v := (4 : Int32)) hx hb dX10_goes_56 (by decide) ?_
      refine lv_iload_n hx hb dX10_goes_57 rfl (lv_at hl 3 rfl) ?_
      refine lv_imul hx hb dX10_goes_58 ?_
      refine lv_iadd hx hb dX10_goes_59 ?_
      refine lv_iconst (v := (3 : Int32)) hx hb dX10_goes_60 (by decide) ?_
      refine lv_iadd hx hb dX10_goes_61 ?_
      obtain ⟨h_7, hF⟩ := it_ck hF
      refine va_iald hx hb hK.1 hP 1 0 rfl rfl h_7 dX10_goes_62 ?_
      refine lv_iconst (v := (1 : Int32)) hx hb dX10_goes_63 (by decide) ?_
      refine lv_isub hx hb dX10_goes_64 ?_
      refine lv_istore (lv' := [(4, .int ((f_t_15 ((((9 : Int32) + ((4 : Int32) * x3)) + (3 : Int32))).toNatClampNeg) - (1 : Int32))), (0, .ref a_t), (1, .ref a_r1), (2, .int x2), (3, .int x3)]) hx hb dX10_goes_65 hl (by decide) rfl (fun ls hl => ?_)
      refine lv_iload_n hx hb dX10_goes_67 rfl (lv_at hl 3 rfl) ?_
      refine lv_iload_n hx hb dX10_goes_68 rfl (lv_at hl 4 rfl) ?_
      obtain ⟨u_8, hu_9, hF⟩ := ob1_some hF
      refine call_si (wr := [oX10 a_t p_t o_t, aI g (p_t 15) 266 f_t_15, aI g a_r1 17 f_r1]) (As := [.int x2, .int x3]) (rest := []) C0 (mX10_hasBit l g n x2 x3 u_8 hu_9) (va_cwS 2 hts gX10_goes_X10_hasBit rfl rfl rfl (by decide +kernel) ⟨Nat.le_of_ble_eq_true rfl, Nat.le_of_ble_eq_true rfl⟩) hP hD hS [] [0, 1, 2] rfl rfl rfl rfl rfl (by decide) hl.1 rfl rfl (Nat.le_of_ble_eq_true rfl) ⟨Nat.zero_le _, Nat.zero_le _⟩ dX10_goes_69 ?_
      intro H locs hP hD hS
      refine lv_if_eq (tgt := 102) hx hb dX10_goes_72 (by decide) (fun c_10 => ?_) (fun c_10 => ?_)
      · have hF := it_p c_10 hF
        refine lv_iinc (v := (x3 + (1 : Int32))) (lv' := [(3, .int (x3 + (1 : Int32))), (4, .int ((f_t_15 ((((9 : Int32) + ((4 : Int32) * x3)) + (3 : Int32))).toNatClampNeg) - (1 : Int32))), (0, .ref a_t), (1, .ref a_r1), (2, .int x2)]) hx hb dX10_goes_102 hl (k := 4) rfl rfl (by decide) rfl (fun ls hl => ?_)
        refine lv_goto (tgt := 40) hx hb dX10_goes_105 (by decide) ?_
        exact ih (x3 + (1 : Int32)) f_r1 hF _ _ _ (hP.sub [0, 1, 2] rfl) (hD.sub [0, 1, 2] rfl rfl) hS (lv_sub hl [2, 3, 4, 0] rfl)
      · have hF := it_n c_10 hF
        refine lv_iload hx hb dX10_goes_75 (lv_at hl 0 rfl) ?_
        refine lv_if_lt (tgt := 102) hx hb dX10_goes_77 (by decide) (fun c_11 => ?_) (fun c_11 => ?_)
        · have hF := it_p c_11 hF
          refine lv_iinc (v := (x3 + (1 : Int32))) (lv' := [(3, .int (x3 + (1 : Int32))), (4, .int ((f_t_15 ((((9 : Int32) + ((4 : Int32) * x3)) + (3 : Int32))).toNatClampNeg) - (1 : Int32))), (0, .ref a_t), (1, .ref a_r1), (2, .int x2)]) hx hb dX10_goes_102 hl (k := 4) rfl rfl (by decide) rfl (fun ls hl => ?_)
          refine lv_goto (tgt := 40) hx hb dX10_goes_105 (by decide) ?_
          exact ih (x3 + (1 : Int32)) f_r1 hF _ _ _ (hP.sub [0, 1, 2] rfl) (hD.sub [0, 1, 2] rfl rfl) hS (lv_sub hl [2, 3, 4, 0] rfl)
        · have hF := it_n c_11 hF
          refine lv_aload_n hx hb dX10_goes_80 rfl (lv_at hl 2 rfl) ?_
          refine lv_iload hx hb dX10_goes_81 (lv_at hl 0 rfl) ?_
          obtain ⟨u_12, hu_13, hF⟩ := ob1_some hF
          refine call_si (wr := [oX10 a_t p_t o_t, aI g (p_t 15) 266 f_t_15]) (As := [.ref a_r1, .int ((f_t_15 ((((9 : Int32) + ((4 : Int32) * x3)) + (3 : Int32))).toNatClampNeg) - (1 : Int32))]) (rest := []) C0 (mX10_isIn l g a_r1 n ((f_t_15 ((((9 : Int32) + ((4 : Int32) * x3)) + (3 : Int32))).toNatClampNeg) - (1 : Int32)) f_r1 u_12 hu_13) (va_cwS 2 hts gX10_goes_X10_isIn rfl rfl rfl (by decide +kernel) ⟨Nat.le_of_ble_eq_true rfl, Nat.le_of_ble_eq_true rfl⟩) hP hD hS [2] [0, 1] rfl rfl rfl rfl rfl (by decide) hl.1 rfl rfl (Nat.le_of_ble_eq_true rfl) ⟨Nat.zero_le _, Nat.zero_le _⟩ dX10_goes_83 ?_
          intro H locs hP hD hS
          refine lv_if_eq (tgt := 102) hx hb dX10_goes_86 (by decide) (fun c_14 => ?_) (fun c_14 => ?_)
          · have hF := it_p c_14 hF
            refine lv_iinc (v := (x3 + (1 : Int32))) (lv' := [(3, .int (x3 + (1 : Int32))), (4, .int ((f_t_15 ((((9 : Int32) + ((4 : Int32) * x3)) + (3 : Int32))).toNatClampNeg) - (1 : Int32))), (0, .ref a_t), (1, .ref a_r1), (2, .int x2)]) hx hb dX10_goes_102 hl (k := 4) rfl rfl (by decide) rfl (fun ls hl => ?_)
            refine lv_goto (tgt := 40) hx hb dX10_goes_105 (by decide) ?_
            exact ih (x3 + (1 : Int32)) f_r1 hF _ _ _ (hP.sub [0, 1, 2] rfl) (hD.sub [0, 1, 2] rfl rfl) hS (lv_sub hl [2, 3, 4, 0] rfl)
          · have hF := it_n c_14 hF
            refine lv_aload_n hx hb dX10_goes_89 rfl (lv_at hl 2 rfl) ?_
            refine lv_iload hx hb dX10_goes_90 (lv_at hl 0 rfl) ?_
            refine lv_dup2_11 hx hb dX10_goes_92 rfl rfl ?_
            obtain ⟨h_15, hF⟩ := it_ck hF
            refine va_iald hx hb hK.1 hP 2 0 rfl rfl h_15 dX10_goes_93 ?_
            refine lv_aload_n hx hb dX10_goes_94 rfl (lv_at hl 1 rfl) ?_
            refine va_get (D := g.1) (ci := 10) (v := .ref (p_t 15)) (C := RX10) (T := TX10) (N := 35) hx hb hts iX10_goes_X10 hown hK.1 hP 0 rfl rfl 15 (by decide) (hts _ kX10_goes_20) (fun _ h9 => h9) rfl dX10_goes_95 ?_
            refine lv_iconst (v := (2 : Int32)) hx hb dX10_goes_98 (by decide) ?_
            refine va_iald_k (j := 2) hx hb hK.1 hP 1 0 rfl rfl (by unfold vp_in; decide) rfl dX10_goes_99 ?_
            refine lv_isub hx hb dX10_goes_100 ?_
            obtain ⟨h_16, hF⟩ := it_ck hF
            refine va_iast hx hb hK.1 hP hD hS 2 0 rfl rfl h_16 dX10_goes_101 (fun H locs hP hD hS => ?_)
            have hP : va_P g.1 vwCl [oX10 a_t p_t o_t, aI g (p_t 15) 266 f_t_15, aI g a_r1 17 (upd f_r1 (((f_t_15 ((((9 : Int32) + ((4 : Int32) * x3)) + (3 : Int32))).toNatClampNeg) - (1 : Int32))).toNatClampNeg ((f_r1 (((f_t_15 ((((9 : Int32) + ((4 : Int32) * x3)) + (3 : Int32))).toNatClampNeg) - (1 : Int32))).toNatClampNeg) - (f_t_15 2)))] H := hP
            have hD : va_D A [oX10 a_t p_t o_t, aI g (p_t 15) 266 f_t_15, aI g a_r1 17 (upd f_r1 (((f_t_15 ((((9 : Int32) + ((4 : Int32) * x3)) + (3 : Int32))).toNatClampNeg) - (1 : Int32))).toNatClampNeg ((f_r1 (((f_t_15 ((((9 : Int32) + ((4 : Int32) * x3)) + (3 : Int32))).toNatClampNeg) - (1 : Int32))).toNatClampNeg) - (f_t_15 2)))] := hD
            refine lv_iinc (v := (x3 + (1 : Int32))) (lv' := [(3, .int (x3 + (1 : Int32))), (4, .int ((f_t_15 ((((9 : Int32) + ((4 : Int32) * x3)) + (3 : Int32))).toNatClampNeg) - (1 : Int32))), (0, .ref a_t), (1, .ref a_r1), (2, .int x2)]) hx hb dX10_goes_102 hl (k := 4) rfl rfl (by decide) rfl (fun ls hl => ?_)
            refine lv_goto (tgt := 40) hx hb dX10_goes_105 (by decide) ?_
            exact ih (x3 + (1 : Int32)) (upd f_r1 (((f_t_15 ((((9 : Int32) + ((4 : Int32) * x3)) + (3 : Int32))).toNatClampNeg) - (1 : Int32))).toNatClampNeg ((f_r1 (((f_t_15 ((((9 : Int32) + ((4 : Int32) * x3)) + (3 : Int32))).toNatClampNeg) - (1 : Int32))).toNatClampNeg) - (f_t_15 2))) hF _ _ _ (hP.sub [0, 1, 2] rfl) (hD.sub [0, 1, 2] rfl rfl) hS (lv_sub hl [2, 3, 4, 0] rfl)
set_option maxHeartbeats 4000000 in
set_option maxRecDepth 100000 in
theorem mX10_goes (l : Launch) (g : GG) (a_t : Nat) (a_r1 : Nat) (p_t : Nat → Nat) (n : Nat) (x2 : Int32) (o_t : Nat → Int32) (f_t_15 : Nat → Int32) (f_r1 : Nat → Int32) (f_r1' : Nat → Int32) (hF : fX10_goes n x2 o_t f_t_15 f_r1 = some (f_r1')) : MV l g yX10_goes wsX10_goes ({ frames := 1, cells := 0, slots := 0, locals := 21 } : Room) [.ref a_t, .ref a_r1, .int x2] [oX10 a_t p_t o_t, aI g (p_t 15) 266 f_t_15, aI g a_r1 17 f_r1] [oX10 a_t p_t o_t, aI g (p_t 15) 266 f_t_15, aI g a_r1 17 f_r1'] := by
  refine MV.of (cc := cX10_goes) (maxL := 5) (own := RX10) rfl rfl (by decide) (Nat.le_of_ble_eq_true rfl) ?_
  intro p e s m args below meth c A C0 hP hD hS ls hl
  obtain ⟨hx, hb, hml, hown, hts, hr, hlk, hK, hA, hSW⟩ := id C0
  have hl : lv_has ls 5 [(0, .ref a_t), (1, .ref a_r1), (2, .int x2)] := hl
  rw [fX10_goes] at hF
  refine lv_iconst (v := (0 : Int32)) hx hb dX10_goes_0 (by decide) ?_
  refine lv_istore_n (lv' := [(3, .int (0 : Int32)), (0, .ref a_t), (1, .ref a_r1), (2, .int x2)]) hx hb dX10_goes_1 rfl hl (by decide) rfl (fun ls hl => ?_)
  refine wX10_goes_L2 C0 a_t a_r1 p_t n x2 o_t f_t_15 f_r1' _ ?_ n (0 : Int32) f_r1 hF _ _ _ (hP.sub [0, 1, 2] rfl) (hD.sub [0, 1, 2] rfl rfl) hS (lv_sub hl [1, 2, 3, 0] rfl)
  · intro f_r1_x2 H locs ls hF hP hD hS hl
    refine lv_iconst (v := (0 : Int32)) hx hb dX10_goes_38 (by decide) ?_
    refine lv_istore_n (lv' := [(3, .int (0 : Int32)), (0, .ref a_t), (1, .ref a_r1), (2, .int x2)]) hx hb dX10_goes_39 rfl hl (by decide) rfl (fun ls hl => ?_)
    refine wX10_goes_L40 C0 a_t a_r1 p_t n x2 o_t f_t_15 f_r1' _ ?_ n (0 : Int32) f_r1_x2 hF _ _ _ (hP.sub [0, 1, 2] rfl) (hD.sub [0, 1, 2] rfl rfl) hS (lv_sub hl [1, 2, 3, 0] rfl)
    · intro f_r1_x40 H locs ls hF hP hD hS hl
      cases hF
      exact ret_v C0 hP hD hS [0, 1, 2] rfl rfl rfl dX10_goes_108

theorem dAX10_leaves : ∀ q ∈ ([(0, (.iconst 0, 1)), (1, (.istore_n 2, 1)), (2, (.aload_n 0, 1)), (3, (.iconst 0, 1)), (4, (.putfield 256, 3)), (7, (.iconst 1, 1)), (8, (.istore_n 3, 1)), (9, (.iload_n 3, 1)), (10, (.ifCond .eq 142, 3)), (13, (.aload_n 0, 1)), (14, (.aload_n 1, 1)), (15, (.invokevirtual 259, 3)), (18, (.iconst 1, 1)), (19, (.aload_n 0, 1)), (20, (.getfield 20, 3)), (23, (.iconst 3, 1)), (24, (.iaload, 1)), (25, (.ishl, 1)), (26, (.iconst 1, 1)), (27, (.isub, 1)), (28, (.if_icmp .eq 7, 3)), (31, (.iconst 1, 1)), (32, (.goto 4, 3)), (35, (.iconst 0, 1)), (36, (.istore 4, 2)), (38, (.iconst 0, 1)), (39, (.istore 5, 2)), (41, (.iconst 0, 1)), (42, (.istore 6, 2)), (44, (.iload 6, 2)), (46, (.aload_n 0, 1)), (47, (.getfield 20, 3)), (50, (.iconst 3, 1)), (51, (.iaload, 1)), (52, (.if_icmp .ge 56, 3)), (55, (.iload 5, 2)), (57, (.aload_n 1, 1)), (58, (.iload 6, 2)), (60, (.invokestatic 248, 3)), (63, (.ifCond .eq 35, 3)), (66, (.aload_n 0, 1)), (67, (.aload_n 1, 1)), (68, (.iload 6, 2)), (70, (.invokevirtual 263, 3)), (73, (.ifCond .gt 25, 3)), (76, (.iload 4, 2)), (78, (.ifCond .ne 13, 3)), (81, (.aload_n 0, 1)), (82, (.iload 6, 2)), (84, (.invokevirtual 267, 3)), (87, (.iconst 1, 1)), (88, (.if_icmp .eq 10, 3)), (91, (.iconst 1, 1)), (92, (.iload 6, 2)), (94, (.ishl, 1)), (95, (.goto 4, 3)), (98, (.iconst 0, 1)), (99, (.ior, 1)), (100, (.istore 5, 2)), (102, (.iinc 6 1, 3)), (105, (.goto (-61), 3)), (108, (.aload_n 0, 1)), (109, (.aload_n 1, 1)), (110, (.iload 5, 2)), (112, (.invokevirtual 270, 3)), (115, (.iload_n 2, 1)), (116, (.iload 5, 2)), (118, (.ior, 1)), (119, (.istore_n 2, 1)), (120, (.iload 5, 2)), (122, (.ifCond .eq 7, 3)), (125, (.iconst 1, 1)), (126, (.goto 4, 3)), (129, (.iconst 0, 1)), (130, (.istore_n 3, 1)), (131, (.aload_n 0, 1)), (132, (.dup, 1)), (133, (.getfield 256, 3)), (136, (.iload_n 3, 1)), (137, (.ifCond .eq 7, 3)), (140, (.iconst 1, 1)), (141, (.goto 4, 3)), (144, (.iconst 0, 1)), (145, (.iadd, 1)), (146, (.putfield 256, 3)), (149, (.goto (-140), 3)), (152, (.iload_n 2, 1)), (153, (.ireturn, 1))] : List (Nat × (Instr × Nat))), decode cX10_leaves q.1 = .ok q.2 := by decide +kernel
theorem dX10_leaves_0 : decode cX10_leaves 0 = .ok (.iconst 0, 1) := dAX10_leaves (0, (.iconst 0, 1)) (List.mem_of_getElem? (i := 0) rfl)
theorem dX10_leaves_1 : decode cX10_leaves 1 = .ok (.istore_n 2, 1) := dAX10_leaves (1, (.istore_n 2, 1)) (List.mem_of_getElem? (i := 1) rfl)
theorem dX10_leaves_2 : decode cX10_leaves 2 = .ok (.aload_n 0, 1) := dAX10_leaves (2, (.aload_n 0, 1)) (List.mem_of_getElem? (i := 2) rfl)
theorem dX10_leaves_3 : decode cX10_leaves 3 = .ok (.iconst 0, 1) := dAX10_leaves (3, (.iconst 0, 1)) (List.mem_of_getElem? (i := 3) rfl)
theorem dX10_leaves_4 : decode cX10_leaves 4 = .ok (.putfield 256, 3) := dAX10_leaves (4, (.putfield 256, 3)) (List.mem_of_getElem? (i := 4) rfl)
theorem dX10_leaves_7 : decode cX10_leaves 7 = .ok (.iconst 1, 1) := dAX10_leaves (7, (.iconst 1, 1)) (List.mem_of_getElem? (i := 5) rfl)
theorem dX10_leaves_8 : decode cX10_leaves 8 = .ok (.istore_n 3, 1) := dAX10_leaves (8, (.istore_n 3, 1)) (List.mem_of_getElem? (i := 6) rfl)
theorem dX10_leaves_9 : decode cX10_leaves 9 = .ok (.iload_n 3, 1) := dAX10_leaves (9, (.iload_n 3, 1)) (List.mem_of_getElem? (i := 7) rfl)
theorem dX10_leaves_10 : decode cX10_leaves 10 = .ok (.ifCond .eq 142, 3) := dAX10_leaves (10, (.ifCond .eq 142, 3)) (List.mem_of_getElem? (i := 8) rfl)
theorem dX10_leaves_13 : decode cX10_leaves 13 = .ok (.aload_n 0, 1) := dAX10_leaves (13, (.aload_n 0, 1)) (List.mem_of_getElem? (i := 9) rfl)
theorem dX10_leaves_14 : decode cX10_leaves 14 = .ok (.aload_n 1, 1) := dAX10_leaves (14, (.aload_n 1, 1)) (List.mem_of_getElem? (i := 10) rfl)
theorem dX10_leaves_15 : decode cX10_leaves 15 = .ok (.invokevirtual 259, 3) := dAX10_leaves (15, (.invokevirtual 259, 3)) (List.mem_of_getElem? (i := 11) rfl)
theorem dX10_leaves_18 : decode cX10_leaves 18 = .ok (.iconst 1, 1) := dAX10_leaves (18, (.iconst 1, 1)) (List.mem_of_getElem? (i := 12) rfl)
theorem dX10_leaves_19 : decode cX10_leaves 19 = .ok (.aload_n 0, 1) := dAX10_leaves (19, (.aload_n 0, 1)) (List.mem_of_getElem? (i := 13) rfl)
theorem dX10_leaves_20 : decode cX10_leaves 20 = .ok (.getfield 20, 3) := dAX10_leaves (20, (.getfield 20, 3)) (List.mem_of_getElem? (i := 14) rfl)
theorem dX10_leaves_23 : decode cX10_leaves 23 = .ok (.iconst 3, 1) := dAX10_leaves (23, (.iconst 3, 1)) (List.mem_of_getElem? (i := 15) rfl)
theorem dX10_leaves_24 : decode cX10_leaves 24 = .ok (.iaload, 1) := dAX10_leaves (24, (.iaload, 1)) (List.mem_of_getElem? (i := 16) rfl)
theorem dX10_leaves_25 : decode cX10_leaves 25 = .ok (.ishl, 1) := dAX10_leaves (25, (.ishl, 1)) (List.mem_of_getElem? (i := 17) rfl)
theorem dX10_leaves_26 : decode cX10_leaves 26 = .ok (.iconst 1, 1) := dAX10_leaves (26, (.iconst 1, 1)) (List.mem_of_getElem? (i := 18) rfl)
theorem dX10_leaves_27 : decode cX10_leaves 27 = .ok (.isub, 1) := dAX10_leaves (27, (.isub, 1)) (List.mem_of_getElem? (i := 19) rfl)
theorem dX10_leaves_28 : decode cX10_leaves 28 = .ok (.if_icmp .eq 7, 3) := dAX10_leaves (28, (.if_icmp .eq 7, 3)) (List.mem_of_getElem? (i := 20) rfl)
theorem dX10_leaves_31 : decode cX10_leaves 31 = .ok (.iconst 1, 1) := dAX10_leaves (31, (.iconst 1, 1)) (List.mem_of_getElem? (i := 21) rfl)
theorem dX10_leaves_32 : decode cX10_leaves 32 = .ok (.goto 4, 3) := dAX10_leaves (32, (.goto 4, 3)) (List.mem_of_getElem? (i := 22) rfl)
theorem dX10_leaves_35 : decode cX10_leaves 35 = .ok (.iconst 0, 1) := dAX10_leaves (35, (.iconst 0, 1)) (List.mem_of_getElem? (i := 23) rfl)
theorem dX10_leaves_36 : decode cX10_leaves 36 = .ok (.istore 4, 2) := dAX10_leaves (36, (.istore 4, 2)) (List.mem_of_getElem? (i := 24) rfl)
theorem dX10_leaves_38 : decode cX10_leaves 38 = .ok (.iconst 0, 1) := dAX10_leaves (38, (.iconst 0, 1)) (List.mem_of_getElem? (i := 25) rfl)
theorem dX10_leaves_39 : decode cX10_leaves 39 = .ok (.istore 5, 2) := dAX10_leaves (39, (.istore 5, 2)) (List.mem_of_getElem? (i := 26) rfl)
theorem dX10_leaves_41 : decode cX10_leaves 41 = .ok (.iconst 0, 1) := dAX10_leaves (41, (.iconst 0, 1)) (List.mem_of_getElem? (i := 27) rfl)
theorem dX10_leaves_42 : decode cX10_leaves 42 = .ok (.istore 6, 2) := dAX10_leaves (42, (.istore 6, 2)) (List.mem_of_getElem? (i := 28) rfl)
theorem dX10_leaves_44 : decode cX10_leaves 44 = .ok (.iload 6, 2) := dAX10_leaves (44, (.iload 6, 2)) (List.mem_of_getElem? (i := 29) rfl)
theorem dX10_leaves_46 : decode cX10_leaves 46 = .ok (.aload_n 0, 1) := dAX10_leaves (46, (.aload_n 0, 1)) (List.mem_of_getElem? (i := 30) rfl)
theorem dX10_leaves_47 : decode cX10_leaves 47 = .ok (.getfield 20, 3) := dAX10_leaves (47, (.getfield 20, 3)) (List.mem_of_getElem? (i := 31) rfl)
theorem dX10_leaves_50 : decode cX10_leaves 50 = .ok (.iconst 3, 1) := dAX10_leaves (50, (.iconst 3, 1)) (List.mem_of_getElem? (i := 32) rfl)
theorem dX10_leaves_51 : decode cX10_leaves 51 = .ok (.iaload, 1) := dAX10_leaves (51, (.iaload, 1)) (List.mem_of_getElem? (i := 33) rfl)
theorem dX10_leaves_52 : decode cX10_leaves 52 = .ok (.if_icmp .ge 56, 3) := dAX10_leaves (52, (.if_icmp .ge 56, 3)) (List.mem_of_getElem? (i := 34) rfl)
theorem dX10_leaves_55 : decode cX10_leaves 55 = .ok (.iload 5, 2) := dAX10_leaves (55, (.iload 5, 2)) (List.mem_of_getElem? (i := 35) rfl)
theorem dX10_leaves_57 : decode cX10_leaves 57 = .ok (.aload_n 1, 1) := dAX10_leaves (57, (.aload_n 1, 1)) (List.mem_of_getElem? (i := 36) rfl)
theorem dX10_leaves_58 : decode cX10_leaves 58 = .ok (.iload 6, 2) := dAX10_leaves (58, (.iload 6, 2)) (List.mem_of_getElem? (i := 37) rfl)
theorem dX10_leaves_60 : decode cX10_leaves 60 = .ok (.invokestatic 248, 3) := dAX10_leaves (60, (.invokestatic 248, 3)) (List.mem_of_getElem? (i := 38) rfl)
theorem dX10_leaves_63 : decode cX10_leaves 63 = .ok (.ifCond .eq 35, 3) := dAX10_leaves (63, (.ifCond .eq 35, 3)) (List.mem_of_getElem? (i := 39) rfl)
theorem dX10_leaves_66 : decode cX10_leaves 66 = .ok (.aload_n 0, 1) := dAX10_leaves (66, (.aload_n 0, 1)) (List.mem_of_getElem? (i := 40) rfl)
theorem dX10_leaves_67 : decode cX10_leaves 67 = .ok (.aload_n 1, 1) := dAX10_leaves (67, (.aload_n 1, 1)) (List.mem_of_getElem? (i := 41) rfl)
theorem dX10_leaves_68 : decode cX10_leaves 68 = .ok (.iload 6, 2) := dAX10_leaves (68, (.iload 6, 2)) (List.mem_of_getElem? (i := 42) rfl)
theorem dX10_leaves_70 : decode cX10_leaves 70 = .ok (.invokevirtual 263, 3) := dAX10_leaves (70, (.invokevirtual 263, 3)) (List.mem_of_getElem? (i := 43) rfl)
theorem dX10_leaves_73 : decode cX10_leaves 73 = .ok (.ifCond .gt 25, 3) := dAX10_leaves (73, (.ifCond .gt 25, 3)) (List.mem_of_getElem? (i := 44) rfl)
theorem dX10_leaves_76 : decode cX10_leaves 76 = .ok (.iload 4, 2) := dAX10_leaves (76, (.iload 4, 2)) (List.mem_of_getElem? (i := 45) rfl)
theorem dX10_leaves_78 : decode cX10_leaves 78 = .ok (.ifCond .ne 13, 3) := dAX10_leaves (78, (.ifCond .ne 13, 3)) (List.mem_of_getElem? (i := 46) rfl)
theorem dX10_leaves_81 : decode cX10_leaves 81 = .ok (.aload_n 0, 1) := dAX10_leaves (81, (.aload_n 0, 1)) (List.mem_of_getElem? (i := 47) rfl)
theorem dX10_leaves_82 : decode cX10_leaves 82 = .ok (.iload 6, 2) := dAX10_leaves (82, (.iload 6, 2)) (List.mem_of_getElem? (i := 48) rfl)
theorem dX10_leaves_84 : decode cX10_leaves 84 = .ok (.invokevirtual 267, 3) := dAX10_leaves (84, (.invokevirtual 267, 3)) (List.mem_of_getElem? (i := 49) rfl)
theorem dX10_leaves_87 : decode cX10_leaves 87 = .ok (.iconst 1, 1) := dAX10_leaves (87, (.iconst 1, 1)) (List.mem_of_getElem? (i := 50) rfl)
theorem dX10_leaves_88 : decode cX10_leaves 88 = .ok (.if_icmp .eq 10, 3) := dAX10_leaves (88, (.if_icmp .eq 10, 3)) (List.mem_of_getElem? (i := 51) rfl)
theorem dX10_leaves_91 : decode cX10_leaves 91 = .ok (.iconst 1, 1) := dAX10_leaves (91, (.iconst 1, 1)) (List.mem_of_getElem? (i := 52) rfl)
theorem dX10_leaves_92 : decode cX10_leaves 92 = .ok (.iload 6, 2) := dAX10_leaves (92, (.iload 6, 2)) (List.mem_of_getElem? (i := 53) rfl)
theorem dX10_leaves_94 : decode cX10_leaves 94 = .ok (.ishl, 1) := dAX10_leaves (94, (.ishl, 1)) (List.mem_of_getElem? (i := 54) rfl)
theorem dX10_leaves_95 : decode cX10_leaves 95 = .ok (.goto 4, 3) := dAX10_leaves (95, (.goto 4, 3)) (List.mem_of_getElem? (i := 55) rfl)
theorem dX10_leaves_98 : decode cX10_leaves 98 = .ok (.iconst 0, 1) := dAX10_leaves (98, (.iconst 0, 1)) (List.mem_of_getElem? (i := 56) rfl)
theorem dX10_leaves_99 : decode cX10_leaves 99 = .ok (.ior, 1) := dAX10_leaves (99, (.ior, 1)) (List.mem_of_getElem? (i := 57) rfl)
theorem dX10_leaves_100 : decode cX10_leaves 100 = .ok (.istore 5, 2) := dAX10_leaves (100, (.istore 5, 2)) (List.mem_of_getElem? (i := 58) rfl)
theorem dX10_leaves_102 : decode cX10_leaves 102 = .ok (.iinc 6 1, 3) := dAX10_leaves (102, (.iinc 6 1, 3)) (List.mem_of_getElem? (i := 59) rfl)
theorem dX10_leaves_105 : decode cX10_leaves 105 = .ok (.goto (-61), 3) := dAX10_leaves (105, (.goto (-61), 3)) (List.mem_of_getElem? (i := 60) rfl)
theorem dX10_leaves_108 : decode cX10_leaves 108 = .ok (.aload_n 0, 1) := dAX10_leaves (108, (.aload_n 0, 1)) (List.mem_of_getElem? (i := 61) rfl)
theorem dX10_leaves_109 : decode cX10_leaves 109 = .ok (.aload_n 1, 1) := dAX10_leaves (109, (.aload_n 1, 1)) (List.mem_of_getElem? (i := 62) rfl)
theorem dX10_leaves_110 : decode cX10_leaves 110 = .ok (.iload 5, 2) := dAX10_leaves (110, (.iload 5, 2)) (List.mem_of_getElem? (i := 63) rfl)
theorem dX10_leaves_112 : decode cX10_leaves 112 = .ok (.invokevirtual 270, 3) := dAX10_leaves (112, (.invokevirtual 270, 3)) (List.mem_of_getElem? (i := 64) rfl)
theorem dX10_leaves_115 : decode cX10_leaves 115 = .ok (.iload_n 2, 1) := dAX10_leaves (115, (.iload_n 2, 1)) (List.mem_of_getElem? (i := 65) rfl)
theorem dX10_leaves_116 : decode cX10_leaves 116 = .ok (.iload 5, 2) := dAX10_leaves (116, (.iload 5, 2)) (List.mem_of_getElem? (i := 66) rfl)
theorem dX10_leaves_118 : decode cX10_leaves 118 = .ok (.ior, 1) := dAX10_leaves (118, (.ior, 1)) (List.mem_of_getElem? (i := 67) rfl)
theorem dX10_leaves_119 : decode cX10_leaves 119 = .ok (.istore_n 2, 1) := dAX10_leaves (119, (.istore_n 2, 1)) (List.mem_of_getElem? (i := 68) rfl)
theorem dX10_leaves_120 : decode cX10_leaves 120 = .ok (.iload 5, 2) := dAX10_leaves (120, (.iload 5, 2)) (List.mem_of_getElem? (i := 69) rfl)
theorem dX10_leaves_122 : decode cX10_leaves 122 = .ok (.ifCond .eq 7, 3) := dAX10_leaves (122, (.ifCond .eq 7, 3)) (List.mem_of_getElem? (i := 70) rfl)
theorem dX10_leaves_125 : decode cX10_leaves 125 = .ok (.iconst 1, 1) := dAX10_leaves (125, (.iconst 1, 1)) (List.mem_of_getElem? (i := 71) rfl)
theorem dX10_leaves_126 : decode cX10_leaves 126 = .ok (.goto 4, 3) := dAX10_leaves (126, (.goto 4, 3)) (List.mem_of_getElem? (i := 72) rfl)
theorem dX10_leaves_129 : decode cX10_leaves 129 = .ok (.iconst 0, 1) := dAX10_leaves (129, (.iconst 0, 1)) (List.mem_of_getElem? (i := 73) rfl)
theorem dX10_leaves_130 : decode cX10_leaves 130 = .ok (.istore_n 3, 1) := dAX10_leaves (130, (.istore_n 3, 1)) (List.mem_of_getElem? (i := 74) rfl)
theorem dX10_leaves_131 : decode cX10_leaves 131 = .ok (.aload_n 0, 1) := dAX10_leaves (131, (.aload_n 0, 1)) (List.mem_of_getElem? (i := 75) rfl)
theorem dX10_leaves_132 : decode cX10_leaves 132 = .ok (.dup, 1) := dAX10_leaves (132, (.dup, 1)) (List.mem_of_getElem? (i := 76) rfl)
theorem dX10_leaves_133 : decode cX10_leaves 133 = .ok (.getfield 256, 3) := dAX10_leaves (133, (.getfield 256, 3)) (List.mem_of_getElem? (i := 77) rfl)
theorem dX10_leaves_136 : decode cX10_leaves 136 = .ok (.iload_n 3, 1) := dAX10_leaves (136, (.iload_n 3, 1)) (List.mem_of_getElem? (i := 78) rfl)
theorem dX10_leaves_137 : decode cX10_leaves 137 = .ok (.ifCond .eq 7, 3) := dAX10_leaves (137, (.ifCond .eq 7, 3)) (List.mem_of_getElem? (i := 79) rfl)
theorem dX10_leaves_140 : decode cX10_leaves 140 = .ok (.iconst 1, 1) := dAX10_leaves (140, (.iconst 1, 1)) (List.mem_of_getElem? (i := 80) rfl)
theorem dX10_leaves_141 : decode cX10_leaves 141 = .ok (.goto 4, 3) := dAX10_leaves (141, (.goto 4, 3)) (List.mem_of_getElem? (i := 81) rfl)
theorem dX10_leaves_144 : decode cX10_leaves 144 = .ok (.iconst 0, 1) := dAX10_leaves (144, (.iconst 0, 1)) (List.mem_of_getElem? (i := 82) rfl)
theorem dX10_leaves_145 : decode cX10_leaves 145 = .ok (.iadd, 1) := dAX10_leaves (145, (.iadd, 1)) (List.mem_of_getElem? (i := 83) rfl)
theorem dX10_leaves_146 : decode cX10_leaves 146 = .ok (.putfield 256, 3) := dAX10_leaves (146, (.putfield 256, 3)) (List.mem_of_getElem? (i := 84) rfl)
theorem dX10_leaves_149 : decode cX10_leaves 149 = .ok (.goto (-140), 3) := dAX10_leaves (149, (.goto (-140), 3)) (List.mem_of_getElem? (i := 85) rfl)
theorem dX10_leaves_152 : decode cX10_leaves 152 = .ok (.iload_n 2, 1) := dAX10_leaves (152, (.iload_n 2, 1)) (List.mem_of_getElem? (i := 86) rfl)
theorem dX10_leaves_153 : decode cX10_leaves 153 = .ok (.ireturn, 1) := dAX10_leaves (153, (.ireturn, 1)) (List.mem_of_getElem? (i := 87) rfl)
set_option maxRecDepth 20000 in
theorem ggX10_leaves_X10_thereOf : GoodIn wsX10_leaves wsX10_thereOf := goodIn_r _ [7, 2, 8, 9, 6, 10, 26, 27, 28, 29, 30, 31, 32, 33, 34, 35, 36, 37, 38, 39, 40, 41, 42, 43, 44, 45, 46, 47, 48, 49, 50, 51, 52, 53, 54, 55, 56, 57, 58, 59, 60] rfl (by decide +kernel)
set_option maxRecDepth 20000 in
theorem gX10_leaves_X10_thereOf : GoodIn wsX10_leaves (wsV RX10 259 RX10 yX10_thereOf wsX10_thereOf) := goodIn_app (goodIn_of _ (by decide +kernel)) ggX10_leaves_X10_thereOf
set_option maxRecDepth 20000 in
theorem ggX10_leaves_X10_isIn : GoodIn wsX10_leaves wsX10_isIn := goodIn_r _ [10] rfl (by decide +kernel)
set_option maxRecDepth 20000 in
theorem gX10_leaves_X10_isIn : GoodIn wsX10_leaves (va_wsS RX10 248 yX10_isIn wsX10_isIn) := goodIn_app (goodIn_of _ (by decide +kernel)) ggX10_leaves_X10_isIn
set_option maxRecDepth 20000 in
theorem ggX10_leaves_X10_willOf : GoodIn wsX10_leaves wsX10_willOf := goodIn_r _ [14, 2, 8, 9, 6, 10, 26, 27, 28, 29, 30, 31, 32, 33, 34, 35, 36, 37, 38, 39, 40, 41, 42, 43, 44, 45, 46, 47, 48, 49, 50, 51, 52, 53, 54, 55, 56, 57, 58, 59, 60] rfl (by decide +kernel)
set_option maxRecDepth 20000 in
theorem gX10_leaves_X10_willOf : GoodIn wsX10_leaves (wsV RX10 263 RX10 yX10_willOf wsX10_willOf) := goodIn_app (goodIn_of _ (by decide +kernel)) ggX10_leaves_X10_willOf
set_option maxRecDepth 20000 in
theorem ggX10_leaves_X10_kindOf : GoodIn wsX10_leaves wsX10_kindOf := goodIn_r _ [18, 2, 26, 27, 28, 29, 30, 31, 32, 33, 34, 35, 36, 37, 38, 39, 40, 41, 42, 43, 44, 45, 46, 47, 48, 49, 50, 51, 52, 53, 54, 55, 56, 57, 58, 59, 60] rfl (by decide +kernel)
set_option maxRecDepth 20000 in
theorem gX10_leaves_X10_kindOf : GoodIn wsX10_leaves (wsV RX10 267 RX10 yX10_kindOf wsX10_kindOf) := goodIn_app (goodIn_of _ (by decide +kernel)) ggX10_leaves_X10_kindOf
set_option maxRecDepth 20000 in
theorem ggX10_leaves_X10_goes : GoodIn wsX10_leaves wsX10_goes := goodIn_r _ [22, 2, 23, 24, 6, 25, 8, 9, 10, 26, 27, 28, 29, 30, 31, 32, 33, 34, 35, 36, 37, 38, 39, 40, 41, 42, 43, 44, 45, 46, 47, 48, 49, 50, 51, 52, 53, 54, 55, 56, 57, 58, 59, 60] rfl (by decide +kernel)
set_option maxRecDepth 20000 in
theorem gX10_leaves_X10_goes : GoodIn wsX10_leaves (wsV RX10 270 RX10 yX10_goes wsX10_goes) := goodIn_app (goodIn_of _ (by decide +kernel)) ggX10_leaves_X10_goes
theorem kX10_leaves_256 : Cond.fieldLink RX10 256 "EveningVowModel" "roundMany" "I" ∈ wsX10_leaves := List.mem_of_getElem? (i := 1) rfl
theorem iX10_leaves_X10 : ∀ w ∈ u_ws RX10 TX10 35, w ∈ wsX10_leaves := fun w h => (List.mem_cons_of_mem _ (List.mem_append_right _ h))
theorem kX10_leaves_20 : Cond.fieldLink RX10 20 "EveningVowModel" "\x72" "[I" ∈ wsX10_leaves := List.mem_of_getElem? (i := 2) rfl
set_option maxHeartbeats 4000000 in
set_option maxRecDepth 100000 in
theorem wX10_leaves_L44 {p : Program} {l : Launch} {e : Env} {s : State} {m : MethodId} {args : Array Value} {below : List Frame} {meth : Method} {c : Code} {g : GG} {A : Nat → Prop} (C0 : Cx p s m args meth c cX10_leaves 7 (some .int) RX10 wsX10_leaves g A) (a_t : Nat) (a_r1 : Nat) (p_t : Nat → Nat) (n : Nat) (x2 : Int32) (x4 : Int32) (o_t : Nat → Int32) (f_t_15 : Nat → Int32) (f_r1 : Nat → Int32)  (r : Int32) (o_t' : Nat → Int32) (f_r1' : Nat → Int32) (K : Int32 → Option (Int32 × (Nat → Int32) × (Nat → Int32))) (hKx : ∀ (x5 : Int32) (H : Heap) (locs : List Loc) (ls : Array Slot), K x5 = some (r, o_t', f_r1') → va_P g.1 vwCl [oX10 a_t p_t o_t, aI g (p_t 15) 266 f_t_15, aI g a_r1 17 f_r1] H → va_D A [oX10 a_t p_t o_t, aI g (p_t 15) 266 f_t_15, aI g a_r1 17 f_r1] → va_S A s.heap H locs → lv_has ls 7 [(0, .ref a_t), (1, .ref a_r1), (2, .int x2), (5, .int x5)] → W p l e ({ frames := 2, cells := 0, slots := 0, locals := 45 } : Room) s m args below meth c H locs 0 0 (MQ below (EndI g r [oX10 a_t p_t o_t', aI g (p_t 15) 266 f_t_15, aI g a_r1 17 f_r1'] A) args s 0 0 A) (F0 m 108 ls [])) : ∀ (k : Nat) (x5 : Int32) (x6 : Int32), fX10_leaves_L44 n x2 x4 o_t f_t_15 f_r1 K k x5 x6 = some (r, o_t', f_r1') → ∀ (H : Heap) (locs : List Loc) (ls : Array Slot), va_P g.1 vwCl [oX10 a_t p_t o_t, aI g (p_t 15) 266 f_t_15, aI g a_r1 17 f_r1] H → va_D A [oX10 a_t p_t o_t, aI g (p_t 15) 266 f_t_15, aI g a_r1 17 f_r1] → va_S A s.heap H locs → lv_has ls 7 [(0, .ref a_t), (1, .ref a_r1), (2, .int x2), (4, .int x4), (5, .int x5), (6, .int x6)] → W p l e ({ frames := 2, cells := 0, slots := 0, locals := 45 } : Room) s m args below meth c H locs 0 0 (MQ below (EndI g r [oX10 a_t p_t o_t', aI g (p_t 15) 266 f_t_15, aI g a_r1 17 f_r1'] A) args s 0 0 A) (F0 m 44 ls []) := by
  obtain ⟨hx, hb, hml, hown, hts, hr, hlk, hK, hA, hSW⟩ := id C0
  intro k
  induction k with
  | zero =>
    intro x5 x6 hF
    exact absurd hF (by simp [fX10_leaves_L44])
  | succ k ih =>
    intro x5 x6 hF H locs ls hP hD hS hl
    rw [fX10_leaves_L44] at hF
    refine lv_iload hx hb dX10_leaves_44 (lv_at hl 5 rfl) ?_
    refine lv_aload_n hx hb dX10_leaves_46 rfl (lv_at hl 0 rfl) ?_
    refine va_get (D := g.1) (ci := 10) (v := .ref (p_t 15)) (C := RX10) (T := TX10) (N := 35) hx hb hts iX10_leaves_X10 hown hK.1 hP 0 rfl rfl 15 (by decide) (hts _ kX10_leaves_20) (fun _ h9 => h9) rfl dX10_leaves_47 ?_
    refine lv_iconst (v := (3 : Int32)) hx hb dX10_leaves_50 (by decide) ?_
    refine va_iald_k (j := 3) hx hb hK.1 hP 1 0 rfl rfl (by unfold vp_in; decide) rfl dX10_leaves_51 ?_
    refine lv_icmp_ge (tgt := 108) hx hb dX10_leaves_52 (by decide) (fun c_5 => ?_) (fun c_5 => ?_)
    · have hF := it_p c_5 hF
      exact hKx x5 _ _ _ hF (hP.sub [0, 1, 2] rfl) (hD.sub [0, 1, 2] rfl rfl) hS (lv_sub hl [0, 1, 2, 4] rfl)
    · have hF := it_n c_5 hF
      refine lv_iload hx hb dX10_leaves_55 (lv_at hl 4 rfl) ?_
      refine lv_aload_n hx hb dX10_leaves_57 rfl (lv_at hl 1 rfl) ?_
      refine lv_iload hx hb dX10_leaves_58 (lv_at hl 5 rfl) ?_
      obtain ⟨u_6, hu_7, hF⟩ := ob1_some hF
      refine call_si (wr := [oX10 a_t p_t o_t, aI g (p_t 15) 266 f_t_15]) (As := [.ref a_r1, .int x6]) (rest := [.int x5]) C0 (mX10_isIn l g a_r1 n x6 f_r1 u_6 hu_7) (va_cwS 2 hts gX10_leaves_X10_isIn rfl rfl rfl (by decide +kernel) ⟨Nat.le_of_ble_eq_true rfl, Nat.le_of_ble_eq_true rfl⟩) hP hD hS [2] [0, 1] rfl rfl rfl rfl rfl (by decide) hl.1 rfl rfl (Nat.le_of_ble_eq_true rfl) ⟨Nat.zero_le _, Nat.zero_le _⟩ dX10_leaves_60 ?_
      intro H locs hP hD hS
      refine lv_if_eq (tgt := 98) hx hb dX10_leaves_63 (by decide) (fun c_8 => ?_) (fun c_8 => ?_)
      · have hF := it_p c_8 hF
        refine lv_iconst (v := (0 : Int32)) hx hb dX10_leaves_98 (by decide) ?_
        refine lv_ior hx hb dX10_leaves_99 ?_
        refine lv_istore (lv' := [(5, .int (x5 ||| (0 : Int32))), (0, .ref a_t), (1, .ref a_r1), (2, .int x2), (4, .int x4), (6, .int x6)]) hx hb dX10_leaves_100 hl (by decide) rfl (fun ls hl => ?_)
        refine lv_iinc (v := (x6 + (1 : Int32))) (lv' := [(6, .int (x6 + (1 : Int32))), (5, .int (x5 ||| (0 : Int32))), (0, .ref a_t), (1, .ref a_r1), (2, .int x2), (4, .int x4)]) hx hb dX10_leaves_102 hl (k := 5) rfl rfl (by decide) rfl (fun ls hl => ?_)
        refine lv_goto (tgt := 44) hx hb dX10_leaves_105 (by decide) ?_
        exact ih (x5 ||| (0 : Int32)) (x6 + (1 : Int32)) hF _ _ _ (hP.sub [0, 1, 2] rfl) (hD.sub [0, 1, 2] rfl rfl) hS (lv_sub hl [2, 3, 4, 5, 1, 0] rfl)
      · have hF := it_n c_8 hF
        refine lv_aload_n hx hb dX10_leaves_66 rfl (lv_at hl 0 rfl) ?_
        refine lv_aload_n hx hb dX10_leaves_67 rfl (lv_at hl 1 rfl) ?_
        refine lv_iload hx hb dX10_leaves_68 (lv_at hl 5 rfl) ?_
        obtain ⟨u_9, hu_10, hF⟩ := ob1_some hF
        refine call_i (wr := []) (As := [.ref a_r1, .int x6]) (rest := [.int x5]) (ci := 10) (q0 := 0) C0 (mX10_willOf l g a_t a_r1 p_t n x6 o_t f_t_15 f_r1 u_9 hu_10) (cwV 2 hts gX10_leaves_X10_willOf rfl rfl rfl (by decide +kernel) ⟨Nat.le_of_ble_eq_true rfl, Nat.le_of_ble_eq_true rfl⟩) hP hD hS [0, 1, 2] [] rfl rfl rfl rfl rfl (by decide) rfl rfl hl.1 rfl rfl (Nat.le_of_ble_eq_true rfl) ⟨Nat.zero_le _, Nat.zero_le _⟩ dX10_leaves_70 ?_
        intro H locs hP hD hS
        refine lv_if_gt (tgt := 98) hx hb dX10_leaves_73 (by decide) (fun c_11 => ?_) (fun c_11 => ?_)
        · have hF := it_p c_11 hF
          refine lv_iconst (v := (0 : Int32)) hx hb dX10_leaves_98 (by decide) ?_
          refine lv_ior hx hb dX10_leaves_99 ?_
          refine lv_istore (lv' := [(5, .int (x5 ||| (0 : Int32))), (0, .ref a_t), (1, .ref a_r1), (2, .int x2), (4, .int x4), (6, .int x6)]) hx hb dX10_leaves_100 hl (by decide) rfl (fun ls hl => ?_)
          refine lv_iinc (v := (x6 + (1 : Int32))) (lv' := [(6, .int (x6 + (1 : Int32))), (5, .int (x5 ||| (0 : Int32))), (0, .ref a_t), (1, .ref a_r1), (2, .int x2), (4, .int x4)]) hx hb dX10_leaves_102 hl (k := 5) rfl rfl (by decide) rfl (fun ls hl => ?_)
          refine lv_goto (tgt := 44) hx hb dX10_leaves_105 (by decide) ?_
          exact ih (x5 ||| (0 : Int32)) (x6 + (1 : Int32)) hF _ _ _ (hP.sub [0, 1, 2] rfl) (hD.sub [0, 1, 2] rfl rfl) hS (lv_sub hl [2, 3, 4, 5, 1, 0] rfl)
        · have hF := it_n c_11 hF
          refine lv_iload hx hb dX10_leaves_76 (lv_at hl 3 rfl) ?_
          refine lv_if_ne (tgt := 91) hx hb dX10_leaves_78 (by decide) (fun c_12 => ?_) (fun c_12 => ?_)
          · have hF := it_n c_12 hF
            refine lv_iconst (v := (1 : Int32)) hx hb dX10_leaves_91 (by decide) ?_
            refine lv_iload hx hb dX10_leaves_92 (lv_at hl 5 rfl) ?_
            refine lv_ishl hx hb dX10_leaves_94 ?_
            refine lv_goto (tgt := 99) hx hb dX10_leaves_95 (by decide) ?_
            refine lv_ior hx hb dX10_leaves_99 ?_
            refine lv_istore (lv' := [(5, .int (x5 ||| ((1 : Int32) <<< (x6 &&& 31)))), (0, .ref a_t), (1, .ref a_r1), (2, .int x2), (4, .int x4), (6, .int x6)]) hx hb dX10_leaves_100 hl (by decide) rfl (fun ls hl => ?_)
            refine lv_iinc (v := (x6 + (1 : Int32))) (lv' := [(6, .int (x6 + (1 : Int32))), (5, .int (x5 ||| ((1 : Int32) <<< (x6 &&& 31)))), (0, .ref a_t), (1, .ref a_r1), (2, .int x2), (4, .int x4)]) hx hb dX10_leaves_102 hl (k := 5) rfl rfl (by decide) rfl (fun ls hl => ?_)
            refine lv_goto (tgt := 44) hx hb dX10_leaves_105 (by decide) ?_
            exact ih (x5 ||| ((1 : Int32) <<< (x6 &&& 31))) (x6 + (1 : Int32)) hF _ _ _ (hP.sub [0, 1, 2] rfl) (hD.sub [0, 1, 2] rfl rfl) hS (lv_sub hl [2, 3, 4, 5, 1, 0] rfl)
          · have hF := it_p c_12 hF
            refine lv_aload_n hx hb dX10_leaves_81 rfl (lv_at hl 0 rfl) ?_
            refine lv_iload hx hb dX10_leaves_82 (lv_at hl 5 rfl) ?_
            obtain ⟨u_13, hu_14, hF⟩ := ob1_some hF
            refine call_i (wr := [aI g a_r1 17 f_r1]) (As := [.int x6]) (rest := [.int x5]) (ci := 10) (q0 := 0) C0 (mX10_kindOf l g a_t p_t n x6 o_t f_t_15 u_13 hu_14) (cwV 1 hts gX10_leaves_X10_kindOf rfl rfl rfl (by decide +kernel) ⟨Nat.le_of_ble_eq_true rfl, Nat.le_of_ble_eq_true rfl⟩) hP hD hS [0, 1] [2] rfl rfl rfl rfl rfl (by decide) rfl rfl hl.1 rfl rfl (Nat.le_of_ble_eq_true rfl) ⟨Nat.zero_le _, Nat.zero_le _⟩ dX10_leaves_84 ?_
            intro H locs hP hD hS
            refine lv_iconst (v := (1 : Int32)) hx hb dX10_leaves_87 (by decide) ?_
            refine lv_icmp_eq (tgt := 98) hx hb dX10_leaves_88 (by decide) (fun c_15 => ?_) (fun c_15 => ?_)
            · have hF := it_p c_15 hF
              refine lv_iconst (v := (0 : Int32)) hx hb dX10_leaves_98 (by decide) ?_
              refine lv_ior hx hb dX10_leaves_99 ?_
              refine lv_istore (lv' := [(5, .int (x5 ||| (0 : Int32))), (0, .ref a_t), (1, .ref a_r1), (2, .int x2), (4, .int x4), (6, .int x6)]) hx hb dX10_leaves_100 hl (by decide) rfl (fun ls hl => ?_)
              refine lv_iinc (v := (x6 + (1 : Int32))) (lv' := [(6, .int (x6 + (1 : Int32))), (5, .int (x5 ||| (0 : Int32))), (0, .ref a_t), (1, .ref a_r1), (2, .int x2), (4, .int x4)]) hx hb dX10_leaves_102 hl (k := 5) rfl rfl (by decide) rfl (fun ls hl => ?_)
              refine lv_goto (tgt := 44) hx hb dX10_leaves_105 (by decide) ?_
              exact ih (x5 ||| (0 : Int32)) (x6 + (1 : Int32)) hF _ _ _ (hP.sub [1, 2, 0] rfl) (hD.sub [1, 2, 0] rfl rfl) hS (lv_sub hl [2, 3, 4, 5, 1, 0] rfl)
            · have hF := it_n c_15 hF
              refine lv_iconst (v := (1 : Int32)) hx hb dX10_leaves_91 (by decide) ?_
              refine lv_iload hx hb dX10_leaves_92 (lv_at hl 5 rfl) ?_
              refine lv_ishl hx hb dX10_leaves_94 ?_
              refine lv_goto (tgt := 99) hx hb dX10_leaves_95 (by decide) ?_
              refine lv_ior hx hb dX10_leaves_99 ?_
              refine lv_istore (lv' := [(5, .int (x5 ||| ((1 : Int32) <<< (x6 &&& 31)))), (0, .ref a_t), (1, .ref a_r1), (2, .int x2), (4, .int x4), (6, .int x6)]) hx hb dX10_leaves_100 hl (by decide) rfl (fun ls hl => ?_)
              refine lv_iinc (v := (x6 + (1 : Int32))) (lv' := [(6, .int (x6 + (1 : Int32))), (5, .int (x5 ||| ((1 : Int32) <<< (x6 &&& 31)))), (0, .ref a_t), (1, .ref a_r1), (2, .int x2), (4, .int x4)]) hx hb dX10_leaves_102 hl (k := 5) rfl rfl (by decide) rfl (fun ls hl => ?_)
              refine lv_goto (tgt := 44) hx hb dX10_leaves_105 (by decide) ?_
              exact ih (x5 ||| ((1 : Int32) <<< (x6 &&& 31))) (x6 + (1 : Int32)) hF _ _ _ (hP.sub [1, 2, 0] rfl) (hD.sub [1, 2, 0] rfl rfl) hS (lv_sub hl [2, 3, 4, 5, 1, 0] rfl)
set_option maxHeartbeats 4000000 in
set_option maxRecDepth 100000 in
theorem wX10_leaves_L9 {p : Program} {l : Launch} {e : Env} {s : State} {m : MethodId} {args : Array Value} {below : List Frame} {meth : Method} {c : Code} {g : GG} {A : Nat → Prop} (C0 : Cx p s m args meth c cX10_leaves 7 (some .int) RX10 wsX10_leaves g A) (a_t : Nat) (a_r1 : Nat) (p_t : Nat → Nat) (n : Nat) (f_t_15 : Nat → Int32)  (r : Int32) (o_t' : Nat → Int32) (f_r1' : Nat → Int32) (K : Int32 → (Nat → Int32) → (Nat → Int32) → Option (Int32 × (Nat → Int32) × (Nat → Int32))) (hKx : ∀ (x2 : Int32) (o_t : Nat → Int32) (f_r1 : Nat → Int32) (H : Heap) (locs : List Loc) (ls : Array Slot), K x2 o_t f_r1 = some (r, o_t', f_r1') → va_P g.1 vwCl [oX10 a_t p_t o_t, aI g (p_t 15) 266 f_t_15, aI g a_r1 17 f_r1] H → va_D A [oX10 a_t p_t o_t, aI g (p_t 15) 266 f_t_15, aI g a_r1 17 f_r1] → va_S A s.heap H locs → lv_has ls 7 [(2, .int x2)] → W p l e ({ frames := 2, cells := 0, slots := 0, locals := 45 } : Room) s m args below meth c H locs 0 0 (MQ below (EndI g r [oX10 a_t p_t o_t', aI g (p_t 15) 266 f_t_15, aI g a_r1 17 f_r1'] A) args s 0 0 A) (F0 m 152 ls [])) : ∀ (k : Nat) (x2 : Int32) (x3 : Int32) (o_t : Nat → Int32) (f_r1 : Nat → Int32), fX10_leaves_L9 n f_t_15 K k x2 x3 o_t f_r1 = some (r, o_t', f_r1') → ∀ (H : Heap) (locs : List Loc) (ls : Array Slot), va_P g.1 vwCl [oX10 a_t p_t o_t, aI g (p_t 15) 266 f_t_15, aI g a_r1 17 f_r1] H → va_D A [oX10 a_t p_t o_t, aI g (p_t 15) 266 f_t_15, aI g a_r1 17 f_r1] → va_S A s.heap H locs → lv_has ls 7 [(0, .ref a_t), (1, .ref a_r1), (2, .int x2), (3, .int x3)] → W p l e ({ frames := 2, cells := 0, slots := 0, locals := 45 } : Room) s m args below meth c H locs 0 0 (MQ below (EndI g r [oX10 a_t p_t o_t', aI g (p_t 15) 266 f_t_15, aI g a_r1 17 f_r1'] A) args s 0 0 A) (F0 m 9 ls []) := by
  obtain ⟨hx, hb, hml, hown, hts, hr, hlk, hK, hA, hSW⟩ := id C0
  intro k
  induction k with
  | zero =>
    intro x2 x3 o_t f_r1 hF
    exact absurd hF (by simp [fX10_leaves_L9])
  | succ k ih =>
    intro x2 x3 o_t f_r1 hF H locs ls hP hD hS hl
    rw [fX10_leaves_L9] at hF
    refine lv_iload_n hx hb dX10_leaves_9 rfl (lv_at hl 3 rfl) ?_
    refine lv_if_eq (tgt := 152) hx hb dX10_leaves_10 (by decide) (fun c_1 => ?_) (fun c_1 => ?_)
    · have hF := it_p c_1 hF
      exact hKx x2 o_t f_r1 _ _ _ hF (hP.sub [0, 1, 2] rfl) (hD.sub [0, 1, 2] rfl rfl) hS (lv_sub hl [2] rfl)
    · have hF := it_n c_1 hF
      refine lv_aload_n hx hb dX10_leaves_13 rfl (lv_at hl 0 rfl) ?_
      refine lv_aload_n hx hb dX10_leaves_14 rfl (lv_at hl 1 rfl) ?_
      obtain ⟨u_2, hu_3, hF⟩ := ob1_some hF
      refine call_i (wr := []) (As := [.ref a_r1]) (rest := []) (ci := 10) (q0 := 0) C0 (mX10_thereOf l g a_t a_r1 p_t n o_t f_t_15 f_r1 u_2 hu_3) (cwV 1 hts gX10_leaves_X10_thereOf rfl rfl rfl (by decide +kernel) ⟨Nat.le_of_ble_eq_true rfl, Nat.le_of_ble_eq_true rfl⟩) hP hD hS [0, 1, 2] [] rfl rfl rfl rfl rfl (by decide) rfl rfl hl.1 rfl rfl (Nat.le_of_ble_eq_true rfl) ⟨Nat.zero_le _, Nat.zero_le _⟩ dX10_leaves_15 ?_
      intro H locs hP hD hS
      refine lv_iconst (v := (1 : Int32)) hx hb dX10_leaves_18 (by decide) ?_
      refine lv_aload_n hx hb dX10_leaves_19 rfl (lv_at hl 0 rfl) ?_
      refine va_get (D := g.1) (ci := 10) (v := .ref (p_t 15)) (C := RX10) (T := TX10) (N := 35) hx hb hts iX10_leaves_X10 hown hK.1 hP 0 rfl rfl 15 (by decide) (hts _ kX10_leaves_20) (fun _ h9 => h9) rfl dX10_leaves_20 ?_
      refine lv_iconst (v := (3 : Int32)) hx hb dX10_leaves_23 (by decide) ?_
      refine va_iald_k (j := 3) hx hb hK.1 hP 1 0 rfl rfl (by unfold vp_in; decide) rfl dX10_leaves_24 ?_
      refine lv_ishl hx hb dX10_leaves_25 ?_
      refine lv_iconst (v := (1 : Int32)) hx hb dX10_leaves_26 (by decide) ?_
      refine lv_isub hx hb dX10_leaves_27 ?_
      refine lv_icmp_eq (tgt := 35) hx hb dX10_leaves_28 (by decide) (fun c_4 => ?_) (fun c_4 => ?_)
      · have hF := it_p c_4 hF
        refine lv_iconst (v := (0 : Int32)) hx hb dX10_leaves_35 (by decide) ?_
        refine lv_istore (lv' := [(4, .int (0 : Int32)), (0, .ref a_t), (1, .ref a_r1), (2, .int x2), (3, .int x3)]) hx hb dX10_leaves_36 hl (by decide) rfl (fun ls hl => ?_)
        refine lv_iconst (v := (0 : Int32)) hx hb dX10_leaves_38 (by decide) ?_
        refine lv_istore (lv' := [(5, .int (0 : Int32)), (4, .int (0 : Int32)), (0, .ref a_t), (1, .ref a_r1), (2, .int x2), (3, .int x3)]) hx hb dX10_leaves_39 hl (by decide) rfl (fun ls hl => ?_)
        refine lv_iconst (v := (0 : Int32)) hx hb dX10_leaves_41 (by decide) ?_
        refine lv_istore (lv' := [(6, .int (0 : Int32)), (5, .int (0 : Int32)), (4, .int (0 : Int32)), (0, .ref a_t), (1, .ref a_r1), (2, .int x2), (3, .int x3)]) hx hb dX10_leaves_42 hl (by decide) rfl (fun ls hl => ?_)
        refine wX10_leaves_L44 C0 a_t a_r1 p_t n x2 (0 : Int32) o_t f_t_15 f_r1 r o_t' f_r1' _ ?_ n (0 : Int32) (0 : Int32) hF _ _ _ (hP.sub [0, 1, 2] rfl) (hD.sub [0, 1, 2] rfl rfl) hS (lv_sub hl [3, 4, 5, 2, 1, 0] rfl)
        · intro x5_x44 H locs ls hF hP hD hS hl
          refine lv_aload_n hx hb dX10_leaves_108 rfl (lv_at hl 0 rfl) ?_
          refine lv_aload_n hx hb dX10_leaves_109 rfl (lv_at hl 1 rfl) ?_
          refine lv_iload hx hb dX10_leaves_110 (lv_at hl 3 rfl) ?_
          obtain ⟨u_16, hu_17, hF⟩ := ob1_some hF
          refine call_v (wr := []) (As := [.ref a_r1, .int x5_x44]) (rest := []) (ci := 10) (q0 := 0) C0 (mX10_goes l g a_t a_r1 p_t n x5_x44 o_t f_t_15 f_r1 u_16 hu_17) (cwV 2 hts gX10_leaves_X10_goes rfl rfl rfl (by decide +kernel) ⟨Nat.le_of_ble_eq_true rfl, Nat.le_of_ble_eq_true rfl⟩) hP hD hS [0, 1, 2] [] rfl rfl rfl rfl rfl (by decide) rfl rfl hl.1 rfl rfl (Nat.le_of_ble_eq_true rfl) ⟨Nat.zero_le _, Nat.zero_le _⟩ dX10_leaves_112 ?_
          intro H locs hP hD hS
          refine lv_iload_n hx hb dX10_leaves_115 rfl (lv_at hl 2 rfl) ?_
          refine lv_iload hx hb dX10_leaves_116 (lv_at hl 3 rfl) ?_
          refine lv_ior hx hb dX10_leaves_118 ?_
          refine lv_istore_n (lv' := [(2, .int (x2 ||| x5_x44)), (0, .ref a_t), (1, .ref a_r1), (5, .int x5_x44)]) hx hb dX10_leaves_119 rfl hl (by decide) rfl (fun ls hl => ?_)
          refine lv_iload hx hb dX10_leaves_120 (lv_at hl 3 rfl) ?_
          refine lv_if_eq (tgt := 129) hx hb dX10_leaves_122 (by decide) (fun c_18 => ?_) (fun c_18 => ?_)
          · have hF := it_p c_18 hF
            refine lv_iconst (v := (0 : Int32)) hx hb dX10_leaves_129 (by decide) ?_
            refine lv_istore_n (lv' := [(3, .int (0 : Int32)), (2, .int (x2 ||| x5_x44)), (0, .ref a_t), (1, .ref a_r1), (5, .int x5_x44)]) hx hb dX10_leaves_130 rfl hl (by decide) rfl (fun ls hl => ?_)
            refine lv_aload_n hx hb dX10_leaves_131 rfl (lv_at hl 2 rfl) ?_
            refine lv_dup hx hb dX10_leaves_132 rfl ?_
            refine va_get (D := g.1) (ci := 10) (v := .int (o_t 22)) (C := RX10) (T := TX10) (N := 35) hx hb hts iX10_leaves_X10 hown hK.1 hP 0 rfl rfl 22 (by decide) (hts _ kX10_leaves_256) (fun _ h9 => h9) rfl dX10_leaves_133 ?_
            refine lv_iload_n hx hb dX10_leaves_136 rfl (lv_at hl 0 rfl) ?_
            refine lv_if_eq (tgt := 144) hx hb dX10_leaves_137 (by decide) (fun c_19 => ?_) (fun c_19 => ?_)
            · skip
              refine lv_iconst (v := (0 : Int32)) hx hb dX10_leaves_144 (by decide) ?_
              refine lv_iadd hx hb dX10_leaves_145 ?_
              refine va_put (D := g.1) (ci := 10) (v := .int ((o_t 22) + (0 : Int32))) (ty := .int) (C := RX10) (T := TX10) (N := 35) hx hb hts iX10_leaves_X10 tyX10 tyX10_ok nmX10 hown hK.1 hP hD hS 0 rfl rfl 22 (by decide) (hts _ kX10_leaves_256) (fun _ h9 => h9) rfl (by decide +kernel) rfl rfl (Nat.le_of_ble_eq_true rfl) dX10_leaves_146 (fun H locs hP hD hS => ?_)
              have hP : va_P g.1 vwCl [oX10 a_t p_t (upd o_t 22 ((o_t 22) + (0 : Int32))), aI g (p_t 15) 266 f_t_15, aI g a_r1 17 u_16] H := hP
              have hD : va_D A [oX10 a_t p_t (upd o_t 22 ((o_t 22) + (0 : Int32))), aI g (p_t 15) 266 f_t_15, aI g a_r1 17 u_16] := hD
              refine lv_goto (tgt := 9) hx hb dX10_leaves_149 (by decide) ?_
              exact ih (x2 ||| x5_x44) (0 : Int32) (upd o_t 22 ((o_t 22) + (0 : Int32))) u_16 hF _ _ _ (hP.sub [0, 1, 2] rfl) (hD.sub [0, 1, 2] rfl rfl) hS (lv_sub hl [2, 3, 1, 0] rfl)
            · exact absurd c_19 (by decide)
          · have hF := it_n c_18 hF
            refine lv_iconst (v := (1 : Int32)) hx hb dX10_leaves_125 (by decide) ?_
            refine lv_goto (tgt := 130) hx hb dX10_leaves_126 (by decide) ?_
            refine lv_istore_n (lv' := [(3, .int (1 : Int32)), (2, .int (x2 ||| x5_x44)), (0, .ref a_t), (1, .ref a_r1), (5, .int x5_x44)]) hx hb dX10_leaves_130 rfl hl (by decide) rfl (fun ls hl => ?_)
            refine lv_aload_n hx hb dX10_leaves_131 rfl (lv_at hl 2 rfl) ?_
            refine lv_dup hx hb dX10_leaves_132 rfl ?_
            refine va_get (D := g.1) (ci := 10) (v := .int (o_t 22)) (C := RX10) (T := TX10) (N := 35) hx hb hts iX10_leaves_X10 hown hK.1 hP 0 rfl rfl 22 (by decide) (hts _ kX10_leaves_256) (fun _ h9 => h9) rfl dX10_leaves_133 ?_
            refine lv_iload_n hx hb dX10_leaves_136 rfl (lv_at hl 0 rfl) ?_
            refine lv_if_eq (tgt := 144) hx hb dX10_leaves_137 (by decide) (fun c_20 => ?_) (fun c_20 => ?_)
            · exact absurd c_20 (by decide)
            · skip
              refine lv_iconst (v := (1 : Int32)) hx hb dX10_leaves_140 (by decide) ?_
              refine lv_goto (tgt := 145) hx hb dX10_leaves_141 (by decide) ?_
              refine lv_iadd hx hb dX10_leaves_145 ?_
              refine va_put (D := g.1) (ci := 10) (v := .int ((o_t 22) + (1 : Int32))) (ty := .int) (C := RX10) (T := TX10) (N := 35) hx hb hts iX10_leaves_X10 tyX10 tyX10_ok nmX10 hown hK.1 hP hD hS 0 rfl rfl 22 (by decide) (hts _ kX10_leaves_256) (fun _ h9 => h9) rfl (by decide +kernel) rfl rfl (Nat.le_of_ble_eq_true rfl) dX10_leaves_146 (fun H locs hP hD hS => ?_)
              have hP : va_P g.1 vwCl [oX10 a_t p_t (upd o_t 22 ((o_t 22) + (1 : Int32))), aI g (p_t 15) 266 f_t_15, aI g a_r1 17 u_16] H := hP
              have hD : va_D A [oX10 a_t p_t (upd o_t 22 ((o_t 22) + (1 : Int32))), aI g (p_t 15) 266 f_t_15, aI g a_r1 17 u_16] := hD
              refine lv_goto (tgt := 9) hx hb dX10_leaves_149 (by decide) ?_
              exact ih (x2 ||| x5_x44) (1 : Int32) (upd o_t 22 ((o_t 22) + (1 : Int32))) u_16 hF _ _ _ (hP.sub [0, 1, 2] rfl) (hD.sub [0, 1, 2] rfl rfl) hS (lv_sub hl [2, 3, 1, 0] rfl)
      · have hF := it_n c_4 hF
        refine lv_iconst (v := (1 : Int32)) hx hb dX10_leaves_31 (by decide) ?_
        refine lv_goto (tgt := 36) hx hb dX10_leaves_32 (by decide) ?_
        refine lv_istore (lv' := [(4, .int (1 : Int32)), (0, .ref a_t), (1, .ref a_r1), (2, .int x2), (3, .int x3)]) hx hb dX10_leaves_36 hl (by decide) rfl (fun ls hl => ?_)
        refine lv_iconst (v := (0 : Int32)) hx hb dX10_leaves_38 (by decide) ?_
        refine lv_istore (lv' := [(5, .int (0 : Int32)), (4, .int (1 : Int32)), (0, .ref a_t), (1, .ref a_r1), (2, .int x2), (3, .int x3)]) hx hb dX10_leaves_39 hl (by decide) rfl (fun ls hl => ?_)
        refine lv_iconst (v := (0 : Int32)) hx hb dX10_leaves_41 (by decide) ?_
        refine lv_istore (lv' := [(6, .int (0 : Int32)), (5, .int (0 : Int32)), (4, .int (1 : Int32)), (0, .ref a_t), (1, .ref a_r1), (2, .int x2), (3, .int x3)]) hx hb dX10_leaves_42 hl (by decide) rfl (fun ls hl => ?_)
        refine wX10_leaves_L44 C0 a_t a_r1 p_t n x2 (1 : Int32) o_t f_t_15 f_r1 r o_t' f_r1' _ ?_ n (0 : Int32) (0 : Int32) hF _ _ _ (hP.sub [0, 1, 2] rfl) (hD.sub [0, 1, 2] rfl rfl) hS (lv_sub hl [3, 4, 5, 2, 1, 0] rfl)
        · intro x5_x44 H locs ls hF hP hD hS hl
          refine lv_aload_n hx hb dX10_leaves_108 rfl (lv_at hl 0 rfl) ?_
          refine lv_aload_n hx hb dX10_leaves_109 rfl (lv_at hl 1 rfl) ?_
          refine lv_iload hx hb dX10_leaves_110 (lv_at hl 3 rfl) ?_
          obtain ⟨u_21, hu_22, hF⟩ := ob1_some hF
          refine call_v (wr := []) (As := [.ref a_r1, .int x5_x44]) (rest := []) (ci := 10) (q0 := 0) C0 (mX10_goes l g a_t a_r1 p_t n x5_x44 o_t f_t_15 f_r1 u_21 hu_22) (cwV 2 hts gX10_leaves_X10_goes rfl rfl rfl (by decide +kernel) ⟨Nat.le_of_ble_eq_true rfl, Nat.le_of_ble_eq_true rfl⟩) hP hD hS [0, 1, 2] [] rfl rfl rfl rfl rfl (by decide) rfl rfl hl.1 rfl rfl (Nat.le_of_ble_eq_true rfl) ⟨Nat.zero_le _, Nat.zero_le _⟩ dX10_leaves_112 ?_
          intro H locs hP hD hS
          refine lv_iload_n hx hb dX10_leaves_115 rfl (lv_at hl 2 rfl) ?_
          refine lv_iload hx hb dX10_leaves_116 (lv_at hl 3 rfl) ?_
          refine lv_ior hx hb dX10_leaves_118 ?_
          refine lv_istore_n (lv' := [(2, .int (x2 ||| x5_x44)), (0, .ref a_t), (1, .ref a_r1), (5, .int x5_x44)]) hx hb dX10_leaves_119 rfl hl (by decide) rfl (fun ls hl => ?_)
          refine lv_iload hx hb dX10_leaves_120 (lv_at hl 3 rfl) ?_
          refine lv_if_eq (tgt := 129) hx hb dX10_leaves_122 (by decide) (fun c_23 => ?_) (fun c_23 => ?_)
          · have hF := it_p c_23 hF
            refine lv_iconst (v := (0 : Int32)) hx hb dX10_leaves_129 (by decide) ?_
            refine lv_istore_n (lv' := [(3, .int (0 : Int32)), (2, .int (x2 ||| x5_x44)), (0, .ref a_t), (1, .ref a_r1), (5, .int x5_x44)]) hx hb dX10_leaves_130 rfl hl (by decide) rfl (fun ls hl => ?_)
            refine lv_aload_n hx hb dX10_leaves_131 rfl (lv_at hl 2 rfl) ?_
            refine lv_dup hx hb dX10_leaves_132 rfl ?_
            refine va_get (D := g.1) (ci := 10) (v := .int (o_t 22)) (C := RX10) (T := TX10) (N := 35) hx hb hts iX10_leaves_X10 hown hK.1 hP 0 rfl rfl 22 (by decide) (hts _ kX10_leaves_256) (fun _ h9 => h9) rfl dX10_leaves_133 ?_
            refine lv_iload_n hx hb dX10_leaves_136 rfl (lv_at hl 0 rfl) ?_
            refine lv_if_eq (tgt := 144) hx hb dX10_leaves_137 (by decide) (fun c_24 => ?_) (fun c_24 => ?_)
            · skip
              refine lv_iconst (v := (0 : Int32)) hx hb dX10_leaves_144 (by decide) ?_
              refine lv_iadd hx hb dX10_leaves_145 ?_
              refine va_put (D := g.1) (ci := 10) (v := .int ((o_t 22) + (0 : Int32))) (ty := .int) (C := RX10) (T := TX10) (N := 35) hx hb hts iX10_leaves_X10 tyX10 tyX10_ok nmX10 hown hK.1 hP hD hS 0 rfl rfl 22 (by decide) (hts _ kX10_leaves_256) (fun _ h9 => h9) rfl (by decide +kernel) rfl rfl (Nat.le_of_ble_eq_true rfl) dX10_leaves_146 (fun H locs hP hD hS => ?_)
              have hP : va_P g.1 vwCl [oX10 a_t p_t (upd o_t 22 ((o_t 22) + (0 : Int32))), aI g (p_t 15) 266 f_t_15, aI g a_r1 17 u_21] H := hP
              have hD : va_D A [oX10 a_t p_t (upd o_t 22 ((o_t 22) + (0 : Int32))), aI g (p_t 15) 266 f_t_15, aI g a_r1 17 u_21] := hD
              refine lv_goto (tgt := 9) hx hb dX10_leaves_149 (by decide) ?_
              exact ih (x2 ||| x5_x44) (0 : Int32) (upd o_t 22 ((o_t 22) + (0 : Int32))) u_21 hF _ _ _ (hP.sub [0, 1, 2] rfl) (hD.sub [0, 1, 2] rfl rfl) hS (lv_sub hl [2, 3, 1, 0] rfl)
            · exact absurd c_24 (by decide)
          · have hF := it_n c_23 hF
            refine lv_iconst (v := (1 : Int32)) hx hb dX10_leaves_125 (by decide) ?_
            refine lv_goto (tgt := 130) hx hb dX10_leaves_126 (by decide) ?_
            refine lv_istore_n (lv' := [(3, .int (1 : Int32)), (2, .int (x2 ||| x5_x44)), (0, .ref a_t), (1, .ref a_r1), (5, .int x5_x44)]) hx hb dX10_leaves_130 rfl hl (by decide) rfl (fun ls hl => ?_)
            refine lv_aload_n hx hb dX10_leaves_131 rfl (lv_at hl 2 rfl) ?_
            refine lv_dup hx hb dX10_leaves_132 rfl ?_
            refine va_get (D := g.1) (ci := 10) (v := .int (o_t 22)) (C := RX10) (T := TX10) (N := 35) hx hb hts iX10_leaves_X10 hown hK.1 hP 0 rfl rfl 22 (by decide) (hts _ kX10_leaves_256) (fun _ h9 => h9) rfl dX10_leaves_133 ?_
            refine lv_iload_n hx hb dX10_leaves_136 rfl (lv_at hl 0 rfl) ?_
            refine lv_if_eq (tgt := 144) hx hb dX10_leaves_137 (by decide) (fun c_25 => ?_) (fun c_25 => ?_)
            · exact absurd c_25 (by decide)
            · skip
              refine lv_iconst (v := (1 : Int32)) hx hb dX10_leaves_140 (by decide) ?_
              refine lv_goto (tgt := 145) hx hb dX10_leaves_141 (by decide) ?_
              refine lv_iadd hx hb dX10_leaves_145 ?_
              refine va_put (D := g.1) (ci := 10) (v := .int ((o_t 22) + (1 : Int32))) (ty := .int) (C := RX10) (T := TX10) (N := 35) hx hb hts iX10_leaves_X10 tyX10 tyX10_ok nmX10 hown hK.1 hP hD hS 0 rfl rfl 22 (by decide) (hts _ kX10_leaves_256) (fun _ h9 => h9) rfl (by decide +kernel) rfl rfl (Nat.le_of_ble_eq_true rfl) dX10_leaves_146 (fun H locs hP hD hS => ?_)
              have hP : va_P g.1 vwCl [oX10 a_t p_t (upd o_t 22 ((o_t 22) + (1 : Int32))), aI g (p_t 15) 266 f_t_15, aI g a_r1 17 u_21] H := hP
              have hD : va_D A [oX10 a_t p_t (upd o_t 22 ((o_t 22) + (1 : Int32))), aI g (p_t 15) 266 f_t_15, aI g a_r1 17 u_21] := hD
              refine lv_goto (tgt := 9) hx hb dX10_leaves_149 (by decide) ?_
              exact ih (x2 ||| x5_x44) (1 : Int32) (upd o_t 22 ((o_t 22) + (1 : Int32))) u_21 hF _ _ _ (hP.sub [0, 1, 2] rfl) (hD.sub [0, 1, 2] rfl rfl) hS (lv_sub hl [2, 3, 1, 0] rfl)
set_option maxHeartbeats 4000000 in
set_option maxRecDepth 100000 in
theorem mX10_leaves (l : Launch) (g : GG) (a_t : Nat) (a_r1 : Nat) (p_t : Nat → Nat) (n : Nat) (o_t : Nat → Int32) (f_t_15 : Nat → Int32) (f_r1 : Nat → Int32) (r : Int32) (o_t' : Nat → Int32) (f_r1' : Nat → Int32) (hF : fX10_leaves n o_t f_t_15 f_r1 = some (r, o_t', f_r1')) : MI l g yX10_leaves wsX10_leaves ({ frames := 2, cells := 0, slots := 0, locals := 45 } : Room) [.ref a_t, .ref a_r1] [oX10 a_t p_t o_t, aI g (p_t 15) 266 f_t_15, aI g a_r1 17 f_r1] r [oX10 a_t p_t o_t', aI g (p_t 15) 266 f_t_15, aI g a_r1 17 f_r1'] := by
  refine MI.of (cc := cX10_leaves) (maxL := 7) (rt := .int) (own := RX10) rfl rfl (by decide) (Nat.le_of_ble_eq_true rfl) ?_
  intro p e s m args below meth c A C0 hP hD hS ls hl
  obtain ⟨hx, hb, hml, hown, hts, hr, hlk, hK, hA, hSW⟩ := id C0
  have hl : lv_has ls 7 [(0, .ref a_t), (1, .ref a_r1)] := hl
  rw [fX10_leaves] at hF
  refine lv_iconst (v := (0 : Int32)) hx hb dX10_leaves_0 (by decide) ?_
  refine lv_istore_n (lv' := [(2, .int (0 : Int32)), (0, .ref a_t), (1, .ref a_r1)]) hx hb dX10_leaves_1 rfl hl (by decide) rfl (fun ls hl => ?_)
  refine lv_aload_n hx hb dX10_leaves_2 rfl (lv_at hl 1 rfl) ?_
  refine lv_iconst (v := (0 : Int32)) hx hb dX10_leaves_3 (by decide) ?_
  refine va_put (D := g.1) (ci := 10) (v := .int (0 : Int32)) (ty := .int) (C := RX10) (T := TX10) (N := 35) hx hb hts iX10_leaves_X10 tyX10 tyX10_ok nmX10 hown hK.1 hP hD hS 0 rfl rfl 22 (by decide) (hts _ kX10_leaves_256) (fun _ h9 => h9) rfl (by decide +kernel) rfl rfl (Nat.le_of_ble_eq_true rfl) dX10_leaves_4 (fun H locs hP hD hS => ?_)
  have hP : va_P g.1 vwCl [oX10 a_t p_t (upd o_t 22 (0 : Int32)), aI g (p_t 15) 266 f_t_15, aI g a_r1 17 f_r1] H := hP
  have hD : va_D A [oX10 a_t p_t (upd o_t 22 (0 : Int32)), aI g (p_t 15) 266 f_t_15, aI g a_r1 17 f_r1] := hD
  refine lv_iconst (v := (1 : Int32)) hx hb dX10_leaves_7 (by decide) ?_
  refine lv_istore_n (lv' := [(3, .int (1 : Int32)), (2, .int (0 : Int32)), (0, .ref a_t), (1, .ref a_r1)]) hx hb dX10_leaves_8 rfl hl (by decide) rfl (fun ls hl => ?_)
  refine wX10_leaves_L9 C0 a_t a_r1 p_t n f_t_15 r o_t' f_r1' _ ?_ n (0 : Int32) (1 : Int32) (upd o_t 22 (0 : Int32)) f_r1 hF _ _ _ (hP.sub [0, 1, 2] rfl) (hD.sub [0, 1, 2] rfl rfl) hS (lv_sub hl [2, 3, 1, 0] rfl)
  · intro x2_x9 o_t_x9 f_r1_x9 H locs ls hF hP hD hS hl
    refine lv_iload_n hx hb dX10_leaves_152 rfl (lv_at hl 0 rfl) ?_
    cases hF
    exact ret_i C0 hP hD hS [0, 1, 2] rfl rfl rfl dX10_leaves_153 rfl

theorem dAX10_doesSink : ∀ q ∈ ([(0, (.aload_n 1, 1)), (1, (.iload_n 2, 1)), (2, (.invokestatic 248, 3)), (5, (.ifCond .eq 34, 3)), (8, (.aload_n 0, 1)), (9, (.iload_n 2, 1)), (10, (.invokevirtual 267, 3)), (13, (.iconst 3, 1)), (14, (.if_icmp .eq 25, 3)), (17, (.aload_n 0, 1)), (18, (.iload_n 2, 1)), (19, (.invokevirtual 267, 3)), (22, (.iconst 2, 1)), (23, (.if_icmp .ne 12, 3)), (26, (.aload_n 1, 1)), (27, (.bipush 14, 2)), (29, (.iaload, 1)), (30, (.bipush 6, 2)), (32, (.if_icmp .lt 7, 3)), (35, (.iconst 1, 1)), (36, (.goto 4, 3)), (39, (.iconst 0, 1)), (40, (.ireturn, 1))] : List (Nat × (Instr × Nat))), decode cX10_doesSink q.1 = .ok q.2 := by decide +kernel
theorem dX10_doesSink_0 : decode cX10_doesSink 0 = .ok (.aload_n 1, 1) := dAX10_doesSink (0, (.aload_n 1, 1)) (List.mem_of_getElem? (i := 0) rfl)
theorem dX10_doesSink_1 : decode cX10_doesSink 1 = .ok (.iload_n 2, 1) := dAX10_doesSink (1, (.iload_n 2, 1)) (List.mem_of_getElem? (i := 1) rfl)
theorem dX10_doesSink_2 : decode cX10_doesSink 2 = .ok (.invokestatic 248, 3) := dAX10_doesSink (2, (.invokestatic 248, 3)) (List.mem_of_getElem? (i := 2) rfl)
theorem dX10_doesSink_5 : decode cX10_doesSink 5 = .ok (.ifCond .eq 34, 3) := dAX10_doesSink (5, (.ifCond .eq 34, 3)) (List.mem_of_getElem? (i := 3) rfl)
theorem dX10_doesSink_8 : decode cX10_doesSink 8 = .ok (.aload_n 0, 1) := dAX10_doesSink (8, (.aload_n 0, 1)) (List.mem_of_getElem? (i := 4) rfl)
theorem dX10_doesSink_9 : decode cX10_doesSink 9 = .ok (.iload_n 2, 1) := dAX10_doesSink (9, (.iload_n 2, 1)) (List.mem_of_getElem? (i := 5) rfl)
theorem dX10_doesSink_10 : decode cX10_doesSink 10 = .ok (.invokevirtual 267, 3) := dAX10_doesSink (10, (.invokevirtual 267, 3)) (List.mem_of_getElem? (i := 6) rfl)
theorem dX10_doesSink_13 : decode cX10_doesSink 13 = .ok (.iconst 3, 1) := dAX10_doesSink (13, (.iconst 3, 1)) (List.mem_of_getElem? (i := 7) rfl)
theorem dX10_doesSink_14 : decode cX10_doesSink 14 = .ok (.if_icmp .eq 25, 3) := dAX10_doesSink (14, (.if_icmp .eq 25, 3)) (List.mem_of_getElem? (i := 8) rfl)
theorem dX10_doesSink_17 : decode cX10_doesSink 17 = .ok (.aload_n 0, 1) := dAX10_doesSink (17, (.aload_n 0, 1)) (List.mem_of_getElem? (i := 9) rfl)
theorem dX10_doesSink_18 : decode cX10_doesSink 18 = .ok (.iload_n 2, 1) := dAX10_doesSink (18, (.iload_n 2, 1)) (List.mem_of_getElem? (i := 10) rfl)
theorem dX10_doesSink_19 : decode cX10_doesSink 19 = .ok (.invokevirtual 267, 3) := dAX10_doesSink (19, (.invokevirtual 267, 3)) (List.mem_of_getElem? (i := 11) rfl)
theorem dX10_doesSink_22 : decode cX10_doesSink 22 = .ok (.iconst 2, 1) := dAX10_doesSink (22, (.iconst 2, 1)) (List.mem_of_getElem? (i := 12) rfl)
theorem dX10_doesSink_23 : decode cX10_doesSink 23 = .ok (.if_icmp .ne 12, 3) := dAX10_doesSink (23, (.if_icmp .ne 12, 3)) (List.mem_of_getElem? (i := 13) rfl)
theorem dX10_doesSink_26 : decode cX10_doesSink 26 = .ok (.aload_n 1, 1) := dAX10_doesSink (26, (.aload_n 1, 1)) (List.mem_of_getElem? (i := 14) rfl)
theorem dX10_doesSink_27 : decode cX10_doesSink 27 = .ok (.bipush 14, 2) := dAX10_doesSink (27, (.bipush 14, 2)) (List.mem_of_getElem? (i := 15) rfl)
theorem dX10_doesSink_29 : decode cX10_doesSink 29 = .ok (.iaload, 1) := dAX10_doesSink (29, (.iaload, 1)) (List.mem_of_getElem? (i := 16) rfl)
theorem dX10_doesSink_30 : decode cX10_doesSink 30 = .ok (.bipush 6, 2) := dAX10_doesSink (30, (.bipush 6, 2)) (List.mem_of_getElem? (i := 17) rfl)
theorem dX10_doesSink_32 : decode cX10_doesSink 32 = .ok (.if_icmp .lt 7, 3) := dAX10_doesSink (32, (.if_icmp .lt 7, 3)) (List.mem_of_getElem? (i := 18) rfl)
theorem dX10_doesSink_35 : decode cX10_doesSink 35 = .ok (.iconst 1, 1) := dAX10_doesSink (35, (.iconst 1, 1)) (List.mem_of_getElem? (i := 19) rfl)
theorem dX10_doesSink_36 : decode cX10_doesSink 36 = .ok (.goto 4, 3) := dAX10_doesSink (36, (.goto 4, 3)) (List.mem_of_getElem? (i := 20) rfl)
theorem dX10_doesSink_39 : decode cX10_doesSink 39 = .ok (.iconst 0, 1) := dAX10_doesSink (39, (.iconst 0, 1)) (List.mem_of_getElem? (i := 21) rfl)
theorem dX10_doesSink_40 : decode cX10_doesSink 40 = .ok (.ireturn, 1) := dAX10_doesSink (40, (.ireturn, 1)) (List.mem_of_getElem? (i := 22) rfl)
set_option maxRecDepth 20000 in
theorem ggX10_doesSink_X10_isIn : GoodIn wsX10_doesSink wsX10_isIn := goodIn_r _ [4] rfl (by decide +kernel)
set_option maxRecDepth 20000 in
theorem gX10_doesSink_X10_isIn : GoodIn wsX10_doesSink (va_wsS RX10 248 yX10_isIn wsX10_isIn) := goodIn_app (goodIn_of _ (by decide +kernel)) ggX10_doesSink_X10_isIn
set_option maxRecDepth 20000 in
theorem ggX10_doesSink_X10_kindOf : GoodIn wsX10_doesSink wsX10_kindOf := goodIn_r _ [8, 9, 10, 11, 12, 13, 14, 15, 16, 17, 18, 19, 20, 21, 22, 23, 24, 25, 26, 27, 28, 29, 30, 31, 32, 33, 34, 35, 36, 37, 38, 39, 40, 41, 42, 43, 44] rfl (by decide +kernel)
set_option maxRecDepth 20000 in
theorem gX10_doesSink_X10_kindOf : GoodIn wsX10_doesSink (wsV RX10 267 RX10 yX10_kindOf wsX10_kindOf) := goodIn_app (goodIn_of _ (by decide +kernel)) ggX10_doesSink_X10_kindOf
set_option maxHeartbeats 4000000 in
set_option maxRecDepth 100000 in
theorem mX10_doesSink (l : Launch) (g : GG) (a_t : Nat) (a_r1 : Nat) (p_t : Nat → Nat) (n : Nat) (x2 : Int32) (o_t : Nat → Int32) (f_t_15 : Nat → Int32) (f_r1 : Nat → Int32) (r : Int32) (hF : fX10_doesSink n x2 o_t f_t_15 f_r1 = some (r)) : MI l g yX10_doesSink wsX10_doesSink ({ frames := 1, cells := 0, slots := 0, locals := 21 } : Room) [.ref a_t, .ref a_r1, .int x2] [oX10 a_t p_t o_t, aI g (p_t 15) 266 f_t_15, aI g a_r1 17 f_r1] r [oX10 a_t p_t o_t, aI g (p_t 15) 266 f_t_15, aI g a_r1 17 f_r1] := by
  refine MI.of (cc := cX10_doesSink) (maxL := 3) (rt := .boolean) (own := RX10) rfl rfl (by decide) (Nat.le_of_ble_eq_true rfl) ?_
  intro p e s m args below meth c A C0 hP hD hS ls hl
  obtain ⟨hx, hb, hml, hown, hts, hr, hlk, hK, hA, hSW⟩ := id C0
  have hl : lv_has ls 3 [(0, .ref a_t), (1, .ref a_r1), (2, .int x2)] := hl
  rw [fX10_doesSink] at hF
  refine lv_aload_n hx hb dX10_doesSink_0 rfl (lv_at hl 1 rfl) ?_
  refine lv_iload_n hx hb dX10_doesSink_1 rfl (lv_at hl 2 rfl) ?_
  obtain ⟨u_1, hu_2, hF⟩ := ob1_some hF
  refine call_si (wr := [oX10 a_t p_t o_t, aI g (p_t 15) 266 f_t_15]) (As := [.ref a_r1, .int x2]) (rest := []) C0 (mX10_isIn l g a_r1 n x2 f_r1 u_1 hu_2) (va_cwS 2 hts gX10_doesSink_X10_isIn rfl rfl rfl (by decide +kernel) ⟨Nat.le_of_ble_eq_true rfl, Nat.le_of_ble_eq_true rfl⟩) hP hD hS [2] [0, 1] rfl rfl rfl rfl rfl (by decide) hl.1 rfl rfl (Nat.le_of_ble_eq_true rfl) ⟨Nat.zero_le _, Nat.zero_le _⟩ dX10_doesSink_2 ?_
  intro H locs hP hD hS
  refine lv_if_eq (tgt := 39) hx hb dX10_doesSink_5 (by decide) (fun c_3 => ?_) (fun c_3 => ?_)
  · have hF := it_p c_3 hF
    refine lv_iconst (v := (0 : Int32)) hx hb dX10_doesSink_39 (by decide) ?_
    cases hF
    exact ret_z C0 hP hD hS [0, 1, 2] rfl rfl rfl dX10_doesSink_40 rfl rfl
  · have hF := it_n c_3 hF
    refine lv_aload_n hx hb dX10_doesSink_8 rfl (lv_at hl 0 rfl) ?_
    refine lv_iload_n hx hb dX10_doesSink_9 rfl (lv_at hl 2 rfl) ?_
    obtain ⟨u_4, hu_5, hF⟩ := ob1_some hF
    refine call_i (wr := [aI g a_r1 17 f_r1]) (As := [.int x2]) (rest := []) (ci := 10) (q0 := 0) C0 (mX10_kindOf l g a_t p_t n x2 o_t f_t_15 u_4 hu_5) (cwV 1 hts gX10_doesSink_X10_kindOf rfl rfl rfl (by decide +kernel) ⟨Nat.le_of_ble_eq_true rfl, Nat.le_of_ble_eq_true rfl⟩) hP hD hS [0, 1] [2] rfl rfl rfl rfl rfl (by decide) rfl rfl hl.1 rfl rfl (Nat.le_of_ble_eq_true rfl) ⟨Nat.zero_le _, Nat.zero_le _⟩ dX10_doesSink_10 ?_
    intro H locs hP hD hS
    refine lv_iconst (v := (3 : Int32)) hx hb dX10_doesSink_13 (by decide) ?_
    refine lv_icmp_eq (tgt := 39) hx hb dX10_doesSink_14 (by decide) (fun c_6 => ?_) (fun c_6 => ?_)
    · have hF := it_p c_6 hF
      refine lv_iconst (v := (0 : Int32)) hx hb dX10_doesSink_39 (by decide) ?_
      cases hF
      exact ret_z C0 hP hD hS [1, 2, 0] rfl rfl rfl dX10_doesSink_40 rfl rfl
    · have hF := it_n c_6 hF
      refine lv_aload_n hx hb dX10_doesSink_17 rfl (lv_at hl 0 rfl) ?_
      refine lv_iload_n hx hb dX10_doesSink_18 rfl (lv_at hl 2 rfl) ?_
      obtain ⟨u_7, hu_8, hF⟩ := ob1_some hF
      refine call_i (wr := [aI g a_r1 17 f_r1]) (As := [.int x2]) (rest := []) (ci := 10) (q0 := 0) C0 (mX10_kindOf l g a_t p_t n x2 o_t f_t_15 u_7 hu_8) (cwV 1 hts gX10_doesSink_X10_kindOf rfl rfl rfl (by decide +kernel) ⟨Nat.le_of_ble_eq_true rfl, Nat.le_of_ble_eq_true rfl⟩) hP hD hS [1, 2] [0] rfl rfl rfl rfl rfl (by decide) rfl rfl hl.1 rfl rfl (Nat.le_of_ble_eq_true rfl) ⟨Nat.zero_le _, Nat.zero_le _⟩ dX10_doesSink_19 ?_
      intro H locs hP hD hS
      refine lv_iconst (v := (2 : Int32)) hx hb dX10_doesSink_22 (by decide) ?_
      refine lv_icmp_ne (tgt := 35) hx hb dX10_doesSink_23 (by decide) (fun c_9 => ?_) (fun c_9 => ?_)
      · have hF := it_n c_9 hF
        refine lv_iconst (v := (1 : Int32)) hx hb dX10_doesSink_35 (by decide) ?_
        refine lv_goto (tgt := 40) hx hb dX10_doesSink_36 (by decide) ?_
        cases hF
        exact ret_z C0 hP hD hS [1, 2, 0] rfl rfl rfl dX10_doesSink_40 rfl rfl
      · have hF := it_p c_9 hF
        refine lv_aload_n hx hb dX10_doesSink_26 rfl (lv_at hl 1 rfl) ?_
        refine lv_bipush (v := (14 : Int32)) hx hb dX10_doesSink_27 (by decide) ?_
        refine va_iald_k (j := 14) hx hb hK.1 hP 0 0 rfl rfl (by unfold vp_in; decide) rfl dX10_doesSink_29 ?_
        refine lv_bipush (v := (6 : Int32)) hx hb dX10_doesSink_30 (by decide) ?_
        refine lv_icmp_lt (tgt := 39) hx hb dX10_doesSink_32 (by decide) (fun c_10 => ?_) (fun c_10 => ?_)
        · have hF := it_p c_10 hF
          refine lv_iconst (v := (0 : Int32)) hx hb dX10_doesSink_39 (by decide) ?_
          cases hF
          exact ret_z C0 hP hD hS [1, 2, 0] rfl rfl rfl dX10_doesSink_40 rfl rfl
        · have hF := it_n c_10 hF
          refine lv_iconst (v := (1 : Int32)) hx hb dX10_doesSink_35 (by decide) ?_
          refine lv_goto (tgt := 40) hx hb dX10_doesSink_36 (by decide) ?_
          cases hF
          exact ret_z C0 hP hD hS [1, 2, 0] rfl rfl rfl dX10_doesSink_40 rfl rfl

theorem dAX10_hourOf : ∀ q ∈ ([(0, (.iconst 0, 1)), (1, (.istore_n 2, 1)), (2, (.iload_n 2, 1)), (3, (.aload_n 0, 1)), (4, (.getfield 20, 3)), (7, (.iconst 3, 1)), (8, (.iaload, 1)), (9, (.if_icmp .ge 33, 3)), (12, (.aload_n 1, 1)), (13, (.iload_n 2, 1)), (14, (.dup2, 1)), (15, (.iaload, 1)), (16, (.aload_n 0, 1)), (17, (.aload_n 1, 1)), (18, (.iload_n 2, 1)), (19, (.invokevirtual 274, 3)), (22, (.ifCond .eq 11, 3)), (25, (.aload_n 0, 1)), (26, (.iload_n 2, 1)), (27, (.invokevirtual 277, 3)), (30, (.goto 4, 3)), (33, (.iconst 0, 1)), (34, (.isub, 1)), (35, (.iastore, 1)), (36, (.iinc 2 1, 3)), (39, (.goto (-37), 3)), (42, (.aload_n 1, 1)), (43, (.bipush 14, 2)), (45, (.dup2, 1)), (46, (.iaload, 1)), (47, (.iconst 1, 1)), (48, (.iadd, 1)), (49, (.iastore, 1)), (50, (.aload_n 0, 1)), (51, (.aload_n 1, 1)), (52, (.invokevirtual 280, 3)), (55, (.ireturn, 1))] : List (Nat × (Instr × Nat))), decode cX10_hourOf q.1 = .ok q.2 := by decide +kernel
theorem dX10_hourOf_0 : decode cX10_hourOf 0 = .ok (.iconst 0, 1) := dAX10_hourOf (0, (.iconst 0, 1)) (List.mem_of_getElem? (i := 0) rfl)
theorem dX10_hourOf_1 : decode cX10_hourOf 1 = .ok (.istore_n 2, 1) := dAX10_hourOf (1, (.istore_n 2, 1)) (List.mem_of_getElem? (i := 1) rfl)
theorem dX10_hourOf_2 : decode cX10_hourOf 2 = .ok (.iload_n 2, 1) := dAX10_hourOf (2, (.iload_n 2, 1)) (List.mem_of_getElem? (i := 2) rfl)
theorem dX10_hourOf_3 : decode cX10_hourOf 3 = .ok (.aload_n 0, 1) := dAX10_hourOf (3, (.aload_n 0, 1)) (List.mem_of_getElem? (i := 3) rfl)
theorem dX10_hourOf_4 : decode cX10_hourOf 4 = .ok (.getfield 20, 3) := dAX10_hourOf (4, (.getfield 20, 3)) (List.mem_of_getElem? (i := 4) rfl)
theorem dX10_hourOf_7 : decode cX10_hourOf 7 = .ok (.iconst 3, 1) := dAX10_hourOf (7, (.iconst 3, 1)) (List.mem_of_getElem? (i := 5) rfl)
theorem dX10_hourOf_8 : decode cX10_hourOf 8 = .ok (.iaload, 1) := dAX10_hourOf (8, (.iaload, 1)) (List.mem_of_getElem? (i := 6) rfl)
theorem dX10_hourOf_9 : decode cX10_hourOf 9 = .ok (.if_icmp .ge 33, 3) := dAX10_hourOf (9, (.if_icmp .ge 33, 3)) (List.mem_of_getElem? (i := 7) rfl)
theorem dX10_hourOf_12 : decode cX10_hourOf 12 = .ok (.aload_n 1, 1) := dAX10_hourOf (12, (.aload_n 1, 1)) (List.mem_of_getElem? (i := 8) rfl)
theorem dX10_hourOf_13 : decode cX10_hourOf 13 = .ok (.iload_n 2, 1) := dAX10_hourOf (13, (.iload_n 2, 1)) (List.mem_of_getElem? (i := 9) rfl)
theorem dX10_hourOf_14 : decode cX10_hourOf 14 = .ok (.dup2, 1) := dAX10_hourOf (14, (.dup2, 1)) (List.mem_of_getElem? (i := 10) rfl)
theorem dX10_hourOf_15 : decode cX10_hourOf 15 = .ok (.iaload, 1) := dAX10_hourOf (15, (.iaload, 1)) (List.mem_of_getElem? (i := 11) rfl)
theorem dX10_hourOf_16 : decode cX10_hourOf 16 = .ok (.aload_n 0, 1) := dAX10_hourOf (16, (.aload_n 0, 1)) (List.mem_of_getElem? (i := 12) rfl)
theorem dX10_hourOf_17 : decode cX10_hourOf 17 = .ok (.aload_n 1, 1) := dAX10_hourOf (17, (.aload_n 1, 1)) (List.mem_of_getElem? (i := 13) rfl)
theorem dX10_hourOf_18 : decode cX10_hourOf 18 = .ok (.iload_n 2, 1) := dAX10_hourOf (18, (.iload_n 2, 1)) (List.mem_of_getElem? (i := 14) rfl)
theorem dX10_hourOf_19 : decode cX10_hourOf 19 = .ok (.invokevirtual 274, 3) := dAX10_hourOf (19, (.invokevirtual 274, 3)) (List.mem_of_getElem? (i := 15) rfl)
theorem dX10_hourOf_22 : decode cX10_hourOf 22 = .ok (.ifCond .eq 11, 3) := dAX10_hourOf (22, (.ifCond .eq 11, 3)) (List.mem_of_getElem? (i := 16) rfl)
theorem dX10_hourOf_25 : decode cX10_hourOf 25 = .ok (.aload_n 0, 1) := dAX10_hourOf (25, (.aload_n 0, 1)) (List.mem_of_getElem? (i := 17) rfl)
theorem dX10_hourOf_26 : decode cX10_hourOf 26 = .ok (.iload_n 2, 1) := dAX10_hourOf (26, (.iload_n 2, 1)) (List.mem_of_getElem? (i := 18) rfl)
theorem dX10_hourOf_27 : decode cX10_hourOf 27 = .ok (.invokevirtual 277, 3) := dAX10_hourOf (27, (.invokevirtual 277, 3)) (List.mem_of_getElem? (i := 19) rfl)
theorem dX10_hourOf_30 : decode cX10_hourOf 30 = .ok (.goto 4, 3) := dAX10_hourOf (30, (.goto 4, 3)) (List.mem_of_getElem? (i := 20) rfl)
theorem dX10_hourOf_33 : decode cX10_hourOf 33 = .ok (.iconst 0, 1) := dAX10_hourOf (33, (.iconst 0, 1)) (List.mem_of_getElem? (i := 21) rfl)
theorem dX10_hourOf_34 : decode cX10_hourOf 34 = .ok (.isub, 1) := dAX10_hourOf (34, (.isub, 1)) (List.mem_of_getElem? (i := 22) rfl)
theorem dX10_hourOf_35 : decode cX10_hourOf 35 = .ok (.iastore, 1) := dAX10_hourOf (35, (.iastore, 1)) (List.mem_of_getElem? (i := 23) rfl)
theorem dX10_hourOf_36 : decode cX10_hourOf 36 = .ok (.iinc 2 1, 3) := dAX10_hourOf (36, (.iinc 2 1, 3)) (List.mem_of_getElem? (i := 24) rfl)
theorem dX10_hourOf_39 : decode cX10_hourOf 39 = .ok (.goto (-37), 3) := dAX10_hourOf (39, (.goto (-37), 3)) (List.mem_of_getElem? (i := 25) rfl)
theorem dX10_hourOf_42 : decode cX10_hourOf 42 = .ok (.aload_n 1, 1) := dAX10_hourOf (42, (.aload_n 1, 1)) (List.mem_of_getElem? (i := 26) rfl)
theorem dX10_hourOf_43 : decode cX10_hourOf 43 = .ok (.bipush 14, 2) := dAX10_hourOf (43, (.bipush 14, 2)) (List.mem_of_getElem? (i := 27) rfl)
theorem dX10_hourOf_45 : decode cX10_hourOf 45 = .ok (.dup2, 1) := dAX10_hourOf (45, (.dup2, 1)) (List.mem_of_getElem? (i := 28) rfl)
theorem dX10_hourOf_46 : decode cX10_hourOf 46 = .ok (.iaload, 1) := dAX10_hourOf (46, (.iaload, 1)) (List.mem_of_getElem? (i := 29) rfl)
theorem dX10_hourOf_47 : decode cX10_hourOf 47 = .ok (.iconst 1, 1) := dAX10_hourOf (47, (.iconst 1, 1)) (List.mem_of_getElem? (i := 30) rfl)
theorem dX10_hourOf_48 : decode cX10_hourOf 48 = .ok (.iadd, 1) := dAX10_hourOf (48, (.iadd, 1)) (List.mem_of_getElem? (i := 31) rfl)
theorem dX10_hourOf_49 : decode cX10_hourOf 49 = .ok (.iastore, 1) := dAX10_hourOf (49, (.iastore, 1)) (List.mem_of_getElem? (i := 32) rfl)
theorem dX10_hourOf_50 : decode cX10_hourOf 50 = .ok (.aload_n 0, 1) := dAX10_hourOf (50, (.aload_n 0, 1)) (List.mem_of_getElem? (i := 33) rfl)
theorem dX10_hourOf_51 : decode cX10_hourOf 51 = .ok (.aload_n 1, 1) := dAX10_hourOf (51, (.aload_n 1, 1)) (List.mem_of_getElem? (i := 34) rfl)
theorem dX10_hourOf_52 : decode cX10_hourOf 52 = .ok (.invokevirtual 280, 3) := dAX10_hourOf (52, (.invokevirtual 280, 3)) (List.mem_of_getElem? (i := 35) rfl)
theorem dX10_hourOf_55 : decode cX10_hourOf 55 = .ok (.ireturn, 1) := dAX10_hourOf (55, (.ireturn, 1)) (List.mem_of_getElem? (i := 36) rfl)
set_option maxRecDepth 20000 in
theorem ggX10_hourOf_X10_doesSink : GoodIn wsX10_hourOf wsX10_doesSink := goodIn_r _ [6, 7, 8, 5, 9, 10, 11, 12, 13, 1, 38, 39, 40, 41, 42, 43, 44, 45, 46, 47, 48, 49, 50, 51, 52, 53, 54, 55, 56, 57, 58, 59, 60, 61, 62, 63, 64, 65, 66, 67, 68, 69, 70, 71, 72] rfl (by decide +kernel)
set_option maxRecDepth 20000 in
theorem gX10_hourOf_X10_doesSink : GoodIn wsX10_hourOf (wsV RX10 274 RX10 yX10_doesSink wsX10_doesSink) := goodIn_app (goodIn_of _ (by decide +kernel)) ggX10_hourOf_X10_doesSink
set_option maxRecDepth 20000 in
theorem ggX10_hourOf_X10_sinksOf : GoodIn wsX10_hourOf wsX10_sinksOf := goodIn_r _ [17, 1, 38, 39, 40, 41, 42, 43, 44, 45, 46, 47, 48, 49, 50, 51, 52, 53, 54, 55, 56, 57, 58, 59, 60, 61, 62, 63, 64, 65, 66, 67, 68, 69, 70, 71, 72] rfl (by decide +kernel)
set_option maxRecDepth 20000 in
theorem gX10_hourOf_X10_sinksOf : GoodIn wsX10_hourOf (wsV RX10 277 RX10 yX10_sinksOf wsX10_sinksOf) := goodIn_app (goodIn_of _ (by decide +kernel)) ggX10_hourOf_X10_sinksOf
set_option maxRecDepth 20000 in
theorem ggX10_hourOf_X10_leaves : GoodIn wsX10_hourOf wsX10_leaves := goodIn_r _ [21, 22, 1, 23, 24, 25, 5, 26, 7, 8, 9, 27, 28, 29, 30, 10, 11, 12, 13, 31, 32, 33, 34, 35, 36, 37, 38, 39, 40, 41, 42, 43, 44, 45, 46, 47, 48, 49, 50, 51, 52, 53, 54, 55, 56, 57, 58, 59, 60, 61, 62, 63, 64, 65, 66, 67, 68, 69, 70, 71, 72] rfl (by decide +kernel)
set_option maxRecDepth 20000 in
theorem gX10_hourOf_X10_leaves : GoodIn wsX10_hourOf (wsV RX10 280 RX10 yX10_leaves wsX10_leaves) := goodIn_app (goodIn_of _ (by decide +kernel)) ggX10_hourOf_X10_leaves
theorem kX10_hourOf_20 : Cond.fieldLink RX10 20 "EveningVowModel" "\x72" "[I" ∈ wsX10_hourOf := List.mem_of_getElem? (i := 1) rfl
theorem iX10_hourOf_X10 : ∀ w ∈ u_ws RX10 TX10 35, w ∈ wsX10_hourOf := fun w h => (List.mem_cons_of_mem _ (List.mem_append_right _ h))
set_option maxHeartbeats 4000000 in
set_option maxRecDepth 100000 in
theorem wX10_hourOf_L2 {p : Program} {l : Launch} {e : Env} {s : State} {m : MethodId} {args : Array Value} {below : List Frame} {meth : Method} {c : Code} {g : GG} {A : Nat → Prop} (C0 : Cx p s m args meth c cX10_hourOf 3 (some .int) RX10 wsX10_hourOf g A) (a_t : Nat) (a_r1 : Nat) (p_t : Nat → Nat) (n : Nat) (o_t : Nat → Int32) (f_t_15 : Nat → Int32)  (r : Int32) (o_t' : Nat → Int32) (f_r1' : Nat → Int32) (K : (Nat → Int32) → Option (Int32 × (Nat → Int32) × (Nat → Int32))) (hKx : ∀ (f_r1 : Nat → Int32) (H : Heap) (locs : List Loc) (ls : Array Slot), K f_r1 = some (r, o_t', f_r1') → va_P g.1 vwCl [oX10 a_t p_t o_t, aI g (p_t 15) 266 f_t_15, aI g a_r1 17 f_r1] H → va_D A [oX10 a_t p_t o_t, aI g (p_t 15) 266 f_t_15, aI g a_r1 17 f_r1] → va_S A s.heap H locs → lv_has ls 3 [(0, .ref a_t), (1, .ref a_r1)] → W p l e ({ frames := 3, cells := 0, slots := 0, locals := 71 } : Room) s m args below meth c H locs 0 0 (MQ below (EndI g r [oX10 a_t p_t o_t', aI g (p_t 15) 266 f_t_15, aI g a_r1 17 f_r1'] A) args s 0 0 A) (F0 m 42 ls [])) : ∀ (k : Nat) (x2 : Int32) (f_r1 : Nat → Int32), fX10_hourOf_L2 n o_t f_t_15 K k x2 f_r1 = some (r, o_t', f_r1') → ∀ (H : Heap) (locs : List Loc) (ls : Array Slot), va_P g.1 vwCl [oX10 a_t p_t o_t, aI g (p_t 15) 266 f_t_15, aI g a_r1 17 f_r1] H → va_D A [oX10 a_t p_t o_t, aI g (p_t 15) 266 f_t_15, aI g a_r1 17 f_r1] → va_S A s.heap H locs → lv_has ls 3 [(0, .ref a_t), (1, .ref a_r1), (2, .int x2)] → W p l e ({ frames := 3, cells := 0, slots := 0, locals := 71 } : Room) s m args below meth c H locs 0 0 (MQ below (EndI g r [oX10 a_t p_t o_t', aI g (p_t 15) 266 f_t_15, aI g a_r1 17 f_r1'] A) args s 0 0 A) (F0 m 2 ls []) := by
  obtain ⟨hx, hb, hml, hown, hts, hr, hlk, hK, hA, hSW⟩ := id C0
  intro k
  induction k with
  | zero =>
    intro x2 f_r1 hF
    exact absurd hF (by simp [fX10_hourOf_L2])
  | succ k ih =>
    intro x2 f_r1 hF H locs ls hP hD hS hl
    rw [fX10_hourOf_L2] at hF
    refine lv_iload_n hx hb dX10_hourOf_2 rfl (lv_at hl 2 rfl) ?_
    refine lv_aload_n hx hb dX10_hourOf_3 rfl (lv_at hl 0 rfl) ?_
    refine va_get (D := g.1) (ci := 10) (v := .ref (p_t 15)) (C := RX10) (T := TX10) (N := 35) hx hb hts iX10_hourOf_X10 hown hK.1 hP 0 rfl rfl 15 (by decide) (hts _ kX10_hourOf_20) (fun _ h9 => h9) rfl dX10_hourOf_4 ?_
    refine lv_iconst (v := (3 : Int32)) hx hb dX10_hourOf_7 (by decide) ?_
    refine va_iald_k (j := 3) hx hb hK.1 hP 1 0 rfl rfl (by unfold vp_in; decide) rfl dX10_hourOf_8 ?_
    refine lv_icmp_ge (tgt := 42) hx hb dX10_hourOf_9 (by decide) (fun c_1 => ?_) (fun c_1 => ?_)
    · have hF := it_p c_1 hF
      exact hKx f_r1 _ _ _ hF (hP.sub [0, 1, 2] rfl) (hD.sub [0, 1, 2] rfl rfl) hS (lv_sub hl [0, 1] rfl)
    · have hF := it_n c_1 hF
      refine lv_aload_n hx hb dX10_hourOf_12 rfl (lv_at hl 1 rfl) ?_
      refine lv_iload_n hx hb dX10_hourOf_13 rfl (lv_at hl 2 rfl) ?_
      refine lv_dup2_11 hx hb dX10_hourOf_14 rfl rfl ?_
      obtain ⟨h_2, hF⟩ := it_ck hF
      refine va_iald hx hb hK.1 hP 2 0 rfl rfl h_2 dX10_hourOf_15 ?_
      refine lv_aload_n hx hb dX10_hourOf_16 rfl (lv_at hl 0 rfl) ?_
      refine lv_aload_n hx hb dX10_hourOf_17 rfl (lv_at hl 1 rfl) ?_
      refine lv_iload_n hx hb dX10_hourOf_18 rfl (lv_at hl 2 rfl) ?_
      obtain ⟨u_3, hu_4, hF⟩ := ob1_some hF
      refine call_i (wr := []) (As := [.ref a_r1, .int x2]) (rest := [.int (f_r1 (x2).toNatClampNeg), .int x2, .ref a_r1]) (ci := 10) (q0 := 0) C0 (mX10_doesSink l g a_t a_r1 p_t n x2 o_t f_t_15 f_r1 u_3 hu_4) (cwV 2 hts gX10_hourOf_X10_doesSink rfl rfl rfl (by decide +kernel) ⟨Nat.le_of_ble_eq_true rfl, Nat.le_of_ble_eq_true rfl⟩) hP hD hS [0, 1, 2] [] rfl rfl rfl rfl rfl (by decide) rfl rfl hl.1 rfl rfl (Nat.le_of_ble_eq_true rfl) ⟨Nat.zero_le _, Nat.zero_le _⟩ dX10_hourOf_19 ?_
      intro H locs hP hD hS
      refine lv_if_eq (tgt := 33) hx hb dX10_hourOf_22 (by decide) (fun c_5 => ?_) (fun c_5 => ?_)
      · have hF := it_p c_5 hF
        refine lv_iconst (v := (0 : Int32)) hx hb dX10_hourOf_33 (by decide) ?_
        refine lv_isub hx hb dX10_hourOf_34 ?_
        obtain ⟨h_6, hF⟩ := it_ck hF
        refine va_iast hx hb hK.1 hP hD hS 2 0 rfl rfl h_6 dX10_hourOf_35 (fun H locs hP hD hS => ?_)
        have hP : va_P g.1 vwCl [oX10 a_t p_t o_t, aI g (p_t 15) 266 f_t_15, aI g a_r1 17 (upd f_r1 (x2).toNatClampNeg ((f_r1 (x2).toNatClampNeg) - (0 : Int32)))] H := hP
        have hD : va_D A [oX10 a_t p_t o_t, aI g (p_t 15) 266 f_t_15, aI g a_r1 17 (upd f_r1 (x2).toNatClampNeg ((f_r1 (x2).toNatClampNeg) - (0 : Int32)))] := hD
        refine lv_iinc (v := (x2 + (1 : Int32))) (lv' := [(2, .int (x2 + (1 : Int32))), (0, .ref a_t), (1, .ref a_r1)]) hx hb dX10_hourOf_36 hl (k := 2) rfl rfl (by decide) rfl (fun ls hl => ?_)
        refine lv_goto (tgt := 2) hx hb dX10_hourOf_39 (by decide) ?_
        exact ih (x2 + (1 : Int32)) (upd f_r1 (x2).toNatClampNeg ((f_r1 (x2).toNatClampNeg) - (0 : Int32))) hF _ _ _ (hP.sub [0, 1, 2] rfl) (hD.sub [0, 1, 2] rfl rfl) hS (lv_sub hl [1, 2, 0] rfl)
      · have hF := it_n c_5 hF
        refine lv_aload_n hx hb dX10_hourOf_25 rfl (lv_at hl 0 rfl) ?_
        refine lv_iload_n hx hb dX10_hourOf_26 rfl (lv_at hl 2 rfl) ?_
        obtain ⟨u_7, hu_8, hF⟩ := ob1_some hF
        refine call_i (wr := [aI g a_r1 17 f_r1]) (As := [.int x2]) (rest := [.int (f_r1 (x2).toNatClampNeg), .int x2, .ref a_r1]) (ci := 10) (q0 := 0) C0 (mX10_sinksOf l g a_t p_t n x2 o_t f_t_15 u_7 hu_8) (cwV 1 hts gX10_hourOf_X10_sinksOf rfl rfl rfl (by decide +kernel) ⟨Nat.le_of_ble_eq_true rfl, Nat.le_of_ble_eq_true rfl⟩) hP hD hS [0, 1] [2] rfl rfl rfl rfl rfl (by decide) rfl rfl hl.1 rfl rfl (Nat.le_of_ble_eq_true rfl) ⟨Nat.zero_le _, Nat.zero_le _⟩ dX10_hourOf_27 ?_
        intro H locs hP hD hS
        refine lv_goto (tgt := 34) hx hb dX10_hourOf_30 (by decide) ?_
        refine lv_isub hx hb dX10_hourOf_34 ?_
        obtain ⟨h_9, hF⟩ := it_ck hF
        refine va_iast hx hb hK.1 hP hD hS 0 0 rfl rfl h_9 dX10_hourOf_35 (fun H locs hP hD hS => ?_)
        have hP : va_P g.1 vwCl [aI g a_r1 17 (upd f_r1 (x2).toNatClampNeg ((f_r1 (x2).toNatClampNeg) - u_7)), oX10 a_t p_t o_t, aI g (p_t 15) 266 f_t_15] H := hP
        have hD : va_D A [aI g a_r1 17 (upd f_r1 (x2).toNatClampNeg ((f_r1 (x2).toNatClampNeg) - u_7)), oX10 a_t p_t o_t, aI g (p_t 15) 266 f_t_15] := hD
        refine lv_iinc (v := (x2 + (1 : Int32))) (lv' := [(2, .int (x2 + (1 : Int32))), (0, .ref a_t), (1, .ref a_r1)]) hx hb dX10_hourOf_36 hl (k := 2) rfl rfl (by decide) rfl (fun ls hl => ?_)
        refine lv_goto (tgt := 2) hx hb dX10_hourOf_39 (by decide) ?_
        exact ih (x2 + (1 : Int32)) (upd f_r1 (x2).toNatClampNeg ((f_r1 (x2).toNatClampNeg) - u_7)) hF _ _ _ (hP.sub [1, 2, 0] rfl) (hD.sub [1, 2, 0] rfl rfl) hS (lv_sub hl [1, 2, 0] rfl)
set_option maxHeartbeats 4000000 in
set_option maxRecDepth 100000 in
theorem mX10_hourOf (l : Launch) (g : GG) (a_t : Nat) (a_r1 : Nat) (p_t : Nat → Nat) (n : Nat) (o_t : Nat → Int32) (f_t_15 : Nat → Int32) (f_r1 : Nat → Int32) (r : Int32) (o_t' : Nat → Int32) (f_r1' : Nat → Int32) (hF : fX10_hourOf n o_t f_t_15 f_r1 = some (r, o_t', f_r1')) : MI l g yX10_hourOf wsX10_hourOf ({ frames := 3, cells := 0, slots := 0, locals := 71 } : Room) [.ref a_t, .ref a_r1] [oX10 a_t p_t o_t, aI g (p_t 15) 266 f_t_15, aI g a_r1 17 f_r1] r [oX10 a_t p_t o_t', aI g (p_t 15) 266 f_t_15, aI g a_r1 17 f_r1'] := by
  refine MI.of (cc := cX10_hourOf) (maxL := 3) (rt := .int) (own := RX10) rfl rfl (by decide) (Nat.le_of_ble_eq_true rfl) ?_
  intro p e s m args below meth c A C0 hP hD hS ls hl
  obtain ⟨hx, hb, hml, hown, hts, hr, hlk, hK, hA, hSW⟩ := id C0
  have hl : lv_has ls 3 [(0, .ref a_t), (1, .ref a_r1)] := hl
  rw [fX10_hourOf] at hF
  refine lv_iconst (v := (0 : Int32)) hx hb dX10_hourOf_0 (by decide) ?_
  refine lv_istore_n (lv' := [(2, .int (0 : Int32)), (0, .ref a_t), (1, .ref a_r1)]) hx hb dX10_hourOf_1 rfl hl (by decide) rfl (fun ls hl => ?_)
  refine wX10_hourOf_L2 C0 a_t a_r1 p_t n o_t f_t_15 r o_t' f_r1' _ ?_ n (0 : Int32) f_r1 hF _ _ _ (hP.sub [0, 1, 2] rfl) (hD.sub [0, 1, 2] rfl rfl) hS (lv_sub hl [1, 2, 0] rfl)
  · intro f_r1_x2 H locs ls hF hP hD hS hl
    refine lv_aload_n hx hb dX10_hourOf_42 rfl (lv_at hl 1 rfl) ?_
    refine lv_bipush (v := (14 : Int32)) hx hb dX10_hourOf_43 (by decide) ?_
    refine lv_dup2_11 hx hb dX10_hourOf_45 rfl rfl ?_
    refine va_iald_k (j := 14) hx hb hK.1 hP 2 0 rfl rfl (by unfold vp_in; decide) rfl dX10_hourOf_46 ?_
    refine lv_iconst (v := (1 : Int32)) hx hb dX10_hourOf_47 (by decide) ?_
    refine lv_iadd hx hb dX10_hourOf_48 ?_
    refine va_iast hx hb hK.1 hP hD hS 2 0 rfl rfl (by unfold vp_in; decide) dX10_hourOf_49 (fun H locs hP hD hS => ?_)
    have hP : va_P g.1 vwCl [oX10 a_t p_t o_t, aI g (p_t 15) 266 f_t_15, aI g a_r1 17 (upd f_r1_x2 14 ((f_r1_x2 14) + (1 : Int32)))] H := hP
    have hD : va_D A [oX10 a_t p_t o_t, aI g (p_t 15) 266 f_t_15, aI g a_r1 17 (upd f_r1_x2 14 ((f_r1_x2 14) + (1 : Int32)))] := hD
    refine lv_aload_n hx hb dX10_hourOf_50 rfl (lv_at hl 0 rfl) ?_
    refine lv_aload_n hx hb dX10_hourOf_51 rfl (lv_at hl 1 rfl) ?_
    obtain ⟨u_10, u_11, u_12, hu_13, hF⟩ := ob3_some hF
    refine call_i (wr := []) (As := [.ref a_r1]) (rest := []) (ci := 10) (q0 := 0) C0 (mX10_leaves l g a_t a_r1 p_t n o_t f_t_15 (upd f_r1_x2 14 ((f_r1_x2 14) + (1 : Int32))) u_10 u_11 u_12 hu_13) (cwV 1 hts gX10_hourOf_X10_leaves rfl rfl rfl (by decide +kernel) ⟨Nat.le_of_ble_eq_true rfl, Nat.le_of_ble_eq_true rfl⟩) hP hD hS [0, 1, 2] [] rfl rfl rfl rfl rfl (by decide) rfl rfl hl.1 rfl rfl (Nat.le_of_ble_eq_true rfl) ⟨Nat.zero_le _, Nat.zero_le _⟩ dX10_hourOf_52 ?_
    intro H locs hP hD hS
    cases hF
    exact ret_i C0 hP hD hS [0, 1, 2] rfl rfl rfl dX10_hourOf_55 rfl

theorem dAX10_hourDrawn : ∀ q ∈ ([(0, (.iconst 0, 1)), (1, (.istore_n 2, 1)), (2, (.iload_n 2, 1)), (3, (.aload_n 0, 1)), (4, (.getfield 20, 3)), (7, (.iconst 3, 1)), (8, (.iaload, 1)), (9, (.if_icmp .ge 59, 3)), (12, (.aload_n 0, 1)), (13, (.aload_n 1, 1)), (14, (.iload_n 2, 1)), (15, (.invokevirtual 274, 3)), (18, (.ifCond .ne 6, 3)), (21, (.goto 41, 3)), (24, (.aload_n 0, 1)), (25, (.bipush 75, 2)), (27, (.aload_n 0, 1)), (28, (.getfield 283, 3)), (31, (.imul, 1)), (32, (.bipush 74, 2)), (34, (.iadd, 1)), (35, (.ldc_w 286, 3)), (38, (.irem, 1)), (39, (.putfield 283, 3)), (42, (.aload_n 1, 1)), (43, (.iload_n 2, 1)), (44, (.dup2, 1)), (45, (.iaload, 1)), (46, (.aload_n 0, 1)), (47, (.getfield 283, 3)), (50, (.iconst 2, 1)), (51, (.aload_n 0, 1)), (52, (.iload_n 2, 1)), (53, (.invokevirtual 277, 3)), (56, (.imul, 1)), (57, (.iconst 1, 1)), (58, (.iadd, 1)), (59, (.irem, 1)), (60, (.isub, 1)), (61, (.iastore, 1)), (62, (.iinc 2 1, 3)), (65, (.goto (-63), 3)), (68, (.aload_n 1, 1)), (69, (.bipush 14, 2)), (71, (.dup2, 1)), (72, (.iaload, 1)), (73, (.iconst 1, 1)), (74, (.iadd, 1)), (75, (.iastore, 1)), (76, (.aload_n 0, 1)), (77, (.aload_n 1, 1)), (78, (.invokevirtual 280, 3)), (81, (.ireturn, 1))] : List (Nat × (Instr × Nat))), decode cX10_hourDrawn q.1 = .ok q.2 := by decide +kernel
theorem dX10_hourDrawn_0 : decode cX10_hourDrawn 0 = .ok (.iconst 0, 1) := dAX10_hourDrawn (0, (.iconst 0, 1)) (List.mem_of_getElem? (i := 0) rfl)
theorem dX10_hourDrawn_1 : decode cX10_hourDrawn 1 = .ok (.istore_n 2, 1) := dAX10_hourDrawn (1, (.istore_n 2, 1)) (List.mem_of_getElem? (i := 1) rfl)
theorem dX10_hourDrawn_2 : decode cX10_hourDrawn 2 = .ok (.iload_n 2, 1) := dAX10_hourDrawn (2, (.iload_n 2, 1)) (List.mem_of_getElem? (i := 2) rfl)
theorem dX10_hourDrawn_3 : decode cX10_hourDrawn 3 = .ok (.aload_n 0, 1) := dAX10_hourDrawn (3, (.aload_n 0, 1)) (List.mem_of_getElem? (i := 3) rfl)
theorem dX10_hourDrawn_4 : decode cX10_hourDrawn 4 = .ok (.getfield 20, 3) := dAX10_hourDrawn (4, (.getfield 20, 3)) (List.mem_of_getElem? (i := 4) rfl)
theorem dX10_hourDrawn_7 : decode cX10_hourDrawn 7 = .ok (.iconst 3, 1) := dAX10_hourDrawn (7, (.iconst 3, 1)) (List.mem_of_getElem? (i := 5) rfl)
theorem dX10_hourDrawn_8 : decode cX10_hourDrawn 8 = .ok (.iaload, 1) := dAX10_hourDrawn (8, (.iaload, 1)) (List.mem_of_getElem? (i := 6) rfl)
theorem dX10_hourDrawn_9 : decode cX10_hourDrawn 9 = .ok (.if_icmp .ge 59, 3) := dAX10_hourDrawn (9, (.if_icmp .ge 59, 3)) (List.mem_of_getElem? (i := 7) rfl)
theorem dX10_hourDrawn_12 : decode cX10_hourDrawn 12 = .ok (.aload_n 0, 1) := dAX10_hourDrawn (12, (.aload_n 0, 1)) (List.mem_of_getElem? (i := 8) rfl)
theorem dX10_hourDrawn_13 : decode cX10_hourDrawn 13 = .ok (.aload_n 1, 1) := dAX10_hourDrawn (13, (.aload_n 1, 1)) (List.mem_of_getElem? (i := 9) rfl)
theorem dX10_hourDrawn_14 : decode cX10_hourDrawn 14 = .ok (.iload_n 2, 1) := dAX10_hourDrawn (14, (.iload_n 2, 1)) (List.mem_of_getElem? (i := 10) rfl)
theorem dX10_hourDrawn_15 : decode cX10_hourDrawn 15 = .ok (.invokevirtual 274, 3) := dAX10_hourDrawn (15, (.invokevirtual 274, 3)) (List.mem_of_getElem? (i := 11) rfl)
theorem dX10_hourDrawn_18 : decode cX10_hourDrawn 18 = .ok (.ifCond .ne 6, 3) := dAX10_hourDrawn (18, (.ifCond .ne 6, 3)) (List.mem_of_getElem? (i := 12) rfl)
theorem dX10_hourDrawn_21 : decode cX10_hourDrawn 21 = .ok (.goto 41, 3) := dAX10_hourDrawn (21, (.goto 41, 3)) (List.mem_of_getElem? (i := 13) rfl)
theorem dX10_hourDrawn_24 : decode cX10_hourDrawn 24 = .ok (.aload_n 0, 1) := dAX10_hourDrawn (24, (.aload_n 0, 1)) (List.mem_of_getElem? (i := 14) rfl)
theorem dX10_hourDrawn_25 : decode cX10_hourDrawn 25 = .ok (.bipush 75, 2) := dAX10_hourDrawn (25, (.bipush 75, 2)) (List.mem_of_getElem? (i := 15) rfl)
theorem dX10_hourDrawn_27 : decode cX10_hourDrawn 27 = .ok (.aload_n 0, 1) := dAX10_hourDrawn (27, (.aload_n 0, 1)) (List.mem_of_getElem? (i := 16) rfl)
theorem dX10_hourDrawn_28 : decode cX10_hourDrawn 28 = .ok (.getfield 283, 3) := dAX10_hourDrawn (28, (.getfield 283, 3)) (List.mem_of_getElem? (i := 17) rfl)
theorem dX10_hourDrawn_31 : decode cX10_hourDrawn 31 = .ok (.imul, 1) := dAX10_hourDrawn (31, (.imul, 1)) (List.mem_of_getElem? (i := 18) rfl)
theorem dX10_hourDrawn_32 : decode cX10_hourDrawn 32 = .ok (.bipush 74, 2) := dAX10_hourDrawn (32, (.bipush 74, 2)) (List.mem_of_getElem? (i := 19) rfl)
theorem dX10_hourDrawn_34 : decode cX10_hourDrawn 34 = .ok (.iadd, 1) := dAX10_hourDrawn (34, (.iadd, 1)) (List.mem_of_getElem? (i := 20) rfl)
theorem dX10_hourDrawn_35 : decode cX10_hourDrawn 35 = .ok (.ldc_w 286, 3) := dAX10_hourDrawn (35, (.ldc_w 286, 3)) (List.mem_of_getElem? (i := 21) rfl)
theorem dX10_hourDrawn_38 : decode cX10_hourDrawn 38 = .ok (.irem, 1) := dAX10_hourDrawn (38, (.irem, 1)) (List.mem_of_getElem? (i := 22) rfl)
theorem dX10_hourDrawn_39 : decode cX10_hourDrawn 39 = .ok (.putfield 283, 3) := dAX10_hourDrawn (39, (.putfield 283, 3)) (List.mem_of_getElem? (i := 23) rfl)
theorem dX10_hourDrawn_42 : decode cX10_hourDrawn 42 = .ok (.aload_n 1, 1) := dAX10_hourDrawn (42, (.aload_n 1, 1)) (List.mem_of_getElem? (i := 24) rfl)
theorem dX10_hourDrawn_43 : decode cX10_hourDrawn 43 = .ok (.iload_n 2, 1) := dAX10_hourDrawn (43, (.iload_n 2, 1)) (List.mem_of_getElem? (i := 25) rfl)
theorem dX10_hourDrawn_44 : decode cX10_hourDrawn 44 = .ok (.dup2, 1) := dAX10_hourDrawn (44, (.dup2, 1)) (List.mem_of_getElem? (i := 26) rfl)
theorem dX10_hourDrawn_45 : decode cX10_hourDrawn 45 = .ok (.iaload, 1) := dAX10_hourDrawn (45, (.iaload, 1)) (List.mem_of_getElem? (i := 27) rfl)
theorem dX10_hourDrawn_46 : decode cX10_hourDrawn 46 = .ok (.aload_n 0, 1) := dAX10_hourDrawn (46, (.aload_n 0, 1)) (List.mem_of_getElem? (i := 28) rfl)
theorem dX10_hourDrawn_47 : decode cX10_hourDrawn 47 = .ok (.getfield 283, 3) := dAX10_hourDrawn (47, (.getfield 283, 3)) (List.mem_of_getElem? (i := 29) rfl)
theorem dX10_hourDrawn_50 : decode cX10_hourDrawn 50 = .ok (.iconst 2, 1) := dAX10_hourDrawn (50, (.iconst 2, 1)) (List.mem_of_getElem? (i := 30) rfl)
theorem dX10_hourDrawn_51 : decode cX10_hourDrawn 51 = .ok (.aload_n 0, 1) := dAX10_hourDrawn (51, (.aload_n 0, 1)) (List.mem_of_getElem? (i := 31) rfl)
theorem dX10_hourDrawn_52 : decode cX10_hourDrawn 52 = .ok (.iload_n 2, 1) := dAX10_hourDrawn (52, (.iload_n 2, 1)) (List.mem_of_getElem? (i := 32) rfl)
theorem dX10_hourDrawn_53 : decode cX10_hourDrawn 53 = .ok (.invokevirtual 277, 3) := dAX10_hourDrawn (53, (.invokevirtual 277, 3)) (List.mem_of_getElem? (i := 33) rfl)
theorem dX10_hourDrawn_56 : decode cX10_hourDrawn 56 = .ok (.imul, 1) := dAX10_hourDrawn (56, (.imul, 1)) (List.mem_of_getElem? (i := 34) rfl)
theorem dX10_hourDrawn_57 : decode cX10_hourDrawn 57 = .ok (.iconst 1, 1) := dAX10_hourDrawn (57, (.iconst 1, 1)) (List.mem_of_getElem? (i := 35) rfl)
theorem dX10_hourDrawn_58 : decode cX10_hourDrawn 58 = .ok (.iadd, 1) := dAX10_hourDrawn (58, (.iadd, 1)) (List.mem_of_getElem? (i := 36) rfl)
theorem dX10_hourDrawn_59 : decode cX10_hourDrawn 59 = .ok (.irem, 1) := dAX10_hourDrawn (59, (.irem, 1)) (List.mem_of_getElem? (i := 37) rfl)
theorem dX10_hourDrawn_60 : decode cX10_hourDrawn 60 = .ok (.isub, 1) := dAX10_hourDrawn (60, (.isub, 1)) (List.mem_of_getElem? (i := 38) rfl)
theorem dX10_hourDrawn_61 : decode cX10_hourDrawn 61 = .ok (.iastore, 1) := dAX10_hourDrawn (61, (.iastore, 1)) (List.mem_of_getElem? (i := 39) rfl)
theorem dX10_hourDrawn_62 : decode cX10_hourDrawn 62 = .ok (.iinc 2 1, 3) := dAX10_hourDrawn (62, (.iinc 2 1, 3)) (List.mem_of_getElem? (i := 40) rfl)
theorem dX10_hourDrawn_65 : decode cX10_hourDrawn 65 = .ok (.goto (-63), 3) := dAX10_hourDrawn (65, (.goto (-63), 3)) (List.mem_of_getElem? (i := 41) rfl)
theorem dX10_hourDrawn_68 : decode cX10_hourDrawn 68 = .ok (.aload_n 1, 1) := dAX10_hourDrawn (68, (.aload_n 1, 1)) (List.mem_of_getElem? (i := 42) rfl)
theorem dX10_hourDrawn_69 : decode cX10_hourDrawn 69 = .ok (.bipush 14, 2) := dAX10_hourDrawn (69, (.bipush 14, 2)) (List.mem_of_getElem? (i := 43) rfl)
theorem dX10_hourDrawn_71 : decode cX10_hourDrawn 71 = .ok (.dup2, 1) := dAX10_hourDrawn (71, (.dup2, 1)) (List.mem_of_getElem? (i := 44) rfl)
theorem dX10_hourDrawn_72 : decode cX10_hourDrawn 72 = .ok (.iaload, 1) := dAX10_hourDrawn (72, (.iaload, 1)) (List.mem_of_getElem? (i := 45) rfl)
theorem dX10_hourDrawn_73 : decode cX10_hourDrawn 73 = .ok (.iconst 1, 1) := dAX10_hourDrawn (73, (.iconst 1, 1)) (List.mem_of_getElem? (i := 46) rfl)
theorem dX10_hourDrawn_74 : decode cX10_hourDrawn 74 = .ok (.iadd, 1) := dAX10_hourDrawn (74, (.iadd, 1)) (List.mem_of_getElem? (i := 47) rfl)
theorem dX10_hourDrawn_75 : decode cX10_hourDrawn 75 = .ok (.iastore, 1) := dAX10_hourDrawn (75, (.iastore, 1)) (List.mem_of_getElem? (i := 48) rfl)
theorem dX10_hourDrawn_76 : decode cX10_hourDrawn 76 = .ok (.aload_n 0, 1) := dAX10_hourDrawn (76, (.aload_n 0, 1)) (List.mem_of_getElem? (i := 49) rfl)
theorem dX10_hourDrawn_77 : decode cX10_hourDrawn 77 = .ok (.aload_n 1, 1) := dAX10_hourDrawn (77, (.aload_n 1, 1)) (List.mem_of_getElem? (i := 50) rfl)
theorem dX10_hourDrawn_78 : decode cX10_hourDrawn 78 = .ok (.invokevirtual 280, 3) := dAX10_hourDrawn (78, (.invokevirtual 280, 3)) (List.mem_of_getElem? (i := 51) rfl)
theorem dX10_hourDrawn_81 : decode cX10_hourDrawn 81 = .ok (.ireturn, 1) := dAX10_hourDrawn (81, (.ireturn, 1)) (List.mem_of_getElem? (i := 52) rfl)
set_option maxRecDepth 20000 in
theorem ggX10_hourDrawn_X10_doesSink : GoodIn wsX10_hourDrawn wsX10_doesSink := goodIn_r _ [8, 9, 10, 7, 11, 12, 13, 14, 15, 1, 40, 41, 42, 43, 44, 45, 46, 47, 48, 49, 50, 51, 52, 53, 54, 55, 56, 57, 58, 59, 60, 61, 62, 63, 64, 65, 66, 67, 68, 69, 70, 71, 72, 73, 74] rfl (by decide +kernel)
set_option maxRecDepth 20000 in
theorem gX10_hourDrawn_X10_doesSink : GoodIn wsX10_hourDrawn (wsV RX10 274 RX10 yX10_doesSink wsX10_doesSink) := goodIn_app (goodIn_of _ (by decide +kernel)) ggX10_hourDrawn_X10_doesSink
set_option maxRecDepth 20000 in
theorem ggX10_hourDrawn_X10_sinksOf : GoodIn wsX10_hourDrawn wsX10_sinksOf := goodIn_r _ [19, 1, 40, 41, 42, 43, 44, 45, 46, 47, 48, 49, 50, 51, 52, 53, 54, 55, 56, 57, 58, 59, 60, 61, 62, 63, 64, 65, 66, 67, 68, 69, 70, 71, 72, 73, 74] rfl (by decide +kernel)
set_option maxRecDepth 20000 in
theorem gX10_hourDrawn_X10_sinksOf : GoodIn wsX10_hourDrawn (wsV RX10 277 RX10 yX10_sinksOf wsX10_sinksOf) := goodIn_app (goodIn_of _ (by decide +kernel)) ggX10_hourDrawn_X10_sinksOf
set_option maxRecDepth 20000 in
theorem ggX10_hourDrawn_X10_leaves : GoodIn wsX10_hourDrawn wsX10_leaves := goodIn_r _ [23, 24, 1, 25, 26, 27, 7, 28, 9, 10, 11, 29, 30, 31, 32, 12, 13, 14, 15, 33, 34, 35, 36, 37, 38, 39, 40, 41, 42, 43, 44, 45, 46, 47, 48, 49, 50, 51, 52, 53, 54, 55, 56, 57, 58, 59, 60, 61, 62, 63, 64, 65, 66, 67, 68, 69, 70, 71, 72, 73, 74] rfl (by decide +kernel)
set_option maxRecDepth 20000 in
theorem gX10_hourDrawn_X10_leaves : GoodIn wsX10_hourDrawn (wsV RX10 280 RX10 yX10_leaves wsX10_leaves) := goodIn_app (goodIn_of _ (by decide +kernel)) ggX10_hourDrawn_X10_leaves
theorem kX10_hourDrawn_20 : Cond.fieldLink RX10 20 "EveningVowModel" "\x72" "[I" ∈ wsX10_hourDrawn := List.mem_of_getElem? (i := 1) rfl
theorem iX10_hourDrawn_X10 : ∀ w ∈ u_ws RX10 TX10 35, w ∈ wsX10_hourDrawn := fun w h => (List.mem_cons_of_mem _ (List.mem_append_right _ h))
theorem kX10_hourDrawn_283 : Cond.fieldLink RX10 283 "EveningVowModel" "seedNow" "I" ∈ wsX10_hourDrawn := List.mem_of_getElem? (i := 2) rfl
theorem kX10_hourDrawn_286 : Cond.constant RX10 286 (65537 : Int32) ∈ wsX10_hourDrawn := by decide +kernel
set_option maxHeartbeats 4000000 in
set_option maxRecDepth 100000 in
theorem wX10_hourDrawn_L2 {p : Program} {l : Launch} {e : Env} {s : State} {m : MethodId} {args : Array Value} {below : List Frame} {meth : Method} {c : Code} {g : GG} {A : Nat → Prop} (C0 : Cx p s m args meth c cX10_hourDrawn 3 (some .int) RX10 wsX10_hourDrawn g A) (a_t : Nat) (a_r1 : Nat) (p_t : Nat → Nat) (n : Nat) (f_t_15 : Nat → Int32)  (r : Int32) (o_t' : Nat → Int32) (f_r1' : Nat → Int32) (K : (Nat → Int32) → (Nat → Int32) → Option (Int32 × (Nat → Int32) × (Nat → Int32))) (hKx : ∀ (o_t : Nat → Int32) (f_r1 : Nat → Int32) (H : Heap) (locs : List Loc) (ls : Array Slot), K o_t f_r1 = some (r, o_t', f_r1') → va_P g.1 vwCl [oX10 a_t p_t o_t, aI g (p_t 15) 266 f_t_15, aI g a_r1 17 f_r1] H → va_D A [oX10 a_t p_t o_t, aI g (p_t 15) 266 f_t_15, aI g a_r1 17 f_r1] → va_S A s.heap H locs → lv_has ls 3 [(0, .ref a_t), (1, .ref a_r1)] → W p l e ({ frames := 3, cells := 0, slots := 0, locals := 71 } : Room) s m args below meth c H locs 0 0 (MQ below (EndI g r [oX10 a_t p_t o_t', aI g (p_t 15) 266 f_t_15, aI g a_r1 17 f_r1'] A) args s 0 0 A) (F0 m 68 ls [])) : ∀ (k : Nat) (x2 : Int32) (o_t : Nat → Int32) (f_r1 : Nat → Int32), fX10_hourDrawn_L2 n f_t_15 K k x2 o_t f_r1 = some (r, o_t', f_r1') → ∀ (H : Heap) (locs : List Loc) (ls : Array Slot), va_P g.1 vwCl [oX10 a_t p_t o_t, aI g (p_t 15) 266 f_t_15, aI g a_r1 17 f_r1] H → va_D A [oX10 a_t p_t o_t, aI g (p_t 15) 266 f_t_15, aI g a_r1 17 f_r1] → va_S A s.heap H locs → lv_has ls 3 [(0, .ref a_t), (1, .ref a_r1), (2, .int x2)] → W p l e ({ frames := 3, cells := 0, slots := 0, locals := 71 } : Room) s m args below meth c H locs 0 0 (MQ below (EndI g r [oX10 a_t p_t o_t', aI g (p_t 15) 266 f_t_15, aI g a_r1 17 f_r1'] A) args s 0 0 A) (F0 m 2 ls []) := by
  obtain ⟨hx, hb, hml, hown, hts, hr, hlk, hK, hA, hSW⟩ := id C0
  intro k
  induction k with
  | zero =>
    intro x2 o_t f_r1 hF
    exact absurd hF (by simp [fX10_hourDrawn_L2])
  | succ k ih =>
    intro x2 o_t f_r1 hF H locs ls hP hD hS hl
    rw [fX10_hourDrawn_L2] at hF
    refine lv_iload_n hx hb dX10_hourDrawn_2 rfl (lv_at hl 2 rfl) ?_
    refine lv_aload_n hx hb dX10_hourDrawn_3 rfl (lv_at hl 0 rfl) ?_
    refine va_get (D := g.1) (ci := 10) (v := .ref (p_t 15)) (C := RX10) (T := TX10) (N := 35) hx hb hts iX10_hourDrawn_X10 hown hK.1 hP 0 rfl rfl 15 (by decide) (hts _ kX10_hourDrawn_20) (fun _ h9 => h9) rfl dX10_hourDrawn_4 ?_
    refine lv_iconst (v := (3 : Int32)) hx hb dX10_hourDrawn_7 (by decide) ?_
    refine va_iald_k (j := 3) hx hb hK.1 hP 1 0 rfl rfl (by unfold vp_in; decide) rfl dX10_hourDrawn_8 ?_
    refine lv_icmp_ge (tgt := 68) hx hb dX10_hourDrawn_9 (by decide) (fun c_1 => ?_) (fun c_1 => ?_)
    · have hF := it_p c_1 hF
      exact hKx o_t f_r1 _ _ _ hF (hP.sub [0, 1, 2] rfl) (hD.sub [0, 1, 2] rfl rfl) hS (lv_sub hl [0, 1] rfl)
    · have hF := it_n c_1 hF
      refine lv_aload_n hx hb dX10_hourDrawn_12 rfl (lv_at hl 0 rfl) ?_
      refine lv_aload_n hx hb dX10_hourDrawn_13 rfl (lv_at hl 1 rfl) ?_
      refine lv_iload_n hx hb dX10_hourDrawn_14 rfl (lv_at hl 2 rfl) ?_
      obtain ⟨u_2, hu_3, hF⟩ := ob1_some hF
      refine call_i (wr := []) (As := [.ref a_r1, .int x2]) (rest := []) (ci := 10) (q0 := 0) C0 (mX10_doesSink l g a_t a_r1 p_t n x2 o_t f_t_15 f_r1 u_2 hu_3) (cwV 2 hts gX10_hourDrawn_X10_doesSink rfl rfl rfl (by decide +kernel) ⟨Nat.le_of_ble_eq_true rfl, Nat.le_of_ble_eq_true rfl⟩) hP hD hS [0, 1, 2] [] rfl rfl rfl rfl rfl (by decide) rfl rfl hl.1 rfl rfl (Nat.le_of_ble_eq_true rfl) ⟨Nat.zero_le _, Nat.zero_le _⟩ dX10_hourDrawn_15 ?_
      intro H locs hP hD hS
      refine lv_if_ne (tgt := 24) hx hb dX10_hourDrawn_18 (by decide) (fun c_4 => ?_) (fun c_4 => ?_)
      · have hF := it_n c_4 hF
        refine lv_aload_n hx hb dX10_hourDrawn_24 rfl (lv_at hl 0 rfl) ?_
        refine lv_bipush (v := (75 : Int32)) hx hb dX10_hourDrawn_25 (by decide) ?_
        refine lv_aload_n hx hb dX10_hourDrawn_27 rfl (lv_at hl 0 rfl) ?_
        refine va_get (D := g.1) (ci := 10) (v := .int (o_t 23)) (C := RX10) (T := TX10) (N := 35) hx hb hts iX10_hourDrawn_X10 hown hK.1 hP 0 rfl rfl 23 (by decide) (hts _ kX10_hourDrawn_283) (fun _ h9 => h9) rfl dX10_hourDrawn_28 ?_
        refine lv_imul hx hb dX10_hourDrawn_31 ?_
        refine lv_bipush (v := (74 : Int32)) hx hb dX10_hourDrawn_32 (by decide) ?_
        refine lv_iadd hx hb dX10_hourDrawn_34 ?_
        refine lv_ldcw (v := (65537 : Int32)) hx hb hown (hts _ kX10_hourDrawn_286) dX10_hourDrawn_35 ?_
        refine lv_irem hx hb dX10_hourDrawn_38 (by decide) ?_
        refine va_put (D := g.1) (ci := 10) (v := .int ((((75 : Int32) * (o_t 23)) + (74 : Int32)) - (((75 : Int32) * (o_t 23)) + (74 : Int32)) / (65537 : Int32) * (65537 : Int32))) (ty := .int) (C := RX10) (T := TX10) (N := 35) hx hb hts iX10_hourDrawn_X10 tyX10 tyX10_ok nmX10 hown hK.1 hP hD hS 0 rfl rfl 23 (by decide) (hts _ kX10_hourDrawn_283) (fun _ h9 => h9) rfl (by decide +kernel) rfl rfl (Nat.le_of_ble_eq_true rfl) dX10_hourDrawn_39 (fun H locs hP hD hS => ?_)
        have hP : va_P g.1 vwCl [oX10 a_t p_t (upd o_t 23 ((((75 : Int32) * (o_t 23)) + (74 : Int32)) - (((75 : Int32) * (o_t 23)) + (74 : Int32)) / (65537 : Int32) * (65537 : Int32))), aI g (p_t 15) 266 f_t_15, aI g a_r1 17 f_r1] H := hP
        have hD : va_D A [oX10 a_t p_t (upd o_t 23 ((((75 : Int32) * (o_t 23)) + (74 : Int32)) - (((75 : Int32) * (o_t 23)) + (74 : Int32)) / (65537 : Int32) * (65537 : Int32))), aI g (p_t 15) 266 f_t_15, aI g a_r1 17 f_r1] := hD
        refine lv_aload_n hx hb dX10_hourDrawn_42 rfl (lv_at hl 1 rfl) ?_
        refine lv_iload_n hx hb dX10_hourDrawn_43 rfl (lv_at hl 2 rfl) ?_
        refine lv_dup2_11 hx hb dX10_hourDrawn_44 rfl rfl ?_
        obtain ⟨h_5, hF⟩ := it_ck hF
        refine va_iald hx hb hK.1 hP 2 0 rfl rfl h_5 dX10_hourDrawn_45 ?_
        refine lv_aload_n hx hb dX10_hourDrawn_46 rfl (lv_at hl 0 rfl) ?_
        refine va_get (D := g.1) (ci := 10) (v := .int ((((75 : Int32) * (o_t 23)) + (74 : Int32)) - (((75 : Int32) * (o_t 23)) + (74 : Int32)) / (65537 : Int32) * (65537 : Int32))) (C := RX10) (T := TX10) (N := 35) hx hb hts iX10_hourDrawn_X10 hown hK.1 hP 0 rfl rfl 23 (by decide) (hts _ kX10_hourDrawn_283) (fun _ h9 => h9) rfl dX10_hourDrawn_47 ?_
        refine lv_iconst (v := (2 : Int32)) hx hb dX10_hourDrawn_50 (by decide) ?_
        refine lv_aload_n hx hb dX10_hourDrawn_51 rfl (lv_at hl 0 rfl) ?_
        refine lv_iload_n hx hb dX10_hourDrawn_52 rfl (lv_at hl 2 rfl) ?_
        obtain ⟨u_6, hu_7, hF⟩ := ob1_some hF
        refine call_i (wr := [aI g a_r1 17 f_r1]) (As := [.int x2]) (rest := [.int (2 : Int32), .int ((((75 : Int32) * (o_t 23)) + (74 : Int32)) - (((75 : Int32) * (o_t 23)) + (74 : Int32)) / (65537 : Int32) * (65537 : Int32)), .int (f_r1 (x2).toNatClampNeg), .int x2, .ref a_r1]) (ci := 10) (q0 := 0) C0 (mX10_sinksOf l g a_t p_t n x2 (upd o_t 23 ((((75 : Int32) * (o_t 23)) + (74 : Int32)) - (((75 : Int32) * (o_t 23)) + (74 : Int32)) / (65537 : Int32) * (65537 : Int32))) f_t_15 u_6 hu_7) (cwV 1 hts gX10_hourDrawn_X10_sinksOf rfl rfl rfl (by decide +kernel) ⟨Nat.le_of_ble_eq_true rfl, Nat.le_of_ble_eq_true rfl⟩) hP hD hS [0, 1] [2] rfl rfl rfl rfl rfl (by decide) rfl rfl hl.1 rfl rfl (Nat.le_of_ble_eq_true rfl) ⟨Nat.zero_le _, Nat.zero_le _⟩ dX10_hourDrawn_53 ?_
        intro H locs hP hD hS
        refine lv_imul hx hb dX10_hourDrawn_56 ?_
        refine lv_iconst (v := (1 : Int32)) hx hb dX10_hourDrawn_57 (by decide) ?_
        refine lv_iadd hx hb dX10_hourDrawn_58 ?_
        obtain ⟨h_8, hF⟩ := it_ck hF
        refine lv_irem hx hb dX10_hourDrawn_59 h_8 ?_
        refine lv_isub hx hb dX10_hourDrawn_60 ?_
        obtain ⟨h_9, hF⟩ := it_ck hF
        refine va_iast hx hb hK.1 hP hD hS 0 0 rfl rfl h_9 dX10_hourDrawn_61 (fun H locs hP hD hS => ?_)
        have hP : va_P g.1 vwCl [aI g a_r1 17 (upd f_r1 (x2).toNatClampNeg ((f_r1 (x2).toNatClampNeg) - (((((75 : Int32) * (o_t 23)) + (74 : Int32)) - (((75 : Int32) * (o_t 23)) + (74 : Int32)) / (65537 : Int32) * (65537 : Int32)) - ((((75 : Int32) * (o_t 23)) + (74 : Int32)) - (((75 : Int32) * (o_t 23)) + (74 : Int32)) / (65537 : Int32) * (65537 : Int32)) / (((2 : Int32) * u_6) + (1 : Int32)) * (((2 : Int32) * u_6) + (1 : Int32))))), oX10 a_t p_t (upd o_t 23 ((((75 : Int32) * (o_t 23)) + (74 : Int32)) - (((75 : Int32) * (o_t 23)) + (74 : Int32)) / (65537 : Int32) * (65537 : Int32))), aI g (p_t 15) 266 f_t_15] H := hP
        have hD : va_D A [aI g a_r1 17 (upd f_r1 (x2).toNatClampNeg ((f_r1 (x2).toNatClampNeg) - (((((75 : Int32) * (o_t 23)) + (74 : Int32)) - (((75 : Int32) * (o_t 23)) + (74 : Int32)) / (65537 : Int32) * (65537 : Int32)) - ((((75 : Int32) * (o_t 23)) + (74 : Int32)) - (((75 : Int32) * (o_t 23)) + (74 : Int32)) / (65537 : Int32) * (65537 : Int32)) / (((2 : Int32) * u_6) + (1 : Int32)) * (((2 : Int32) * u_6) + (1 : Int32))))), oX10 a_t p_t (upd o_t 23 ((((75 : Int32) * (o_t 23)) + (74 : Int32)) - (((75 : Int32) * (o_t 23)) + (74 : Int32)) / (65537 : Int32) * (65537 : Int32))), aI g (p_t 15) 266 f_t_15] := hD
        refine lv_iinc (v := (x2 + (1 : Int32))) (lv' := [(2, .int (x2 + (1 : Int32))), (0, .ref a_t), (1, .ref a_r1)]) hx hb dX10_hourDrawn_62 hl (k := 2) rfl rfl (by decide) rfl (fun ls hl => ?_)
        refine lv_goto (tgt := 2) hx hb dX10_hourDrawn_65 (by decide) ?_
        exact ih (x2 + (1 : Int32)) (upd o_t 23 ((((75 : Int32) * (o_t 23)) + (74 : Int32)) - (((75 : Int32) * (o_t 23)) + (74 : Int32)) / (65537 : Int32) * (65537 : Int32))) (upd f_r1 (x2).toNatClampNeg ((f_r1 (x2).toNatClampNeg) - (((((75 : Int32) * (o_t 23)) + (74 : Int32)) - (((75 : Int32) * (o_t 23)) + (74 : Int32)) / (65537 : Int32) * (65537 : Int32)) - ((((75 : Int32) * (o_t 23)) + (74 : Int32)) - (((75 : Int32) * (o_t 23)) + (74 : Int32)) / (65537 : Int32) * (65537 : Int32)) / (((2 : Int32) * u_6) + (1 : Int32)) * (((2 : Int32) * u_6) + (1 : Int32))))) hF _ _ _ (hP.sub [1, 2, 0] rfl) (hD.sub [1, 2, 0] rfl rfl) hS (lv_sub hl [1, 2, 0] rfl)
      · have hF := it_p c_4 hF
        refine lv_goto (tgt := 62) hx hb dX10_hourDrawn_21 (by decide) ?_
        refine lv_iinc (v := (x2 + (1 : Int32))) (lv' := [(2, .int (x2 + (1 : Int32))), (0, .ref a_t), (1, .ref a_r1)]) hx hb dX10_hourDrawn_62 hl (k := 2) rfl rfl (by decide) rfl (fun ls hl => ?_)
        refine lv_goto (tgt := 2) hx hb dX10_hourDrawn_65 (by decide) ?_
        exact ih (x2 + (1 : Int32)) o_t f_r1 hF _ _ _ (hP.sub [0, 1, 2] rfl) (hD.sub [0, 1, 2] rfl rfl) hS (lv_sub hl [1, 2, 0] rfl)
set_option maxHeartbeats 4000000 in
set_option maxRecDepth 100000 in
theorem mX10_hourDrawn (l : Launch) (g : GG) (a_t : Nat) (a_r1 : Nat) (p_t : Nat → Nat) (n : Nat) (o_t : Nat → Int32) (f_t_15 : Nat → Int32) (f_r1 : Nat → Int32) (r : Int32) (o_t' : Nat → Int32) (f_r1' : Nat → Int32) (hF : fX10_hourDrawn n o_t f_t_15 f_r1 = some (r, o_t', f_r1')) : MI l g yX10_hourDrawn wsX10_hourDrawn ({ frames := 3, cells := 0, slots := 0, locals := 71 } : Room) [.ref a_t, .ref a_r1] [oX10 a_t p_t o_t, aI g (p_t 15) 266 f_t_15, aI g a_r1 17 f_r1] r [oX10 a_t p_t o_t', aI g (p_t 15) 266 f_t_15, aI g a_r1 17 f_r1'] := by
  refine MI.of (cc := cX10_hourDrawn) (maxL := 3) (rt := .int) (own := RX10) rfl rfl (by decide) (Nat.le_of_ble_eq_true rfl) ?_
  intro p e s m args below meth c A C0 hP hD hS ls hl
  obtain ⟨hx, hb, hml, hown, hts, hr, hlk, hK, hA, hSW⟩ := id C0
  have hl : lv_has ls 3 [(0, .ref a_t), (1, .ref a_r1)] := hl
  rw [fX10_hourDrawn] at hF
  refine lv_iconst (v := (0 : Int32)) hx hb dX10_hourDrawn_0 (by decide) ?_
  refine lv_istore_n (lv' := [(2, .int (0 : Int32)), (0, .ref a_t), (1, .ref a_r1)]) hx hb dX10_hourDrawn_1 rfl hl (by decide) rfl (fun ls hl => ?_)
  refine wX10_hourDrawn_L2 C0 a_t a_r1 p_t n f_t_15 r o_t' f_r1' _ ?_ n (0 : Int32) o_t f_r1 hF _ _ _ (hP.sub [0, 1, 2] rfl) (hD.sub [0, 1, 2] rfl rfl) hS (lv_sub hl [1, 2, 0] rfl)
  · intro o_t_x2 f_r1_x2 H locs ls hF hP hD hS hl
    refine lv_aload_n hx hb dX10_hourDrawn_68 rfl (lv_at hl 1 rfl) ?_
    refine lv_bipush (v := (14 : Int32)) hx hb dX10_hourDrawn_69 (by decide) ?_
    refine lv_dup2_11 hx hb dX10_hourDrawn_71 rfl rfl ?_
    refine va_iald_k (j := 14) hx hb hK.1 hP 2 0 rfl rfl (by unfold vp_in; decide) rfl dX10_hourDrawn_72 ?_
    refine lv_iconst (v := (1 : Int32)) hx hb dX10_hourDrawn_73 (by decide) ?_
    refine lv_iadd hx hb dX10_hourDrawn_74 ?_
    refine va_iast hx hb hK.1 hP hD hS 2 0 rfl rfl (by unfold vp_in; decide) dX10_hourDrawn_75 (fun H locs hP hD hS => ?_)
    have hP : va_P g.1 vwCl [oX10 a_t p_t o_t_x2, aI g (p_t 15) 266 f_t_15, aI g a_r1 17 (upd f_r1_x2 14 ((f_r1_x2 14) + (1 : Int32)))] H := hP
    have hD : va_D A [oX10 a_t p_t o_t_x2, aI g (p_t 15) 266 f_t_15, aI g a_r1 17 (upd f_r1_x2 14 ((f_r1_x2 14) + (1 : Int32)))] := hD
    refine lv_aload_n hx hb dX10_hourDrawn_76 rfl (lv_at hl 0 rfl) ?_
    refine lv_aload_n hx hb dX10_hourDrawn_77 rfl (lv_at hl 1 rfl) ?_
    obtain ⟨u_10, u_11, u_12, hu_13, hF⟩ := ob3_some hF
    refine call_i (wr := []) (As := [.ref a_r1]) (rest := []) (ci := 10) (q0 := 0) C0 (mX10_leaves l g a_t a_r1 p_t n o_t_x2 f_t_15 (upd f_r1_x2 14 ((f_r1_x2 14) + (1 : Int32))) u_10 u_11 u_12 hu_13) (cwV 1 hts gX10_hourDrawn_X10_leaves rfl rfl rfl (by decide +kernel) ⟨Nat.le_of_ble_eq_true rfl, Nat.le_of_ble_eq_true rfl⟩) hP hD hS [0, 1, 2] [] rfl rfl rfl rfl rfl (by decide) rfl rfl hl.1 rfl rfl (Nat.le_of_ble_eq_true rfl) ⟨Nat.zero_le _, Nat.zero_le _⟩ dX10_hourDrawn_78 ?_
    intro H locs hP hD hS
    cases hF
    exact ret_i C0 hP hD hS [0, 1, 2] rfl rfl rfl dX10_hourDrawn_81 rfl

theorem dAX10_endsOn : ∀ q ∈ ([(0, (.aload_n 0, 1)), (1, (.iconst 0, 1)), (2, (.putfield 287, 3)), (5, (.iconst 0, 1)), (6, (.istore_n 3, 1)), (7, (.iload_n 3, 1)), (8, (.bipush 60, 2)), (10, (.if_icmp .gt 46, 3)), (13, (.aload_n 0, 1)), (14, (.aload_n 1, 1)), (15, (.invokevirtual 259, 3)), (18, (.ifCond .ne 5, 3)), (21, (.iload_n 3, 1)), (22, (.ireturn, 1)), (23, (.iload_n 3, 1)), (24, (.bipush 60, 2)), (26, (.if_icmp .ge 24, 3)), (29, (.aload_n 0, 1)), (30, (.iload_n 2, 1)), (31, (.ifCond .eq 11, 3)), (34, (.aload_n 0, 1)), (35, (.aload_n 1, 1)), (36, (.invokevirtual 290, 3)), (39, (.goto 8, 3)), (42, (.aload_n 0, 1)), (43, (.aload_n 1, 1)), (44, (.invokevirtual 293, 3)), (47, (.putfield 287, 3)), (50, (.iinc 3 1, 3)), (53, (.goto (-46), 3)), (56, (.bipush (-2), 2)), (58, (.ireturn, 1))] : List (Nat × (Instr × Nat))), decode cX10_endsOn q.1 = .ok q.2 := by decide +kernel
theorem dX10_endsOn_0 : decode cX10_endsOn 0 = .ok (.aload_n 0, 1) := dAX10_endsOn (0, (.aload_n 0, 1)) (List.mem_of_getElem? (i := 0) rfl)
theorem dX10_endsOn_1 : decode cX10_endsOn 1 = .ok (.iconst 0, 1) := dAX10_endsOn (1, (.iconst 0, 1)) (List.mem_of_getElem? (i := 1) rfl)
theorem dX10_endsOn_2 : decode cX10_endsOn 2 = .ok (.putfield 287, 3) := dAX10_endsOn (2, (.putfield 287, 3)) (List.mem_of_getElem? (i := 2) rfl)
theorem dX10_endsOn_5 : decode cX10_endsOn 5 = .ok (.iconst 0, 1) := dAX10_endsOn (5, (.iconst 0, 1)) (List.mem_of_getElem? (i := 3) rfl)
theorem dX10_endsOn_6 : decode cX10_endsOn 6 = .ok (.istore_n 3, 1) := dAX10_endsOn (6, (.istore_n 3, 1)) (List.mem_of_getElem? (i := 4) rfl)
theorem dX10_endsOn_7 : decode cX10_endsOn 7 = .ok (.iload_n 3, 1) := dAX10_endsOn (7, (.iload_n 3, 1)) (List.mem_of_getElem? (i := 5) rfl)
theorem dX10_endsOn_8 : decode cX10_endsOn 8 = .ok (.bipush 60, 2) := dAX10_endsOn (8, (.bipush 60, 2)) (List.mem_of_getElem? (i := 6) rfl)
theorem dX10_endsOn_10 : decode cX10_endsOn 10 = .ok (.if_icmp .gt 46, 3) := dAX10_endsOn (10, (.if_icmp .gt 46, 3)) (List.mem_of_getElem? (i := 7) rfl)
theorem dX10_endsOn_13 : decode cX10_endsOn 13 = .ok (.aload_n 0, 1) := dAX10_endsOn (13, (.aload_n 0, 1)) (List.mem_of_getElem? (i := 8) rfl)
theorem dX10_endsOn_14 : decode cX10_endsOn 14 = .ok (.aload_n 1, 1) := dAX10_endsOn (14, (.aload_n 1, 1)) (List.mem_of_getElem? (i := 9) rfl)
theorem dX10_endsOn_15 : decode cX10_endsOn 15 = .ok (.invokevirtual 259, 3) := dAX10_endsOn (15, (.invokevirtual 259, 3)) (List.mem_of_getElem? (i := 10) rfl)
theorem dX10_endsOn_18 : decode cX10_endsOn 18 = .ok (.ifCond .ne 5, 3) := dAX10_endsOn (18, (.ifCond .ne 5, 3)) (List.mem_of_getElem? (i := 11) rfl)
theorem dX10_endsOn_21 : decode cX10_endsOn 21 = .ok (.iload_n 3, 1) := dAX10_endsOn (21, (.iload_n 3, 1)) (List.mem_of_getElem? (i := 12) rfl)
theorem dX10_endsOn_22 : decode cX10_endsOn 22 = .ok (.ireturn, 1) := dAX10_endsOn (22, (.ireturn, 1)) (List.mem_of_getElem? (i := 13) rfl)
theorem dX10_endsOn_23 : decode cX10_endsOn 23 = .ok (.iload_n 3, 1) := dAX10_endsOn (23, (.iload_n 3, 1)) (List.mem_of_getElem? (i := 14) rfl)
theorem dX10_endsOn_24 : decode cX10_endsOn 24 = .ok (.bipush 60, 2) := dAX10_endsOn (24, (.bipush 60, 2)) (List.mem_of_getElem? (i := 15) rfl)
theorem dX10_endsOn_26 : decode cX10_endsOn 26 = .ok (.if_icmp .ge 24, 3) := dAX10_endsOn (26, (.if_icmp .ge 24, 3)) (List.mem_of_getElem? (i := 16) rfl)
theorem dX10_endsOn_29 : decode cX10_endsOn 29 = .ok (.aload_n 0, 1) := dAX10_endsOn (29, (.aload_n 0, 1)) (List.mem_of_getElem? (i := 17) rfl)
theorem dX10_endsOn_30 : decode cX10_endsOn 30 = .ok (.iload_n 2, 1) := dAX10_endsOn (30, (.iload_n 2, 1)) (List.mem_of_getElem? (i := 18) rfl)
theorem dX10_endsOn_31 : decode cX10_endsOn 31 = .ok (.ifCond .eq 11, 3) := dAX10_endsOn (31, (.ifCond .eq 11, 3)) (List.mem_of_getElem? (i := 19) rfl)
theorem dX10_endsOn_34 : decode cX10_endsOn 34 = .ok (.aload_n 0, 1) := dAX10_endsOn (34, (.aload_n 0, 1)) (List.mem_of_getElem? (i := 20) rfl)
theorem dX10_endsOn_35 : decode cX10_endsOn 35 = .ok (.aload_n 1, 1) := dAX10_endsOn (35, (.aload_n 1, 1)) (List.mem_of_getElem? (i := 21) rfl)
theorem dX10_endsOn_36 : decode cX10_endsOn 36 = .ok (.invokevirtual 290, 3) := dAX10_endsOn (36, (.invokevirtual 290, 3)) (List.mem_of_getElem? (i := 22) rfl)
theorem dX10_endsOn_39 : decode cX10_endsOn 39 = .ok (.goto 8, 3) := dAX10_endsOn (39, (.goto 8, 3)) (List.mem_of_getElem? (i := 23) rfl)
theorem dX10_endsOn_42 : decode cX10_endsOn 42 = .ok (.aload_n 0, 1) := dAX10_endsOn (42, (.aload_n 0, 1)) (List.mem_of_getElem? (i := 24) rfl)
theorem dX10_endsOn_43 : decode cX10_endsOn 43 = .ok (.aload_n 1, 1) := dAX10_endsOn (43, (.aload_n 1, 1)) (List.mem_of_getElem? (i := 25) rfl)
theorem dX10_endsOn_44 : decode cX10_endsOn 44 = .ok (.invokevirtual 293, 3) := dAX10_endsOn (44, (.invokevirtual 293, 3)) (List.mem_of_getElem? (i := 26) rfl)
theorem dX10_endsOn_47 : decode cX10_endsOn 47 = .ok (.putfield 287, 3) := dAX10_endsOn (47, (.putfield 287, 3)) (List.mem_of_getElem? (i := 27) rfl)
theorem dX10_endsOn_50 : decode cX10_endsOn 50 = .ok (.iinc 3 1, 3) := dAX10_endsOn (50, (.iinc 3 1, 3)) (List.mem_of_getElem? (i := 28) rfl)
theorem dX10_endsOn_53 : decode cX10_endsOn 53 = .ok (.goto (-46), 3) := dAX10_endsOn (53, (.goto (-46), 3)) (List.mem_of_getElem? (i := 29) rfl)
theorem dX10_endsOn_56 : decode cX10_endsOn 56 = .ok (.bipush (-2), 2) := dAX10_endsOn (56, (.bipush (-2), 2)) (List.mem_of_getElem? (i := 30) rfl)
theorem dX10_endsOn_58 : decode cX10_endsOn 58 = .ok (.ireturn, 1) := dAX10_endsOn (58, (.ireturn, 1)) (List.mem_of_getElem? (i := 31) rfl)
set_option maxRecDepth 20000 in
theorem ggX10_endsOn_X10_thereOf : GoodIn wsX10_endsOn wsX10_thereOf := goodIn_r _ [6, 7, 8, 9, 5, 10, 49, 50, 51, 52, 53, 54, 55, 56, 57, 58, 59, 60, 61, 62, 63, 64, 65, 66, 67, 68, 69, 70, 71, 72, 73, 74, 75, 76, 77, 78, 79, 80, 81, 82, 83] rfl (by decide +kernel)
set_option maxRecDepth 20000 in
theorem gX10_endsOn_X10_thereOf : GoodIn wsX10_endsOn (wsV RX10 259 RX10 yX10_thereOf wsX10_thereOf) := goodIn_app (goodIn_of _ (by decide +kernel)) ggX10_endsOn_X10_thereOf
set_option maxRecDepth 20000 in
theorem ggX10_endsOn_X10_hourDrawn : GoodIn wsX10_endsOn wsX10_hourDrawn := goodIn_r _ [14, 7, 15, 16, 17, 18, 19, 5, 20, 8, 9, 10, 21, 22, 23, 24, 25, 26, 27, 28, 29, 30, 31, 32, 33, 2, 3, 4, 6, 34, 35, 36, 37, 38, 39, 40, 41, 42, 43, 44, 49, 50, 51, 52, 53, 54, 55, 56, 57, 58, 59, 60, 61, 62, 63, 64, 65, 66, 67, 68, 69, 70, 71, 72, 73, 74, 75, 76, 77, 78, 79, 80, 81, 82, 83] rfl (by decide +kernel)
set_option maxRecDepth 20000 in
theorem gX10_endsOn_X10_hourDrawn : GoodIn wsX10_endsOn (wsV RX10 290 RX10 yX10_hourDrawn wsX10_hourDrawn) := goodIn_app (goodIn_of _ (by decide +kernel)) ggX10_endsOn_X10_hourDrawn
set_option maxRecDepth 20000 in
theorem ggX10_endsOn_X10_hourOf : GoodIn wsX10_endsOn wsX10_hourOf := goodIn_r _ [48, 7, 17, 18, 19, 5, 20, 8, 9, 10, 21, 22, 23, 24, 25, 26, 27, 28, 29, 30, 31, 32, 33, 2, 3, 4, 6, 34, 35, 36, 37, 38, 39, 40, 41, 42, 43, 44, 49, 50, 51, 52, 53, 54, 55, 56, 57, 58, 59, 60, 61, 62, 63, 64, 65, 66, 67, 68, 69, 70, 71, 72, 73, 74, 75, 76, 77, 78, 79, 80, 81, 82, 83] rfl (by decide +kernel)
set_option maxRecDepth 20000 in
theorem gX10_endsOn_X10_hourOf : GoodIn wsX10_endsOn (wsV RX10 293 RX10 yX10_hourOf wsX10_hourOf) := goodIn_app (goodIn_of _ (by decide +kernel)) ggX10_endsOn_X10_hourOf
theorem kX10_endsOn_287 : Cond.fieldLink RX10 287 "EveningVowModel" "lastOnes" "I" ∈ wsX10_endsOn := List.mem_of_getElem? (i := 1) rfl
theorem iX10_endsOn_X10 : ∀ w ∈ u_ws RX10 TX10 35, w ∈ wsX10_endsOn := fun w h => (List.mem_cons_of_mem _ (List.mem_append_right _ h))
set_option maxHeartbeats 4000000 in
set_option maxRecDepth 100000 in
theorem wX10_endsOn_L7 {p : Program} {l : Launch} {e : Env} {s : State} {m : MethodId} {args : Array Value} {below : List Frame} {meth : Method} {c : Code} {g : GG} {A : Nat → Prop} (C0 : Cx p s m args meth c cX10_endsOn 4 (some .int) RX10 wsX10_endsOn g A) (a_t : Nat) (a_r1 : Nat) (p_t : Nat → Nat) (n : Nat) (x2 : Int32) (f_t_15 : Nat → Int32)  (r : Int32) (o_t' : Nat → Int32) (f_r1' : Nat → Int32) (K : (Nat → Int32) → (Nat → Int32) → Option (Int32 × (Nat → Int32) × (Nat → Int32))) (hKx : ∀ (o_t : Nat → Int32) (f_r1 : Nat → Int32) (H : Heap) (locs : List Loc) (ls : Array Slot), K o_t f_r1 = some (r, o_t', f_r1') → va_P g.1 vwCl [oX10 a_t p_t o_t, aI g (p_t 15) 266 f_t_15, aI g a_r1 17 f_r1] H → va_D A [oX10 a_t p_t o_t, aI g (p_t 15) 266 f_t_15, aI g a_r1 17 f_r1] → va_S A s.heap H locs → lv_has ls 4 [] → W p l e ({ frames := 4, cells := 0, slots := 0, locals := 93 } : Room) s m args below meth c H locs 0 0 (MQ below (EndI g r [oX10 a_t p_t o_t', aI g (p_t 15) 266 f_t_15, aI g a_r1 17 f_r1'] A) args s 0 0 A) (F0 m 56 ls [])) : ∀ (k : Nat) (x3 : Int32) (o_t : Nat → Int32) (f_r1 : Nat → Int32), fX10_endsOn_L7 n x2 f_t_15 K k x3 o_t f_r1 = some (r, o_t', f_r1') → ∀ (H : Heap) (locs : List Loc) (ls : Array Slot), va_P g.1 vwCl [oX10 a_t p_t o_t, aI g (p_t 15) 266 f_t_15, aI g a_r1 17 f_r1] H → va_D A [oX10 a_t p_t o_t, aI g (p_t 15) 266 f_t_15, aI g a_r1 17 f_r1] → va_S A s.heap H locs → lv_has ls 4 [(0, .ref a_t), (1, .ref a_r1), (2, .int x2), (3, .int x3)] → W p l e ({ frames := 4, cells := 0, slots := 0, locals := 93 } : Room) s m args below meth c H locs 0 0 (MQ below (EndI g r [oX10 a_t p_t o_t', aI g (p_t 15) 266 f_t_15, aI g a_r1 17 f_r1'] A) args s 0 0 A) (F0 m 7 ls []) := by
  obtain ⟨hx, hb, hml, hown, hts, hr, hlk, hK, hA, hSW⟩ := id C0
  intro k
  induction k with
  | zero =>
    intro x3 o_t f_r1 hF
    exact absurd hF (by simp [fX10_endsOn_L7])
  | succ k ih =>
    intro x3 o_t f_r1 hF H locs ls hP hD hS hl
    rw [fX10_endsOn_L7] at hF
    refine lv_iload_n hx hb dX10_endsOn_7 rfl (lv_at hl 3 rfl) ?_
    refine lv_bipush (v := (60 : Int32)) hx hb dX10_endsOn_8 (by decide) ?_
    refine lv_icmp_gt (tgt := 56) hx hb dX10_endsOn_10 (by decide) (fun c_1 => ?_) (fun c_1 => ?_)
    · have hF := it_p c_1 hF
      exact hKx o_t f_r1 _ _ _ hF (hP.sub [0, 1, 2] rfl) (hD.sub [0, 1, 2] rfl rfl) hS (lv_sub hl [] rfl)
    · have hF := it_n c_1 hF
      refine lv_aload_n hx hb dX10_endsOn_13 rfl (lv_at hl 0 rfl) ?_
      refine lv_aload_n hx hb dX10_endsOn_14 rfl (lv_at hl 1 rfl) ?_
      obtain ⟨u_2, hu_3, hF⟩ := ob1_some hF
      refine call_i (wr := []) (As := [.ref a_r1]) (rest := []) (ci := 10) (q0 := 0) C0 (mX10_thereOf l g a_t a_r1 p_t n o_t f_t_15 f_r1 u_2 hu_3) (cwV 1 hts gX10_endsOn_X10_thereOf rfl rfl rfl (by decide +kernel) ⟨Nat.le_of_ble_eq_true rfl, Nat.le_of_ble_eq_true rfl⟩) hP hD hS [0, 1, 2] [] rfl rfl rfl rfl rfl (by decide) rfl rfl hl.1 rfl rfl (Nat.le_of_ble_eq_true rfl) ⟨Nat.zero_le _, Nat.zero_le _⟩ dX10_endsOn_15 ?_
      intro H locs hP hD hS
      refine lv_if_ne (tgt := 23) hx hb dX10_endsOn_18 (by decide) (fun c_4 => ?_) (fun c_4 => ?_)
      · have hF := it_n c_4 hF
        refine lv_iload_n hx hb dX10_endsOn_23 rfl (lv_at hl 3 rfl) ?_
        refine lv_bipush (v := (60 : Int32)) hx hb dX10_endsOn_24 (by decide) ?_
        refine lv_icmp_ge (tgt := 50) hx hb dX10_endsOn_26 (by decide) (fun c_5 => ?_) (fun c_5 => ?_)
        · have hF := it_p c_5 hF
          refine lv_iinc (v := (x3 + (1 : Int32))) (lv' := [(3, .int (x3 + (1 : Int32))), (0, .ref a_t), (1, .ref a_r1), (2, .int x2)]) hx hb dX10_endsOn_50 hl (k := 3) rfl rfl (by decide) rfl (fun ls hl => ?_)
          refine lv_goto (tgt := 7) hx hb dX10_endsOn_53 (by decide) ?_
          exact ih (x3 + (1 : Int32)) o_t f_r1 hF _ _ _ (hP.sub [0, 1, 2] rfl) (hD.sub [0, 1, 2] rfl rfl) hS (lv_sub hl [1, 2, 3, 0] rfl)
        · have hF := it_n c_5 hF
          refine lv_aload_n hx hb dX10_endsOn_29 rfl (lv_at hl 0 rfl) ?_
          refine lv_iload_n hx hb dX10_endsOn_30 rfl (lv_at hl 2 rfl) ?_
          refine lv_if_eq (tgt := 42) hx hb dX10_endsOn_31 (by decide) (fun c_6 => ?_) (fun c_6 => ?_)
          · have hF := it_p c_6 hF
            refine lv_aload_n hx hb dX10_endsOn_42 rfl (lv_at hl 0 rfl) ?_
            refine lv_aload_n hx hb dX10_endsOn_43 rfl (lv_at hl 1 rfl) ?_
            obtain ⟨u_7, u_8, u_9, hu_10, hF⟩ := ob3_some hF
            refine call_i (wr := []) (As := [.ref a_r1]) (rest := [.ref a_t]) (ci := 10) (q0 := 0) C0 (mX10_hourOf l g a_t a_r1 p_t n o_t f_t_15 f_r1 u_7 u_8 u_9 hu_10) (cwV 1 hts gX10_endsOn_X10_hourOf rfl rfl rfl (by decide +kernel) ⟨Nat.le_of_ble_eq_true rfl, Nat.le_of_ble_eq_true rfl⟩) hP hD hS [0, 1, 2] [] rfl rfl rfl rfl rfl (by decide) rfl rfl hl.1 rfl rfl (Nat.le_of_ble_eq_true rfl) ⟨Nat.zero_le _, Nat.zero_le _⟩ dX10_endsOn_44 ?_
            intro H locs hP hD hS
            refine va_put (D := g.1) (ci := 10) (v := .int u_7) (ty := .int) (C := RX10) (T := TX10) (N := 35) hx hb hts iX10_endsOn_X10 tyX10 tyX10_ok nmX10 hown hK.1 hP hD hS 0 rfl rfl 24 (by decide) (hts _ kX10_endsOn_287) (fun _ h9 => h9) rfl (by decide +kernel) rfl rfl (Nat.le_of_ble_eq_true rfl) dX10_endsOn_47 (fun H locs hP hD hS => ?_)
            have hP : va_P g.1 vwCl [oX10 a_t p_t (upd u_8 24 u_7), aI g (p_t 15) 266 f_t_15, aI g a_r1 17 u_9] H := hP
            have hD : va_D A [oX10 a_t p_t (upd u_8 24 u_7), aI g (p_t 15) 266 f_t_15, aI g a_r1 17 u_9] := hD
            refine lv_iinc (v := (x3 + (1 : Int32))) (lv' := [(3, .int (x3 + (1 : Int32))), (0, .ref a_t), (1, .ref a_r1), (2, .int x2)]) hx hb dX10_endsOn_50 hl (k := 3) rfl rfl (by decide) rfl (fun ls hl => ?_)
            refine lv_goto (tgt := 7) hx hb dX10_endsOn_53 (by decide) ?_
            exact ih (x3 + (1 : Int32)) (upd u_8 24 u_7) u_9 hF _ _ _ (hP.sub [0, 1, 2] rfl) (hD.sub [0, 1, 2] rfl rfl) hS (lv_sub hl [1, 2, 3, 0] rfl)
          · have hF := it_n c_6 hF
            refine lv_aload_n hx hb dX10_endsOn_34 rfl (lv_at hl 0 rfl) ?_
            refine lv_aload_n hx hb dX10_endsOn_35 rfl (lv_at hl 1 rfl) ?_
            obtain ⟨u_11, u_12, u_13, hu_14, hF⟩ := ob3_some hF
            refine call_i (wr := []) (As := [.ref a_r1]) (rest := [.ref a_t]) (ci := 10) (q0 := 0) C0 (mX10_hourDrawn l g a_t a_r1 p_t n o_t f_t_15 f_r1 u_11 u_12 u_13 hu_14) (cwV 1 hts gX10_endsOn_X10_hourDrawn rfl rfl rfl (by decide +kernel) ⟨Nat.le_of_ble_eq_true rfl, Nat.le_of_ble_eq_true rfl⟩) hP hD hS [0, 1, 2] [] rfl rfl rfl rfl rfl (by decide) rfl rfl hl.1 rfl rfl (Nat.le_of_ble_eq_true rfl) ⟨Nat.zero_le _, Nat.zero_le _⟩ dX10_endsOn_36 ?_
            intro H locs hP hD hS
            refine lv_goto (tgt := 47) hx hb dX10_endsOn_39 (by decide) ?_
            refine va_put (D := g.1) (ci := 10) (v := .int u_11) (ty := .int) (C := RX10) (T := TX10) (N := 35) hx hb hts iX10_endsOn_X10 tyX10 tyX10_ok nmX10 hown hK.1 hP hD hS 0 rfl rfl 24 (by decide) (hts _ kX10_endsOn_287) (fun _ h9 => h9) rfl (by decide +kernel) rfl rfl (Nat.le_of_ble_eq_true rfl) dX10_endsOn_47 (fun H locs hP hD hS => ?_)
            have hP : va_P g.1 vwCl [oX10 a_t p_t (upd u_12 24 u_11), aI g (p_t 15) 266 f_t_15, aI g a_r1 17 u_13] H := hP
            have hD : va_D A [oX10 a_t p_t (upd u_12 24 u_11), aI g (p_t 15) 266 f_t_15, aI g a_r1 17 u_13] := hD
            refine lv_iinc (v := (x3 + (1 : Int32))) (lv' := [(3, .int (x3 + (1 : Int32))), (0, .ref a_t), (1, .ref a_r1), (2, .int x2)]) hx hb dX10_endsOn_50 hl (k := 3) rfl rfl (by decide) rfl (fun ls hl => ?_)
            refine lv_goto (tgt := 7) hx hb dX10_endsOn_53 (by decide) ?_
            exact ih (x3 + (1 : Int32)) (upd u_12 24 u_11) u_13 hF _ _ _ (hP.sub [0, 1, 2] rfl) (hD.sub [0, 1, 2] rfl rfl) hS (lv_sub hl [1, 2, 3, 0] rfl)
      · have hF := it_p c_4 hF
        refine lv_iload_n hx hb dX10_endsOn_21 rfl (lv_at hl 3 rfl) ?_
        cases hF
        exact ret_i C0 hP hD hS [0, 1, 2] rfl rfl rfl dX10_endsOn_22 rfl
set_option maxHeartbeats 4000000 in
set_option maxRecDepth 100000 in
theorem mX10_endsOn (l : Launch) (g : GG) (a_t : Nat) (a_r1 : Nat) (p_t : Nat → Nat) (n : Nat) (x2 : Int32) (o_t : Nat → Int32) (f_t_15 : Nat → Int32) (f_r1 : Nat → Int32) (r : Int32) (o_t' : Nat → Int32) (f_r1' : Nat → Int32) (hF : fX10_endsOn n x2 o_t f_t_15 f_r1 = some (r, o_t', f_r1')) : MI l g yX10_endsOn wsX10_endsOn ({ frames := 4, cells := 0, slots := 0, locals := 93 } : Room) [.ref a_t, .ref a_r1, .int x2] [oX10 a_t p_t o_t, aI g (p_t 15) 266 f_t_15, aI g a_r1 17 f_r1] r [oX10 a_t p_t o_t', aI g (p_t 15) 266 f_t_15, aI g a_r1 17 f_r1'] := by
  refine MI.of (cc := cX10_endsOn) (maxL := 4) (rt := .int) (own := RX10) rfl rfl (by decide) (Nat.le_of_ble_eq_true rfl) ?_
  intro p e s m args below meth c A C0 hP hD hS ls hl
  obtain ⟨hx, hb, hml, hown, hts, hr, hlk, hK, hA, hSW⟩ := id C0
  have hl : lv_has ls 4 [(0, .ref a_t), (1, .ref a_r1), (2, .int x2)] := hl
  rw [fX10_endsOn] at hF
  refine lv_aload_n hx hb dX10_endsOn_0 rfl (lv_at hl 0 rfl) ?_
  refine lv_iconst (v := (0 : Int32)) hx hb dX10_endsOn_1 (by decide) ?_
  refine va_put (D := g.1) (ci := 10) (v := .int (0 : Int32)) (ty := .int) (C := RX10) (T := TX10) (N := 35) hx hb hts iX10_endsOn_X10 tyX10 tyX10_ok nmX10 hown hK.1 hP hD hS 0 rfl rfl 24 (by decide) (hts _ kX10_endsOn_287) (fun _ h9 => h9) rfl (by decide +kernel) rfl rfl (Nat.le_of_ble_eq_true rfl) dX10_endsOn_2 (fun H locs hP hD hS => ?_)
  have hP : va_P g.1 vwCl [oX10 a_t p_t (upd o_t 24 (0 : Int32)), aI g (p_t 15) 266 f_t_15, aI g a_r1 17 f_r1] H := hP
  have hD : va_D A [oX10 a_t p_t (upd o_t 24 (0 : Int32)), aI g (p_t 15) 266 f_t_15, aI g a_r1 17 f_r1] := hD
  refine lv_iconst (v := (0 : Int32)) hx hb dX10_endsOn_5 (by decide) ?_
  refine lv_istore_n (lv' := [(3, .int (0 : Int32)), (0, .ref a_t), (1, .ref a_r1), (2, .int x2)]) hx hb dX10_endsOn_6 rfl hl (by decide) rfl (fun ls hl => ?_)
  refine wX10_endsOn_L7 C0 a_t a_r1 p_t n x2 f_t_15 r o_t' f_r1' _ ?_ n (0 : Int32) (upd o_t 24 (0 : Int32)) f_r1 hF _ _ _ (hP.sub [0, 1, 2] rfl) (hD.sub [0, 1, 2] rfl rfl) hS (lv_sub hl [1, 2, 3, 0] rfl)
  · intro o_t_x7 f_r1_x7 H locs ls hF hP hD hS hl
    refine lv_bipush (v := (-2 : Int32)) hx hb dX10_endsOn_56 (by decide) ?_
    cases hF
    exact ret_i C0 hP hD hS [0, 1, 2] rfl rfl rfl dX10_endsOn_58 rfl

theorem dAX10_endsNow : ∀ q ∈ ([(0, (.aload_n 0, 1)), (1, (.getfield 26, 3)), (4, (.iconst 0, 1)), (5, (.aload_n 0, 1)), (6, (.getfield 35, 3)), (9, (.iconst 0, 1)), (10, (.bipush 17, 2)), (12, (.invokestatic 168, 3)), (15, (.aload_n 0, 1)), (16, (.aload_n 0, 1)), (17, (.getfield 35, 3)), (20, (.iconst 0, 1)), (21, (.invokevirtual 296, 3)), (24, (.ireturn, 1))] : List (Nat × (Instr × Nat))), decode cX10_endsNow q.1 = .ok q.2 := by decide +kernel
theorem dX10_endsNow_0 : decode cX10_endsNow 0 = .ok (.aload_n 0, 1) := dAX10_endsNow (0, (.aload_n 0, 1)) (List.mem_of_getElem? (i := 0) rfl)
theorem dX10_endsNow_1 : decode cX10_endsNow 1 = .ok (.getfield 26, 3) := dAX10_endsNow (1, (.getfield 26, 3)) (List.mem_of_getElem? (i := 1) rfl)
theorem dX10_endsNow_4 : decode cX10_endsNow 4 = .ok (.iconst 0, 1) := dAX10_endsNow (4, (.iconst 0, 1)) (List.mem_of_getElem? (i := 2) rfl)
theorem dX10_endsNow_5 : decode cX10_endsNow 5 = .ok (.aload_n 0, 1) := dAX10_endsNow (5, (.aload_n 0, 1)) (List.mem_of_getElem? (i := 3) rfl)
theorem dX10_endsNow_6 : decode cX10_endsNow 6 = .ok (.getfield 35, 3) := dAX10_endsNow (6, (.getfield 35, 3)) (List.mem_of_getElem? (i := 4) rfl)
theorem dX10_endsNow_9 : decode cX10_endsNow 9 = .ok (.iconst 0, 1) := dAX10_endsNow (9, (.iconst 0, 1)) (List.mem_of_getElem? (i := 5) rfl)
theorem dX10_endsNow_10 : decode cX10_endsNow 10 = .ok (.bipush 17, 2) := dAX10_endsNow (10, (.bipush 17, 2)) (List.mem_of_getElem? (i := 6) rfl)
theorem dX10_endsNow_12 : decode cX10_endsNow 12 = .ok (.invokestatic 168, 3) := dAX10_endsNow (12, (.invokestatic 168, 3)) (List.mem_of_getElem? (i := 7) rfl)
theorem dX10_endsNow_15 : decode cX10_endsNow 15 = .ok (.aload_n 0, 1) := dAX10_endsNow (15, (.aload_n 0, 1)) (List.mem_of_getElem? (i := 8) rfl)
theorem dX10_endsNow_16 : decode cX10_endsNow 16 = .ok (.aload_n 0, 1) := dAX10_endsNow (16, (.aload_n 0, 1)) (List.mem_of_getElem? (i := 9) rfl)
theorem dX10_endsNow_17 : decode cX10_endsNow 17 = .ok (.getfield 35, 3) := dAX10_endsNow (17, (.getfield 35, 3)) (List.mem_of_getElem? (i := 10) rfl)
theorem dX10_endsNow_20 : decode cX10_endsNow 20 = .ok (.iconst 0, 1) := dAX10_endsNow (20, (.iconst 0, 1)) (List.mem_of_getElem? (i := 11) rfl)
theorem dX10_endsNow_21 : decode cX10_endsNow 21 = .ok (.invokevirtual 296, 3) := dAX10_endsNow (21, (.invokevirtual 296, 3)) (List.mem_of_getElem? (i := 12) rfl)
theorem dX10_endsNow_24 : decode cX10_endsNow 24 = .ok (.ireturn, 1) := dAX10_endsNow (24, (.ireturn, 1)) (List.mem_of_getElem? (i := 13) rfl)
set_option maxRecDepth 20000 in
theorem ggX10_endsNow_X10_copy : GoodIn wsX10_endsNow wsX10_copy := goodIn_r _ [6] rfl (by decide +kernel)
set_option maxRecDepth 20000 in
theorem gX10_endsNow_X10_copy : GoodIn wsX10_endsNow (va_wsS RX10 168 yX10_copy wsX10_copy) := goodIn_app (goodIn_of _ (by decide +kernel)) ggX10_endsNow_X10_copy
set_option maxRecDepth 20000 in
theorem ggX10_endsNow_X10_endsOn : GoodIn wsX10_endsNow wsX10_endsOn := goodIn_r _ [10, 11, 12, 13, 14, 5, 15, 16, 17, 18, 19, 20, 21, 22, 23, 24, 25, 26, 27, 28, 29, 30, 31, 32, 33, 34, 35, 36, 37, 38, 39, 40, 41, 42, 43, 44, 45, 46, 47, 48, 49, 50, 51, 52, 53, 54, 55, 56, 57, 58, 59, 60, 61, 62, 63, 64, 65, 66, 67, 68, 69, 70, 71, 72, 73, 74, 75, 76, 77, 78, 79, 80, 81, 82, 83, 84, 85, 86, 87, 88, 89, 90, 91, 92] rfl (by decide +kernel)
set_option maxRecDepth 20000 in
theorem gX10_endsNow_X10_endsOn : GoodIn wsX10_endsNow (wsV RX10 296 RX10 yX10_endsOn wsX10_endsOn) := goodIn_app (goodIn_of _ (by decide +kernel)) ggX10_endsNow_X10_endsOn
theorem kX10_endsNow_26 : Cond.fieldLink RX10 26 "EveningVowModel" "st" "[I" ∈ wsX10_endsNow := List.mem_of_getElem? (i := 1) rfl
theorem iX10_endsNow_X10 : ∀ w ∈ u_ws RX10 TX10 35, w ∈ wsX10_endsNow := fun w h => (List.mem_cons_of_mem _ (List.mem_append_right _ h))
theorem kX10_endsNow_35 : Cond.fieldLink RX10 35 "EveningVowModel" "trial" "[I" ∈ wsX10_endsNow := List.mem_of_getElem? (i := 2) rfl
set_option maxHeartbeats 4000000 in
set_option maxRecDepth 100000 in
theorem mX10_endsNow (l : Launch) (g : GG) (a_t : Nat) (p_t : Nat → Nat) (n : Nat) (o_t : Nat → Int32) (f_t_15 : Nat → Int32) (f_t_17 : Nat → Int32) (f_t_25 : Nat → Int32) (r : Int32) (o_t' : Nat → Int32) (f_t_25' : Nat → Int32) (hF : fX10_endsNow n o_t f_t_15 f_t_17 f_t_25 = some (r, o_t', f_t_25')) : MI l g yX10_endsNow wsX10_endsNow ({ frames := 5, cells := 0, slots := 0, locals := 116 } : Room) [.ref a_t] [oX10 a_t p_t o_t, aI g (p_t 15) 266 f_t_15, aI g (p_t 17) 17 f_t_17, aI g (p_t 25) 17 f_t_25] r [oX10 a_t p_t o_t', aI g (p_t 15) 266 f_t_15, aI g (p_t 17) 17 f_t_17, aI g (p_t 25) 17 f_t_25'] := by
  refine MI.of (cc := cX10_endsNow) (maxL := 1) (rt := .int) (own := RX10) rfl rfl (by decide) (Nat.le_of_ble_eq_true rfl) ?_
  intro p e s m args below meth c A C0 hP hD hS ls hl
  obtain ⟨hx, hb, hml, hown, hts, hr, hlk, hK, hA, hSW⟩ := id C0
  have hl : lv_has ls 1 [(0, .ref a_t)] := hl
  rw [fX10_endsNow] at hF
  refine lv_aload_n hx hb dX10_endsNow_0 rfl (lv_at hl 0 rfl) ?_
  refine va_get (D := g.1) (ci := 10) (v := .ref (p_t 17)) (C := RX10) (T := TX10) (N := 35) hx hb hts iX10_endsNow_X10 hown hK.1 hP 0 rfl rfl 17 (by decide) (hts _ kX10_endsNow_26) (fun _ h9 => h9) rfl dX10_endsNow_1 ?_
  refine lv_iconst (v := (0 : Int32)) hx hb dX10_endsNow_4 (by decide) ?_
  refine lv_aload_n hx hb dX10_endsNow_5 rfl (lv_at hl 0 rfl) ?_
  refine va_get (D := g.1) (ci := 10) (v := .ref (p_t 25)) (C := RX10) (T := TX10) (N := 35) hx hb hts iX10_endsNow_X10 hown hK.1 hP 0 rfl rfl 25 (by decide) (hts _ kX10_endsNow_35) (fun _ h9 => h9) rfl dX10_endsNow_6 ?_
  refine lv_iconst (v := (0 : Int32)) hx hb dX10_endsNow_9 (by decide) ?_
  refine lv_bipush (v := (17 : Int32)) hx hb dX10_endsNow_10 (by decide) ?_
  obtain ⟨u_1, hu_2, hF⟩ := ob1_some hF
  refine call_sv (wr := [oX10 a_t p_t o_t, aI g (p_t 15) 266 f_t_15]) (As := [.ref (p_t 17), .int (0 : Int32), .ref (p_t 25), .int (0 : Int32), .int (17 : Int32)]) (rest := []) C0 (mX10_copy l g (p_t 17) (p_t 25) n (0 : Int32) (0 : Int32) (17 : Int32) 17 17 f_t_17 f_t_25 u_1 hu_2) (va_cwS 5 hts gX10_endsNow_X10_copy rfl rfl rfl (by decide +kernel) ⟨Nat.le_of_ble_eq_true rfl, Nat.le_of_ble_eq_true rfl⟩) hP hD hS [2, 3] [0, 1] rfl rfl rfl rfl rfl (by decide) hl.1 rfl rfl (Nat.le_of_ble_eq_true rfl) ⟨Nat.zero_le _, Nat.zero_le _⟩ dX10_endsNow_12 ?_
  intro H locs hP hD hS
  refine lv_aload_n hx hb dX10_endsNow_15 rfl (lv_at hl 0 rfl) ?_
  refine lv_aload_n hx hb dX10_endsNow_16 rfl (lv_at hl 0 rfl) ?_
  refine va_get (D := g.1) (ci := 10) (v := .ref (p_t 25)) (C := RX10) (T := TX10) (N := 35) hx hb hts iX10_endsNow_X10 hown hK.1 hP 0 rfl rfl 25 (by decide) (hts _ kX10_endsNow_35) (fun _ h9 => h9) rfl dX10_endsNow_17 ?_
  refine lv_iconst (v := (0 : Int32)) hx hb dX10_endsNow_20 (by decide) ?_
  obtain ⟨u_3, u_4, u_5, hu_6, hF⟩ := ob3_some hF
  refine call_i (wr := [aI g (p_t 17) 17 f_t_17]) (As := [.ref (p_t 25), .int (0 : Int32)]) (rest := []) (ci := 10) (q0 := 0) C0 (mX10_endsOn l g a_t (p_t 25) p_t n (0 : Int32) o_t f_t_15 u_1 u_3 u_4 u_5 hu_6) (cwV 2 hts gX10_endsNow_X10_endsOn rfl rfl rfl (by decide +kernel) ⟨Nat.le_of_ble_eq_true rfl, Nat.le_of_ble_eq_true rfl⟩) hP hD hS [0, 1, 3] [2] rfl rfl rfl rfl rfl (by decide) rfl rfl hl.1 rfl rfl (Nat.le_of_ble_eq_true rfl) ⟨Nat.zero_le _, Nat.zero_le _⟩ dX10_endsNow_21 ?_
  intro H locs hP hD hS
  cases hF
  exact ret_i C0 hP hD hS [1, 2, 0, 3] rfl rfl rfl dX10_endsNow_24 rfl

theorem dAX10_guest : ∀ q ∈ ([(0, (.aload_n 0, 1)), (1, (.invokevirtual 159, 3)), (4, (.aload_n 0, 1)), (5, (.iload_n 1, 1)), (6, (.invokevirtual 300, 3)), (9, (.ifCond .eq 12, 3)), (12, (.iload_n 2, 1)), (13, (.iconst 0, 1)), (14, (.iconst 5, 1)), (15, (.invokestatic 144, 3)), (18, (.ifCond .ne 9, 3)), (21, (.aload_n 0, 1)), (22, (.iconst 1, 1)), (23, (.invokevirtual 303, 3)), (26, (.ireturn, 1)), (27, (.iload_n 2, 1)), (28, (.tableswitch 104 0 4 #[36, 42, 49, 59, 76], 36)), (64, (.aload_n 0, 1)), (65, (.iload_n 1, 1)), (66, (.invokevirtual 267, 3)), (69, (.ireturn, 1)), (70, (.aload_n 0, 1)), (71, (.getfield 26, 3)), (74, (.iload_n 1, 1)), (75, (.iaload, 1)), (76, (.ireturn, 1)), (77, (.aload_n 0, 1)), (78, (.aload_n 0, 1)), (79, (.getfield 26, 3)), (82, (.iload_n 1, 1)), (83, (.invokevirtual 263, 3)), (86, (.ireturn, 1)), (87, (.aload_n 0, 1)), (88, (.getfield 26, 3)), (91, (.iload_n 1, 1)), (92, (.invokestatic 248, 3)), (95, (.ifCond .eq 7, 3)), (98, (.iconst 1, 1)), (99, (.goto 4, 3)), (102, (.iconst 0, 1)), (103, (.ireturn, 1)), (104, (.aload_n 0, 1)), (105, (.getfield 26, 3)), (108, (.iload_n 1, 1)), (109, (.invokestatic 248, 3)), (112, (.ifCond .eq 8, 3)), (115, (.bipush (-2), 2)), (117, (.goto 14, 3)), (120, (.aload_n 0, 1)), (121, (.getfield 26, 3)), (124, (.bipush 7, 2)), (126, (.iload_n 1, 1)), (127, (.iadd, 1)), (128, (.iaload, 1)), (129, (.iconst 1, 1)), (130, (.isub, 1)), (131, (.ireturn, 1)), (132, (.aload_n 0, 1)), (133, (.getfield 20, 3)), (136, (.bipush 9, 2)), (138, (.iconst 4, 1)), (139, (.iload_n 1, 1)), (140, (.imul, 1)), (141, (.iadd, 1)), (142, (.iconst 3, 1)), (143, (.iadd, 1)), (144, (.iaload, 1)), (145, (.ifCond .ne 8, 3)), (148, (.bipush (-2), 2)), (150, (.goto 18, 3)), (153, (.aload_n 0, 1)), (154, (.getfield 20, 3)), (157, (.bipush 9, 2)), (159, (.iconst 4, 1)), (160, (.iload_n 1, 1)), (161, (.imul, 1)), (162, (.iadd, 1)), (163, (.iconst 3, 1)), (164, (.iadd, 1)), (165, (.iaload, 1)), (166, (.iconst 1, 1)), (167, (.isub, 1)), (168, (.ireturn, 1))] : List (Nat × (Instr × Nat))), decode cX10_guest q.1 = .ok q.2 := by decide +kernel
theorem dX10_guest_0 : decode cX10_guest 0 = .ok (.aload_n 0, 1) := dAX10_guest (0, (.aload_n 0, 1)) (List.mem_of_getElem? (i := 0) rfl)
theorem dX10_guest_1 : decode cX10_guest 1 = .ok (.invokevirtual 159, 3) := dAX10_guest (1, (.invokevirtual 159, 3)) (List.mem_of_getElem? (i := 1) rfl)
theorem dX10_guest_4 : decode cX10_guest 4 = .ok (.aload_n 0, 1) := dAX10_guest (4, (.aload_n 0, 1)) (List.mem_of_getElem? (i := 2) rfl)
theorem dX10_guest_5 : decode cX10_guest 5 = .ok (.iload_n 1, 1) := dAX10_guest (5, (.iload_n 1, 1)) (List.mem_of_getElem? (i := 3) rfl)
theorem dX10_guest_6 : decode cX10_guest 6 = .ok (.invokevirtual 300, 3) := dAX10_guest (6, (.invokevirtual 300, 3)) (List.mem_of_getElem? (i := 4) rfl)
theorem dX10_guest_9 : decode cX10_guest 9 = .ok (.ifCond .eq 12, 3) := dAX10_guest (9, (.ifCond .eq 12, 3)) (List.mem_of_getElem? (i := 5) rfl)
theorem dX10_guest_12 : decode cX10_guest 12 = .ok (.iload_n 2, 1) := dAX10_guest (12, (.iload_n 2, 1)) (List.mem_of_getElem? (i := 6) rfl)
theorem dX10_guest_13 : decode cX10_guest 13 = .ok (.iconst 0, 1) := dAX10_guest (13, (.iconst 0, 1)) (List.mem_of_getElem? (i := 7) rfl)
theorem dX10_guest_14 : decode cX10_guest 14 = .ok (.iconst 5, 1) := dAX10_guest (14, (.iconst 5, 1)) (List.mem_of_getElem? (i := 8) rfl)
theorem dX10_guest_15 : decode cX10_guest 15 = .ok (.invokestatic 144, 3) := dAX10_guest (15, (.invokestatic 144, 3)) (List.mem_of_getElem? (i := 9) rfl)
theorem dX10_guest_18 : decode cX10_guest 18 = .ok (.ifCond .ne 9, 3) := dAX10_guest (18, (.ifCond .ne 9, 3)) (List.mem_of_getElem? (i := 10) rfl)
theorem dX10_guest_21 : decode cX10_guest 21 = .ok (.aload_n 0, 1) := dAX10_guest (21, (.aload_n 0, 1)) (List.mem_of_getElem? (i := 11) rfl)
theorem dX10_guest_22 : decode cX10_guest 22 = .ok (.iconst 1, 1) := dAX10_guest (22, (.iconst 1, 1)) (List.mem_of_getElem? (i := 12) rfl)
theorem dX10_guest_23 : decode cX10_guest 23 = .ok (.invokevirtual 303, 3) := dAX10_guest (23, (.invokevirtual 303, 3)) (List.mem_of_getElem? (i := 13) rfl)
theorem dX10_guest_26 : decode cX10_guest 26 = .ok (.ireturn, 1) := dAX10_guest (26, (.ireturn, 1)) (List.mem_of_getElem? (i := 14) rfl)
theorem dX10_guest_27 : decode cX10_guest 27 = .ok (.iload_n 2, 1) := dAX10_guest (27, (.iload_n 2, 1)) (List.mem_of_getElem? (i := 15) rfl)
theorem dX10_guest_28 : decode cX10_guest 28 = .ok (.tableswitch 104 0 4 #[36, 42, 49, 59, 76], 36) := dAX10_guest (28, (.tableswitch 104 0 4 #[36, 42, 49, 59, 76], 36)) (List.mem_of_getElem? (i := 16) rfl)
theorem dX10_guest_64 : decode cX10_guest 64 = .ok (.aload_n 0, 1) := dAX10_guest (64, (.aload_n 0, 1)) (List.mem_of_getElem? (i := 17) rfl)
theorem dX10_guest_65 : decode cX10_guest 65 = .ok (.iload_n 1, 1) := dAX10_guest (65, (.iload_n 1, 1)) (List.mem_of_getElem? (i := 18) rfl)
theorem dX10_guest_66 : decode cX10_guest 66 = .ok (.invokevirtual 267, 3) := dAX10_guest (66, (.invokevirtual 267, 3)) (List.mem_of_getElem? (i := 19) rfl)
theorem dX10_guest_69 : decode cX10_guest 69 = .ok (.ireturn, 1) := dAX10_guest (69, (.ireturn, 1)) (List.mem_of_getElem? (i := 20) rfl)
theorem dX10_guest_70 : decode cX10_guest 70 = .ok (.aload_n 0, 1) := dAX10_guest (70, (.aload_n 0, 1)) (List.mem_of_getElem? (i := 21) rfl)
theorem dX10_guest_71 : decode cX10_guest 71 = .ok (.getfield 26, 3) := dAX10_guest (71, (.getfield 26, 3)) (List.mem_of_getElem? (i := 22) rfl)
theorem dX10_guest_74 : decode cX10_guest 74 = .ok (.iload_n 1, 1) := dAX10_guest (74, (.iload_n 1, 1)) (List.mem_of_getElem? (i := 23) rfl)
theorem dX10_guest_75 : decode cX10_guest 75 = .ok (.iaload, 1) := dAX10_guest (75, (.iaload, 1)) (List.mem_of_getElem? (i := 24) rfl)
theorem dX10_guest_76 : decode cX10_guest 76 = .ok (.ireturn, 1) := dAX10_guest (76, (.ireturn, 1)) (List.mem_of_getElem? (i := 25) rfl)
theorem dX10_guest_77 : decode cX10_guest 77 = .ok (.aload_n 0, 1) := dAX10_guest (77, (.aload_n 0, 1)) (List.mem_of_getElem? (i := 26) rfl)
theorem dX10_guest_78 : decode cX10_guest 78 = .ok (.aload_n 0, 1) := dAX10_guest (78, (.aload_n 0, 1)) (List.mem_of_getElem? (i := 27) rfl)
theorem dX10_guest_79 : decode cX10_guest 79 = .ok (.getfield 26, 3) := dAX10_guest (79, (.getfield 26, 3)) (List.mem_of_getElem? (i := 28) rfl)
theorem dX10_guest_82 : decode cX10_guest 82 = .ok (.iload_n 1, 1) := dAX10_guest (82, (.iload_n 1, 1)) (List.mem_of_getElem? (i := 29) rfl)
theorem dX10_guest_83 : decode cX10_guest 83 = .ok (.invokevirtual 263, 3) := dAX10_guest (83, (.invokevirtual 263, 3)) (List.mem_of_getElem? (i := 30) rfl)
theorem dX10_guest_86 : decode cX10_guest 86 = .ok (.ireturn, 1) := dAX10_guest (86, (.ireturn, 1)) (List.mem_of_getElem? (i := 31) rfl)
theorem dX10_guest_87 : decode cX10_guest 87 = .ok (.aload_n 0, 1) := dAX10_guest (87, (.aload_n 0, 1)) (List.mem_of_getElem? (i := 32) rfl)
theorem dX10_guest_88 : decode cX10_guest 88 = .ok (.getfield 26, 3) := dAX10_guest (88, (.getfield 26, 3)) (List.mem_of_getElem? (i := 33) rfl)
theorem dX10_guest_91 : decode cX10_guest 91 = .ok (.iload_n 1, 1) := dAX10_guest (91, (.iload_n 1, 1)) (List.mem_of_getElem? (i := 34) rfl)
theorem dX10_guest_92 : decode cX10_guest 92 = .ok (.invokestatic 248, 3) := dAX10_guest (92, (.invokestatic 248, 3)) (List.mem_of_getElem? (i := 35) rfl)
theorem dX10_guest_95 : decode cX10_guest 95 = .ok (.ifCond .eq 7, 3) := dAX10_guest (95, (.ifCond .eq 7, 3)) (List.mem_of_getElem? (i := 36) rfl)
theorem dX10_guest_98 : decode cX10_guest 98 = .ok (.iconst 1, 1) := dAX10_guest (98, (.iconst 1, 1)) (List.mem_of_getElem? (i := 37) rfl)
theorem dX10_guest_99 : decode cX10_guest 99 = .ok (.goto 4, 3) := dAX10_guest (99, (.goto 4, 3)) (List.mem_of_getElem? (i := 38) rfl)
theorem dX10_guest_102 : decode cX10_guest 102 = .ok (.iconst 0, 1) := dAX10_guest (102, (.iconst 0, 1)) (List.mem_of_getElem? (i := 39) rfl)
theorem dX10_guest_103 : decode cX10_guest 103 = .ok (.ireturn, 1) := dAX10_guest (103, (.ireturn, 1)) (List.mem_of_getElem? (i := 40) rfl)
theorem dX10_guest_104 : decode cX10_guest 104 = .ok (.aload_n 0, 1) := dAX10_guest (104, (.aload_n 0, 1)) (List.mem_of_getElem? (i := 41) rfl)
theorem dX10_guest_105 : decode cX10_guest 105 = .ok (.getfield 26, 3) := dAX10_guest (105, (.getfield 26, 3)) (List.mem_of_getElem? (i := 42) rfl)
theorem dX10_guest_108 : decode cX10_guest 108 = .ok (.iload_n 1, 1) := dAX10_guest (108, (.iload_n 1, 1)) (List.mem_of_getElem? (i := 43) rfl)
theorem dX10_guest_109 : decode cX10_guest 109 = .ok (.invokestatic 248, 3) := dAX10_guest (109, (.invokestatic 248, 3)) (List.mem_of_getElem? (i := 44) rfl)
theorem dX10_guest_112 : decode cX10_guest 112 = .ok (.ifCond .eq 8, 3) := dAX10_guest (112, (.ifCond .eq 8, 3)) (List.mem_of_getElem? (i := 45) rfl)
theorem dX10_guest_115 : decode cX10_guest 115 = .ok (.bipush (-2), 2) := dAX10_guest (115, (.bipush (-2), 2)) (List.mem_of_getElem? (i := 46) rfl)
theorem dX10_guest_117 : decode cX10_guest 117 = .ok (.goto 14, 3) := dAX10_guest (117, (.goto 14, 3)) (List.mem_of_getElem? (i := 47) rfl)
theorem dX10_guest_120 : decode cX10_guest 120 = .ok (.aload_n 0, 1) := dAX10_guest (120, (.aload_n 0, 1)) (List.mem_of_getElem? (i := 48) rfl)
theorem dX10_guest_121 : decode cX10_guest 121 = .ok (.getfield 26, 3) := dAX10_guest (121, (.getfield 26, 3)) (List.mem_of_getElem? (i := 49) rfl)
theorem dX10_guest_124 : decode cX10_guest 124 = .ok (.bipush 7, 2) := dAX10_guest (124, (.bipush 7, 2)) (List.mem_of_getElem? (i := 50) rfl)
theorem dX10_guest_126 : decode cX10_guest 126 = .ok (.iload_n 1, 1) := dAX10_guest (126, (.iload_n 1, 1)) (List.mem_of_getElem? (i := 51) rfl)
theorem dX10_guest_127 : decode cX10_guest 127 = .ok (.iadd, 1) := dAX10_guest (127, (.iadd, 1)) (List.mem_of_getElem? (i := 52) rfl)
theorem dX10_guest_128 : decode cX10_guest 128 = .ok (.iaload, 1) := dAX10_guest (128, (.iaload, 1)) (List.mem_of_getElem? (i := 53) rfl)
theorem dX10_guest_129 : decode cX10_guest 129 = .ok (.iconst 1, 1) := dAX10_guest (129, (.iconst 1, 1)) (List.mem_of_getElem? (i := 54) rfl)
theorem dX10_guest_130 : decode cX10_guest 130 = .ok (.isub, 1) := dAX10_guest (130, (.isub, 1)) (List.mem_of_getElem? (i := 55) rfl)
theorem dX10_guest_131 : decode cX10_guest 131 = .ok (.ireturn, 1) := dAX10_guest (131, (.ireturn, 1)) (List.mem_of_getElem? (i := 56) rfl)
theorem dX10_guest_132 : decode cX10_guest 132 = .ok (.aload_n 0, 1) := dAX10_guest (132, (.aload_n 0, 1)) (List.mem_of_getElem? (i := 57) rfl)
theorem dX10_guest_133 : decode cX10_guest 133 = .ok (.getfield 20, 3) := dAX10_guest (133, (.getfield 20, 3)) (List.mem_of_getElem? (i := 58) rfl)
theorem dX10_guest_136 : decode cX10_guest 136 = .ok (.bipush 9, 2) := dAX10_guest (136, (.bipush 9, 2)) (List.mem_of_getElem? (i := 59) rfl)
theorem dX10_guest_138 : decode cX10_guest 138 = .ok (.iconst 4, 1) := dAX10_guest (138, (.iconst 4, 1)) (List.mem_of_getElem? (i := 60) rfl)
theorem dX10_guest_139 : decode cX10_guest 139 = .ok (.iload_n 1, 1) := dAX10_guest (139, (.iload_n 1, 1)) (List.mem_of_getElem? (i := 61) rfl)
theorem dX10_guest_140 : decode cX10_guest 140 = .ok (.imul, 1) := dAX10_guest (140, (.imul, 1)) (List.mem_of_getElem? (i := 62) rfl)
theorem dX10_guest_141 : decode cX10_guest 141 = .ok (.iadd, 1) := dAX10_guest (141, (.iadd, 1)) (List.mem_of_getElem? (i := 63) rfl)
theorem dX10_guest_142 : decode cX10_guest 142 = .ok (.iconst 3, 1) := dAX10_guest (142, (.iconst 3, 1)) (List.mem_of_getElem? (i := 64) rfl)
theorem dX10_guest_143 : decode cX10_guest 143 = .ok (.iadd, 1) := dAX10_guest (143, (.iadd, 1)) (List.mem_of_getElem? (i := 65) rfl)
theorem dX10_guest_144 : decode cX10_guest 144 = .ok (.iaload, 1) := dAX10_guest (144, (.iaload, 1)) (List.mem_of_getElem? (i := 66) rfl)
theorem dX10_guest_145 : decode cX10_guest 145 = .ok (.ifCond .ne 8, 3) := dAX10_guest (145, (.ifCond .ne 8, 3)) (List.mem_of_getElem? (i := 67) rfl)
theorem dX10_guest_148 : decode cX10_guest 148 = .ok (.bipush (-2), 2) := dAX10_guest (148, (.bipush (-2), 2)) (List.mem_of_getElem? (i := 68) rfl)
theorem dX10_guest_150 : decode cX10_guest 150 = .ok (.goto 18, 3) := dAX10_guest (150, (.goto 18, 3)) (List.mem_of_getElem? (i := 69) rfl)
theorem dX10_guest_153 : decode cX10_guest 153 = .ok (.aload_n 0, 1) := dAX10_guest (153, (.aload_n 0, 1)) (List.mem_of_getElem? (i := 70) rfl)
theorem dX10_guest_154 : decode cX10_guest 154 = .ok (.getfield 20, 3) := dAX10_guest (154, (.getfield 20, 3)) (List.mem_of_getElem? (i := 71) rfl)
theorem dX10_guest_157 : decode cX10_guest 157 = .ok (.bipush 9, 2) := dAX10_guest (157, (.bipush 9, 2)) (List.mem_of_getElem? (i := 72) rfl)
theorem dX10_guest_159 : decode cX10_guest 159 = .ok (.iconst 4, 1) := dAX10_guest (159, (.iconst 4, 1)) (List.mem_of_getElem? (i := 73) rfl)
theorem dX10_guest_160 : decode cX10_guest 160 = .ok (.iload_n 1, 1) := dAX10_guest (160, (.iload_n 1, 1)) (List.mem_of_getElem? (i := 74) rfl)
theorem dX10_guest_161 : decode cX10_guest 161 = .ok (.imul, 1) := dAX10_guest (161, (.imul, 1)) (List.mem_of_getElem? (i := 75) rfl)
theorem dX10_guest_162 : decode cX10_guest 162 = .ok (.iadd, 1) := dAX10_guest (162, (.iadd, 1)) (List.mem_of_getElem? (i := 76) rfl)
theorem dX10_guest_163 : decode cX10_guest 163 = .ok (.iconst 3, 1) := dAX10_guest (163, (.iconst 3, 1)) (List.mem_of_getElem? (i := 77) rfl)
theorem dX10_guest_164 : decode cX10_guest 164 = .ok (.iadd, 1) := dAX10_guest (164, (.iadd, 1)) (List.mem_of_getElem? (i := 78) rfl)
theorem dX10_guest_165 : decode cX10_guest 165 = .ok (.iaload, 1) := dAX10_guest (165, (.iaload, 1)) (List.mem_of_getElem? (i := 79) rfl)
theorem dX10_guest_166 : decode cX10_guest 166 = .ok (.iconst 1, 1) := dAX10_guest (166, (.iconst 1, 1)) (List.mem_of_getElem? (i := 80) rfl)
theorem dX10_guest_167 : decode cX10_guest 167 = .ok (.isub, 1) := dAX10_guest (167, (.isub, 1)) (List.mem_of_getElem? (i := 81) rfl)
theorem dX10_guest_168 : decode cX10_guest 168 = .ok (.ireturn, 1) := dAX10_guest (168, (.ireturn, 1)) (List.mem_of_getElem? (i := 82) rfl)
set_option maxRecDepth 20000 in
theorem ggX10_guest_X10_good : GoodIn wsX10_guest wsX10_good := goodIn_r _ [7, 8, 9, 33, 34, 35, 36, 37, 38, 39, 40, 41, 42, 43, 44, 45, 46, 47, 48, 49, 50, 51, 52, 53, 54, 55, 56, 57, 58, 59, 60, 61, 62, 63, 64, 65, 66, 67] rfl (by decide +kernel)
set_option maxRecDepth 20000 in
theorem gX10_guest_X10_good : GoodIn wsX10_guest (wsV RX10 159 RX10 yX10_good wsX10_good) := goodIn_app (goodIn_of _ (by decide +kernel)) ggX10_guest_X10_good
set_option maxRecDepth 20000 in
theorem ggX10_guest_X10_isGuest : GoodIn wsX10_guest wsX10_isGuest := goodIn_r _ [13, 14, 2, 15, 16, 6, 17, 33, 34, 35, 36, 37, 38, 39, 40, 41, 42, 43, 44, 45, 46, 47, 48, 49, 50, 51, 52, 53, 54, 55, 56, 57, 58, 59, 60, 61, 62, 63, 64, 65, 66, 67] rfl (by decide +kernel)
set_option maxRecDepth 20000 in
theorem gX10_guest_X10_isGuest : GoodIn wsX10_guest (wsV RX10 300 RX10 yX10_isGuest wsX10_isGuest) := goodIn_app (goodIn_of _ (by decide +kernel)) ggX10_guest_X10_isGuest
set_option maxRecDepth 20000 in
theorem ggX10_guest_X10_in : GoodIn wsX10_guest wsX10_in := goodIn_r _ [17] rfl (by decide +kernel)
set_option maxRecDepth 20000 in
theorem gX10_guest_X10_in : GoodIn wsX10_guest (va_wsS RX10 144 yX10_in wsX10_in) := goodIn_app (goodIn_of _ (by decide +kernel)) ggX10_guest_X10_in
set_option maxRecDepth 20000 in
theorem ggX10_guest_X10_less : GoodIn wsX10_guest wsX10_less := goodIn_r _ [21, 9, 33, 34, 35, 36, 37, 38, 39, 40, 41, 42, 43, 44, 45, 46, 47, 48, 49, 50, 51, 52, 53, 54, 55, 56, 57, 58, 59, 60, 61, 62, 63, 64, 65, 66, 67] rfl (by decide +kernel)
set_option maxRecDepth 20000 in
theorem gX10_guest_X10_less : GoodIn wsX10_guest (wsV RX10 303 RX10 yX10_less wsX10_less) := goodIn_app (goodIn_of _ (by decide +kernel)) ggX10_guest_X10_less
set_option maxRecDepth 20000 in
theorem ggX10_guest_X10_kindOf : GoodIn wsX10_guest wsX10_kindOf := goodIn_r _ [25, 2, 33, 34, 35, 36, 37, 38, 39, 40, 41, 42, 43, 44, 45, 46, 47, 48, 49, 50, 51, 52, 53, 54, 55, 56, 57, 58, 59, 60, 61, 62, 63, 64, 65, 66, 67] rfl (by decide +kernel)
set_option maxRecDepth 20000 in
theorem gX10_guest_X10_kindOf : GoodIn wsX10_guest (wsV RX10 267 RX10 yX10_kindOf wsX10_kindOf) := goodIn_app (goodIn_of _ (by decide +kernel)) ggX10_guest_X10_kindOf
set_option maxRecDepth 20000 in
theorem ggX10_guest_X10_willOf : GoodIn wsX10_guest wsX10_willOf := goodIn_r _ [29, 2, 30, 31, 6, 32, 33, 34, 35, 36, 37, 38, 39, 40, 41, 42, 43, 44, 45, 46, 47, 48, 49, 50, 51, 52, 53, 54, 55, 56, 57, 58, 59, 60, 61, 62, 63, 64, 65, 66, 67] rfl (by decide +kernel)
set_option maxRecDepth 20000 in
theorem gX10_guest_X10_willOf : GoodIn wsX10_guest (wsV RX10 263 RX10 yX10_willOf wsX10_willOf) := goodIn_app (goodIn_of _ (by decide +kernel)) ggX10_guest_X10_willOf
set_option maxRecDepth 20000 in
theorem ggX10_guest_X10_isIn : GoodIn wsX10_guest wsX10_isIn := goodIn_r _ [32] rfl (by decide +kernel)
set_option maxRecDepth 20000 in
theorem gX10_guest_X10_isIn : GoodIn wsX10_guest (va_wsS RX10 248 yX10_isIn wsX10_isIn) := goodIn_app (goodIn_of _ (by decide +kernel)) ggX10_guest_X10_isIn
theorem kX10_guest_26 : Cond.fieldLink RX10 26 "EveningVowModel" "st" "[I" ∈ wsX10_guest := List.mem_of_getElem? (i := 1) rfl
theorem iX10_guest_X10 : ∀ w ∈ u_ws RX10 TX10 35, w ∈ wsX10_guest := fun w h => (List.mem_cons_of_mem _ (List.mem_append_right _ h))
theorem kX10_guest_20 : Cond.fieldLink RX10 20 "EveningVowModel" "\x72" "[I" ∈ wsX10_guest := List.mem_of_getElem? (i := 2) rfl
set_option maxHeartbeats 4000000 in
set_option maxRecDepth 100000 in
theorem mX10_guest (l : Launch) (g : GG) (a_t : Nat) (p_t : Nat → Nat) (n : Nat) (x1 : Int32) (x2 : Int32) (o_t : Nat → Int32) (f_t_15 : Nat → Int32) (f_t_17 : Nat → Int32) (r : Int32) (o_t' : Nat → Int32) (hF : fX10_guest n x1 x2 o_t f_t_15 f_t_17 = some (r, o_t')) : MI l g yX10_guest wsX10_guest ({ frames := 2, cells := 0, slots := 0, locals := 45 } : Room) [.ref a_t, .int x1, .int x2] [oX10 a_t p_t o_t, aI g (p_t 15) 266 f_t_15, aI g (p_t 17) 17 f_t_17] r [oX10 a_t p_t o_t', aI g (p_t 15) 266 f_t_15, aI g (p_t 17) 17 f_t_17] := by
  refine MI.of (cc := cX10_guest) (maxL := 3) (rt := .int) (own := RX10) rfl rfl (by decide) (Nat.le_of_ble_eq_true rfl) ?_
  intro p e s m args below meth c A C0 hP hD hS ls hl
  obtain ⟨hx, hb, hml, hown, hts, hr, hlk, hK, hA, hSW⟩ := id C0
  have hl : lv_has ls 3 [(0, .ref a_t), (1, .int x1), (2, .int x2)] := hl
  rw [fX10_guest] at hF
  refine lv_aload_n hx hb dX10_guest_0 rfl (lv_at hl 0 rfl) ?_
  obtain ⟨u_1, hu_2, hF⟩ := ob1_some hF
  refine call_v (wr := [aI g (p_t 15) 266 f_t_15, aI g (p_t 17) 17 f_t_17]) (As := []) (rest := []) (ci := 10) (q0 := 0) C0 (mX10_good l g a_t p_t n o_t u_1 hu_2) (cwV 0 hts gX10_guest_X10_good rfl rfl rfl (by decide +kernel) ⟨Nat.le_of_ble_eq_true rfl, Nat.le_of_ble_eq_true rfl⟩) hP hD hS [0] [1, 2] rfl rfl rfl rfl rfl (by decide) rfl rfl hl.1 rfl rfl (Nat.le_of_ble_eq_true rfl) ⟨Nat.zero_le _, Nat.zero_le _⟩ dX10_guest_1 ?_
  intro H locs hP hD hS
  refine lv_aload_n hx hb dX10_guest_4 rfl (lv_at hl 0 rfl) ?_
  refine lv_iload_n hx hb dX10_guest_5 rfl (lv_at hl 1 rfl) ?_
  obtain ⟨u_3, hu_4, hF⟩ := ob1_some hF
  refine call_i (wr := [aI g (p_t 17) 17 f_t_17]) (As := [.int x1]) (rest := []) (ci := 10) (q0 := 0) C0 (mX10_isGuest l g a_t p_t n x1 u_1 f_t_15 u_3 hu_4) (cwV 1 hts gX10_guest_X10_isGuest rfl rfl rfl (by decide +kernel) ⟨Nat.le_of_ble_eq_true rfl, Nat.le_of_ble_eq_true rfl⟩) hP hD hS [2, 0] [1] rfl rfl rfl rfl rfl (by decide) rfl rfl hl.1 rfl rfl (Nat.le_of_ble_eq_true rfl) ⟨Nat.zero_le _, Nat.zero_le _⟩ dX10_guest_6 ?_
  intro H locs hP hD hS
  refine lv_if_eq (tgt := 21) hx hb dX10_guest_9 (by decide) (fun c_5 => ?_) (fun c_5 => ?_)
  · have hF := it_p c_5 hF
    refine lv_aload_n hx hb dX10_guest_21 rfl (lv_at hl 0 rfl) ?_
    refine lv_iconst (v := (1 : Int32)) hx hb dX10_guest_22 (by decide) ?_
    obtain ⟨u_6, u_7, hu_8, hF⟩ := ob2_some hF
    refine call_i (wr := [aI g (p_t 17) 17 f_t_17, aI g (p_t 15) 266 f_t_15]) (As := [.int (1 : Int32)]) (rest := []) (ci := 10) (q0 := 0) C0 (mX10_less l g a_t p_t n (1 : Int32) u_1 u_6 u_7 hu_8) (cwV 1 hts gX10_guest_X10_less rfl rfl rfl (by decide +kernel) ⟨Nat.le_of_ble_eq_true rfl, Nat.le_of_ble_eq_true rfl⟩) hP hD hS [1] [0, 2] rfl rfl rfl rfl rfl (by decide) rfl rfl hl.1 rfl rfl (Nat.le_of_ble_eq_true rfl) ⟨Nat.zero_le _, Nat.zero_le _⟩ dX10_guest_23 ?_
    intro H locs hP hD hS
    cases hF
    exact ret_i C0 hP hD hS [2, 1, 0] rfl rfl rfl dX10_guest_26 rfl
  · have hF := it_n c_5 hF
    refine lv_iload_n hx hb dX10_guest_12 rfl (lv_at hl 2 rfl) ?_
    refine lv_iconst (v := (0 : Int32)) hx hb dX10_guest_13 (by decide) ?_
    refine lv_iconst (v := (5 : Int32)) hx hb dX10_guest_14 (by decide) ?_
    obtain ⟨u_9, hu_10, hF⟩ := ob1_some hF
    refine call_si (wr := [aI g (p_t 17) 17 f_t_17, oX10 a_t p_t u_1, aI g (p_t 15) 266 f_t_15]) (As := [.int x2, .int (0 : Int32), .int (5 : Int32)]) (rest := []) C0 (mX10_in l g n x2 (0 : Int32) (5 : Int32) u_9 hu_10) (va_cwS 3 hts gX10_guest_X10_in rfl rfl rfl (by decide +kernel) ⟨Nat.le_of_ble_eq_true rfl, Nat.le_of_ble_eq_true rfl⟩) hP hD hS [] [0, 1, 2] rfl rfl rfl rfl rfl (by decide) hl.1 rfl rfl (Nat.le_of_ble_eq_true rfl) ⟨Nat.zero_le _, Nat.zero_le _⟩ dX10_guest_15 ?_
    intro H locs hP hD hS
    refine lv_if_ne (tgt := 27) hx hb dX10_guest_18 (by decide) (fun c_11 => ?_) (fun c_11 => ?_)
    · have hF := it_n c_11 hF
      refine lv_iload_n hx hb dX10_guest_27 rfl (lv_at hl 2 rfl) ?_
      by_cases c_12 : x2 = (0 : Int32)
      · have hF := it_p c_12 hF
        refine lv_tableIn (off := 36) (tgt := 64) hx hb dX10_guest_28 (by rw [c_12]; decide) (by rw [c_12]; decide) (by rw [c_12]; rfl) (by decide) ?_
        refine lv_aload_n hx hb dX10_guest_64 rfl (lv_at hl 0 rfl) ?_
        refine lv_iload_n hx hb dX10_guest_65 rfl (lv_at hl 1 rfl) ?_
        obtain ⟨u_13, hu_14, hF⟩ := ob1_some hF
        refine call_i (wr := [aI g (p_t 17) 17 f_t_17]) (As := [.int x1]) (rest := []) (ci := 10) (q0 := 0) C0 (mX10_kindOf l g a_t p_t n x1 u_1 f_t_15 u_13 hu_14) (cwV 1 hts gX10_guest_X10_kindOf rfl rfl rfl (by decide +kernel) ⟨Nat.le_of_ble_eq_true rfl, Nat.le_of_ble_eq_true rfl⟩) hP hD hS [1, 2] [0] rfl rfl rfl rfl rfl (by decide) rfl rfl hl.1 rfl rfl (Nat.le_of_ble_eq_true rfl) ⟨Nat.zero_le _, Nat.zero_le _⟩ dX10_guest_66 ?_
        intro H locs hP hD hS
        cases hF
        exact ret_i C0 hP hD hS [1, 2, 0] rfl rfl rfl dX10_guest_69 rfl
      have hF := it_n c_12 hF
      by_cases c_15 : x2 = (1 : Int32)
      · have hF := it_p c_15 hF
        refine lv_tableIn (off := 42) (tgt := 70) hx hb dX10_guest_28 (by rw [c_15]; decide) (by rw [c_15]; decide) (by rw [c_15]; rfl) (by decide) ?_
        refine lv_aload_n hx hb dX10_guest_70 rfl (lv_at hl 0 rfl) ?_
        refine va_get (D := g.1) (ci := 10) (v := .ref (p_t 17)) (C := RX10) (T := TX10) (N := 35) hx hb hts iX10_guest_X10 hown hK.1 hP 1 rfl rfl 17 (by decide) (hts _ kX10_guest_26) (fun _ h9 => h9) rfl dX10_guest_71 ?_
        refine lv_iload_n hx hb dX10_guest_74 rfl (lv_at hl 1 rfl) ?_
        obtain ⟨h_16, hF⟩ := it_ck hF
        refine va_iald hx hb hK.1 hP 0 0 rfl rfl h_16 dX10_guest_75 ?_
        cases hF
        exact ret_i C0 hP hD hS [1, 2, 0] rfl rfl rfl dX10_guest_76 rfl
      have hF := it_n c_15 hF
      by_cases c_17 : x2 = (2 : Int32)
      · have hF := it_p c_17 hF
        refine lv_tableIn (off := 49) (tgt := 77) hx hb dX10_guest_28 (by rw [c_17]; decide) (by rw [c_17]; decide) (by rw [c_17]; rfl) (by decide) ?_
        refine lv_aload_n hx hb dX10_guest_77 rfl (lv_at hl 0 rfl) ?_
        refine lv_aload_n hx hb dX10_guest_78 rfl (lv_at hl 0 rfl) ?_
        refine va_get (D := g.1) (ci := 10) (v := .ref (p_t 17)) (C := RX10) (T := TX10) (N := 35) hx hb hts iX10_guest_X10 hown hK.1 hP 1 rfl rfl 17 (by decide) (hts _ kX10_guest_26) (fun _ h9 => h9) rfl dX10_guest_79 ?_
        refine lv_iload_n hx hb dX10_guest_82 rfl (lv_at hl 1 rfl) ?_
        obtain ⟨u_18, hu_19, hF⟩ := ob1_some hF
        refine call_i (wr := []) (As := [.ref (p_t 17), .int x1]) (rest := []) (ci := 10) (q0 := 0) C0 (mX10_willOf l g a_t (p_t 17) p_t n x1 u_1 f_t_15 f_t_17 u_18 hu_19) (cwV 2 hts gX10_guest_X10_willOf rfl rfl rfl (by decide +kernel) ⟨Nat.le_of_ble_eq_true rfl, Nat.le_of_ble_eq_true rfl⟩) hP hD hS [1, 2, 0] [] rfl rfl rfl rfl rfl (by decide) rfl rfl hl.1 rfl rfl (Nat.le_of_ble_eq_true rfl) ⟨Nat.zero_le _, Nat.zero_le _⟩ dX10_guest_83 ?_
        intro H locs hP hD hS
        cases hF
        exact ret_i C0 hP hD hS [0, 1, 2] rfl rfl rfl dX10_guest_86 rfl
      have hF := it_n c_17 hF
      by_cases c_20 : x2 = (3 : Int32)
      · have hF := it_p c_20 hF
        refine lv_tableIn (off := 59) (tgt := 87) hx hb dX10_guest_28 (by rw [c_20]; decide) (by rw [c_20]; decide) (by rw [c_20]; rfl) (by decide) ?_
        refine lv_aload_n hx hb dX10_guest_87 rfl (lv_at hl 0 rfl) ?_
        refine va_get (D := g.1) (ci := 10) (v := .ref (p_t 17)) (C := RX10) (T := TX10) (N := 35) hx hb hts iX10_guest_X10 hown hK.1 hP 1 rfl rfl 17 (by decide) (hts _ kX10_guest_26) (fun _ h9 => h9) rfl dX10_guest_88 ?_
        refine lv_iload_n hx hb dX10_guest_91 rfl (lv_at hl 1 rfl) ?_
        obtain ⟨u_21, hu_22, hF⟩ := ob1_some hF
        refine call_si (wr := [oX10 a_t p_t u_1, aI g (p_t 15) 266 f_t_15]) (As := [.ref (p_t 17), .int x1]) (rest := []) C0 (mX10_isIn l g (p_t 17) n x1 f_t_17 u_21 hu_22) (va_cwS 2 hts gX10_guest_X10_isIn rfl rfl rfl (by decide +kernel) ⟨Nat.le_of_ble_eq_true rfl, Nat.le_of_ble_eq_true rfl⟩) hP hD hS [0] [1, 2] rfl rfl rfl rfl rfl (by decide) hl.1 rfl rfl (Nat.le_of_ble_eq_true rfl) ⟨Nat.zero_le _, Nat.zero_le _⟩ dX10_guest_92 ?_
        intro H locs hP hD hS
        refine lv_if_eq (tgt := 102) hx hb dX10_guest_95 (by decide) (fun c_23 => ?_) (fun c_23 => ?_)
        · have hF := it_p c_23 hF
          refine lv_iconst (v := (0 : Int32)) hx hb dX10_guest_102 (by decide) ?_
          cases hF
          exact ret_i C0 hP hD hS [0, 1, 2] rfl rfl rfl dX10_guest_103 rfl
        · have hF := it_n c_23 hF
          refine lv_iconst (v := (1 : Int32)) hx hb dX10_guest_98 (by decide) ?_
          refine lv_goto (tgt := 103) hx hb dX10_guest_99 (by decide) ?_
          cases hF
          exact ret_i C0 hP hD hS [0, 1, 2] rfl rfl rfl dX10_guest_103 rfl
      have hF := it_n c_20 hF
      by_cases c_24 : x2 = (4 : Int32)
      · have hF := it_p c_24 hF
        refine lv_tableIn (off := 76) (tgt := 104) hx hb dX10_guest_28 (by rw [c_24]; decide) (by rw [c_24]; decide) (by rw [c_24]; rfl) (by decide) ?_
        refine lv_aload_n hx hb dX10_guest_104 rfl (lv_at hl 0 rfl) ?_
        refine va_get (D := g.1) (ci := 10) (v := .ref (p_t 17)) (C := RX10) (T := TX10) (N := 35) hx hb hts iX10_guest_X10 hown hK.1 hP 1 rfl rfl 17 (by decide) (hts _ kX10_guest_26) (fun _ h9 => h9) rfl dX10_guest_105 ?_
        refine lv_iload_n hx hb dX10_guest_108 rfl (lv_at hl 1 rfl) ?_
        obtain ⟨u_25, hu_26, hF⟩ := ob1_some hF
        refine call_si (wr := [oX10 a_t p_t u_1, aI g (p_t 15) 266 f_t_15]) (As := [.ref (p_t 17), .int x1]) (rest := []) C0 (mX10_isIn l g (p_t 17) n x1 f_t_17 u_25 hu_26) (va_cwS 2 hts gX10_guest_X10_isIn rfl rfl rfl (by decide +kernel) ⟨Nat.le_of_ble_eq_true rfl, Nat.le_of_ble_eq_true rfl⟩) hP hD hS [0] [1, 2] rfl rfl rfl rfl rfl (by decide) hl.1 rfl rfl (Nat.le_of_ble_eq_true rfl) ⟨Nat.zero_le _, Nat.zero_le _⟩ dX10_guest_109 ?_
        intro H locs hP hD hS
        refine lv_if_eq (tgt := 120) hx hb dX10_guest_112 (by decide) (fun c_27 => ?_) (fun c_27 => ?_)
        · have hF := it_p c_27 hF
          refine lv_aload_n hx hb dX10_guest_120 rfl (lv_at hl 0 rfl) ?_
          refine va_get (D := g.1) (ci := 10) (v := .ref (p_t 17)) (C := RX10) (T := TX10) (N := 35) hx hb hts iX10_guest_X10 hown hK.1 hP 0 rfl rfl 17 (by decide) (hts _ kX10_guest_26) (fun _ h9 => h9) rfl dX10_guest_121 ?_
          refine lv_bipush (v := (7 : Int32)) hx hb dX10_guest_124 (by decide) ?_
          refine lv_iload_n hx hb dX10_guest_126 rfl (lv_at hl 1 rfl) ?_
          refine lv_iadd hx hb dX10_guest_127 ?_
          obtain ⟨h_28, hF⟩ := it_ck hF
          refine va_iald hx hb hK.1 hP 2 0 rfl rfl h_28 dX10_guest_128 ?_
          refine lv_iconst (v := (1 : Int32)) hx hb dX10_guest_129 (by decide) ?_
          refine lv_isub hx hb dX10_guest_130 ?_
          cases hF
          exact ret_i C0 hP hD hS [0, 1, 2] rfl rfl rfl dX10_guest_131 rfl
        · have hF := it_n c_27 hF
          refine lv_bipush (v := (-2 : Int32)) hx hb dX10_guest_115 (by decide) ?_
          refine lv_goto (tgt := 131) hx hb dX10_guest_117 (by decide) ?_
          cases hF
          exact ret_i C0 hP hD hS [0, 1, 2] rfl rfl rfl dX10_guest_131 rfl
      have hF := it_n c_24 hF
      have tc_12 := lv_neT (a := 0) c_12 (by decide)
      have tc_15 := lv_neT (a := 1) c_15 (by decide)
      have tc_17 := lv_neT (a := 2) c_17 (by decide)
      have tc_20 := lv_neT (a := 3) c_20 (by decide)
      have tc_24 := lv_neT (a := 4) c_24 (by decide)
      refine lv_tableOut (tgt := 132) hx hb dX10_guest_28 (by omega) (by decide) ?_
      refine lv_aload_n hx hb dX10_guest_132 rfl (lv_at hl 0 rfl) ?_
      refine va_get (D := g.1) (ci := 10) (v := .ref (p_t 15)) (C := RX10) (T := TX10) (N := 35) hx hb hts iX10_guest_X10 hown hK.1 hP 1 rfl rfl 15 (by decide) (hts _ kX10_guest_20) (fun _ h9 => h9) rfl dX10_guest_133 ?_
      refine lv_bipush (v := (9 : Int32)) hx hb dX10_guest_136 (by decide) ?_
      refine lv_iconst (v := (4 : Int32)) hx hb dX10_guest_138 (by decide) ?_
      refine lv_iload_n hx hb dX10_guest_139 rfl (lv_at hl 1 rfl) ?_
      refine lv_imul hx hb dX10_guest_140 ?_
      refine lv_iadd hx hb dX10_guest_141 ?_
      refine lv_iconst (v := (3 : Int32)) hx hb dX10_guest_142 (by decide) ?_
      refine lv_iadd hx hb dX10_guest_143 ?_
      obtain ⟨h_29, hF⟩ := it_ck hF
      refine va_iald hx hb hK.1 hP 2 0 rfl rfl h_29 dX10_guest_144 ?_
      refine lv_if_ne (tgt := 153) hx hb dX10_guest_145 (by decide) (fun c_30 => ?_) (fun c_30 => ?_)
      · have hF := it_n c_30 hF
        refine lv_aload_n hx hb dX10_guest_153 rfl (lv_at hl 0 rfl) ?_
        refine va_get (D := g.1) (ci := 10) (v := .ref (p_t 15)) (C := RX10) (T := TX10) (N := 35) hx hb hts iX10_guest_X10 hown hK.1 hP 1 rfl rfl 15 (by decide) (hts _ kX10_guest_20) (fun _ h9 => h9) rfl dX10_guest_154 ?_
        refine lv_bipush (v := (9 : Int32)) hx hb dX10_guest_157 (by decide) ?_
        refine lv_iconst (v := (4 : Int32)) hx hb dX10_guest_159 (by decide) ?_
        refine lv_iload_n hx hb dX10_guest_160 rfl (lv_at hl 1 rfl) ?_
        refine lv_imul hx hb dX10_guest_161 ?_
        refine lv_iadd hx hb dX10_guest_162 ?_
        refine lv_iconst (v := (3 : Int32)) hx hb dX10_guest_163 (by decide) ?_
        refine lv_iadd hx hb dX10_guest_164 ?_
        obtain ⟨h_31, hF⟩ := it_ck hF
        refine va_iald hx hb hK.1 hP 2 0 rfl rfl h_31 dX10_guest_165 ?_
        refine lv_iconst (v := (1 : Int32)) hx hb dX10_guest_166 (by decide) ?_
        refine lv_isub hx hb dX10_guest_167 ?_
        cases hF
        exact ret_i C0 hP hD hS [1, 2, 0] rfl rfl rfl dX10_guest_168 rfl
      · have hF := it_p c_30 hF
        refine lv_bipush (v := (-2 : Int32)) hx hb dX10_guest_148 (by decide) ?_
        refine lv_goto (tgt := 168) hx hb dX10_guest_150 (by decide) ?_
        cases hF
        exact ret_i C0 hP hD hS [1, 2, 0] rfl rfl rfl dX10_guest_168 rfl
    · have hF := it_p c_11 hF
      refine lv_aload_n hx hb dX10_guest_21 rfl (lv_at hl 0 rfl) ?_
      refine lv_iconst (v := (1 : Int32)) hx hb dX10_guest_22 (by decide) ?_
      obtain ⟨u_32, u_33, hu_34, hF⟩ := ob2_some hF
      refine call_i (wr := [aI g (p_t 17) 17 f_t_17, aI g (p_t 15) 266 f_t_15]) (As := [.int (1 : Int32)]) (rest := []) (ci := 10) (q0 := 0) C0 (mX10_less l g a_t p_t n (1 : Int32) u_1 u_32 u_33 hu_34) (cwV 1 hts gX10_guest_X10_less rfl rfl rfl (by decide +kernel) ⟨Nat.le_of_ble_eq_true rfl, Nat.le_of_ble_eq_true rfl⟩) hP hD hS [1] [0, 2] rfl rfl rfl rfl rfl (by decide) rfl rfl hl.1 rfl rfl (Nat.le_of_ble_eq_true rfl) ⟨Nat.zero_le _, Nat.zero_le _⟩ dX10_guest_23 ?_
      intro H locs hP hD hS
      cases hF
      exact ret_i C0 hP hD hS [2, 1, 0] rfl rfl rfl dX10_guest_26 rfl

theorem dAX10_drawn : ∀ q ∈ ([(0, (.aload_n 0, 1)), (1, (.invokevirtual 159, 3)), (4, (.aload_n 0, 1)), (5, (.iload_n 1, 1)), (6, (.invokevirtual 300, 3)), (9, (.ifCond .eq 33, 3)), (12, (.aload_n 0, 1)), (13, (.iload_n 2, 1)), (14, (.invokevirtual 300, 3)), (17, (.ifCond .eq 25, 3)), (20, (.iload_n 1, 1)), (21, (.iload_n 2, 1)), (22, (.if_icmp .eq 20, 3)), (25, (.aload_n 0, 1)), (26, (.getfield 20, 3)), (29, (.bipush 37, 2)), (31, (.bipush 7, 2)), (33, (.iload_n 1, 1)), (34, (.imul, 1)), (35, (.iadd, 1)), (36, (.iload_n 2, 1)), (37, (.iadd, 1)), (38, (.iaload, 1)), (39, (.goto 8, 3)), (42, (.aload_n 0, 1)), (43, (.iconst 1, 1)), (44, (.invokevirtual 162, 3)), (47, (.ireturn, 1))] : List (Nat × (Instr × Nat))), decode cX10_drawn q.1 = .ok q.2 := by decide +kernel
theorem dX10_drawn_0 : decode cX10_drawn 0 = .ok (.aload_n 0, 1) := dAX10_drawn (0, (.aload_n 0, 1)) (List.mem_of_getElem? (i := 0) rfl)
theorem dX10_drawn_1 : decode cX10_drawn 1 = .ok (.invokevirtual 159, 3) := dAX10_drawn (1, (.invokevirtual 159, 3)) (List.mem_of_getElem? (i := 1) rfl)
theorem dX10_drawn_4 : decode cX10_drawn 4 = .ok (.aload_n 0, 1) := dAX10_drawn (4, (.aload_n 0, 1)) (List.mem_of_getElem? (i := 2) rfl)
theorem dX10_drawn_5 : decode cX10_drawn 5 = .ok (.iload_n 1, 1) := dAX10_drawn (5, (.iload_n 1, 1)) (List.mem_of_getElem? (i := 3) rfl)
theorem dX10_drawn_6 : decode cX10_drawn 6 = .ok (.invokevirtual 300, 3) := dAX10_drawn (6, (.invokevirtual 300, 3)) (List.mem_of_getElem? (i := 4) rfl)
theorem dX10_drawn_9 : decode cX10_drawn 9 = .ok (.ifCond .eq 33, 3) := dAX10_drawn (9, (.ifCond .eq 33, 3)) (List.mem_of_getElem? (i := 5) rfl)
theorem dX10_drawn_12 : decode cX10_drawn 12 = .ok (.aload_n 0, 1) := dAX10_drawn (12, (.aload_n 0, 1)) (List.mem_of_getElem? (i := 6) rfl)
theorem dX10_drawn_13 : decode cX10_drawn 13 = .ok (.iload_n 2, 1) := dAX10_drawn (13, (.iload_n 2, 1)) (List.mem_of_getElem? (i := 7) rfl)
theorem dX10_drawn_14 : decode cX10_drawn 14 = .ok (.invokevirtual 300, 3) := dAX10_drawn (14, (.invokevirtual 300, 3)) (List.mem_of_getElem? (i := 8) rfl)
theorem dX10_drawn_17 : decode cX10_drawn 17 = .ok (.ifCond .eq 25, 3) := dAX10_drawn (17, (.ifCond .eq 25, 3)) (List.mem_of_getElem? (i := 9) rfl)
theorem dX10_drawn_20 : decode cX10_drawn 20 = .ok (.iload_n 1, 1) := dAX10_drawn (20, (.iload_n 1, 1)) (List.mem_of_getElem? (i := 10) rfl)
theorem dX10_drawn_21 : decode cX10_drawn 21 = .ok (.iload_n 2, 1) := dAX10_drawn (21, (.iload_n 2, 1)) (List.mem_of_getElem? (i := 11) rfl)
theorem dX10_drawn_22 : decode cX10_drawn 22 = .ok (.if_icmp .eq 20, 3) := dAX10_drawn (22, (.if_icmp .eq 20, 3)) (List.mem_of_getElem? (i := 12) rfl)
theorem dX10_drawn_25 : decode cX10_drawn 25 = .ok (.aload_n 0, 1) := dAX10_drawn (25, (.aload_n 0, 1)) (List.mem_of_getElem? (i := 13) rfl)
theorem dX10_drawn_26 : decode cX10_drawn 26 = .ok (.getfield 20, 3) := dAX10_drawn (26, (.getfield 20, 3)) (List.mem_of_getElem? (i := 14) rfl)
theorem dX10_drawn_29 : decode cX10_drawn 29 = .ok (.bipush 37, 2) := dAX10_drawn (29, (.bipush 37, 2)) (List.mem_of_getElem? (i := 15) rfl)
theorem dX10_drawn_31 : decode cX10_drawn 31 = .ok (.bipush 7, 2) := dAX10_drawn (31, (.bipush 7, 2)) (List.mem_of_getElem? (i := 16) rfl)
theorem dX10_drawn_33 : decode cX10_drawn 33 = .ok (.iload_n 1, 1) := dAX10_drawn (33, (.iload_n 1, 1)) (List.mem_of_getElem? (i := 17) rfl)
theorem dX10_drawn_34 : decode cX10_drawn 34 = .ok (.imul, 1) := dAX10_drawn (34, (.imul, 1)) (List.mem_of_getElem? (i := 18) rfl)
theorem dX10_drawn_35 : decode cX10_drawn 35 = .ok (.iadd, 1) := dAX10_drawn (35, (.iadd, 1)) (List.mem_of_getElem? (i := 19) rfl)
theorem dX10_drawn_36 : decode cX10_drawn 36 = .ok (.iload_n 2, 1) := dAX10_drawn (36, (.iload_n 2, 1)) (List.mem_of_getElem? (i := 20) rfl)
theorem dX10_drawn_37 : decode cX10_drawn 37 = .ok (.iadd, 1) := dAX10_drawn (37, (.iadd, 1)) (List.mem_of_getElem? (i := 21) rfl)
theorem dX10_drawn_38 : decode cX10_drawn 38 = .ok (.iaload, 1) := dAX10_drawn (38, (.iaload, 1)) (List.mem_of_getElem? (i := 22) rfl)
theorem dX10_drawn_39 : decode cX10_drawn 39 = .ok (.goto 8, 3) := dAX10_drawn (39, (.goto 8, 3)) (List.mem_of_getElem? (i := 23) rfl)
theorem dX10_drawn_42 : decode cX10_drawn 42 = .ok (.aload_n 0, 1) := dAX10_drawn (42, (.aload_n 0, 1)) (List.mem_of_getElem? (i := 24) rfl)
theorem dX10_drawn_43 : decode cX10_drawn 43 = .ok (.iconst 1, 1) := dAX10_drawn (43, (.iconst 1, 1)) (List.mem_of_getElem? (i := 25) rfl)
theorem dX10_drawn_44 : decode cX10_drawn 44 = .ok (.invokevirtual 162, 3) := dAX10_drawn (44, (.invokevirtual 162, 3)) (List.mem_of_getElem? (i := 26) rfl)
theorem dX10_drawn_47 : decode cX10_drawn 47 = .ok (.ireturn, 1) := dAX10_drawn (47, (.ireturn, 1)) (List.mem_of_getElem? (i := 27) rfl)
set_option maxRecDepth 20000 in
theorem ggX10_drawn_X10_good : GoodIn wsX10_drawn wsX10_good := goodIn_r _ [6, 7, 8, 21, 22, 23, 24, 25, 26, 27, 28, 29, 30, 31, 32, 33, 34, 35, 36, 37, 38, 39, 40, 41, 42, 43, 44, 45, 46, 47, 48, 49, 50, 51, 52, 53, 54, 55] rfl (by decide +kernel)
set_option maxRecDepth 20000 in
theorem gX10_drawn_X10_good : GoodIn wsX10_drawn (wsV RX10 159 RX10 yX10_good wsX10_good) := goodIn_app (goodIn_of _ (by decide +kernel)) ggX10_drawn_X10_good
set_option maxRecDepth 20000 in
theorem ggX10_drawn_X10_isGuest : GoodIn wsX10_drawn wsX10_isGuest := goodIn_r _ [12, 13, 1, 14, 15, 5, 16, 21, 22, 23, 24, 25, 26, 27, 28, 29, 30, 31, 32, 33, 34, 35, 36, 37, 38, 39, 40, 41, 42, 43, 44, 45, 46, 47, 48, 49, 50, 51, 52, 53, 54, 55] rfl (by decide +kernel)
set_option maxRecDepth 20000 in
theorem gX10_drawn_X10_isGuest : GoodIn wsX10_drawn (wsV RX10 300 RX10 yX10_isGuest wsX10_isGuest) := goodIn_app (goodIn_of _ (by decide +kernel)) ggX10_drawn_X10_isGuest
set_option maxRecDepth 20000 in
theorem ggX10_drawn_X10_no : GoodIn wsX10_drawn wsX10_no := goodIn_r _ [20, 8, 21, 22, 23, 24, 25, 26, 27, 28, 29, 30, 31, 32, 33, 34, 35, 36, 37, 38, 39, 40, 41, 42, 43, 44, 45, 46, 47, 48, 49, 50, 51, 52, 53, 54, 55] rfl (by decide +kernel)
set_option maxRecDepth 20000 in
theorem gX10_drawn_X10_no : GoodIn wsX10_drawn (wsV RX10 162 RX10 yX10_no wsX10_no) := goodIn_app (goodIn_of _ (by decide +kernel)) ggX10_drawn_X10_no
theorem kX10_drawn_20 : Cond.fieldLink RX10 20 "EveningVowModel" "\x72" "[I" ∈ wsX10_drawn := List.mem_of_getElem? (i := 1) rfl
theorem iX10_drawn_X10 : ∀ w ∈ u_ws RX10 TX10 35, w ∈ wsX10_drawn := fun w h => (List.mem_cons_of_mem _ (List.mem_append_right _ h))
set_option maxHeartbeats 4000000 in
set_option maxRecDepth 100000 in
theorem mX10_drawn (l : Launch) (g : GG) (a_t : Nat) (p_t : Nat → Nat) (n : Nat) (x1 : Int32) (x2 : Int32) (o_t : Nat → Int32) (f_t_15 : Nat → Int32) (r : Int32) (o_t' : Nat → Int32) (hF : fX10_drawn n x1 x2 o_t f_t_15 = some (r, o_t')) : MI l g yX10_drawn wsX10_drawn ({ frames := 2, cells := 0, slots := 0, locals := 43 } : Room) [.ref a_t, .int x1, .int x2] [oX10 a_t p_t o_t, aI g (p_t 15) 266 f_t_15] r [oX10 a_t p_t o_t', aI g (p_t 15) 266 f_t_15] := by
  refine MI.of (cc := cX10_drawn) (maxL := 3) (rt := .int) (own := RX10) rfl rfl (by decide) (Nat.le_of_ble_eq_true rfl) ?_
  intro p e s m args below meth c A C0 hP hD hS ls hl
  obtain ⟨hx, hb, hml, hown, hts, hr, hlk, hK, hA, hSW⟩ := id C0
  have hl : lv_has ls 3 [(0, .ref a_t), (1, .int x1), (2, .int x2)] := hl
  rw [fX10_drawn] at hF
  refine lv_aload_n hx hb dX10_drawn_0 rfl (lv_at hl 0 rfl) ?_
  obtain ⟨u_1, hu_2, hF⟩ := ob1_some hF
  refine call_v (wr := [aI g (p_t 15) 266 f_t_15]) (As := []) (rest := []) (ci := 10) (q0 := 0) C0 (mX10_good l g a_t p_t n o_t u_1 hu_2) (cwV 0 hts gX10_drawn_X10_good rfl rfl rfl (by decide +kernel) ⟨Nat.le_of_ble_eq_true rfl, Nat.le_of_ble_eq_true rfl⟩) hP hD hS [0] [1] rfl rfl rfl rfl rfl (by decide) rfl rfl hl.1 rfl rfl (Nat.le_of_ble_eq_true rfl) ⟨Nat.zero_le _, Nat.zero_le _⟩ dX10_drawn_1 ?_
  intro H locs hP hD hS
  refine lv_aload_n hx hb dX10_drawn_4 rfl (lv_at hl 0 rfl) ?_
  refine lv_iload_n hx hb dX10_drawn_5 rfl (lv_at hl 1 rfl) ?_
  obtain ⟨u_3, hu_4, hF⟩ := ob1_some hF
  refine call_i (wr := []) (As := [.int x1]) (rest := []) (ci := 10) (q0 := 0) C0 (mX10_isGuest l g a_t p_t n x1 u_1 f_t_15 u_3 hu_4) (cwV 1 hts gX10_drawn_X10_isGuest rfl rfl rfl (by decide +kernel) ⟨Nat.le_of_ble_eq_true rfl, Nat.le_of_ble_eq_true rfl⟩) hP hD hS [1, 0] [] rfl rfl rfl rfl rfl (by decide) rfl rfl hl.1 rfl rfl (Nat.le_of_ble_eq_true rfl) ⟨Nat.zero_le _, Nat.zero_le _⟩ dX10_drawn_6 ?_
  intro H locs hP hD hS
  refine lv_if_eq (tgt := 42) hx hb dX10_drawn_9 (by decide) (fun c_5 => ?_) (fun c_5 => ?_)
  · have hF := it_p c_5 hF
    refine lv_aload_n hx hb dX10_drawn_42 rfl (lv_at hl 0 rfl) ?_
    refine lv_iconst (v := (1 : Int32)) hx hb dX10_drawn_43 (by decide) ?_
    obtain ⟨u_6, u_7, hu_8, hF⟩ := ob2_some hF
    refine call_i (wr := [aI g (p_t 15) 266 f_t_15]) (As := [.int (1 : Int32)]) (rest := []) (ci := 10) (q0 := 0) C0 (mX10_no l g a_t p_t n (1 : Int32) u_1 u_6 u_7 hu_8) (cwV 1 hts gX10_drawn_X10_no rfl rfl rfl (by decide +kernel) ⟨Nat.le_of_ble_eq_true rfl, Nat.le_of_ble_eq_true rfl⟩) hP hD hS [0] [1] rfl rfl rfl rfl rfl (by decide) rfl rfl hl.1 rfl rfl (Nat.le_of_ble_eq_true rfl) ⟨Nat.zero_le _, Nat.zero_le _⟩ dX10_drawn_44 ?_
    intro H locs hP hD hS
    cases hF
    exact ret_i C0 hP hD hS [1, 0] rfl rfl rfl dX10_drawn_47 rfl
  · have hF := it_n c_5 hF
    refine lv_aload_n hx hb dX10_drawn_12 rfl (lv_at hl 0 rfl) ?_
    refine lv_iload_n hx hb dX10_drawn_13 rfl (lv_at hl 2 rfl) ?_
    obtain ⟨u_9, hu_10, hF⟩ := ob1_some hF
    refine call_i (wr := []) (As := [.int x2]) (rest := []) (ci := 10) (q0 := 0) C0 (mX10_isGuest l g a_t p_t n x2 u_1 f_t_15 u_9 hu_10) (cwV 1 hts gX10_drawn_X10_isGuest rfl rfl rfl (by decide +kernel) ⟨Nat.le_of_ble_eq_true rfl, Nat.le_of_ble_eq_true rfl⟩) hP hD hS [0, 1] [] rfl rfl rfl rfl rfl (by decide) rfl rfl hl.1 rfl rfl (Nat.le_of_ble_eq_true rfl) ⟨Nat.zero_le _, Nat.zero_le _⟩ dX10_drawn_14 ?_
    intro H locs hP hD hS
    refine lv_if_eq (tgt := 42) hx hb dX10_drawn_17 (by decide) (fun c_11 => ?_) (fun c_11 => ?_)
    · have hF := it_p c_11 hF
      refine lv_aload_n hx hb dX10_drawn_42 rfl (lv_at hl 0 rfl) ?_
      refine lv_iconst (v := (1 : Int32)) hx hb dX10_drawn_43 (by decide) ?_
      obtain ⟨u_12, u_13, hu_14, hF⟩ := ob2_some hF
      refine call_i (wr := [aI g (p_t 15) 266 f_t_15]) (As := [.int (1 : Int32)]) (rest := []) (ci := 10) (q0 := 0) C0 (mX10_no l g a_t p_t n (1 : Int32) u_1 u_12 u_13 hu_14) (cwV 1 hts gX10_drawn_X10_no rfl rfl rfl (by decide +kernel) ⟨Nat.le_of_ble_eq_true rfl, Nat.le_of_ble_eq_true rfl⟩) hP hD hS [0] [1] rfl rfl rfl rfl rfl (by decide) rfl rfl hl.1 rfl rfl (Nat.le_of_ble_eq_true rfl) ⟨Nat.zero_le _, Nat.zero_le _⟩ dX10_drawn_44 ?_
      intro H locs hP hD hS
      cases hF
      exact ret_i C0 hP hD hS [1, 0] rfl rfl rfl dX10_drawn_47 rfl
    · have hF := it_n c_11 hF
      refine lv_iload_n hx hb dX10_drawn_20 rfl (lv_at hl 1 rfl) ?_
      refine lv_iload_n hx hb dX10_drawn_21 rfl (lv_at hl 2 rfl) ?_
      refine lv_icmp_eq (tgt := 42) hx hb dX10_drawn_22 (by decide) (fun c_15 => ?_) (fun c_15 => ?_)
      · have hF := it_p c_15 hF
        refine lv_aload_n hx hb dX10_drawn_42 rfl (lv_at hl 0 rfl) ?_
        refine lv_iconst (v := (1 : Int32)) hx hb dX10_drawn_43 (by decide) ?_
        obtain ⟨u_16, u_17, hu_18, hF⟩ := ob2_some hF
        refine call_i (wr := [aI g (p_t 15) 266 f_t_15]) (As := [.int (1 : Int32)]) (rest := []) (ci := 10) (q0 := 0) C0 (mX10_no l g a_t p_t n (1 : Int32) u_1 u_16 u_17 hu_18) (cwV 1 hts gX10_drawn_X10_no rfl rfl rfl (by decide +kernel) ⟨Nat.le_of_ble_eq_true rfl, Nat.le_of_ble_eq_true rfl⟩) hP hD hS [0] [1] rfl rfl rfl rfl rfl (by decide) rfl rfl hl.1 rfl rfl (Nat.le_of_ble_eq_true rfl) ⟨Nat.zero_le _, Nat.zero_le _⟩ dX10_drawn_44 ?_
        intro H locs hP hD hS
        cases hF
        exact ret_i C0 hP hD hS [1, 0] rfl rfl rfl dX10_drawn_47 rfl
      · have hF := it_n c_15 hF
        refine lv_aload_n hx hb dX10_drawn_25 rfl (lv_at hl 0 rfl) ?_
        refine va_get (D := g.1) (ci := 10) (v := .ref (p_t 15)) (C := RX10) (T := TX10) (N := 35) hx hb hts iX10_drawn_X10 hown hK.1 hP 0 rfl rfl 15 (by decide) (hts _ kX10_drawn_20) (fun _ h9 => h9) rfl dX10_drawn_26 ?_
        refine lv_bipush (v := (37 : Int32)) hx hb dX10_drawn_29 (by decide) ?_
        refine lv_bipush (v := (7 : Int32)) hx hb dX10_drawn_31 (by decide) ?_
        refine lv_iload_n hx hb dX10_drawn_33 rfl (lv_at hl 1 rfl) ?_
        refine lv_imul hx hb dX10_drawn_34 ?_
        refine lv_iadd hx hb dX10_drawn_35 ?_
        refine lv_iload_n hx hb dX10_drawn_36 rfl (lv_at hl 2 rfl) ?_
        refine lv_iadd hx hb dX10_drawn_37 ?_
        obtain ⟨h_19, hF⟩ := it_ck hF
        refine va_iald hx hb hK.1 hP 1 0 rfl rfl h_19 dX10_drawn_38 ?_
        refine lv_goto (tgt := 47) hx hb dX10_drawn_39 (by decide) ?_
        cases hF
        exact ret_i C0 hP hD hS [0, 1] rfl rfl rfl dX10_drawn_47 rfl

theorem dAX10_there : ∀ q ∈ ([(0, (.aload_n 0, 1)), (1, (.invokevirtual 159, 3)), (4, (.aload_n 0, 1)), (5, (.getfield 176, 3)), (8, (.ifCond .eq 14, 3)), (11, (.aload_n 0, 1)), (12, (.aload_n 0, 1)), (13, (.getfield 26, 3)), (16, (.invokevirtual 259, 3)), (19, (.goto 8, 3)), (22, (.aload_n 0, 1)), (23, (.iconst 1, 1)), (24, (.invokevirtual 162, 3)), (27, (.ireturn, 1))] : List (Nat × (Instr × Nat))), decode cX10_there q.1 = .ok q.2 := by decide +kernel
theorem dX10_there_0 : decode cX10_there 0 = .ok (.aload_n 0, 1) := dAX10_there (0, (.aload_n 0, 1)) (List.mem_of_getElem? (i := 0) rfl)
theorem dX10_there_1 : decode cX10_there 1 = .ok (.invokevirtual 159, 3) := dAX10_there (1, (.invokevirtual 159, 3)) (List.mem_of_getElem? (i := 1) rfl)
theorem dX10_there_4 : decode cX10_there 4 = .ok (.aload_n 0, 1) := dAX10_there (4, (.aload_n 0, 1)) (List.mem_of_getElem? (i := 2) rfl)
theorem dX10_there_5 : decode cX10_there 5 = .ok (.getfield 176, 3) := dAX10_there (5, (.getfield 176, 3)) (List.mem_of_getElem? (i := 3) rfl)
theorem dX10_there_8 : decode cX10_there 8 = .ok (.ifCond .eq 14, 3) := dAX10_there (8, (.ifCond .eq 14, 3)) (List.mem_of_getElem? (i := 4) rfl)
theorem dX10_there_11 : decode cX10_there 11 = .ok (.aload_n 0, 1) := dAX10_there (11, (.aload_n 0, 1)) (List.mem_of_getElem? (i := 5) rfl)
theorem dX10_there_12 : decode cX10_there 12 = .ok (.aload_n 0, 1) := dAX10_there (12, (.aload_n 0, 1)) (List.mem_of_getElem? (i := 6) rfl)
theorem dX10_there_13 : decode cX10_there 13 = .ok (.getfield 26, 3) := dAX10_there (13, (.getfield 26, 3)) (List.mem_of_getElem? (i := 7) rfl)
theorem dX10_there_16 : decode cX10_there 16 = .ok (.invokevirtual 259, 3) := dAX10_there (16, (.invokevirtual 259, 3)) (List.mem_of_getElem? (i := 8) rfl)
theorem dX10_there_19 : decode cX10_there 19 = .ok (.goto 8, 3) := dAX10_there (19, (.goto 8, 3)) (List.mem_of_getElem? (i := 9) rfl)
theorem dX10_there_22 : decode cX10_there 22 = .ok (.aload_n 0, 1) := dAX10_there (22, (.aload_n 0, 1)) (List.mem_of_getElem? (i := 10) rfl)
theorem dX10_there_23 : decode cX10_there 23 = .ok (.iconst 1, 1) := dAX10_there (23, (.iconst 1, 1)) (List.mem_of_getElem? (i := 11) rfl)
theorem dX10_there_24 : decode cX10_there 24 = .ok (.invokevirtual 162, 3) := dAX10_there (24, (.invokevirtual 162, 3)) (List.mem_of_getElem? (i := 12) rfl)
theorem dX10_there_27 : decode cX10_there 27 = .ok (.ireturn, 1) := dAX10_there (27, (.ireturn, 1)) (List.mem_of_getElem? (i := 13) rfl)
set_option maxRecDepth 20000 in
theorem ggX10_there_X10_good : GoodIn wsX10_there wsX10_good := goodIn_r _ [7, 8, 9, 22, 23, 24, 25, 26, 27, 28, 29, 30, 31, 32, 33, 34, 35, 36, 37, 38, 39, 40, 41, 42, 43, 44, 45, 46, 47, 48, 49, 50, 51, 52, 53, 54, 55, 56] rfl (by decide +kernel)
set_option maxRecDepth 20000 in
theorem gX10_there_X10_good : GoodIn wsX10_there (wsV RX10 159 RX10 yX10_good wsX10_good) := goodIn_app (goodIn_of _ (by decide +kernel)) ggX10_there_X10_good
set_option maxRecDepth 20000 in
theorem ggX10_there_X10_thereOf : GoodIn wsX10_there wsX10_thereOf := goodIn_r _ [13, 14, 15, 16, 6, 17, 22, 23, 24, 25, 26, 27, 28, 29, 30, 31, 32, 33, 34, 35, 36, 37, 38, 39, 40, 41, 42, 43, 44, 45, 46, 47, 48, 49, 50, 51, 52, 53, 54, 55, 56] rfl (by decide +kernel)
set_option maxRecDepth 20000 in
theorem gX10_there_X10_thereOf : GoodIn wsX10_there (wsV RX10 259 RX10 yX10_thereOf wsX10_thereOf) := goodIn_app (goodIn_of _ (by decide +kernel)) ggX10_there_X10_thereOf
set_option maxRecDepth 20000 in
theorem ggX10_there_X10_no : GoodIn wsX10_there wsX10_no := goodIn_r _ [21, 9, 22, 23, 24, 25, 26, 27, 28, 29, 30, 31, 32, 33, 34, 35, 36, 37, 38, 39, 40, 41, 42, 43, 44, 45, 46, 47, 48, 49, 50, 51, 52, 53, 54, 55, 56] rfl (by decide +kernel)
set_option maxRecDepth 20000 in
theorem gX10_there_X10_no : GoodIn wsX10_there (wsV RX10 162 RX10 yX10_no wsX10_no) := goodIn_app (goodIn_of _ (by decide +kernel)) ggX10_there_X10_no
theorem kX10_there_176 : Cond.fieldLink RX10 176 "EveningVowModel" "hasEvening" "Z" ∈ wsX10_there := List.mem_of_getElem? (i := 1) rfl
theorem iX10_there_X10 : ∀ w ∈ u_ws RX10 TX10 35, w ∈ wsX10_there := fun w h => (List.mem_cons_of_mem _ (List.mem_append_right _ h))
theorem kX10_there_26 : Cond.fieldLink RX10 26 "EveningVowModel" "st" "[I" ∈ wsX10_there := List.mem_of_getElem? (i := 2) rfl
set_option maxHeartbeats 4000000 in
set_option maxRecDepth 100000 in
theorem mX10_there (l : Launch) (g : GG) (a_t : Nat) (p_t : Nat → Nat) (n : Nat) (o_t : Nat → Int32) (f_t_15 : Nat → Int32) (f_t_17 : Nat → Int32) (r : Int32) (o_t' : Nat → Int32) (hF : fX10_there n o_t f_t_15 f_t_17 = some (r, o_t')) : MI l g yX10_there wsX10_there ({ frames := 2, cells := 0, slots := 0, locals := 44 } : Room) [.ref a_t] [oX10 a_t p_t o_t, aI g (p_t 15) 266 f_t_15, aI g (p_t 17) 17 f_t_17] r [oX10 a_t p_t o_t', aI g (p_t 15) 266 f_t_15, aI g (p_t 17) 17 f_t_17] := by
  refine MI.of (cc := cX10_there) (maxL := 1) (rt := .int) (own := RX10) rfl rfl (by decide) (Nat.le_of_ble_eq_true rfl) ?_
  intro p e s m args below meth c A C0 hP hD hS ls hl
  obtain ⟨hx, hb, hml, hown, hts, hr, hlk, hK, hA, hSW⟩ := id C0
  have hl : lv_has ls 1 [(0, .ref a_t)] := hl
  rw [fX10_there] at hF
  refine lv_aload_n hx hb dX10_there_0 rfl (lv_at hl 0 rfl) ?_
  obtain ⟨u_1, hu_2, hF⟩ := ob1_some hF
  refine call_v (wr := [aI g (p_t 15) 266 f_t_15, aI g (p_t 17) 17 f_t_17]) (As := []) (rest := []) (ci := 10) (q0 := 0) C0 (mX10_good l g a_t p_t n o_t u_1 hu_2) (cwV 0 hts gX10_there_X10_good rfl rfl rfl (by decide +kernel) ⟨Nat.le_of_ble_eq_true rfl, Nat.le_of_ble_eq_true rfl⟩) hP hD hS [0] [1, 2] rfl rfl rfl rfl rfl (by decide) rfl rfl hl.1 rfl rfl (Nat.le_of_ble_eq_true rfl) ⟨Nat.zero_le _, Nat.zero_le _⟩ dX10_there_1 ?_
  intro H locs hP hD hS
  refine lv_aload_n hx hb dX10_there_4 rfl (lv_at hl 0 rfl) ?_
  refine va_get (D := g.1) (ci := 10) (v := .int (u_1 14)) (C := RX10) (T := TX10) (N := 35) hx hb hts iX10_there_X10 hown hK.1 hP 2 rfl rfl 14 (by decide) (hts _ kX10_there_176) (fun _ h9 => h9) rfl dX10_there_5 ?_
  refine lv_if_eq (tgt := 22) hx hb dX10_there_8 (by decide) (fun c_3 => ?_) (fun c_3 => ?_)
  · have hF := it_p c_3 hF
    refine lv_aload_n hx hb dX10_there_22 rfl (lv_at hl 0 rfl) ?_
    refine lv_iconst (v := (1 : Int32)) hx hb dX10_there_23 (by decide) ?_
    obtain ⟨u_4, u_5, hu_6, hF⟩ := ob2_some hF
    refine call_i (wr := [aI g (p_t 15) 266 f_t_15, aI g (p_t 17) 17 f_t_17]) (As := [.int (1 : Int32)]) (rest := []) (ci := 10) (q0 := 0) C0 (mX10_no l g a_t p_t n (1 : Int32) u_1 u_4 u_5 hu_6) (cwV 1 hts gX10_there_X10_no rfl rfl rfl (by decide +kernel) ⟨Nat.le_of_ble_eq_true rfl, Nat.le_of_ble_eq_true rfl⟩) hP hD hS [2] [0, 1] rfl rfl rfl rfl rfl (by decide) rfl rfl hl.1 rfl rfl (Nat.le_of_ble_eq_true rfl) ⟨Nat.zero_le _, Nat.zero_le _⟩ dX10_there_24 ?_
    intro H locs hP hD hS
    cases hF
    exact ret_i C0 hP hD hS [2, 0, 1] rfl rfl rfl dX10_there_27 rfl
  · have hF := it_n c_3 hF
    refine lv_aload_n hx hb dX10_there_11 rfl (lv_at hl 0 rfl) ?_
    refine lv_aload_n hx hb dX10_there_12 rfl (lv_at hl 0 rfl) ?_
    refine va_get (D := g.1) (ci := 10) (v := .ref (p_t 17)) (C := RX10) (T := TX10) (N := 35) hx hb hts iX10_there_X10 hown hK.1 hP 2 rfl rfl 17 (by decide) (hts _ kX10_there_26) (fun _ h9 => h9) rfl dX10_there_13 ?_
    obtain ⟨u_7, hu_8, hF⟩ := ob1_some hF
    refine call_i (wr := []) (As := [.ref (p_t 17)]) (rest := []) (ci := 10) (q0 := 0) C0 (mX10_thereOf l g a_t (p_t 17) p_t n u_1 f_t_15 f_t_17 u_7 hu_8) (cwV 1 hts gX10_there_X10_thereOf rfl rfl rfl (by decide +kernel) ⟨Nat.le_of_ble_eq_true rfl, Nat.le_of_ble_eq_true rfl⟩) hP hD hS [2, 0, 1] [] rfl rfl rfl rfl rfl (by decide) rfl rfl hl.1 rfl rfl (Nat.le_of_ble_eq_true rfl) ⟨Nat.zero_le _, Nat.zero_le _⟩ dX10_there_16 ?_
    intro H locs hP hD hS
    refine lv_goto (tgt := 27) hx hb dX10_there_19 (by decide) ?_
    cases hF
    exact ret_i C0 hP hD hS [0, 1, 2] rfl rfl rfl dX10_there_27 rfl

theorem dAX10_leaving : ∀ q ∈ ([(0, (.aload_n 0, 1)), (1, (.invokevirtual 159, 3)), (4, (.aload_n 0, 1)), (5, (.getfield 176, 3)), (8, (.ifCond .ne 9, 3)), (11, (.aload_n 0, 1)), (12, (.iconst 1, 1)), (13, (.invokevirtual 162, 3)), (16, (.ireturn, 1)), (17, (.aload_n 0, 1)), (18, (.getfield 26, 3)), (21, (.iconst 0, 1)), (22, (.aload_n 0, 1)), (23, (.getfield 35, 3)), (26, (.iconst 0, 1)), (27, (.bipush 17, 2)), (29, (.invokestatic 168, 3)), (32, (.aload_n 0, 1)), (33, (.aload_n 0, 1)), (34, (.getfield 35, 3)), (37, (.invokevirtual 259, 3)), (40, (.ifCond .ne 7, 3)), (43, (.iconst 0, 1)), (44, (.goto 11, 3)), (47, (.aload_n 0, 1)), (48, (.aload_n 0, 1)), (49, (.getfield 35, 3)), (52, (.invokevirtual 293, 3)), (55, (.ireturn, 1))] : List (Nat × (Instr × Nat))), decode cX10_leaving q.1 = .ok q.2 := by decide +kernel
theorem dX10_leaving_0 : decode cX10_leaving 0 = .ok (.aload_n 0, 1) := dAX10_leaving (0, (.aload_n 0, 1)) (List.mem_of_getElem? (i := 0) rfl)
theorem dX10_leaving_1 : decode cX10_leaving 1 = .ok (.invokevirtual 159, 3) := dAX10_leaving (1, (.invokevirtual 159, 3)) (List.mem_of_getElem? (i := 1) rfl)
theorem dX10_leaving_4 : decode cX10_leaving 4 = .ok (.aload_n 0, 1) := dAX10_leaving (4, (.aload_n 0, 1)) (List.mem_of_getElem? (i := 2) rfl)
theorem dX10_leaving_5 : decode cX10_leaving 5 = .ok (.getfield 176, 3) := dAX10_leaving (5, (.getfield 176, 3)) (List.mem_of_getElem? (i := 3) rfl)
theorem dX10_leaving_8 : decode cX10_leaving 8 = .ok (.ifCond .ne 9, 3) := dAX10_leaving (8, (.ifCond .ne 9, 3)) (List.mem_of_getElem? (i := 4) rfl)
theorem dX10_leaving_11 : decode cX10_leaving 11 = .ok (.aload_n 0, 1) := dAX10_leaving (11, (.aload_n 0, 1)) (List.mem_of_getElem? (i := 5) rfl)
theorem dX10_leaving_12 : decode cX10_leaving 12 = .ok (.iconst 1, 1) := dAX10_leaving (12, (.iconst 1, 1)) (List.mem_of_getElem? (i := 6) rfl)
theorem dX10_leaving_13 : decode cX10_leaving 13 = .ok (.invokevirtual 162, 3) := dAX10_leaving (13, (.invokevirtual 162, 3)) (List.mem_of_getElem? (i := 7) rfl)
theorem dX10_leaving_16 : decode cX10_leaving 16 = .ok (.ireturn, 1) := dAX10_leaving (16, (.ireturn, 1)) (List.mem_of_getElem? (i := 8) rfl)
theorem dX10_leaving_17 : decode cX10_leaving 17 = .ok (.aload_n 0, 1) := dAX10_leaving (17, (.aload_n 0, 1)) (List.mem_of_getElem? (i := 9) rfl)
theorem dX10_leaving_18 : decode cX10_leaving 18 = .ok (.getfield 26, 3) := dAX10_leaving (18, (.getfield 26, 3)) (List.mem_of_getElem? (i := 10) rfl)
theorem dX10_leaving_21 : decode cX10_leaving 21 = .ok (.iconst 0, 1) := dAX10_leaving (21, (.iconst 0, 1)) (List.mem_of_getElem? (i := 11) rfl)
theorem dX10_leaving_22 : decode cX10_leaving 22 = .ok (.aload_n 0, 1) := dAX10_leaving (22, (.aload_n 0, 1)) (List.mem_of_getElem? (i := 12) rfl)
theorem dX10_leaving_23 : decode cX10_leaving 23 = .ok (.getfield 35, 3) := dAX10_leaving (23, (.getfield 35, 3)) (List.mem_of_getElem? (i := 13) rfl)
theorem dX10_leaving_26 : decode cX10_leaving 26 = .ok (.iconst 0, 1) := dAX10_leaving (26, (.iconst 0, 1)) (List.mem_of_getElem? (i := 14) rfl)
theorem dX10_leaving_27 : decode cX10_leaving 27 = .ok (.bipush 17, 2) := dAX10_leaving (27, (.bipush 17, 2)) (List.mem_of_getElem? (i := 15) rfl)
theorem dX10_leaving_29 : decode cX10_leaving 29 = .ok (.invokestatic 168, 3) := dAX10_leaving (29, (.invokestatic 168, 3)) (List.mem_of_getElem? (i := 16) rfl)
theorem dX10_leaving_32 : decode cX10_leaving 32 = .ok (.aload_n 0, 1) := dAX10_leaving (32, (.aload_n 0, 1)) (List.mem_of_getElem? (i := 17) rfl)
theorem dX10_leaving_33 : decode cX10_leaving 33 = .ok (.aload_n 0, 1) := dAX10_leaving (33, (.aload_n 0, 1)) (List.mem_of_getElem? (i := 18) rfl)
theorem dX10_leaving_34 : decode cX10_leaving 34 = .ok (.getfield 35, 3) := dAX10_leaving (34, (.getfield 35, 3)) (List.mem_of_getElem? (i := 19) rfl)
theorem dX10_leaving_37 : decode cX10_leaving 37 = .ok (.invokevirtual 259, 3) := dAX10_leaving (37, (.invokevirtual 259, 3)) (List.mem_of_getElem? (i := 20) rfl)
theorem dX10_leaving_40 : decode cX10_leaving 40 = .ok (.ifCond .ne 7, 3) := dAX10_leaving (40, (.ifCond .ne 7, 3)) (List.mem_of_getElem? (i := 21) rfl)
theorem dX10_leaving_43 : decode cX10_leaving 43 = .ok (.iconst 0, 1) := dAX10_leaving (43, (.iconst 0, 1)) (List.mem_of_getElem? (i := 22) rfl)
theorem dX10_leaving_44 : decode cX10_leaving 44 = .ok (.goto 11, 3) := dAX10_leaving (44, (.goto 11, 3)) (List.mem_of_getElem? (i := 23) rfl)
theorem dX10_leaving_47 : decode cX10_leaving 47 = .ok (.aload_n 0, 1) := dAX10_leaving (47, (.aload_n 0, 1)) (List.mem_of_getElem? (i := 24) rfl)
theorem dX10_leaving_48 : decode cX10_leaving 48 = .ok (.aload_n 0, 1) := dAX10_leaving (48, (.aload_n 0, 1)) (List.mem_of_getElem? (i := 25) rfl)
theorem dX10_leaving_49 : decode cX10_leaving 49 = .ok (.getfield 35, 3) := dAX10_leaving (49, (.getfield 35, 3)) (List.mem_of_getElem? (i := 26) rfl)
theorem dX10_leaving_52 : decode cX10_leaving 52 = .ok (.invokevirtual 293, 3) := dAX10_leaving (52, (.invokevirtual 293, 3)) (List.mem_of_getElem? (i := 27) rfl)
theorem dX10_leaving_55 : decode cX10_leaving 55 = .ok (.ireturn, 1) := dAX10_leaving (55, (.ireturn, 1)) (List.mem_of_getElem? (i := 28) rfl)
set_option maxRecDepth 20000 in
theorem ggX10_leaving_X10_good : GoodIn wsX10_leaving wsX10_good := goodIn_r _ [8, 9, 10, 58, 59, 60, 61, 62, 63, 64, 65, 66, 67, 68, 69, 70, 71, 72, 73, 74, 75, 76, 77, 78, 79, 80, 81, 82, 83, 84, 85, 86, 87, 88, 89, 90, 91, 92] rfl (by decide +kernel)
set_option maxRecDepth 20000 in
theorem gX10_leaving_X10_good : GoodIn wsX10_leaving (wsV RX10 159 RX10 yX10_good wsX10_good) := goodIn_app (goodIn_of _ (by decide +kernel)) ggX10_leaving_X10_good
set_option maxRecDepth 20000 in
theorem ggX10_leaving_X10_no : GoodIn wsX10_leaving wsX10_no := goodIn_r _ [14, 10, 58, 59, 60, 61, 62, 63, 64, 65, 66, 67, 68, 69, 70, 71, 72, 73, 74, 75, 76, 77, 78, 79, 80, 81, 82, 83, 84, 85, 86, 87, 88, 89, 90, 91, 92] rfl (by decide +kernel)
set_option maxRecDepth 20000 in
theorem gX10_leaving_X10_no : GoodIn wsX10_leaving (wsV RX10 162 RX10 yX10_no wsX10_no) := goodIn_app (goodIn_of _ (by decide +kernel)) ggX10_leaving_X10_no
set_option maxRecDepth 20000 in
theorem ggX10_leaving_X10_copy : GoodIn wsX10_leaving wsX10_copy := goodIn_r _ [17] rfl (by decide +kernel)
set_option maxRecDepth 20000 in
theorem gX10_leaving_X10_copy : GoodIn wsX10_leaving (va_wsS RX10 168 yX10_copy wsX10_copy) := goodIn_app (goodIn_of _ (by decide +kernel)) ggX10_leaving_X10_copy
set_option maxRecDepth 20000 in
theorem ggX10_leaving_X10_thereOf : GoodIn wsX10_leaving wsX10_thereOf := goodIn_r _ [21, 22, 23, 24, 7, 25, 58, 59, 60, 61, 62, 63, 64, 65, 66, 67, 68, 69, 70, 71, 72, 73, 74, 75, 76, 77, 78, 79, 80, 81, 82, 83, 84, 85, 86, 87, 88, 89, 90, 91, 92] rfl (by decide +kernel)
set_option maxRecDepth 20000 in
theorem gX10_leaving_X10_thereOf : GoodIn wsX10_leaving (wsV RX10 259 RX10 yX10_thereOf wsX10_thereOf) := goodIn_app (goodIn_of _ (by decide +kernel)) ggX10_leaving_X10_thereOf
set_option maxRecDepth 20000 in
theorem ggX10_leaving_X10_hourOf : GoodIn wsX10_leaving wsX10_hourOf := goodIn_r _ [29, 22, 30, 31, 32, 7, 33, 23, 24, 25, 34, 35, 36, 37, 38, 39, 40, 41, 42, 43, 44, 45, 46, 18, 19, 20, 21, 47, 48, 49, 50, 51, 52, 53, 54, 55, 56, 57, 58, 59, 60, 61, 62, 63, 64, 65, 66, 67, 68, 69, 70, 71, 72, 73, 74, 75, 76, 77, 78, 79, 80, 81, 82, 83, 84, 85, 86, 87, 88, 89, 90, 91, 92] rfl (by decide +kernel)
set_option maxRecDepth 20000 in
theorem gX10_leaving_X10_hourOf : GoodIn wsX10_leaving (wsV RX10 293 RX10 yX10_hourOf wsX10_hourOf) := goodIn_app (goodIn_of _ (by decide +kernel)) ggX10_leaving_X10_hourOf
theorem kX10_leaving_176 : Cond.fieldLink RX10 176 "EveningVowModel" "hasEvening" "Z" ∈ wsX10_leaving := List.mem_of_getElem? (i := 1) rfl
theorem iX10_leaving_X10 : ∀ w ∈ u_ws RX10 TX10 35, w ∈ wsX10_leaving := fun w h => (List.mem_cons_of_mem _ (List.mem_append_right _ h))
theorem kX10_leaving_26 : Cond.fieldLink RX10 26 "EveningVowModel" "st" "[I" ∈ wsX10_leaving := List.mem_of_getElem? (i := 2) rfl
theorem kX10_leaving_35 : Cond.fieldLink RX10 35 "EveningVowModel" "trial" "[I" ∈ wsX10_leaving := List.mem_of_getElem? (i := 3) rfl
set_option maxHeartbeats 4000000 in
set_option maxRecDepth 100000 in
theorem mX10_leaving (l : Launch) (g : GG) (a_t : Nat) (p_t : Nat → Nat) (n : Nat) (o_t : Nat → Int32) (f_t_15 : Nat → Int32) (f_t_17 : Nat → Int32) (f_t_25 : Nat → Int32) (r : Int32) (o_t' : Nat → Int32) (f_t_25' : Nat → Int32) (hF : fX10_leaving n o_t f_t_15 f_t_17 f_t_25 = some (r, o_t', f_t_25')) : MI l g yX10_leaving wsX10_leaving ({ frames := 4, cells := 0, slots := 0, locals := 93 } : Room) [.ref a_t] [oX10 a_t p_t o_t, aI g (p_t 15) 266 f_t_15, aI g (p_t 17) 17 f_t_17, aI g (p_t 25) 17 f_t_25] r [oX10 a_t p_t o_t', aI g (p_t 15) 266 f_t_15, aI g (p_t 17) 17 f_t_17, aI g (p_t 25) 17 f_t_25'] := by
  refine MI.of (cc := cX10_leaving) (maxL := 1) (rt := .int) (own := RX10) rfl rfl (by decide) (Nat.le_of_ble_eq_true rfl) ?_
  intro p e s m args below meth c A C0 hP hD hS ls hl
  obtain ⟨hx, hb, hml, hown, hts, hr, hlk, hK, hA, hSW⟩ := id C0
  have hl : lv_has ls 1 [(0, .ref a_t)] := hl
  rw [fX10_leaving] at hF
  refine lv_aload_n hx hb dX10_leaving_0 rfl (lv_at hl 0 rfl) ?_
  obtain ⟨u_1, hu_2, hF⟩ := ob1_some hF
  refine call_v (wr := [aI g (p_t 15) 266 f_t_15, aI g (p_t 17) 17 f_t_17, aI g (p_t 25) 17 f_t_25]) (As := []) (rest := []) (ci := 10) (q0 := 0) C0 (mX10_good l g a_t p_t n o_t u_1 hu_2) (cwV 0 hts gX10_leaving_X10_good rfl rfl rfl (by decide +kernel) ⟨Nat.le_of_ble_eq_true rfl, Nat.le_of_ble_eq_true rfl⟩) hP hD hS [0] [1, 2, 3] rfl rfl rfl rfl rfl (by decide) rfl rfl hl.1 rfl rfl (Nat.le_of_ble_eq_true rfl) ⟨Nat.zero_le _, Nat.zero_le _⟩ dX10_leaving_1 ?_
  intro H locs hP hD hS
  refine lv_aload_n hx hb dX10_leaving_4 rfl (lv_at hl 0 rfl) ?_
  refine va_get (D := g.1) (ci := 10) (v := .int (u_1 14)) (C := RX10) (T := TX10) (N := 35) hx hb hts iX10_leaving_X10 hown hK.1 hP 3 rfl rfl 14 (by decide) (hts _ kX10_leaving_176) (fun _ h9 => h9) rfl dX10_leaving_5 ?_
  refine lv_if_ne (tgt := 17) hx hb dX10_leaving_8 (by decide) (fun c_3 => ?_) (fun c_3 => ?_)
  · have hF := it_n c_3 hF
    refine lv_aload_n hx hb dX10_leaving_17 rfl (lv_at hl 0 rfl) ?_
    refine va_get (D := g.1) (ci := 10) (v := .ref (p_t 17)) (C := RX10) (T := TX10) (N := 35) hx hb hts iX10_leaving_X10 hown hK.1 hP 3 rfl rfl 17 (by decide) (hts _ kX10_leaving_26) (fun _ h9 => h9) rfl dX10_leaving_18 ?_
    refine lv_iconst (v := (0 : Int32)) hx hb dX10_leaving_21 (by decide) ?_
    refine lv_aload_n hx hb dX10_leaving_22 rfl (lv_at hl 0 rfl) ?_
    refine va_get (D := g.1) (ci := 10) (v := .ref (p_t 25)) (C := RX10) (T := TX10) (N := 35) hx hb hts iX10_leaving_X10 hown hK.1 hP 3 rfl rfl 25 (by decide) (hts _ kX10_leaving_35) (fun _ h9 => h9) rfl dX10_leaving_23 ?_
    refine lv_iconst (v := (0 : Int32)) hx hb dX10_leaving_26 (by decide) ?_
    refine lv_bipush (v := (17 : Int32)) hx hb dX10_leaving_27 (by decide) ?_
    obtain ⟨u_4, hu_5, hF⟩ := ob1_some hF
    refine call_sv (wr := [aI g (p_t 15) 266 f_t_15, oX10 a_t p_t u_1]) (As := [.ref (p_t 17), .int (0 : Int32), .ref (p_t 25), .int (0 : Int32), .int (17 : Int32)]) (rest := []) C0 (mX10_copy l g (p_t 17) (p_t 25) n (0 : Int32) (0 : Int32) (17 : Int32) 17 17 f_t_17 f_t_25 u_4 hu_5) (va_cwS 5 hts gX10_leaving_X10_copy rfl rfl rfl (by decide +kernel) ⟨Nat.le_of_ble_eq_true rfl, Nat.le_of_ble_eq_true rfl⟩) hP hD hS [1, 2] [0, 3] rfl rfl rfl rfl rfl (by decide) hl.1 rfl rfl (Nat.le_of_ble_eq_true rfl) ⟨Nat.zero_le _, Nat.zero_le _⟩ dX10_leaving_29 ?_
    intro H locs hP hD hS
    refine lv_aload_n hx hb dX10_leaving_32 rfl (lv_at hl 0 rfl) ?_
    refine lv_aload_n hx hb dX10_leaving_33 rfl (lv_at hl 0 rfl) ?_
    refine va_get (D := g.1) (ci := 10) (v := .ref (p_t 25)) (C := RX10) (T := TX10) (N := 35) hx hb hts iX10_leaving_X10 hown hK.1 hP 1 rfl rfl 25 (by decide) (hts _ kX10_leaving_35) (fun _ h9 => h9) rfl dX10_leaving_34 ?_
    obtain ⟨u_6, hu_7, hF⟩ := ob1_some hF
    refine call_i (wr := [aI g (p_t 17) 17 f_t_17]) (As := [.ref (p_t 25)]) (rest := []) (ci := 10) (q0 := 0) C0 (mX10_thereOf l g a_t (p_t 25) p_t n u_1 f_t_15 u_4 u_6 hu_7) (cwV 1 hts gX10_leaving_X10_thereOf rfl rfl rfl (by decide +kernel) ⟨Nat.le_of_ble_eq_true rfl, Nat.le_of_ble_eq_true rfl⟩) hP hD hS [1, 0, 3] [2] rfl rfl rfl rfl rfl (by decide) rfl rfl hl.1 rfl rfl (Nat.le_of_ble_eq_true rfl) ⟨Nat.zero_le _, Nat.zero_le _⟩ dX10_leaving_37 ?_
    intro H locs hP hD hS
    refine lv_if_ne (tgt := 47) hx hb dX10_leaving_40 (by decide) (fun c_8 => ?_) (fun c_8 => ?_)
    · have hF := it_n c_8 hF
      refine lv_aload_n hx hb dX10_leaving_47 rfl (lv_at hl 0 rfl) ?_
      refine lv_aload_n hx hb dX10_leaving_48 rfl (lv_at hl 0 rfl) ?_
      refine va_get (D := g.1) (ci := 10) (v := .ref (p_t 25)) (C := RX10) (T := TX10) (N := 35) hx hb hts iX10_leaving_X10 hown hK.1 hP 1 rfl rfl 25 (by decide) (hts _ kX10_leaving_35) (fun _ h9 => h9) rfl dX10_leaving_49 ?_
      obtain ⟨u_9, u_10, u_11, hu_12, hF⟩ := ob3_some hF
      refine call_i (wr := [aI g (p_t 17) 17 f_t_17]) (As := [.ref (p_t 25)]) (rest := []) (ci := 10) (q0 := 0) C0 (mX10_hourOf l g a_t (p_t 25) p_t n u_1 f_t_15 u_4 u_9 u_10 u_11 hu_12) (cwV 1 hts gX10_leaving_X10_hourOf rfl rfl rfl (by decide +kernel) ⟨Nat.le_of_ble_eq_true rfl, Nat.le_of_ble_eq_true rfl⟩) hP hD hS [1, 2, 3] [0] rfl rfl rfl rfl rfl (by decide) rfl rfl hl.1 rfl rfl (Nat.le_of_ble_eq_true rfl) ⟨Nat.zero_le _, Nat.zero_le _⟩ dX10_leaving_52 ?_
      intro H locs hP hD hS
      cases hF
      exact ret_i C0 hP hD hS [1, 2, 0, 3] rfl rfl rfl dX10_leaving_55 rfl
    · have hF := it_p c_8 hF
      refine lv_iconst (v := (0 : Int32)) hx hb dX10_leaving_43 (by decide) ?_
      refine lv_goto (tgt := 55) hx hb dX10_leaving_44 (by decide) ?_
      cases hF
      exact ret_i C0 hP hD hS [1, 2, 0, 3] rfl rfl rfl dX10_leaving_55 rfl
  · have hF := it_p c_3 hF
    refine lv_aload_n hx hb dX10_leaving_11 rfl (lv_at hl 0 rfl) ?_
    refine lv_iconst (v := (1 : Int32)) hx hb dX10_leaving_12 (by decide) ?_
    obtain ⟨u_13, u_14, hu_15, hF⟩ := ob2_some hF
    refine call_i (wr := [aI g (p_t 15) 266 f_t_15, aI g (p_t 17) 17 f_t_17, aI g (p_t 25) 17 f_t_25]) (As := [.int (1 : Int32)]) (rest := []) (ci := 10) (q0 := 0) C0 (mX10_no l g a_t p_t n (1 : Int32) u_1 u_13 u_14 hu_15) (cwV 1 hts gX10_leaving_X10_no rfl rfl rfl (by decide +kernel) ⟨Nat.le_of_ble_eq_true rfl, Nat.le_of_ble_eq_true rfl⟩) hP hD hS [3] [0, 1, 2] rfl rfl rfl rfl rfl (by decide) rfl rfl hl.1 rfl rfl (Nat.le_of_ble_eq_true rfl) ⟨Nat.zero_le _, Nat.zero_le _⟩ dX10_leaving_13 ?_
    intro H locs hP hD hS
    cases hF
    exact ret_i C0 hP hD hS [3, 0, 1, 2] rfl rfl rfl dX10_leaving_16 rfl

theorem dAX10_thereIn : ∀ q ∈ ([(0, (.aload_n 0, 1)), (1, (.invokevirtual 159, 3)), (4, (.aload_n 0, 1)), (5, (.getfield 176, 3)), (8, (.ifCond .ne 9, 3)), (11, (.aload_n 0, 1)), (12, (.iconst 1, 1)), (13, (.invokevirtual 162, 3)), (16, (.ireturn, 1)), (17, (.iload_n 1, 1)), (18, (.iconst 0, 1)), (19, (.bipush 60, 2)), (21, (.invokestatic 144, 3)), (24, (.ifCond .ne 9, 3)), (27, (.aload_n 0, 1)), (28, (.iconst 2, 1)), (29, (.invokevirtual 162, 3)), (32, (.ireturn, 1)), (33, (.aload_n 0, 1)), (34, (.getfield 26, 3)), (37, (.iconst 0, 1)), (38, (.aload_n 0, 1)), (39, (.getfield 35, 3)), (42, (.iconst 0, 1)), (43, (.bipush 17, 2)), (45, (.invokestatic 168, 3)), (48, (.iconst 0, 1)), (49, (.istore_n 2, 1)), (50, (.iload_n 2, 1)), (51, (.iload_n 1, 1)), (52, (.if_icmp .ge 18, 3)), (55, (.aload_n 0, 1)), (56, (.aload_n 0, 1)), (57, (.getfield 35, 3)), (60, (.invokevirtual 293, 3)), (63, (.pop, 1)), (64, (.iinc 2 1, 3)), (67, (.goto (-17), 3)), (70, (.aload_n 0, 1)), (71, (.aload_n 0, 1)), (72, (.getfield 35, 3)), (75, (.invokevirtual 259, 3)), (78, (.ireturn, 1))] : List (Nat × (Instr × Nat))), decode cX10_thereIn q.1 = .ok q.2 := by decide +kernel
theorem dX10_thereIn_0 : decode cX10_thereIn 0 = .ok (.aload_n 0, 1) := dAX10_thereIn (0, (.aload_n 0, 1)) (List.mem_of_getElem? (i := 0) rfl)
theorem dX10_thereIn_1 : decode cX10_thereIn 1 = .ok (.invokevirtual 159, 3) := dAX10_thereIn (1, (.invokevirtual 159, 3)) (List.mem_of_getElem? (i := 1) rfl)
theorem dX10_thereIn_4 : decode cX10_thereIn 4 = .ok (.aload_n 0, 1) := dAX10_thereIn (4, (.aload_n 0, 1)) (List.mem_of_getElem? (i := 2) rfl)
theorem dX10_thereIn_5 : decode cX10_thereIn 5 = .ok (.getfield 176, 3) := dAX10_thereIn (5, (.getfield 176, 3)) (List.mem_of_getElem? (i := 3) rfl)
theorem dX10_thereIn_8 : decode cX10_thereIn 8 = .ok (.ifCond .ne 9, 3) := dAX10_thereIn (8, (.ifCond .ne 9, 3)) (List.mem_of_getElem? (i := 4) rfl)
theorem dX10_thereIn_11 : decode cX10_thereIn 11 = .ok (.aload_n 0, 1) := dAX10_thereIn (11, (.aload_n 0, 1)) (List.mem_of_getElem? (i := 5) rfl)
theorem dX10_thereIn_12 : decode cX10_thereIn 12 = .ok (.iconst 1, 1) := dAX10_thereIn (12, (.iconst 1, 1)) (List.mem_of_getElem? (i := 6) rfl)
theorem dX10_thereIn_13 : decode cX10_thereIn 13 = .ok (.invokevirtual 162, 3) := dAX10_thereIn (13, (.invokevirtual 162, 3)) (List.mem_of_getElem? (i := 7) rfl)
theorem dX10_thereIn_16 : decode cX10_thereIn 16 = .ok (.ireturn, 1) := dAX10_thereIn (16, (.ireturn, 1)) (List.mem_of_getElem? (i := 8) rfl)
theorem dX10_thereIn_17 : decode cX10_thereIn 17 = .ok (.iload_n 1, 1) := dAX10_thereIn (17, (.iload_n 1, 1)) (List.mem_of_getElem? (i := 9) rfl)
theorem dX10_thereIn_18 : decode cX10_thereIn 18 = .ok (.iconst 0, 1) := dAX10_thereIn (18, (.iconst 0, 1)) (List.mem_of_getElem? (i := 10) rfl)
theorem dX10_thereIn_19 : decode cX10_thereIn 19 = .ok (.bipush 60, 2) := dAX10_thereIn (19, (.bipush 60, 2)) (List.mem_of_getElem? (i := 11) rfl)
theorem dX10_thereIn_21 : decode cX10_thereIn 21 = .ok (.invokestatic 144, 3) := dAX10_thereIn (21, (.invokestatic 144, 3)) (List.mem_of_getElem? (i := 12) rfl)
theorem dX10_thereIn_24 : decode cX10_thereIn 24 = .ok (.ifCond .ne 9, 3) := dAX10_thereIn (24, (.ifCond .ne 9, 3)) (List.mem_of_getElem? (i := 13) rfl)
theorem dX10_thereIn_27 : decode cX10_thereIn 27 = .ok (.aload_n 0, 1) := dAX10_thereIn (27, (.aload_n 0, 1)) (List.mem_of_getElem? (i := 14) rfl)
theorem dX10_thereIn_28 : decode cX10_thereIn 28 = .ok (.iconst 2, 1) := dAX10_thereIn (28, (.iconst 2, 1)) (List.mem_of_getElem? (i := 15) rfl)
theorem dX10_thereIn_29 : decode cX10_thereIn 29 = .ok (.invokevirtual 162, 3) := dAX10_thereIn (29, (.invokevirtual 162, 3)) (List.mem_of_getElem? (i := 16) rfl)
theorem dX10_thereIn_32 : decode cX10_thereIn 32 = .ok (.ireturn, 1) := dAX10_thereIn (32, (.ireturn, 1)) (List.mem_of_getElem? (i := 17) rfl)
theorem dX10_thereIn_33 : decode cX10_thereIn 33 = .ok (.aload_n 0, 1) := dAX10_thereIn (33, (.aload_n 0, 1)) (List.mem_of_getElem? (i := 18) rfl)
theorem dX10_thereIn_34 : decode cX10_thereIn 34 = .ok (.getfield 26, 3) := dAX10_thereIn (34, (.getfield 26, 3)) (List.mem_of_getElem? (i := 19) rfl)
theorem dX10_thereIn_37 : decode cX10_thereIn 37 = .ok (.iconst 0, 1) := dAX10_thereIn (37, (.iconst 0, 1)) (List.mem_of_getElem? (i := 20) rfl)
theorem dX10_thereIn_38 : decode cX10_thereIn 38 = .ok (.aload_n 0, 1) := dAX10_thereIn (38, (.aload_n 0, 1)) (List.mem_of_getElem? (i := 21) rfl)
theorem dX10_thereIn_39 : decode cX10_thereIn 39 = .ok (.getfield 35, 3) := dAX10_thereIn (39, (.getfield 35, 3)) (List.mem_of_getElem? (i := 22) rfl)
theorem dX10_thereIn_42 : decode cX10_thereIn 42 = .ok (.iconst 0, 1) := dAX10_thereIn (42, (.iconst 0, 1)) (List.mem_of_getElem? (i := 23) rfl)
theorem dX10_thereIn_43 : decode cX10_thereIn 43 = .ok (.bipush 17, 2) := dAX10_thereIn (43, (.bipush 17, 2)) (List.mem_of_getElem? (i := 24) rfl)
theorem dX10_thereIn_45 : decode cX10_thereIn 45 = .ok (.invokestatic 168, 3) := dAX10_thereIn (45, (.invokestatic 168, 3)) (List.mem_of_getElem? (i := 25) rfl)
theorem dX10_thereIn_48 : decode cX10_thereIn 48 = .ok (.iconst 0, 1) := dAX10_thereIn (48, (.iconst 0, 1)) (List.mem_of_getElem? (i := 26) rfl)
theorem dX10_thereIn_49 : decode cX10_thereIn 49 = .ok (.istore_n 2, 1) := dAX10_thereIn (49, (.istore_n 2, 1)) (List.mem_of_getElem? (i := 27) rfl)
theorem dX10_thereIn_50 : decode cX10_thereIn 50 = .ok (.iload_n 2, 1) := dAX10_thereIn (50, (.iload_n 2, 1)) (List.mem_of_getElem? (i := 28) rfl)
theorem dX10_thereIn_51 : decode cX10_thereIn 51 = .ok (.iload_n 1, 1) := dAX10_thereIn (51, (.iload_n 1, 1)) (List.mem_of_getElem? (i := 29) rfl)
theorem dX10_thereIn_52 : decode cX10_thereIn 52 = .ok (.if_icmp .ge 18, 3) := dAX10_thereIn (52, (.if_icmp .ge 18, 3)) (List.mem_of_getElem? (i := 30) rfl)
theorem dX10_thereIn_55 : decode cX10_thereIn 55 = .ok (.aload_n 0, 1) := dAX10_thereIn (55, (.aload_n 0, 1)) (List.mem_of_getElem? (i := 31) rfl)
theorem dX10_thereIn_56 : decode cX10_thereIn 56 = .ok (.aload_n 0, 1) := dAX10_thereIn (56, (.aload_n 0, 1)) (List.mem_of_getElem? (i := 32) rfl)
theorem dX10_thereIn_57 : decode cX10_thereIn 57 = .ok (.getfield 35, 3) := dAX10_thereIn (57, (.getfield 35, 3)) (List.mem_of_getElem? (i := 33) rfl)
theorem dX10_thereIn_60 : decode cX10_thereIn 60 = .ok (.invokevirtual 293, 3) := dAX10_thereIn (60, (.invokevirtual 293, 3)) (List.mem_of_getElem? (i := 34) rfl)
theorem dX10_thereIn_63 : decode cX10_thereIn 63 = .ok (.pop, 1) := dAX10_thereIn (63, (.pop, 1)) (List.mem_of_getElem? (i := 35) rfl)
theorem dX10_thereIn_64 : decode cX10_thereIn 64 = .ok (.iinc 2 1, 3) := dAX10_thereIn (64, (.iinc 2 1, 3)) (List.mem_of_getElem? (i := 36) rfl)
theorem dX10_thereIn_67 : decode cX10_thereIn 67 = .ok (.goto (-17), 3) := dAX10_thereIn (67, (.goto (-17), 3)) (List.mem_of_getElem? (i := 37) rfl)
theorem dX10_thereIn_70 : decode cX10_thereIn 70 = .ok (.aload_n 0, 1) := dAX10_thereIn (70, (.aload_n 0, 1)) (List.mem_of_getElem? (i := 38) rfl)
theorem dX10_thereIn_71 : decode cX10_thereIn 71 = .ok (.aload_n 0, 1) := dAX10_thereIn (71, (.aload_n 0, 1)) (List.mem_of_getElem? (i := 39) rfl)
theorem dX10_thereIn_72 : decode cX10_thereIn 72 = .ok (.getfield 35, 3) := dAX10_thereIn (72, (.getfield 35, 3)) (List.mem_of_getElem? (i := 40) rfl)
theorem dX10_thereIn_75 : decode cX10_thereIn 75 = .ok (.invokevirtual 259, 3) := dAX10_thereIn (75, (.invokevirtual 259, 3)) (List.mem_of_getElem? (i := 41) rfl)
theorem dX10_thereIn_78 : decode cX10_thereIn 78 = .ok (.ireturn, 1) := dAX10_thereIn (78, (.ireturn, 1)) (List.mem_of_getElem? (i := 42) rfl)
set_option maxRecDepth 20000 in
theorem ggX10_thereIn_X10_good : GoodIn wsX10_thereIn wsX10_good := goodIn_r _ [8, 9, 10, 61, 62, 63, 64, 65, 66, 67, 68, 69, 70, 71, 72, 73, 74, 75, 76, 77, 78, 79, 80, 81, 82, 83, 84, 85, 86, 87, 88, 89, 90, 91, 92, 93, 94, 95] rfl (by decide +kernel)
set_option maxRecDepth 20000 in
theorem gX10_thereIn_X10_good : GoodIn wsX10_thereIn (wsV RX10 159 RX10 yX10_good wsX10_good) := goodIn_app (goodIn_of _ (by decide +kernel)) ggX10_thereIn_X10_good
set_option maxRecDepth 20000 in
theorem ggX10_thereIn_X10_no : GoodIn wsX10_thereIn wsX10_no := goodIn_r _ [14, 10, 61, 62, 63, 64, 65, 66, 67, 68, 69, 70, 71, 72, 73, 74, 75, 76, 77, 78, 79, 80, 81, 82, 83, 84, 85, 86, 87, 88, 89, 90, 91, 92, 93, 94, 95] rfl (by decide +kernel)
set_option maxRecDepth 20000 in
theorem gX10_thereIn_X10_no : GoodIn wsX10_thereIn (wsV RX10 162 RX10 yX10_no wsX10_no) := goodIn_app (goodIn_of _ (by decide +kernel)) ggX10_thereIn_X10_no
set_option maxRecDepth 20000 in
theorem ggX10_thereIn_X10_in : GoodIn wsX10_thereIn wsX10_in := goodIn_r _ [17] rfl (by decide +kernel)
set_option maxRecDepth 20000 in
theorem gX10_thereIn_X10_in : GoodIn wsX10_thereIn (va_wsS RX10 144 yX10_in wsX10_in) := goodIn_app (goodIn_of _ (by decide +kernel)) ggX10_thereIn_X10_in
set_option maxRecDepth 20000 in
theorem ggX10_thereIn_X10_copy : GoodIn wsX10_thereIn wsX10_copy := goodIn_r _ [20] rfl (by decide +kernel)
set_option maxRecDepth 20000 in
theorem gX10_thereIn_X10_copy : GoodIn wsX10_thereIn (va_wsS RX10 168 yX10_copy wsX10_copy) := goodIn_app (goodIn_of _ (by decide +kernel)) ggX10_thereIn_X10_copy
set_option maxRecDepth 20000 in
theorem ggX10_thereIn_X10_hourOf : GoodIn wsX10_thereIn wsX10_hourOf := goodIn_r _ [24, 25, 26, 27, 28, 7, 29, 30, 31, 32, 33, 34, 35, 36, 37, 38, 39, 40, 41, 42, 43, 44, 45, 46, 47, 48, 49, 50, 51, 52, 53, 54, 55, 56, 57, 58, 59, 60, 61, 62, 63, 64, 65, 66, 67, 68, 69, 70, 71, 72, 73, 74, 75, 76, 77, 78, 79, 80, 81, 82, 83, 84, 85, 86, 87, 88, 89, 90, 91, 92, 93, 94, 95] rfl (by decide +kernel)
set_option maxRecDepth 20000 in
theorem gX10_thereIn_X10_hourOf : GoodIn wsX10_thereIn (wsV RX10 293 RX10 yX10_hourOf wsX10_hourOf) := goodIn_app (goodIn_of _ (by decide +kernel)) ggX10_thereIn_X10_hourOf
set_option maxRecDepth 20000 in
theorem ggX10_thereIn_X10_thereOf : GoodIn wsX10_thereIn wsX10_thereOf := goodIn_r _ [49, 25, 30, 31, 7, 32, 61, 62, 63, 64, 65, 66, 67, 68, 69, 70, 71, 72, 73, 74, 75, 76, 77, 78, 79, 80, 81, 82, 83, 84, 85, 86, 87, 88, 89, 90, 91, 92, 93, 94, 95] rfl (by decide +kernel)
set_option maxRecDepth 20000 in
theorem gX10_thereIn_X10_thereOf : GoodIn wsX10_thereIn (wsV RX10 259 RX10 yX10_thereOf wsX10_thereOf) := goodIn_app (goodIn_of _ (by decide +kernel)) ggX10_thereIn_X10_thereOf
theorem kX10_thereIn_176 : Cond.fieldLink RX10 176 "EveningVowModel" "hasEvening" "Z" ∈ wsX10_thereIn := List.mem_of_getElem? (i := 1) rfl
theorem iX10_thereIn_X10 : ∀ w ∈ u_ws RX10 TX10 35, w ∈ wsX10_thereIn := fun w h => (List.mem_cons_of_mem _ (List.mem_append_right _ h))
theorem kX10_thereIn_26 : Cond.fieldLink RX10 26 "EveningVowModel" "st" "[I" ∈ wsX10_thereIn := List.mem_of_getElem? (i := 2) rfl
theorem kX10_thereIn_35 : Cond.fieldLink RX10 35 "EveningVowModel" "trial" "[I" ∈ wsX10_thereIn := List.mem_of_getElem? (i := 3) rfl
set_option maxHeartbeats 4000000 in
set_option maxRecDepth 100000 in
theorem wX10_thereIn_L50 {p : Program} {l : Launch} {e : Env} {s : State} {m : MethodId} {args : Array Value} {below : List Frame} {meth : Method} {c : Code} {g : GG} {A : Nat → Prop} (C0 : Cx p s m args meth c cX10_thereIn 3 (some .int) RX10 wsX10_thereIn g A) (a_t : Nat) (p_t : Nat → Nat) (n : Nat) (x1 : Int32) (f_t_15 : Nat → Int32) (f_t_17 : Nat → Int32) (r : Int32) (o_t' : Nat → Int32) (f_t_25' : Nat → Int32) (K : (Nat → Int32) → (Nat → Int32) → Option (Int32 × (Nat → Int32) × (Nat → Int32))) (hKx : ∀ (o_t : Nat → Int32) (f_t_25 : Nat → Int32) (H : Heap) (locs : List Loc) (ls : Array Slot), K o_t f_t_25 = some (r, o_t', f_t_25') → va_P g.1 vwCl [oX10 a_t p_t o_t, aI g (p_t 15) 266 f_t_15, aI g (p_t 17) 17 f_t_17, aI g (p_t 25) 17 f_t_25] H → va_D A [oX10 a_t p_t o_t, aI g (p_t 15) 266 f_t_15, aI g (p_t 17) 17 f_t_17, aI g (p_t 25) 17 f_t_25] → va_S A s.heap H locs → lv_has ls 3 [(0, .ref a_t)] → W p l e ({ frames := 4, cells := 0, slots := 0, locals := 93 } : Room) s m args below meth c H locs 0 0 (MQ below (EndI g r [oX10 a_t p_t o_t', aI g (p_t 15) 266 f_t_15, aI g (p_t 17) 17 f_t_17, aI g (p_t 25) 17 f_t_25'] A) args s 0 0 A) (F0 m 70 ls [])) : ∀ (k : Nat) (x2 : Int32) (o_t : Nat → Int32) (f_t_25 : Nat → Int32), fX10_thereIn_L50 n x1 f_t_15 K k x2 o_t f_t_25 = some (r, o_t', f_t_25') → ∀ (H : Heap) (locs : List Loc) (ls : Array Slot), va_P g.1 vwCl [oX10 a_t p_t o_t, aI g (p_t 15) 266 f_t_15, aI g (p_t 17) 17 f_t_17, aI g (p_t 25) 17 f_t_25] H → va_D A [oX10 a_t p_t o_t, aI g (p_t 15) 266 f_t_15, aI g (p_t 17) 17 f_t_17, aI g (p_t 25) 17 f_t_25] → va_S A s.heap H locs → lv_has ls 3 [(0, .ref a_t), (1, .int x1), (2, .int x2)] → W p l e ({ frames := 4, cells := 0, slots := 0, locals := 93 } : Room) s m args below meth c H locs 0 0 (MQ below (EndI g r [oX10 a_t p_t o_t', aI g (p_t 15) 266 f_t_15, aI g (p_t 17) 17 f_t_17, aI g (p_t 25) 17 f_t_25'] A) args s 0 0 A) (F0 m 50 ls []) := by
  obtain ⟨hx, hb, hml, hown, hts, hr, hlk, hK, hA, hSW⟩ := id C0
  intro k
  induction k with
  | zero =>
    intro x2 o_t f_t_25 hF
    exact absurd hF (by simp [fX10_thereIn_L50])
  | succ k ih =>
    intro x2 o_t f_t_25 hF H locs ls hP hD hS hl
    rw [fX10_thereIn_L50] at hF
    refine lv_iload_n hx hb dX10_thereIn_50 rfl (lv_at hl 2 rfl) ?_
    refine lv_iload_n hx hb dX10_thereIn_51 rfl (lv_at hl 1 rfl) ?_
    refine lv_icmp_ge (tgt := 70) hx hb dX10_thereIn_52 (by decide) (fun c_9 => ?_) (fun c_9 => ?_)
    · have hF := it_p c_9 hF
      exact hKx o_t f_t_25 _ _ _ hF (hP.sub [0, 1, 2, 3] rfl) (hD.sub [0, 1, 2, 3] rfl rfl) hS (lv_sub hl [0] rfl)
    · have hF := it_n c_9 hF
      refine lv_aload_n hx hb dX10_thereIn_55 rfl (lv_at hl 0 rfl) ?_
      refine lv_aload_n hx hb dX10_thereIn_56 rfl (lv_at hl 0 rfl) ?_
      refine va_get (D := g.1) (ci := 10) (v := .ref (p_t 25)) (C := RX10) (T := TX10) (N := 35) hx hb hts iX10_thereIn_X10 hown hK.1 hP 0 rfl rfl 25 (by decide) (hts _ kX10_thereIn_35) (fun _ h9 => h9) rfl dX10_thereIn_57 ?_
      obtain ⟨u_10, u_11, u_12, hu_13, hF⟩ := ob3_some hF
      refine call_i (wr := [aI g (p_t 17) 17 f_t_17]) (As := [.ref (p_t 25)]) (rest := []) (ci := 10) (q0 := 0) C0 (mX10_hourOf l g a_t (p_t 25) p_t n o_t f_t_15 f_t_25 u_10 u_11 u_12 hu_13) (cwV 1 hts gX10_thereIn_X10_hourOf rfl rfl rfl (by decide +kernel) ⟨Nat.le_of_ble_eq_true rfl, Nat.le_of_ble_eq_true rfl⟩) hP hD hS [0, 1, 3] [2] rfl rfl rfl rfl rfl (by decide) rfl rfl hl.1 rfl rfl (Nat.le_of_ble_eq_true rfl) ⟨Nat.zero_le _, Nat.zero_le _⟩ dX10_thereIn_60 ?_
      intro H locs hP hD hS
      refine lv_pop hx hb dX10_thereIn_63 rfl ?_
      refine lv_iinc (v := (x2 + (1 : Int32))) (lv' := [(2, .int (x2 + (1 : Int32))), (0, .ref a_t), (1, .int x1)]) hx hb dX10_thereIn_64 hl (k := 2) rfl rfl (by decide) rfl (fun ls hl => ?_)
      refine lv_goto (tgt := 50) hx hb dX10_thereIn_67 (by decide) ?_
      exact ih (x2 + (1 : Int32)) u_11 u_12 hF _ _ _ (hP.sub [1, 2, 0, 3] rfl) (hD.sub [1, 2, 0, 3] rfl rfl) hS (lv_sub hl [1, 2, 0] rfl)
set_option maxHeartbeats 4000000 in
set_option maxRecDepth 100000 in
theorem mX10_thereIn (l : Launch) (g : GG) (a_t : Nat) (p_t : Nat → Nat) (n : Nat) (x1 : Int32) (o_t : Nat → Int32) (f_t_15 : Nat → Int32) (f_t_17 : Nat → Int32) (f_t_25 : Nat → Int32) (r : Int32) (o_t' : Nat → Int32) (f_t_25' : Nat → Int32) (hF : fX10_thereIn n x1 o_t f_t_15 f_t_17 f_t_25 = some (r, o_t', f_t_25')) : MI l g yX10_thereIn wsX10_thereIn ({ frames := 4, cells := 0, slots := 0, locals := 93 } : Room) [.ref a_t, .int x1] [oX10 a_t p_t o_t, aI g (p_t 15) 266 f_t_15, aI g (p_t 17) 17 f_t_17, aI g (p_t 25) 17 f_t_25] r [oX10 a_t p_t o_t', aI g (p_t 15) 266 f_t_15, aI g (p_t 17) 17 f_t_17, aI g (p_t 25) 17 f_t_25'] := by
  refine MI.of (cc := cX10_thereIn) (maxL := 3) (rt := .int) (own := RX10) rfl rfl (by decide) (Nat.le_of_ble_eq_true rfl) ?_
  intro p e s m args below meth c A C0 hP hD hS ls hl
  obtain ⟨hx, hb, hml, hown, hts, hr, hlk, hK, hA, hSW⟩ := id C0
  have hl : lv_has ls 3 [(0, .ref a_t), (1, .int x1)] := hl
  rw [fX10_thereIn] at hF
  refine lv_aload_n hx hb dX10_thereIn_0 rfl (lv_at hl 0 rfl) ?_
  obtain ⟨u_1, hu_2, hF⟩ := ob1_some hF
  refine call_v (wr := [aI g (p_t 15) 266 f_t_15, aI g (p_t 17) 17 f_t_17, aI g (p_t 25) 17 f_t_25]) (As := []) (rest := []) (ci := 10) (q0 := 0) C0 (mX10_good l g a_t p_t n o_t u_1 hu_2) (cwV 0 hts gX10_thereIn_X10_good rfl rfl rfl (by decide +kernel) ⟨Nat.le_of_ble_eq_true rfl, Nat.le_of_ble_eq_true rfl⟩) hP hD hS [0] [1, 2, 3] rfl rfl rfl rfl rfl (by decide) rfl rfl hl.1 rfl rfl (Nat.le_of_ble_eq_true rfl) ⟨Nat.zero_le _, Nat.zero_le _⟩ dX10_thereIn_1 ?_
  intro H locs hP hD hS
  refine lv_aload_n hx hb dX10_thereIn_4 rfl (lv_at hl 0 rfl) ?_
  refine va_get (D := g.1) (ci := 10) (v := .int (u_1 14)) (C := RX10) (T := TX10) (N := 35) hx hb hts iX10_thereIn_X10 hown hK.1 hP 3 rfl rfl 14 (by decide) (hts _ kX10_thereIn_176) (fun _ h9 => h9) rfl dX10_thereIn_5 ?_
  refine lv_if_ne (tgt := 17) hx hb dX10_thereIn_8 (by decide) (fun c_3 => ?_) (fun c_3 => ?_)
  · have hF := it_n c_3 hF
    refine lv_iload_n hx hb dX10_thereIn_17 rfl (lv_at hl 1 rfl) ?_
    refine lv_iconst (v := (0 : Int32)) hx hb dX10_thereIn_18 (by decide) ?_
    refine lv_bipush (v := (60 : Int32)) hx hb dX10_thereIn_19 (by decide) ?_
    obtain ⟨u_4, hu_5, hF⟩ := ob1_some hF
    refine call_si (wr := [aI g (p_t 15) 266 f_t_15, aI g (p_t 17) 17 f_t_17, aI g (p_t 25) 17 f_t_25, oX10 a_t p_t u_1]) (As := [.int x1, .int (0 : Int32), .int (60 : Int32)]) (rest := []) C0 (mX10_in l g n x1 (0 : Int32) (60 : Int32) u_4 hu_5) (va_cwS 3 hts gX10_thereIn_X10_in rfl rfl rfl (by decide +kernel) ⟨Nat.le_of_ble_eq_true rfl, Nat.le_of_ble_eq_true rfl⟩) hP hD hS [] [0, 1, 2, 3] rfl rfl rfl rfl rfl (by decide) hl.1 rfl rfl (Nat.le_of_ble_eq_true rfl) ⟨Nat.zero_le _, Nat.zero_le _⟩ dX10_thereIn_21 ?_
    intro H locs hP hD hS
    refine lv_if_ne (tgt := 33) hx hb dX10_thereIn_24 (by decide) (fun c_6 => ?_) (fun c_6 => ?_)
    · have hF := it_n c_6 hF
      refine lv_aload_n hx hb dX10_thereIn_33 rfl (lv_at hl 0 rfl) ?_
      refine va_get (D := g.1) (ci := 10) (v := .ref (p_t 17)) (C := RX10) (T := TX10) (N := 35) hx hb hts iX10_thereIn_X10 hown hK.1 hP 3 rfl rfl 17 (by decide) (hts _ kX10_thereIn_26) (fun _ h9 => h9) rfl dX10_thereIn_34 ?_
      refine lv_iconst (v := (0 : Int32)) hx hb dX10_thereIn_37 (by decide) ?_
      refine lv_aload_n hx hb dX10_thereIn_38 rfl (lv_at hl 0 rfl) ?_
      refine va_get (D := g.1) (ci := 10) (v := .ref (p_t 25)) (C := RX10) (T := TX10) (N := 35) hx hb hts iX10_thereIn_X10 hown hK.1 hP 3 rfl rfl 25 (by decide) (hts _ kX10_thereIn_35) (fun _ h9 => h9) rfl dX10_thereIn_39 ?_
      refine lv_iconst (v := (0 : Int32)) hx hb dX10_thereIn_42 (by decide) ?_
      refine lv_bipush (v := (17 : Int32)) hx hb dX10_thereIn_43 (by decide) ?_
      obtain ⟨u_7, hu_8, hF⟩ := ob1_some hF
      refine call_sv (wr := [aI g (p_t 15) 266 f_t_15, oX10 a_t p_t u_1]) (As := [.ref (p_t 17), .int (0 : Int32), .ref (p_t 25), .int (0 : Int32), .int (17 : Int32)]) (rest := []) C0 (mX10_copy l g (p_t 17) (p_t 25) n (0 : Int32) (0 : Int32) (17 : Int32) 17 17 f_t_17 f_t_25 u_7 hu_8) (va_cwS 5 hts gX10_thereIn_X10_copy rfl rfl rfl (by decide +kernel) ⟨Nat.le_of_ble_eq_true rfl, Nat.le_of_ble_eq_true rfl⟩) hP hD hS [1, 2] [0, 3] rfl rfl rfl rfl rfl (by decide) hl.1 rfl rfl (Nat.le_of_ble_eq_true rfl) ⟨Nat.zero_le _, Nat.zero_le _⟩ dX10_thereIn_45 ?_
      intro H locs hP hD hS
      refine lv_iconst (v := (0 : Int32)) hx hb dX10_thereIn_48 (by decide) ?_
      refine lv_istore_n (lv' := [(2, .int (0 : Int32)), (0, .ref a_t), (1, .int x1)]) hx hb dX10_thereIn_49 rfl hl (by decide) rfl (fun ls hl => ?_)
      refine wX10_thereIn_L50 C0 a_t p_t n x1 f_t_15 f_t_17 r o_t' f_t_25' _ ?_ n (0 : Int32) u_1 u_7 hF _ _ _ (hP.sub [1, 0, 2, 3] rfl) (hD.sub [1, 0, 2, 3] rfl rfl) hS (lv_sub hl [1, 2, 0] rfl)
      · intro o_t_x50 f_t_25_x50 H locs ls hF hP hD hS hl
        refine lv_aload_n hx hb dX10_thereIn_70 rfl (lv_at hl 0 rfl) ?_
        refine lv_aload_n hx hb dX10_thereIn_71 rfl (lv_at hl 0 rfl) ?_
        refine va_get (D := g.1) (ci := 10) (v := .ref (p_t 25)) (C := RX10) (T := TX10) (N := 35) hx hb hts iX10_thereIn_X10 hown hK.1 hP 0 rfl rfl 25 (by decide) (hts _ kX10_thereIn_35) (fun _ h9 => h9) rfl dX10_thereIn_72 ?_
        obtain ⟨u_14, hu_15, hF⟩ := ob1_some hF
        refine call_i (wr := [aI g (p_t 17) 17 f_t_17]) (As := [.ref (p_t 25)]) (rest := []) (ci := 10) (q0 := 0) C0 (mX10_thereOf l g a_t (p_t 25) p_t n o_t_x50 f_t_15 f_t_25_x50 u_14 hu_15) (cwV 1 hts gX10_thereIn_X10_thereOf rfl rfl rfl (by decide +kernel) ⟨Nat.le_of_ble_eq_true rfl, Nat.le_of_ble_eq_true rfl⟩) hP hD hS [0, 1, 3] [2] rfl rfl rfl rfl rfl (by decide) rfl rfl hl.1 rfl rfl (Nat.le_of_ble_eq_true rfl) ⟨Nat.zero_le _, Nat.zero_le _⟩ dX10_thereIn_75 ?_
        intro H locs hP hD hS
        cases hF
        exact ret_i C0 hP hD hS [1, 2, 0, 3] rfl rfl rfl dX10_thereIn_78 rfl
    · have hF := it_p c_6 hF
      refine lv_aload_n hx hb dX10_thereIn_27 rfl (lv_at hl 0 rfl) ?_
      refine lv_iconst (v := (2 : Int32)) hx hb dX10_thereIn_28 (by decide) ?_
      obtain ⟨u_16, u_17, hu_18, hF⟩ := ob2_some hF
      refine call_i (wr := [aI g (p_t 15) 266 f_t_15, aI g (p_t 17) 17 f_t_17, aI g (p_t 25) 17 f_t_25]) (As := [.int (2 : Int32)]) (rest := []) (ci := 10) (q0 := 0) C0 (mX10_no l g a_t p_t n (2 : Int32) u_1 u_16 u_17 hu_18) (cwV 1 hts gX10_thereIn_X10_no rfl rfl rfl (by decide +kernel) ⟨Nat.le_of_ble_eq_true rfl, Nat.le_of_ble_eq_true rfl⟩) hP hD hS [3] [0, 1, 2] rfl rfl rfl rfl rfl (by decide) rfl rfl hl.1 rfl rfl (Nat.le_of_ble_eq_true rfl) ⟨Nat.zero_le _, Nat.zero_le _⟩ dX10_thereIn_29 ?_
      intro H locs hP hD hS
      cases hF
      exact ret_i C0 hP hD hS [3, 0, 1, 2] rfl rfl rfl dX10_thereIn_32 rfl
  · have hF := it_p c_3 hF
    refine lv_aload_n hx hb dX10_thereIn_11 rfl (lv_at hl 0 rfl) ?_
    refine lv_iconst (v := (1 : Int32)) hx hb dX10_thereIn_12 (by decide) ?_
    obtain ⟨u_19, u_20, hu_21, hF⟩ := ob2_some hF
    refine call_i (wr := [aI g (p_t 15) 266 f_t_15, aI g (p_t 17) 17 f_t_17, aI g (p_t 25) 17 f_t_25]) (As := [.int (1 : Int32)]) (rest := []) (ci := 10) (q0 := 0) C0 (mX10_no l g a_t p_t n (1 : Int32) u_1 u_19 u_20 hu_21) (cwV 1 hts gX10_thereIn_X10_no rfl rfl rfl (by decide +kernel) ⟨Nat.le_of_ble_eq_true rfl, Nat.le_of_ble_eq_true rfl⟩) hP hD hS [3] [0, 1, 2] rfl rfl rfl rfl rfl (by decide) rfl rfl hl.1 rfl rfl (Nat.le_of_ble_eq_true rfl) ⟨Nat.zero_le _, Nat.zero_le _⟩ dX10_thereIn_13 ?_
    intro H locs hP hD hS
    cases hF
    exact ret_i C0 hP hD hS [3, 0, 1, 2] rfl rfl rfl dX10_thereIn_16 rfl

theorem dAX10_leavesIn : ∀ q ∈ ([(0, (.aload_n 0, 1)), (1, (.invokevirtual 159, 3)), (4, (.aload_n 0, 1)), (5, (.iload_n 1, 1)), (6, (.invokevirtual 300, 3)), (9, (.ifCond .ne 9, 3)), (12, (.aload_n 0, 1)), (13, (.iconst 1, 1)), (14, (.invokevirtual 162, 3)), (17, (.ireturn, 1)), (18, (.aload_n 0, 1)), (19, (.getfield 26, 3)), (22, (.iconst 0, 1)), (23, (.aload_n 0, 1)), (24, (.getfield 35, 3)), (27, (.iconst 0, 1)), (28, (.bipush 17, 2)), (30, (.invokestatic 168, 3)), (33, (.iconst 0, 1)), (34, (.istore_n 2, 1)), (35, (.iload_n 2, 1)), (36, (.bipush 60, 2)), (38, (.if_icmp .gt 31, 3)), (41, (.aload_n 0, 1)), (42, (.getfield 35, 3)), (45, (.iload_n 1, 1)), (46, (.invokestatic 248, 3)), (49, (.ifCond .ne 5, 3)), (52, (.iload_n 2, 1)), (53, (.ireturn, 1)), (54, (.aload_n 0, 1)), (55, (.aload_n 0, 1)), (56, (.getfield 35, 3)), (59, (.invokevirtual 293, 3)), (62, (.pop, 1)), (63, (.iinc 2 1, 3)), (66, (.goto (-31), 3)), (69, (.bipush (-2), 2)), (71, (.ireturn, 1))] : List (Nat × (Instr × Nat))), decode cX10_leavesIn q.1 = .ok q.2 := by decide +kernel
theorem dX10_leavesIn_0 : decode cX10_leavesIn 0 = .ok (.aload_n 0, 1) := dAX10_leavesIn (0, (.aload_n 0, 1)) (List.mem_of_getElem? (i := 0) rfl)
theorem dX10_leavesIn_1 : decode cX10_leavesIn 1 = .ok (.invokevirtual 159, 3) := dAX10_leavesIn (1, (.invokevirtual 159, 3)) (List.mem_of_getElem? (i := 1) rfl)
theorem dX10_leavesIn_4 : decode cX10_leavesIn 4 = .ok (.aload_n 0, 1) := dAX10_leavesIn (4, (.aload_n 0, 1)) (List.mem_of_getElem? (i := 2) rfl)
theorem dX10_leavesIn_5 : decode cX10_leavesIn 5 = .ok (.iload_n 1, 1) := dAX10_leavesIn (5, (.iload_n 1, 1)) (List.mem_of_getElem? (i := 3) rfl)
theorem dX10_leavesIn_6 : decode cX10_leavesIn 6 = .ok (.invokevirtual 300, 3) := dAX10_leavesIn (6, (.invokevirtual 300, 3)) (List.mem_of_getElem? (i := 4) rfl)
theorem dX10_leavesIn_9 : decode cX10_leavesIn 9 = .ok (.ifCond .ne 9, 3) := dAX10_leavesIn (9, (.ifCond .ne 9, 3)) (List.mem_of_getElem? (i := 5) rfl)
theorem dX10_leavesIn_12 : decode cX10_leavesIn 12 = .ok (.aload_n 0, 1) := dAX10_leavesIn (12, (.aload_n 0, 1)) (List.mem_of_getElem? (i := 6) rfl)
theorem dX10_leavesIn_13 : decode cX10_leavesIn 13 = .ok (.iconst 1, 1) := dAX10_leavesIn (13, (.iconst 1, 1)) (List.mem_of_getElem? (i := 7) rfl)
theorem dX10_leavesIn_14 : decode cX10_leavesIn 14 = .ok (.invokevirtual 162, 3) := dAX10_leavesIn (14, (.invokevirtual 162, 3)) (List.mem_of_getElem? (i := 8) rfl)
theorem dX10_leavesIn_17 : decode cX10_leavesIn 17 = .ok (.ireturn, 1) := dAX10_leavesIn (17, (.ireturn, 1)) (List.mem_of_getElem? (i := 9) rfl)
theorem dX10_leavesIn_18 : decode cX10_leavesIn 18 = .ok (.aload_n 0, 1) := dAX10_leavesIn (18, (.aload_n 0, 1)) (List.mem_of_getElem? (i := 10) rfl)
theorem dX10_leavesIn_19 : decode cX10_leavesIn 19 = .ok (.getfield 26, 3) := dAX10_leavesIn (19, (.getfield 26, 3)) (List.mem_of_getElem? (i := 11) rfl)
theorem dX10_leavesIn_22 : decode cX10_leavesIn 22 = .ok (.iconst 0, 1) := dAX10_leavesIn (22, (.iconst 0, 1)) (List.mem_of_getElem? (i := 12) rfl)
theorem dX10_leavesIn_23 : decode cX10_leavesIn 23 = .ok (.aload_n 0, 1) := dAX10_leavesIn (23, (.aload_n 0, 1)) (List.mem_of_getElem? (i := 13) rfl)
theorem dX10_leavesIn_24 : decode cX10_leavesIn 24 = .ok (.getfield 35, 3) := dAX10_leavesIn (24, (.getfield 35, 3)) (List.mem_of_getElem? (i := 14) rfl)
theorem dX10_leavesIn_27 : decode cX10_leavesIn 27 = .ok (.iconst 0, 1) := dAX10_leavesIn (27, (.iconst 0, 1)) (List.mem_of_getElem? (i := 15) rfl)
theorem dX10_leavesIn_28 : decode cX10_leavesIn 28 = .ok (.bipush 17, 2) := dAX10_leavesIn (28, (.bipush 17, 2)) (List.mem_of_getElem? (i := 16) rfl)
theorem dX10_leavesIn_30 : decode cX10_leavesIn 30 = .ok (.invokestatic 168, 3) := dAX10_leavesIn (30, (.invokestatic 168, 3)) (List.mem_of_getElem? (i := 17) rfl)
theorem dX10_leavesIn_33 : decode cX10_leavesIn 33 = .ok (.iconst 0, 1) := dAX10_leavesIn (33, (.iconst 0, 1)) (List.mem_of_getElem? (i := 18) rfl)
theorem dX10_leavesIn_34 : decode cX10_leavesIn 34 = .ok (.istore_n 2, 1) := dAX10_leavesIn (34, (.istore_n 2, 1)) (List.mem_of_getElem? (i := 19) rfl)
theorem dX10_leavesIn_35 : decode cX10_leavesIn 35 = .ok (.iload_n 2, 1) := dAX10_leavesIn (35, (.iload_n 2, 1)) (List.mem_of_getElem? (i := 20) rfl)
theorem dX10_leavesIn_36 : decode cX10_leavesIn 36 = .ok (.bipush 60, 2) := dAX10_leavesIn (36, (.bipush 60, 2)) (List.mem_of_getElem? (i := 21) rfl)
theorem dX10_leavesIn_38 : decode cX10_leavesIn 38 = .ok (.if_icmp .gt 31, 3) := dAX10_leavesIn (38, (.if_icmp .gt 31, 3)) (List.mem_of_getElem? (i := 22) rfl)
theorem dX10_leavesIn_41 : decode cX10_leavesIn 41 = .ok (.aload_n 0, 1) := dAX10_leavesIn (41, (.aload_n 0, 1)) (List.mem_of_getElem? (i := 23) rfl)
theorem dX10_leavesIn_42 : decode cX10_leavesIn 42 = .ok (.getfield 35, 3) := dAX10_leavesIn (42, (.getfield 35, 3)) (List.mem_of_getElem? (i := 24) rfl)
theorem dX10_leavesIn_45 : decode cX10_leavesIn 45 = .ok (.iload_n 1, 1) := dAX10_leavesIn (45, (.iload_n 1, 1)) (List.mem_of_getElem? (i := 25) rfl)
theorem dX10_leavesIn_46 : decode cX10_leavesIn 46 = .ok (.invokestatic 248, 3) := dAX10_leavesIn (46, (.invokestatic 248, 3)) (List.mem_of_getElem? (i := 26) rfl)
theorem dX10_leavesIn_49 : decode cX10_leavesIn 49 = .ok (.ifCond .ne 5, 3) := dAX10_leavesIn (49, (.ifCond .ne 5, 3)) (List.mem_of_getElem? (i := 27) rfl)
theorem dX10_leavesIn_52 : decode cX10_leavesIn 52 = .ok (.iload_n 2, 1) := dAX10_leavesIn (52, (.iload_n 2, 1)) (List.mem_of_getElem? (i := 28) rfl)
theorem dX10_leavesIn_53 : decode cX10_leavesIn 53 = .ok (.ireturn, 1) := dAX10_leavesIn (53, (.ireturn, 1)) (List.mem_of_getElem? (i := 29) rfl)
theorem dX10_leavesIn_54 : decode cX10_leavesIn 54 = .ok (.aload_n 0, 1) := dAX10_leavesIn (54, (.aload_n 0, 1)) (List.mem_of_getElem? (i := 30) rfl)
theorem dX10_leavesIn_55 : decode cX10_leavesIn 55 = .ok (.aload_n 0, 1) := dAX10_leavesIn (55, (.aload_n 0, 1)) (List.mem_of_getElem? (i := 31) rfl)
theorem dX10_leavesIn_56 : decode cX10_leavesIn 56 = .ok (.getfield 35, 3) := dAX10_leavesIn (56, (.getfield 35, 3)) (List.mem_of_getElem? (i := 32) rfl)
theorem dX10_leavesIn_59 : decode cX10_leavesIn 59 = .ok (.invokevirtual 293, 3) := dAX10_leavesIn (59, (.invokevirtual 293, 3)) (List.mem_of_getElem? (i := 33) rfl)
theorem dX10_leavesIn_62 : decode cX10_leavesIn 62 = .ok (.pop, 1) := dAX10_leavesIn (62, (.pop, 1)) (List.mem_of_getElem? (i := 34) rfl)
theorem dX10_leavesIn_63 : decode cX10_leavesIn 63 = .ok (.iinc 2 1, 3) := dAX10_leavesIn (63, (.iinc 2 1, 3)) (List.mem_of_getElem? (i := 35) rfl)
theorem dX10_leavesIn_66 : decode cX10_leavesIn 66 = .ok (.goto (-31), 3) := dAX10_leavesIn (66, (.goto (-31), 3)) (List.mem_of_getElem? (i := 36) rfl)
theorem dX10_leavesIn_69 : decode cX10_leavesIn 69 = .ok (.bipush (-2), 2) := dAX10_leavesIn (69, (.bipush (-2), 2)) (List.mem_of_getElem? (i := 37) rfl)
theorem dX10_leavesIn_71 : decode cX10_leavesIn 71 = .ok (.ireturn, 1) := dAX10_leavesIn (71, (.ireturn, 1)) (List.mem_of_getElem? (i := 38) rfl)
set_option maxRecDepth 20000 in
theorem ggX10_leavesIn_X10_good : GoodIn wsX10_leavesIn wsX10_good := goodIn_r _ [7, 8, 9, 65, 66, 67, 68, 69, 70, 71, 72, 73, 74, 75, 76, 77, 78, 79, 80, 81, 82, 83, 84, 85, 86, 87, 88, 89, 90, 91, 92, 93, 94, 95, 96, 97, 98, 99] rfl (by decide +kernel)
set_option maxRecDepth 20000 in
theorem gX10_leavesIn_X10_good : GoodIn wsX10_leavesIn (wsV RX10 159 RX10 yX10_good wsX10_good) := goodIn_app (goodIn_of _ (by decide +kernel)) ggX10_leavesIn_X10_good
set_option maxRecDepth 20000 in
theorem ggX10_leavesIn_X10_isGuest : GoodIn wsX10_leavesIn wsX10_isGuest := goodIn_r _ [13, 14, 15, 16, 17, 6, 18, 65, 66, 67, 68, 69, 70, 71, 72, 73, 74, 75, 76, 77, 78, 79, 80, 81, 82, 83, 84, 85, 86, 87, 88, 89, 90, 91, 92, 93, 94, 95, 96, 97, 98, 99] rfl (by decide +kernel)
set_option maxRecDepth 20000 in
theorem gX10_leavesIn_X10_isGuest : GoodIn wsX10_leavesIn (wsV RX10 300 RX10 yX10_isGuest wsX10_isGuest) := goodIn_app (goodIn_of _ (by decide +kernel)) ggX10_leavesIn_X10_isGuest
set_option maxRecDepth 20000 in
theorem ggX10_leavesIn_X10_no : GoodIn wsX10_leavesIn wsX10_no := goodIn_r _ [22, 9, 65, 66, 67, 68, 69, 70, 71, 72, 73, 74, 75, 76, 77, 78, 79, 80, 81, 82, 83, 84, 85, 86, 87, 88, 89, 90, 91, 92, 93, 94, 95, 96, 97, 98, 99] rfl (by decide +kernel)
set_option maxRecDepth 20000 in
theorem gX10_leavesIn_X10_no : GoodIn wsX10_leavesIn (wsV RX10 162 RX10 yX10_no wsX10_no) := goodIn_app (goodIn_of _ (by decide +kernel)) ggX10_leavesIn_X10_no
set_option maxRecDepth 20000 in
theorem ggX10_leavesIn_X10_copy : GoodIn wsX10_leavesIn wsX10_copy := goodIn_r _ [25] rfl (by decide +kernel)
set_option maxRecDepth 20000 in
theorem gX10_leavesIn_X10_copy : GoodIn wsX10_leavesIn (va_wsS RX10 168 yX10_copy wsX10_copy) := goodIn_app (goodIn_of _ (by decide +kernel)) ggX10_leavesIn_X10_copy
set_option maxRecDepth 20000 in
theorem ggX10_leavesIn_X10_isIn : GoodIn wsX10_leavesIn wsX10_isIn := goodIn_r _ [28] rfl (by decide +kernel)
set_option maxRecDepth 20000 in
theorem gX10_leavesIn_X10_isIn : GoodIn wsX10_leavesIn (va_wsS RX10 248 yX10_isIn wsX10_isIn) := goodIn_app (goodIn_of _ (by decide +kernel)) ggX10_leavesIn_X10_isIn
set_option maxRecDepth 20000 in
theorem ggX10_leavesIn_X10_hourOf : GoodIn wsX10_leavesIn wsX10_hourOf := goodIn_r _ [32, 15, 33, 34, 35, 6, 36, 26, 27, 28, 37, 38, 39, 40, 41, 42, 43, 44, 45, 46, 47, 48, 49, 50, 51, 52, 53, 54, 55, 56, 57, 58, 59, 60, 61, 62, 63, 64, 65, 66, 67, 68, 69, 70, 71, 72, 73, 74, 75, 76, 77, 78, 79, 80, 81, 82, 83, 84, 85, 86, 87, 88, 89, 90, 91, 92, 93, 94, 95, 96, 97, 98, 99] rfl (by decide +kernel)
set_option maxRecDepth 20000 in
theorem gX10_leavesIn_X10_hourOf : GoodIn wsX10_leavesIn (wsV RX10 293 RX10 yX10_hourOf wsX10_hourOf) := goodIn_app (goodIn_of _ (by decide +kernel)) ggX10_leavesIn_X10_hourOf
theorem kX10_leavesIn_26 : Cond.fieldLink RX10 26 "EveningVowModel" "st" "[I" ∈ wsX10_leavesIn := List.mem_of_getElem? (i := 1) rfl
theorem iX10_leavesIn_X10 : ∀ w ∈ u_ws RX10 TX10 35, w ∈ wsX10_leavesIn := fun w h => (List.mem_cons_of_mem _ (List.mem_append_right _ h))
theorem kX10_leavesIn_35 : Cond.fieldLink RX10 35 "EveningVowModel" "trial" "[I" ∈ wsX10_leavesIn := List.mem_of_getElem? (i := 2) rfl
set_option maxHeartbeats 4000000 in
set_option maxRecDepth 100000 in
theorem wX10_leavesIn_L35 {p : Program} {l : Launch} {e : Env} {s : State} {m : MethodId} {args : Array Value} {below : List Frame} {meth : Method} {c : Code} {g : GG} {A : Nat → Prop} (C0 : Cx p s m args meth c cX10_leavesIn 3 (some .int) RX10 wsX10_leavesIn g A) (a_t : Nat) (p_t : Nat → Nat) (n : Nat) (x1 : Int32) (f_t_15 : Nat → Int32) (f_t_17 : Nat → Int32) (r : Int32) (o_t' : Nat → Int32) (f_t_25' : Nat → Int32) (K : (Nat → Int32) → (Nat → Int32) → Option (Int32 × (Nat → Int32) × (Nat → Int32))) (hKx : ∀ (o_t : Nat → Int32) (f_t_25 : Nat → Int32) (H : Heap) (locs : List Loc) (ls : Array Slot), K o_t f_t_25 = some (r, o_t', f_t_25') → va_P g.1 vwCl [oX10 a_t p_t o_t, aI g (p_t 15) 266 f_t_15, aI g (p_t 17) 17 f_t_17, aI g (p_t 25) 17 f_t_25] H → va_D A [oX10 a_t p_t o_t, aI g (p_t 15) 266 f_t_15, aI g (p_t 17) 17 f_t_17, aI g (p_t 25) 17 f_t_25] → va_S A s.heap H locs → lv_has ls 3 [] → W p l e ({ frames := 4, cells := 0, slots := 0, locals := 93 } : Room) s m args below meth c H locs 0 0 (MQ below (EndI g r [oX10 a_t p_t o_t', aI g (p_t 15) 266 f_t_15, aI g (p_t 17) 17 f_t_17, aI g (p_t 25) 17 f_t_25'] A) args s 0 0 A) (F0 m 69 ls [])) : ∀ (k : Nat) (x2 : Int32) (o_t : Nat → Int32) (f_t_25 : Nat → Int32), fX10_leavesIn_L35 n x1 f_t_15 K k x2 o_t f_t_25 = some (r, o_t', f_t_25') → ∀ (H : Heap) (locs : List Loc) (ls : Array Slot), va_P g.1 vwCl [oX10 a_t p_t o_t, aI g (p_t 15) 266 f_t_15, aI g (p_t 17) 17 f_t_17, aI g (p_t 25) 17 f_t_25] H → va_D A [oX10 a_t p_t o_t, aI g (p_t 15) 266 f_t_15, aI g (p_t 17) 17 f_t_17, aI g (p_t 25) 17 f_t_25] → va_S A s.heap H locs → lv_has ls 3 [(0, .ref a_t), (1, .int x1), (2, .int x2)] → W p l e ({ frames := 4, cells := 0, slots := 0, locals := 93 } : Room) s m args below meth c H locs 0 0 (MQ below (EndI g r [oX10 a_t p_t o_t', aI g (p_t 15) 266 f_t_15, aI g (p_t 17) 17 f_t_17, aI g (p_t 25) 17 f_t_25'] A) args s 0 0 A) (F0 m 35 ls []) := by
  obtain ⟨hx, hb, hml, hown, hts, hr, hlk, hK, hA, hSW⟩ := id C0
  intro k
  induction k with
  | zero =>
    intro x2 o_t f_t_25 hF
    exact absurd hF (by simp [fX10_leavesIn_L35])
  | succ k ih =>
    intro x2 o_t f_t_25 hF H locs ls hP hD hS hl
    rw [fX10_leavesIn_L35] at hF
    refine lv_iload_n hx hb dX10_leavesIn_35 rfl (lv_at hl 2 rfl) ?_
    refine lv_bipush (v := (60 : Int32)) hx hb dX10_leavesIn_36 (by decide) ?_
    refine lv_icmp_gt (tgt := 69) hx hb dX10_leavesIn_38 (by decide) (fun c_8 => ?_) (fun c_8 => ?_)
    · have hF := it_p c_8 hF
      exact hKx o_t f_t_25 _ _ _ hF (hP.sub [0, 1, 2, 3] rfl) (hD.sub [0, 1, 2, 3] rfl rfl) hS (lv_sub hl [] rfl)
    · have hF := it_n c_8 hF
      refine lv_aload_n hx hb dX10_leavesIn_41 rfl (lv_at hl 0 rfl) ?_
      refine va_get (D := g.1) (ci := 10) (v := .ref (p_t 25)) (C := RX10) (T := TX10) (N := 35) hx hb hts iX10_leavesIn_X10 hown hK.1 hP 0 rfl rfl 25 (by decide) (hts _ kX10_leavesIn_35) (fun _ h9 => h9) rfl dX10_leavesIn_42 ?_
      refine lv_iload_n hx hb dX10_leavesIn_45 rfl (lv_at hl 1 rfl) ?_
      obtain ⟨u_9, hu_10, hF⟩ := ob1_some hF
      refine call_si (wr := [oX10 a_t p_t o_t, aI g (p_t 15) 266 f_t_15, aI g (p_t 17) 17 f_t_17]) (As := [.ref (p_t 25), .int x1]) (rest := []) C0 (mX10_isIn l g (p_t 25) n x1 f_t_25 u_9 hu_10) (va_cwS 2 hts gX10_leavesIn_X10_isIn rfl rfl rfl (by decide +kernel) ⟨Nat.le_of_ble_eq_true rfl, Nat.le_of_ble_eq_true rfl⟩) hP hD hS [3] [0, 1, 2] rfl rfl rfl rfl rfl (by decide) hl.1 rfl rfl (Nat.le_of_ble_eq_true rfl) ⟨Nat.zero_le _, Nat.zero_le _⟩ dX10_leavesIn_46 ?_
      intro H locs hP hD hS
      refine lv_if_ne (tgt := 54) hx hb dX10_leavesIn_49 (by decide) (fun c_11 => ?_) (fun c_11 => ?_)
      · have hF := it_n c_11 hF
        refine lv_aload_n hx hb dX10_leavesIn_54 rfl (lv_at hl 0 rfl) ?_
        refine lv_aload_n hx hb dX10_leavesIn_55 rfl (lv_at hl 0 rfl) ?_
        refine va_get (D := g.1) (ci := 10) (v := .ref (p_t 25)) (C := RX10) (T := TX10) (N := 35) hx hb hts iX10_leavesIn_X10 hown hK.1 hP 0 rfl rfl 25 (by decide) (hts _ kX10_leavesIn_35) (fun _ h9 => h9) rfl dX10_leavesIn_56 ?_
        obtain ⟨u_12, u_13, u_14, hu_15, hF⟩ := ob3_some hF
        refine call_i (wr := [aI g (p_t 17) 17 f_t_17]) (As := [.ref (p_t 25)]) (rest := []) (ci := 10) (q0 := 0) C0 (mX10_hourOf l g a_t (p_t 25) p_t n o_t f_t_15 f_t_25 u_12 u_13 u_14 hu_15) (cwV 1 hts gX10_leavesIn_X10_hourOf rfl rfl rfl (by decide +kernel) ⟨Nat.le_of_ble_eq_true rfl, Nat.le_of_ble_eq_true rfl⟩) hP hD hS [0, 1, 3] [2] rfl rfl rfl rfl rfl (by decide) rfl rfl hl.1 rfl rfl (Nat.le_of_ble_eq_true rfl) ⟨Nat.zero_le _, Nat.zero_le _⟩ dX10_leavesIn_59 ?_
        intro H locs hP hD hS
        refine lv_pop hx hb dX10_leavesIn_62 rfl ?_
        refine lv_iinc (v := (x2 + (1 : Int32))) (lv' := [(2, .int (x2 + (1 : Int32))), (0, .ref a_t), (1, .int x1)]) hx hb dX10_leavesIn_63 hl (k := 2) rfl rfl (by decide) rfl (fun ls hl => ?_)
        refine lv_goto (tgt := 35) hx hb dX10_leavesIn_66 (by decide) ?_
        exact ih (x2 + (1 : Int32)) u_13 u_14 hF _ _ _ (hP.sub [1, 2, 0, 3] rfl) (hD.sub [1, 2, 0, 3] rfl rfl) hS (lv_sub hl [1, 2, 0] rfl)
      · have hF := it_p c_11 hF
        refine lv_iload_n hx hb dX10_leavesIn_52 rfl (lv_at hl 2 rfl) ?_
        cases hF
        exact ret_i C0 hP hD hS [0, 1, 2, 3] rfl rfl rfl dX10_leavesIn_53 rfl
set_option maxHeartbeats 4000000 in
set_option maxRecDepth 100000 in
theorem mX10_leavesIn (l : Launch) (g : GG) (a_t : Nat) (p_t : Nat → Nat) (n : Nat) (x1 : Int32) (o_t : Nat → Int32) (f_t_15 : Nat → Int32) (f_t_17 : Nat → Int32) (f_t_25 : Nat → Int32) (r : Int32) (o_t' : Nat → Int32) (f_t_25' : Nat → Int32) (hF : fX10_leavesIn n x1 o_t f_t_15 f_t_17 f_t_25 = some (r, o_t', f_t_25')) : MI l g yX10_leavesIn wsX10_leavesIn ({ frames := 4, cells := 0, slots := 0, locals := 93 } : Room) [.ref a_t, .int x1] [oX10 a_t p_t o_t, aI g (p_t 15) 266 f_t_15, aI g (p_t 17) 17 f_t_17, aI g (p_t 25) 17 f_t_25] r [oX10 a_t p_t o_t', aI g (p_t 15) 266 f_t_15, aI g (p_t 17) 17 f_t_17, aI g (p_t 25) 17 f_t_25'] := by
  refine MI.of (cc := cX10_leavesIn) (maxL := 3) (rt := .int) (own := RX10) rfl rfl (by decide) (Nat.le_of_ble_eq_true rfl) ?_
  intro p e s m args below meth c A C0 hP hD hS ls hl
  obtain ⟨hx, hb, hml, hown, hts, hr, hlk, hK, hA, hSW⟩ := id C0
  have hl : lv_has ls 3 [(0, .ref a_t), (1, .int x1)] := hl
  rw [fX10_leavesIn] at hF
  refine lv_aload_n hx hb dX10_leavesIn_0 rfl (lv_at hl 0 rfl) ?_
  obtain ⟨u_1, hu_2, hF⟩ := ob1_some hF
  refine call_v (wr := [aI g (p_t 15) 266 f_t_15, aI g (p_t 17) 17 f_t_17, aI g (p_t 25) 17 f_t_25]) (As := []) (rest := []) (ci := 10) (q0 := 0) C0 (mX10_good l g a_t p_t n o_t u_1 hu_2) (cwV 0 hts gX10_leavesIn_X10_good rfl rfl rfl (by decide +kernel) ⟨Nat.le_of_ble_eq_true rfl, Nat.le_of_ble_eq_true rfl⟩) hP hD hS [0] [1, 2, 3] rfl rfl rfl rfl rfl (by decide) rfl rfl hl.1 rfl rfl (Nat.le_of_ble_eq_true rfl) ⟨Nat.zero_le _, Nat.zero_le _⟩ dX10_leavesIn_1 ?_
  intro H locs hP hD hS
  refine lv_aload_n hx hb dX10_leavesIn_4 rfl (lv_at hl 0 rfl) ?_
  refine lv_iload_n hx hb dX10_leavesIn_5 rfl (lv_at hl 1 rfl) ?_
  obtain ⟨u_3, hu_4, hF⟩ := ob1_some hF
  refine call_i (wr := [aI g (p_t 17) 17 f_t_17, aI g (p_t 25) 17 f_t_25]) (As := [.int x1]) (rest := []) (ci := 10) (q0 := 0) C0 (mX10_isGuest l g a_t p_t n x1 u_1 f_t_15 u_3 hu_4) (cwV 1 hts gX10_leavesIn_X10_isGuest rfl rfl rfl (by decide +kernel) ⟨Nat.le_of_ble_eq_true rfl, Nat.le_of_ble_eq_true rfl⟩) hP hD hS [3, 0] [1, 2] rfl rfl rfl rfl rfl (by decide) rfl rfl hl.1 rfl rfl (Nat.le_of_ble_eq_true rfl) ⟨Nat.zero_le _, Nat.zero_le _⟩ dX10_leavesIn_6 ?_
  intro H locs hP hD hS
  refine lv_if_ne (tgt := 18) hx hb dX10_leavesIn_9 (by decide) (fun c_5 => ?_) (fun c_5 => ?_)
  · have hF := it_n c_5 hF
    refine lv_aload_n hx hb dX10_leavesIn_18 rfl (lv_at hl 0 rfl) ?_
    refine va_get (D := g.1) (ci := 10) (v := .ref (p_t 17)) (C := RX10) (T := TX10) (N := 35) hx hb hts iX10_leavesIn_X10 hown hK.1 hP 2 rfl rfl 17 (by decide) (hts _ kX10_leavesIn_26) (fun _ h9 => h9) rfl dX10_leavesIn_19 ?_
    refine lv_iconst (v := (0 : Int32)) hx hb dX10_leavesIn_22 (by decide) ?_
    refine lv_aload_n hx hb dX10_leavesIn_23 rfl (lv_at hl 0 rfl) ?_
    refine va_get (D := g.1) (ci := 10) (v := .ref (p_t 25)) (C := RX10) (T := TX10) (N := 35) hx hb hts iX10_leavesIn_X10 hown hK.1 hP 2 rfl rfl 25 (by decide) (hts _ kX10_leavesIn_35) (fun _ h9 => h9) rfl dX10_leavesIn_24 ?_
    refine lv_iconst (v := (0 : Int32)) hx hb dX10_leavesIn_27 (by decide) ?_
    refine lv_bipush (v := (17 : Int32)) hx hb dX10_leavesIn_28 (by decide) ?_
    obtain ⟨u_6, hu_7, hF⟩ := ob1_some hF
    refine call_sv (wr := [oX10 a_t p_t u_1, aI g (p_t 15) 266 f_t_15]) (As := [.ref (p_t 17), .int (0 : Int32), .ref (p_t 25), .int (0 : Int32), .int (17 : Int32)]) (rest := []) C0 (mX10_copy l g (p_t 17) (p_t 25) n (0 : Int32) (0 : Int32) (17 : Int32) 17 17 f_t_17 f_t_25 u_6 hu_7) (va_cwS 5 hts gX10_leavesIn_X10_copy rfl rfl rfl (by decide +kernel) ⟨Nat.le_of_ble_eq_true rfl, Nat.le_of_ble_eq_true rfl⟩) hP hD hS [0, 1] [2, 3] rfl rfl rfl rfl rfl (by decide) hl.1 rfl rfl (Nat.le_of_ble_eq_true rfl) ⟨Nat.zero_le _, Nat.zero_le _⟩ dX10_leavesIn_30 ?_
    intro H locs hP hD hS
    refine lv_iconst (v := (0 : Int32)) hx hb dX10_leavesIn_33 (by decide) ?_
    refine lv_istore_n (lv' := [(2, .int (0 : Int32)), (0, .ref a_t), (1, .int x1)]) hx hb dX10_leavesIn_34 rfl hl (by decide) rfl (fun ls hl => ?_)
    refine wX10_leavesIn_L35 C0 a_t p_t n x1 f_t_15 f_t_17 r o_t' f_t_25' _ ?_ n (0 : Int32) u_1 u_6 hF _ _ _ (hP.sub [0, 1, 2, 3] rfl) (hD.sub [0, 1, 2, 3] rfl rfl) hS (lv_sub hl [1, 2, 0] rfl)
    · intro o_t_x35 f_t_25_x35 H locs ls hF hP hD hS hl
      refine lv_bipush (v := (-2 : Int32)) hx hb dX10_leavesIn_69 (by decide) ?_
      cases hF
      exact ret_i C0 hP hD hS [0, 1, 2, 3] rfl rfl rfl dX10_leavesIn_71 rfl
  · have hF := it_p c_5 hF
    refine lv_aload_n hx hb dX10_leavesIn_12 rfl (lv_at hl 0 rfl) ?_
    refine lv_iconst (v := (1 : Int32)) hx hb dX10_leavesIn_13 (by decide) ?_
    obtain ⟨u_16, u_17, hu_18, hF⟩ := ob2_some hF
    refine call_i (wr := [aI g (p_t 17) 17 f_t_17, aI g (p_t 25) 17 f_t_25, aI g (p_t 15) 266 f_t_15]) (As := [.int (1 : Int32)]) (rest := []) (ci := 10) (q0 := 0) C0 (mX10_no l g a_t p_t n (1 : Int32) u_1 u_16 u_17 hu_18) (cwV 1 hts gX10_leavesIn_X10_no rfl rfl rfl (by decide +kernel) ⟨Nat.le_of_ble_eq_true rfl, Nat.le_of_ble_eq_true rfl⟩) hP hD hS [2] [0, 1, 3] rfl rfl rfl rfl rfl (by decide) rfl rfl hl.1 rfl rfl (Nat.le_of_ble_eq_true rfl) ⟨Nat.zero_le _, Nat.zero_le _⟩ dX10_leavesIn_14 ?_
    intro H locs hP hD hS
    cases hF
    exact ret_i C0 hP hD hS [3, 2, 0, 1] rfl rfl rfl dX10_leavesIn_17 rfl

theorem dAX10_wantIn : ∀ q ∈ ([(0, (.aload_n 0, 1)), (1, (.invokevirtual 159, 3)), (4, (.aload_n 0, 1)), (5, (.iload_n 1, 1)), (6, (.invokevirtual 300, 3)), (9, (.ifCond .ne 9, 3)), (12, (.aload_n 0, 1)), (13, (.iconst 1, 1)), (14, (.invokevirtual 303, 3)), (17, (.ireturn, 1)), (18, (.iload_n 2, 1)), (19, (.iconst 0, 1)), (20, (.bipush 60, 2)), (22, (.invokestatic 144, 3)), (25, (.ifCond .ne 9, 3)), (28, (.aload_n 0, 1)), (29, (.iconst 2, 1)), (30, (.invokevirtual 303, 3)), (33, (.ireturn, 1)), (34, (.aload_n 0, 1)), (35, (.getfield 26, 3)), (38, (.iconst 0, 1)), (39, (.aload_n 0, 1)), (40, (.getfield 35, 3)), (43, (.iconst 0, 1)), (44, (.bipush 17, 2)), (46, (.invokestatic 168, 3)), (49, (.iconst 0, 1)), (50, (.istore_n 3, 1)), (51, (.iload_n 3, 1)), (52, (.iload_n 2, 1)), (53, (.if_icmp .ge 18, 3)), (56, (.aload_n 0, 1)), (57, (.aload_n 0, 1)), (58, (.getfield 35, 3)), (61, (.invokevirtual 293, 3)), (64, (.pop, 1)), (65, (.iinc 3 1, 3)), (68, (.goto (-17), 3)), (71, (.aload_n 0, 1)), (72, (.getfield 35, 3)), (75, (.iload_n 1, 1)), (76, (.iaload, 1)), (77, (.ireturn, 1))] : List (Nat × (Instr × Nat))), decode cX10_wantIn q.1 = .ok q.2 := by decide +kernel
theorem dX10_wantIn_0 : decode cX10_wantIn 0 = .ok (.aload_n 0, 1) := dAX10_wantIn (0, (.aload_n 0, 1)) (List.mem_of_getElem? (i := 0) rfl)
theorem dX10_wantIn_1 : decode cX10_wantIn 1 = .ok (.invokevirtual 159, 3) := dAX10_wantIn (1, (.invokevirtual 159, 3)) (List.mem_of_getElem? (i := 1) rfl)
theorem dX10_wantIn_4 : decode cX10_wantIn 4 = .ok (.aload_n 0, 1) := dAX10_wantIn (4, (.aload_n 0, 1)) (List.mem_of_getElem? (i := 2) rfl)
theorem dX10_wantIn_5 : decode cX10_wantIn 5 = .ok (.iload_n 1, 1) := dAX10_wantIn (5, (.iload_n 1, 1)) (List.mem_of_getElem? (i := 3) rfl)
theorem dX10_wantIn_6 : decode cX10_wantIn 6 = .ok (.invokevirtual 300, 3) := dAX10_wantIn (6, (.invokevirtual 300, 3)) (List.mem_of_getElem? (i := 4) rfl)
theorem dX10_wantIn_9 : decode cX10_wantIn 9 = .ok (.ifCond .ne 9, 3) := dAX10_wantIn (9, (.ifCond .ne 9, 3)) (List.mem_of_getElem? (i := 5) rfl)
theorem dX10_wantIn_12 : decode cX10_wantIn 12 = .ok (.aload_n 0, 1) := dAX10_wantIn (12, (.aload_n 0, 1)) (List.mem_of_getElem? (i := 6) rfl)
theorem dX10_wantIn_13 : decode cX10_wantIn 13 = .ok (.iconst 1, 1) := dAX10_wantIn (13, (.iconst 1, 1)) (List.mem_of_getElem? (i := 7) rfl)
theorem dX10_wantIn_14 : decode cX10_wantIn 14 = .ok (.invokevirtual 303, 3) := dAX10_wantIn (14, (.invokevirtual 303, 3)) (List.mem_of_getElem? (i := 8) rfl)
theorem dX10_wantIn_17 : decode cX10_wantIn 17 = .ok (.ireturn, 1) := dAX10_wantIn (17, (.ireturn, 1)) (List.mem_of_getElem? (i := 9) rfl)
theorem dX10_wantIn_18 : decode cX10_wantIn 18 = .ok (.iload_n 2, 1) := dAX10_wantIn (18, (.iload_n 2, 1)) (List.mem_of_getElem? (i := 10) rfl)
theorem dX10_wantIn_19 : decode cX10_wantIn 19 = .ok (.iconst 0, 1) := dAX10_wantIn (19, (.iconst 0, 1)) (List.mem_of_getElem? (i := 11) rfl)
theorem dX10_wantIn_20 : decode cX10_wantIn 20 = .ok (.bipush 60, 2) := dAX10_wantIn (20, (.bipush 60, 2)) (List.mem_of_getElem? (i := 12) rfl)
theorem dX10_wantIn_22 : decode cX10_wantIn 22 = .ok (.invokestatic 144, 3) := dAX10_wantIn (22, (.invokestatic 144, 3)) (List.mem_of_getElem? (i := 13) rfl)
theorem dX10_wantIn_25 : decode cX10_wantIn 25 = .ok (.ifCond .ne 9, 3) := dAX10_wantIn (25, (.ifCond .ne 9, 3)) (List.mem_of_getElem? (i := 14) rfl)
theorem dX10_wantIn_28 : decode cX10_wantIn 28 = .ok (.aload_n 0, 1) := dAX10_wantIn (28, (.aload_n 0, 1)) (List.mem_of_getElem? (i := 15) rfl)
theorem dX10_wantIn_29 : decode cX10_wantIn 29 = .ok (.iconst 2, 1) := dAX10_wantIn (29, (.iconst 2, 1)) (List.mem_of_getElem? (i := 16) rfl)
theorem dX10_wantIn_30 : decode cX10_wantIn 30 = .ok (.invokevirtual 303, 3) := dAX10_wantIn (30, (.invokevirtual 303, 3)) (List.mem_of_getElem? (i := 17) rfl)
theorem dX10_wantIn_33 : decode cX10_wantIn 33 = .ok (.ireturn, 1) := dAX10_wantIn (33, (.ireturn, 1)) (List.mem_of_getElem? (i := 18) rfl)
theorem dX10_wantIn_34 : decode cX10_wantIn 34 = .ok (.aload_n 0, 1) := dAX10_wantIn (34, (.aload_n 0, 1)) (List.mem_of_getElem? (i := 19) rfl)
theorem dX10_wantIn_35 : decode cX10_wantIn 35 = .ok (.getfield 26, 3) := dAX10_wantIn (35, (.getfield 26, 3)) (List.mem_of_getElem? (i := 20) rfl)
theorem dX10_wantIn_38 : decode cX10_wantIn 38 = .ok (.iconst 0, 1) := dAX10_wantIn (38, (.iconst 0, 1)) (List.mem_of_getElem? (i := 21) rfl)
theorem dX10_wantIn_39 : decode cX10_wantIn 39 = .ok (.aload_n 0, 1) := dAX10_wantIn (39, (.aload_n 0, 1)) (List.mem_of_getElem? (i := 22) rfl)
theorem dX10_wantIn_40 : decode cX10_wantIn 40 = .ok (.getfield 35, 3) := dAX10_wantIn (40, (.getfield 35, 3)) (List.mem_of_getElem? (i := 23) rfl)
theorem dX10_wantIn_43 : decode cX10_wantIn 43 = .ok (.iconst 0, 1) := dAX10_wantIn (43, (.iconst 0, 1)) (List.mem_of_getElem? (i := 24) rfl)
theorem dX10_wantIn_44 : decode cX10_wantIn 44 = .ok (.bipush 17, 2) := dAX10_wantIn (44, (.bipush 17, 2)) (List.mem_of_getElem? (i := 25) rfl)
theorem dX10_wantIn_46 : decode cX10_wantIn 46 = .ok (.invokestatic 168, 3) := dAX10_wantIn (46, (.invokestatic 168, 3)) (List.mem_of_getElem? (i := 26) rfl)
theorem dX10_wantIn_49 : decode cX10_wantIn 49 = .ok (.iconst 0, 1) := dAX10_wantIn (49, (.iconst 0, 1)) (List.mem_of_getElem? (i := 27) rfl)
theorem dX10_wantIn_50 : decode cX10_wantIn 50 = .ok (.istore_n 3, 1) := dAX10_wantIn (50, (.istore_n 3, 1)) (List.mem_of_getElem? (i := 28) rfl)
theorem dX10_wantIn_51 : decode cX10_wantIn 51 = .ok (.iload_n 3, 1) := dAX10_wantIn (51, (.iload_n 3, 1)) (List.mem_of_getElem? (i := 29) rfl)
theorem dX10_wantIn_52 : decode cX10_wantIn 52 = .ok (.iload_n 2, 1) := dAX10_wantIn (52, (.iload_n 2, 1)) (List.mem_of_getElem? (i := 30) rfl)
theorem dX10_wantIn_53 : decode cX10_wantIn 53 = .ok (.if_icmp .ge 18, 3) := dAX10_wantIn (53, (.if_icmp .ge 18, 3)) (List.mem_of_getElem? (i := 31) rfl)
theorem dX10_wantIn_56 : decode cX10_wantIn 56 = .ok (.aload_n 0, 1) := dAX10_wantIn (56, (.aload_n 0, 1)) (List.mem_of_getElem? (i := 32) rfl)
theorem dX10_wantIn_57 : decode cX10_wantIn 57 = .ok (.aload_n 0, 1) := dAX10_wantIn (57, (.aload_n 0, 1)) (List.mem_of_getElem? (i := 33) rfl)
theorem dX10_wantIn_58 : decode cX10_wantIn 58 = .ok (.getfield 35, 3) := dAX10_wantIn (58, (.getfield 35, 3)) (List.mem_of_getElem? (i := 34) rfl)
theorem dX10_wantIn_61 : decode cX10_wantIn 61 = .ok (.invokevirtual 293, 3) := dAX10_wantIn (61, (.invokevirtual 293, 3)) (List.mem_of_getElem? (i := 35) rfl)
theorem dX10_wantIn_64 : decode cX10_wantIn 64 = .ok (.pop, 1) := dAX10_wantIn (64, (.pop, 1)) (List.mem_of_getElem? (i := 36) rfl)
theorem dX10_wantIn_65 : decode cX10_wantIn 65 = .ok (.iinc 3 1, 3) := dAX10_wantIn (65, (.iinc 3 1, 3)) (List.mem_of_getElem? (i := 37) rfl)
theorem dX10_wantIn_68 : decode cX10_wantIn 68 = .ok (.goto (-17), 3) := dAX10_wantIn (68, (.goto (-17), 3)) (List.mem_of_getElem? (i := 38) rfl)
theorem dX10_wantIn_71 : decode cX10_wantIn 71 = .ok (.aload_n 0, 1) := dAX10_wantIn (71, (.aload_n 0, 1)) (List.mem_of_getElem? (i := 39) rfl)
theorem dX10_wantIn_72 : decode cX10_wantIn 72 = .ok (.getfield 35, 3) := dAX10_wantIn (72, (.getfield 35, 3)) (List.mem_of_getElem? (i := 40) rfl)
theorem dX10_wantIn_75 : decode cX10_wantIn 75 = .ok (.iload_n 1, 1) := dAX10_wantIn (75, (.iload_n 1, 1)) (List.mem_of_getElem? (i := 41) rfl)
theorem dX10_wantIn_76 : decode cX10_wantIn 76 = .ok (.iaload, 1) := dAX10_wantIn (76, (.iaload, 1)) (List.mem_of_getElem? (i := 42) rfl)
theorem dX10_wantIn_77 : decode cX10_wantIn 77 = .ok (.ireturn, 1) := dAX10_wantIn (77, (.ireturn, 1)) (List.mem_of_getElem? (i := 43) rfl)
set_option maxRecDepth 20000 in
theorem ggX10_wantIn_X10_good : GoodIn wsX10_wantIn wsX10_good := goodIn_r _ [7, 8, 9, 65, 66, 67, 68, 69, 70, 71, 72, 73, 74, 75, 76, 77, 78, 79, 80, 81, 82, 83, 84, 85, 86, 87, 88, 89, 90, 91, 92, 93, 94, 95, 96, 97, 98, 99] rfl (by decide +kernel)
set_option maxRecDepth 20000 in
theorem gX10_wantIn_X10_good : GoodIn wsX10_wantIn (wsV RX10 159 RX10 yX10_good wsX10_good) := goodIn_app (goodIn_of _ (by decide +kernel)) ggX10_wantIn_X10_good
set_option maxRecDepth 20000 in
theorem ggX10_wantIn_X10_isGuest : GoodIn wsX10_wantIn wsX10_isGuest := goodIn_r _ [13, 14, 15, 16, 17, 6, 18, 65, 66, 67, 68, 69, 70, 71, 72, 73, 74, 75, 76, 77, 78, 79, 80, 81, 82, 83, 84, 85, 86, 87, 88, 89, 90, 91, 92, 93, 94, 95, 96, 97, 98, 99] rfl (by decide +kernel)
set_option maxRecDepth 20000 in
theorem gX10_wantIn_X10_isGuest : GoodIn wsX10_wantIn (wsV RX10 300 RX10 yX10_isGuest wsX10_isGuest) := goodIn_app (goodIn_of _ (by decide +kernel)) ggX10_wantIn_X10_isGuest
set_option maxRecDepth 20000 in
theorem ggX10_wantIn_X10_less : GoodIn wsX10_wantIn wsX10_less := goodIn_r _ [22, 9, 65, 66, 67, 68, 69, 70, 71, 72, 73, 74, 75, 76, 77, 78, 79, 80, 81, 82, 83, 84, 85, 86, 87, 88, 89, 90, 91, 92, 93, 94, 95, 96, 97, 98, 99] rfl (by decide +kernel)
set_option maxRecDepth 20000 in
theorem gX10_wantIn_X10_less : GoodIn wsX10_wantIn (wsV RX10 303 RX10 yX10_less wsX10_less) := goodIn_app (goodIn_of _ (by decide +kernel)) ggX10_wantIn_X10_less
set_option maxRecDepth 20000 in
theorem ggX10_wantIn_X10_in : GoodIn wsX10_wantIn wsX10_in := goodIn_r _ [18] rfl (by decide +kernel)
set_option maxRecDepth 20000 in
theorem gX10_wantIn_X10_in : GoodIn wsX10_wantIn (va_wsS RX10 144 yX10_in wsX10_in) := goodIn_app (goodIn_of _ (by decide +kernel)) ggX10_wantIn_X10_in
set_option maxRecDepth 20000 in
theorem ggX10_wantIn_X10_copy : GoodIn wsX10_wantIn wsX10_copy := goodIn_r _ [25] rfl (by decide +kernel)
set_option maxRecDepth 20000 in
theorem gX10_wantIn_X10_copy : GoodIn wsX10_wantIn (va_wsS RX10 168 yX10_copy wsX10_copy) := goodIn_app (goodIn_of _ (by decide +kernel)) ggX10_wantIn_X10_copy
set_option maxRecDepth 20000 in
theorem ggX10_wantIn_X10_hourOf : GoodIn wsX10_wantIn wsX10_hourOf := goodIn_r _ [29, 15, 30, 31, 32, 6, 33, 34, 35, 36, 37, 38, 39, 40, 41, 42, 43, 44, 45, 46, 47, 48, 49, 50, 51, 52, 53, 54, 55, 56, 57, 58, 59, 60, 61, 62, 63, 64, 65, 66, 67, 68, 69, 70, 71, 72, 73, 74, 75, 76, 77, 78, 79, 80, 81, 82, 83, 84, 85, 86, 87, 88, 89, 90, 91, 92, 93, 94, 95, 96, 97, 98, 99] rfl (by decide +kernel)
set_option maxRecDepth 20000 in
theorem gX10_wantIn_X10_hourOf : GoodIn wsX10_wantIn (wsV RX10 293 RX10 yX10_hourOf wsX10_hourOf) := goodIn_app (goodIn_of _ (by decide +kernel)) ggX10_wantIn_X10_hourOf
theorem kX10_wantIn_26 : Cond.fieldLink RX10 26 "EveningVowModel" "st" "[I" ∈ wsX10_wantIn := List.mem_of_getElem? (i := 1) rfl
theorem iX10_wantIn_X10 : ∀ w ∈ u_ws RX10 TX10 35, w ∈ wsX10_wantIn := fun w h => (List.mem_cons_of_mem _ (List.mem_append_right _ h))
theorem kX10_wantIn_35 : Cond.fieldLink RX10 35 "EveningVowModel" "trial" "[I" ∈ wsX10_wantIn := List.mem_of_getElem? (i := 2) rfl
set_option maxHeartbeats 4000000 in
set_option maxRecDepth 100000 in
theorem wX10_wantIn_L51 {p : Program} {l : Launch} {e : Env} {s : State} {m : MethodId} {args : Array Value} {below : List Frame} {meth : Method} {c : Code} {g : GG} {A : Nat → Prop} (C0 : Cx p s m args meth c cX10_wantIn 4 (some .int) RX10 wsX10_wantIn g A) (a_t : Nat) (p_t : Nat → Nat) (n : Nat) (x1 : Int32) (x2 : Int32) (f_t_15 : Nat → Int32) (f_t_17 : Nat → Int32) (r : Int32) (o_t' : Nat → Int32) (f_t_25' : Nat → Int32) (K : (Nat → Int32) → (Nat → Int32) → Option (Int32 × (Nat → Int32) × (Nat → Int32))) (hKx : ∀ (o_t : Nat → Int32) (f_t_25 : Nat → Int32) (H : Heap) (locs : List Loc) (ls : Array Slot), K o_t f_t_25 = some (r, o_t', f_t_25') → va_P g.1 vwCl [oX10 a_t p_t o_t, aI g (p_t 15) 266 f_t_15, aI g (p_t 17) 17 f_t_17, aI g (p_t 25) 17 f_t_25] H → va_D A [oX10 a_t p_t o_t, aI g (p_t 15) 266 f_t_15, aI g (p_t 17) 17 f_t_17, aI g (p_t 25) 17 f_t_25] → va_S A s.heap H locs → lv_has ls 4 [(0, .ref a_t), (1, .int x1)] → W p l e ({ frames := 4, cells := 0, slots := 0, locals := 93 } : Room) s m args below meth c H locs 0 0 (MQ below (EndI g r [oX10 a_t p_t o_t', aI g (p_t 15) 266 f_t_15, aI g (p_t 17) 17 f_t_17, aI g (p_t 25) 17 f_t_25'] A) args s 0 0 A) (F0 m 71 ls [])) : ∀ (k : Nat) (x3 : Int32) (o_t : Nat → Int32) (f_t_25 : Nat → Int32), fX10_wantIn_L51 n x1 x2 f_t_15 K k x3 o_t f_t_25 = some (r, o_t', f_t_25') → ∀ (H : Heap) (locs : List Loc) (ls : Array Slot), va_P g.1 vwCl [oX10 a_t p_t o_t, aI g (p_t 15) 266 f_t_15, aI g (p_t 17) 17 f_t_17, aI g (p_t 25) 17 f_t_25] H → va_D A [oX10 a_t p_t o_t, aI g (p_t 15) 266 f_t_15, aI g (p_t 17) 17 f_t_17, aI g (p_t 25) 17 f_t_25] → va_S A s.heap H locs → lv_has ls 4 [(0, .ref a_t), (1, .int x1), (2, .int x2), (3, .int x3)] → W p l e ({ frames := 4, cells := 0, slots := 0, locals := 93 } : Room) s m args below meth c H locs 0 0 (MQ below (EndI g r [oX10 a_t p_t o_t', aI g (p_t 15) 266 f_t_15, aI g (p_t 17) 17 f_t_17, aI g (p_t 25) 17 f_t_25'] A) args s 0 0 A) (F0 m 51 ls []) := by
  obtain ⟨hx, hb, hml, hown, hts, hr, hlk, hK, hA, hSW⟩ := id C0
  intro k
  induction k with
  | zero =>
    intro x3 o_t f_t_25 hF
    exact absurd hF (by simp [fX10_wantIn_L51])
  | succ k ih =>
    intro x3 o_t f_t_25 hF H locs ls hP hD hS hl
    rw [fX10_wantIn_L51] at hF
    refine lv_iload_n hx hb dX10_wantIn_51 rfl (lv_at hl 3 rfl) ?_
    refine lv_iload_n hx hb dX10_wantIn_52 rfl (lv_at hl 2 rfl) ?_
    refine lv_icmp_ge (tgt := 71) hx hb dX10_wantIn_53 (by decide) (fun c_11 => ?_) (fun c_11 => ?_)
    · have hF := it_p c_11 hF
      exact hKx o_t f_t_25 _ _ _ hF (hP.sub [0, 1, 2, 3] rfl) (hD.sub [0, 1, 2, 3] rfl rfl) hS (lv_sub hl [0, 1] rfl)
    · have hF := it_n c_11 hF
      refine lv_aload_n hx hb dX10_wantIn_56 rfl (lv_at hl 0 rfl) ?_
      refine lv_aload_n hx hb dX10_wantIn_57 rfl (lv_at hl 0 rfl) ?_
      refine va_get (D := g.1) (ci := 10) (v := .ref (p_t 25)) (C := RX10) (T := TX10) (N := 35) hx hb hts iX10_wantIn_X10 hown hK.1 hP 0 rfl rfl 25 (by decide) (hts _ kX10_wantIn_35) (fun _ h9 => h9) rfl dX10_wantIn_58 ?_
      obtain ⟨u_12, u_13, u_14, hu_15, hF⟩ := ob3_some hF
      refine call_i (wr := [aI g (p_t 17) 17 f_t_17]) (As := [.ref (p_t 25)]) (rest := []) (ci := 10) (q0 := 0) C0 (mX10_hourOf l g a_t (p_t 25) p_t n o_t f_t_15 f_t_25 u_12 u_13 u_14 hu_15) (cwV 1 hts gX10_wantIn_X10_hourOf rfl rfl rfl (by decide +kernel) ⟨Nat.le_of_ble_eq_true rfl, Nat.le_of_ble_eq_true rfl⟩) hP hD hS [0, 1, 3] [2] rfl rfl rfl rfl rfl (by decide) rfl rfl hl.1 rfl rfl (Nat.le_of_ble_eq_true rfl) ⟨Nat.zero_le _, Nat.zero_le _⟩ dX10_wantIn_61 ?_
      intro H locs hP hD hS
      refine lv_pop hx hb dX10_wantIn_64 rfl ?_
      refine lv_iinc (v := (x3 + (1 : Int32))) (lv' := [(3, .int (x3 + (1 : Int32))), (0, .ref a_t), (1, .int x1), (2, .int x2)]) hx hb dX10_wantIn_65 hl (k := 3) rfl rfl (by decide) rfl (fun ls hl => ?_)
      refine lv_goto (tgt := 51) hx hb dX10_wantIn_68 (by decide) ?_
      exact ih (x3 + (1 : Int32)) u_13 u_14 hF _ _ _ (hP.sub [1, 2, 0, 3] rfl) (hD.sub [1, 2, 0, 3] rfl rfl) hS (lv_sub hl [1, 2, 3, 0] rfl)
set_option maxHeartbeats 4000000 in
set_option maxRecDepth 100000 in
theorem mX10_wantIn (l : Launch) (g : GG) (a_t : Nat) (p_t : Nat → Nat) (n : Nat) (x1 : Int32) (x2 : Int32) (o_t : Nat → Int32) (f_t_15 : Nat → Int32) (f_t_17 : Nat → Int32) (f_t_25 : Nat → Int32) (r : Int32) (o_t' : Nat → Int32) (f_t_25' : Nat → Int32) (hF : fX10_wantIn n x1 x2 o_t f_t_15 f_t_17 f_t_25 = some (r, o_t', f_t_25')) : MI l g yX10_wantIn wsX10_wantIn ({ frames := 4, cells := 0, slots := 0, locals := 93 } : Room) [.ref a_t, .int x1, .int x2] [oX10 a_t p_t o_t, aI g (p_t 15) 266 f_t_15, aI g (p_t 17) 17 f_t_17, aI g (p_t 25) 17 f_t_25] r [oX10 a_t p_t o_t', aI g (p_t 15) 266 f_t_15, aI g (p_t 17) 17 f_t_17, aI g (p_t 25) 17 f_t_25'] := by
  refine MI.of (cc := cX10_wantIn) (maxL := 4) (rt := .int) (own := RX10) rfl rfl (by decide) (Nat.le_of_ble_eq_true rfl) ?_
  intro p e s m args below meth c A C0 hP hD hS ls hl
  obtain ⟨hx, hb, hml, hown, hts, hr, hlk, hK, hA, hSW⟩ := id C0
  have hl : lv_has ls 4 [(0, .ref a_t), (1, .int x1), (2, .int x2)] := hl
  rw [fX10_wantIn] at hF
  refine lv_aload_n hx hb dX10_wantIn_0 rfl (lv_at hl 0 rfl) ?_
  obtain ⟨u_1, hu_2, hF⟩ := ob1_some hF
  refine call_v (wr := [aI g (p_t 15) 266 f_t_15, aI g (p_t 17) 17 f_t_17, aI g (p_t 25) 17 f_t_25]) (As := []) (rest := []) (ci := 10) (q0 := 0) C0 (mX10_good l g a_t p_t n o_t u_1 hu_2) (cwV 0 hts gX10_wantIn_X10_good rfl rfl rfl (by decide +kernel) ⟨Nat.le_of_ble_eq_true rfl, Nat.le_of_ble_eq_true rfl⟩) hP hD hS [0] [1, 2, 3] rfl rfl rfl rfl rfl (by decide) rfl rfl hl.1 rfl rfl (Nat.le_of_ble_eq_true rfl) ⟨Nat.zero_le _, Nat.zero_le _⟩ dX10_wantIn_1 ?_
  intro H locs hP hD hS
  refine lv_aload_n hx hb dX10_wantIn_4 rfl (lv_at hl 0 rfl) ?_
  refine lv_iload_n hx hb dX10_wantIn_5 rfl (lv_at hl 1 rfl) ?_
  obtain ⟨u_3, hu_4, hF⟩ := ob1_some hF
  refine call_i (wr := [aI g (p_t 17) 17 f_t_17, aI g (p_t 25) 17 f_t_25]) (As := [.int x1]) (rest := []) (ci := 10) (q0 := 0) C0 (mX10_isGuest l g a_t p_t n x1 u_1 f_t_15 u_3 hu_4) (cwV 1 hts gX10_wantIn_X10_isGuest rfl rfl rfl (by decide +kernel) ⟨Nat.le_of_ble_eq_true rfl, Nat.le_of_ble_eq_true rfl⟩) hP hD hS [3, 0] [1, 2] rfl rfl rfl rfl rfl (by decide) rfl rfl hl.1 rfl rfl (Nat.le_of_ble_eq_true rfl) ⟨Nat.zero_le _, Nat.zero_le _⟩ dX10_wantIn_6 ?_
  intro H locs hP hD hS
  refine lv_if_ne (tgt := 18) hx hb dX10_wantIn_9 (by decide) (fun c_5 => ?_) (fun c_5 => ?_)
  · have hF := it_n c_5 hF
    refine lv_iload_n hx hb dX10_wantIn_18 rfl (lv_at hl 2 rfl) ?_
    refine lv_iconst (v := (0 : Int32)) hx hb dX10_wantIn_19 (by decide) ?_
    refine lv_bipush (v := (60 : Int32)) hx hb dX10_wantIn_20 (by decide) ?_
    obtain ⟨u_6, hu_7, hF⟩ := ob1_some hF
    refine call_si (wr := [aI g (p_t 17) 17 f_t_17, aI g (p_t 25) 17 f_t_25, oX10 a_t p_t u_1, aI g (p_t 15) 266 f_t_15]) (As := [.int x2, .int (0 : Int32), .int (60 : Int32)]) (rest := []) C0 (mX10_in l g n x2 (0 : Int32) (60 : Int32) u_6 hu_7) (va_cwS 3 hts gX10_wantIn_X10_in rfl rfl rfl (by decide +kernel) ⟨Nat.le_of_ble_eq_true rfl, Nat.le_of_ble_eq_true rfl⟩) hP hD hS [] [0, 1, 2, 3] rfl rfl rfl rfl rfl (by decide) hl.1 rfl rfl (Nat.le_of_ble_eq_true rfl) ⟨Nat.zero_le _, Nat.zero_le _⟩ dX10_wantIn_22 ?_
    intro H locs hP hD hS
    refine lv_if_ne (tgt := 34) hx hb dX10_wantIn_25 (by decide) (fun c_8 => ?_) (fun c_8 => ?_)
    · have hF := it_n c_8 hF
      refine lv_aload_n hx hb dX10_wantIn_34 rfl (lv_at hl 0 rfl) ?_
      refine va_get (D := g.1) (ci := 10) (v := .ref (p_t 17)) (C := RX10) (T := TX10) (N := 35) hx hb hts iX10_wantIn_X10 hown hK.1 hP 2 rfl rfl 17 (by decide) (hts _ kX10_wantIn_26) (fun _ h9 => h9) rfl dX10_wantIn_35 ?_
      refine lv_iconst (v := (0 : Int32)) hx hb dX10_wantIn_38 (by decide) ?_
      refine lv_aload_n hx hb dX10_wantIn_39 rfl (lv_at hl 0 rfl) ?_
      refine va_get (D := g.1) (ci := 10) (v := .ref (p_t 25)) (C := RX10) (T := TX10) (N := 35) hx hb hts iX10_wantIn_X10 hown hK.1 hP 2 rfl rfl 25 (by decide) (hts _ kX10_wantIn_35) (fun _ h9 => h9) rfl dX10_wantIn_40 ?_
      refine lv_iconst (v := (0 : Int32)) hx hb dX10_wantIn_43 (by decide) ?_
      refine lv_bipush (v := (17 : Int32)) hx hb dX10_wantIn_44 (by decide) ?_
      obtain ⟨u_9, hu_10, hF⟩ := ob1_some hF
      refine call_sv (wr := [oX10 a_t p_t u_1, aI g (p_t 15) 266 f_t_15]) (As := [.ref (p_t 17), .int (0 : Int32), .ref (p_t 25), .int (0 : Int32), .int (17 : Int32)]) (rest := []) C0 (mX10_copy l g (p_t 17) (p_t 25) n (0 : Int32) (0 : Int32) (17 : Int32) 17 17 f_t_17 f_t_25 u_9 hu_10) (va_cwS 5 hts gX10_wantIn_X10_copy rfl rfl rfl (by decide +kernel) ⟨Nat.le_of_ble_eq_true rfl, Nat.le_of_ble_eq_true rfl⟩) hP hD hS [0, 1] [2, 3] rfl rfl rfl rfl rfl (by decide) hl.1 rfl rfl (Nat.le_of_ble_eq_true rfl) ⟨Nat.zero_le _, Nat.zero_le _⟩ dX10_wantIn_46 ?_
      intro H locs hP hD hS
      refine lv_iconst (v := (0 : Int32)) hx hb dX10_wantIn_49 (by decide) ?_
      refine lv_istore_n (lv' := [(3, .int (0 : Int32)), (0, .ref a_t), (1, .int x1), (2, .int x2)]) hx hb dX10_wantIn_50 rfl hl (by decide) rfl (fun ls hl => ?_)
      refine wX10_wantIn_L51 C0 a_t p_t n x1 x2 f_t_15 f_t_17 r o_t' f_t_25' _ ?_ n (0 : Int32) u_1 u_9 hF _ _ _ (hP.sub [0, 1, 2, 3] rfl) (hD.sub [0, 1, 2, 3] rfl rfl) hS (lv_sub hl [1, 2, 3, 0] rfl)
      · intro o_t_x51 f_t_25_x51 H locs ls hF hP hD hS hl
        refine lv_aload_n hx hb dX10_wantIn_71 rfl (lv_at hl 0 rfl) ?_
        refine va_get (D := g.1) (ci := 10) (v := .ref (p_t 25)) (C := RX10) (T := TX10) (N := 35) hx hb hts iX10_wantIn_X10 hown hK.1 hP 0 rfl rfl 25 (by decide) (hts _ kX10_wantIn_35) (fun _ h9 => h9) rfl dX10_wantIn_72 ?_
        refine lv_iload_n hx hb dX10_wantIn_75 rfl (lv_at hl 1 rfl) ?_
        obtain ⟨h_16, hF⟩ := it_ck hF
        refine va_iald hx hb hK.1 hP 3 0 rfl rfl h_16 dX10_wantIn_76 ?_
        cases hF
        exact ret_i C0 hP hD hS [0, 1, 2, 3] rfl rfl rfl dX10_wantIn_77 rfl
    · have hF := it_p c_8 hF
      refine lv_aload_n hx hb dX10_wantIn_28 rfl (lv_at hl 0 rfl) ?_
      refine lv_iconst (v := (2 : Int32)) hx hb dX10_wantIn_29 (by decide) ?_
      obtain ⟨u_17, u_18, hu_19, hF⟩ := ob2_some hF
      refine call_i (wr := [aI g (p_t 17) 17 f_t_17, aI g (p_t 25) 17 f_t_25, aI g (p_t 15) 266 f_t_15]) (As := [.int (2 : Int32)]) (rest := []) (ci := 10) (q0 := 0) C0 (mX10_less l g a_t p_t n (2 : Int32) u_1 u_17 u_18 hu_19) (cwV 1 hts gX10_wantIn_X10_less rfl rfl rfl (by decide +kernel) ⟨Nat.le_of_ble_eq_true rfl, Nat.le_of_ble_eq_true rfl⟩) hP hD hS [2] [0, 1, 3] rfl rfl rfl rfl rfl (by decide) rfl rfl hl.1 rfl rfl (Nat.le_of_ble_eq_true rfl) ⟨Nat.zero_le _, Nat.zero_le _⟩ dX10_wantIn_30 ?_
      intro H locs hP hD hS
      cases hF
      exact ret_i C0 hP hD hS [3, 2, 0, 1] rfl rfl rfl dX10_wantIn_33 rfl
  · have hF := it_p c_5 hF
    refine lv_aload_n hx hb dX10_wantIn_12 rfl (lv_at hl 0 rfl) ?_
    refine lv_iconst (v := (1 : Int32)) hx hb dX10_wantIn_13 (by decide) ?_
    obtain ⟨u_20, u_21, hu_22, hF⟩ := ob2_some hF
    refine call_i (wr := [aI g (p_t 17) 17 f_t_17, aI g (p_t 25) 17 f_t_25, aI g (p_t 15) 266 f_t_15]) (As := [.int (1 : Int32)]) (rest := []) (ci := 10) (q0 := 0) C0 (mX10_less l g a_t p_t n (1 : Int32) u_1 u_20 u_21 hu_22) (cwV 1 hts gX10_wantIn_X10_less rfl rfl rfl (by decide +kernel) ⟨Nat.le_of_ble_eq_true rfl, Nat.le_of_ble_eq_true rfl⟩) hP hD hS [2] [0, 1, 3] rfl rfl rfl rfl rfl (by decide) rfl rfl hl.1 rfl rfl (Nat.le_of_ble_eq_true rfl) ⟨Nat.zero_le _, Nat.zero_le _⟩ dX10_wantIn_14 ?_
    intro H locs hP hD hS
    cases hF
    exact ret_i C0 hP hD hS [3, 2, 0, 1] rfl rfl rfl dX10_wantIn_17 rfl

theorem dAX10_busiest : ∀ q ∈ ([(0, (.aload_n 0, 1)), (1, (.invokevirtual 159, 3)), (4, (.aload_n 0, 1)), (5, (.getfield 176, 3)), (8, (.ifCond .ne 9, 3)), (11, (.aload_n 0, 1)), (12, (.iconst 1, 1)), (13, (.invokevirtual 162, 3)), (16, (.ireturn, 1)), (17, (.aload_n 0, 1)), (18, (.getfield 26, 3)), (21, (.iconst 0, 1)), (22, (.aload_n 0, 1)), (23, (.getfield 35, 3)), (26, (.iconst 0, 1)), (27, (.bipush 17, 2)), (29, (.invokestatic 168, 3)), (32, (.bipush (-2), 2)), (34, (.istore_n 2, 1)), (35, (.iconst 0, 1)), (36, (.istore_n 3, 1)), (37, (.bipush (-2), 2)), (39, (.istore 4, 2)), (41, (.iconst 1, 1)), (42, (.istore 5, 2)), (44, (.iload 5, 2)), (46, (.bipush 60, 2)), (48, (.if_icmp .gt 50, 3)), (51, (.aload_n 0, 1)), (52, (.aload_n 0, 1)), (53, (.getfield 35, 3)), (56, (.invokevirtual 293, 3)), (59, (.invokestatic 306, 3)), (62, (.istore 6, 2)), (64, (.iload 6, 2)), (66, (.iload_n 3, 1)), (67, (.if_icmp .gt 6, 3)), (70, (.goto 22, 3)), (73, (.iload 5, 2)), (75, (.istore_n 2, 1)), (76, (.iload 6, 2)), (78, (.istore_n 3, 1)), (79, (.aload_n 0, 1)), (80, (.aload_n 0, 1)), (81, (.getfield 35, 3)), (84, (.invokevirtual 259, 3)), (87, (.invokestatic 306, 3)), (90, (.istore 4, 2)), (92, (.iinc 5 1, 3)), (95, (.goto (-51), 3)), (98, (.iload_n 1, 1)), (99, (.ifCond .eq 7, 3)), (102, (.iload_n 2, 1)), (103, (.goto 5, 3)), (106, (.iload 4, 2)), (108, (.ireturn, 1))] : List (Nat × (Instr × Nat))), decode cX10_busiest q.1 = .ok q.2 := by decide +kernel
theorem dX10_busiest_0 : decode cX10_busiest 0 = .ok (.aload_n 0, 1) := dAX10_busiest (0, (.aload_n 0, 1)) (List.mem_of_getElem? (i := 0) rfl)
theorem dX10_busiest_1 : decode cX10_busiest 1 = .ok (.invokevirtual 159, 3) := dAX10_busiest (1, (.invokevirtual 159, 3)) (List.mem_of_getElem? (i := 1) rfl)
theorem dX10_busiest_4 : decode cX10_busiest 4 = .ok (.aload_n 0, 1) := dAX10_busiest (4, (.aload_n 0, 1)) (List.mem_of_getElem? (i := 2) rfl)
theorem dX10_busiest_5 : decode cX10_busiest 5 = .ok (.getfield 176, 3) := dAX10_busiest (5, (.getfield 176, 3)) (List.mem_of_getElem? (i := 3) rfl)
theorem dX10_busiest_8 : decode cX10_busiest 8 = .ok (.ifCond .ne 9, 3) := dAX10_busiest (8, (.ifCond .ne 9, 3)) (List.mem_of_getElem? (i := 4) rfl)
theorem dX10_busiest_11 : decode cX10_busiest 11 = .ok (.aload_n 0, 1) := dAX10_busiest (11, (.aload_n 0, 1)) (List.mem_of_getElem? (i := 5) rfl)
theorem dX10_busiest_12 : decode cX10_busiest 12 = .ok (.iconst 1, 1) := dAX10_busiest (12, (.iconst 1, 1)) (List.mem_of_getElem? (i := 6) rfl)
theorem dX10_busiest_13 : decode cX10_busiest 13 = .ok (.invokevirtual 162, 3) := dAX10_busiest (13, (.invokevirtual 162, 3)) (List.mem_of_getElem? (i := 7) rfl)
theorem dX10_busiest_16 : decode cX10_busiest 16 = .ok (.ireturn, 1) := dAX10_busiest (16, (.ireturn, 1)) (List.mem_of_getElem? (i := 8) rfl)
theorem dX10_busiest_17 : decode cX10_busiest 17 = .ok (.aload_n 0, 1) := dAX10_busiest (17, (.aload_n 0, 1)) (List.mem_of_getElem? (i := 9) rfl)
theorem dX10_busiest_18 : decode cX10_busiest 18 = .ok (.getfield 26, 3) := dAX10_busiest (18, (.getfield 26, 3)) (List.mem_of_getElem? (i := 10) rfl)
theorem dX10_busiest_21 : decode cX10_busiest 21 = .ok (.iconst 0, 1) := dAX10_busiest (21, (.iconst 0, 1)) (List.mem_of_getElem? (i := 11) rfl)
theorem dX10_busiest_22 : decode cX10_busiest 22 = .ok (.aload_n 0, 1) := dAX10_busiest (22, (.aload_n 0, 1)) (List.mem_of_getElem? (i := 12) rfl)
theorem dX10_busiest_23 : decode cX10_busiest 23 = .ok (.getfield 35, 3) := dAX10_busiest (23, (.getfield 35, 3)) (List.mem_of_getElem? (i := 13) rfl)
theorem dX10_busiest_26 : decode cX10_busiest 26 = .ok (.iconst 0, 1) := dAX10_busiest (26, (.iconst 0, 1)) (List.mem_of_getElem? (i := 14) rfl)
theorem dX10_busiest_27 : decode cX10_busiest 27 = .ok (.bipush 17, 2) := dAX10_busiest (27, (.bipush 17, 2)) (List.mem_of_getElem? (i := 15) rfl)
theorem dX10_busiest_29 : decode cX10_busiest 29 = .ok (.invokestatic 168, 3) := dAX10_busiest (29, (.invokestatic 168, 3)) (List.mem_of_getElem? (i := 16) rfl)
theorem dX10_busiest_32 : decode cX10_busiest 32 = .ok (.bipush (-2), 2) := dAX10_busiest (32, (.bipush (-2), 2)) (List.mem_of_getElem? (i := 17) rfl)
theorem dX10_busiest_34 : decode cX10_busiest 34 = .ok (.istore_n 2, 1) := dAX10_busiest (34, (.istore_n 2, 1)) (List.mem_of_getElem? (i := 18) rfl)
theorem dX10_busiest_35 : decode cX10_busiest 35 = .ok (.iconst 0, 1) := dAX10_busiest (35, (.iconst 0, 1)) (List.mem_of_getElem? (i := 19) rfl)
theorem dX10_busiest_36 : decode cX10_busiest 36 = .ok (.istore_n 3, 1) := dAX10_busiest (36, (.istore_n 3, 1)) (List.mem_of_getElem? (i := 20) rfl)
theorem dX10_busiest_37 : decode cX10_busiest 37 = .ok (.bipush (-2), 2) := dAX10_busiest (37, (.bipush (-2), 2)) (List.mem_of_getElem? (i := 21) rfl)
theorem dX10_busiest_39 : decode cX10_busiest 39 = .ok (.istore 4, 2) := dAX10_busiest (39, (.istore 4, 2)) (List.mem_of_getElem? (i := 22) rfl)
theorem dX10_busiest_41 : decode cX10_busiest 41 = .ok (.iconst 1, 1) := dAX10_busiest (41, (.iconst 1, 1)) (List.mem_of_getElem? (i := 23) rfl)
theorem dX10_busiest_42 : decode cX10_busiest 42 = .ok (.istore 5, 2) := dAX10_busiest (42, (.istore 5, 2)) (List.mem_of_getElem? (i := 24) rfl)
theorem dX10_busiest_44 : decode cX10_busiest 44 = .ok (.iload 5, 2) := dAX10_busiest (44, (.iload 5, 2)) (List.mem_of_getElem? (i := 25) rfl)
theorem dX10_busiest_46 : decode cX10_busiest 46 = .ok (.bipush 60, 2) := dAX10_busiest (46, (.bipush 60, 2)) (List.mem_of_getElem? (i := 26) rfl)
theorem dX10_busiest_48 : decode cX10_busiest 48 = .ok (.if_icmp .gt 50, 3) := dAX10_busiest (48, (.if_icmp .gt 50, 3)) (List.mem_of_getElem? (i := 27) rfl)
theorem dX10_busiest_51 : decode cX10_busiest 51 = .ok (.aload_n 0, 1) := dAX10_busiest (51, (.aload_n 0, 1)) (List.mem_of_getElem? (i := 28) rfl)
theorem dX10_busiest_52 : decode cX10_busiest 52 = .ok (.aload_n 0, 1) := dAX10_busiest (52, (.aload_n 0, 1)) (List.mem_of_getElem? (i := 29) rfl)
theorem dX10_busiest_53 : decode cX10_busiest 53 = .ok (.getfield 35, 3) := dAX10_busiest (53, (.getfield 35, 3)) (List.mem_of_getElem? (i := 30) rfl)
theorem dX10_busiest_56 : decode cX10_busiest 56 = .ok (.invokevirtual 293, 3) := dAX10_busiest (56, (.invokevirtual 293, 3)) (List.mem_of_getElem? (i := 31) rfl)
theorem dX10_busiest_59 : decode cX10_busiest 59 = .ok (.invokestatic 306, 3) := dAX10_busiest (59, (.invokestatic 306, 3)) (List.mem_of_getElem? (i := 32) rfl)
theorem dX10_busiest_62 : decode cX10_busiest 62 = .ok (.istore 6, 2) := dAX10_busiest (62, (.istore 6, 2)) (List.mem_of_getElem? (i := 33) rfl)
theorem dX10_busiest_64 : decode cX10_busiest 64 = .ok (.iload 6, 2) := dAX10_busiest (64, (.iload 6, 2)) (List.mem_of_getElem? (i := 34) rfl)
theorem dX10_busiest_66 : decode cX10_busiest 66 = .ok (.iload_n 3, 1) := dAX10_busiest (66, (.iload_n 3, 1)) (List.mem_of_getElem? (i := 35) rfl)
theorem dX10_busiest_67 : decode cX10_busiest 67 = .ok (.if_icmp .gt 6, 3) := dAX10_busiest (67, (.if_icmp .gt 6, 3)) (List.mem_of_getElem? (i := 36) rfl)
theorem dX10_busiest_70 : decode cX10_busiest 70 = .ok (.goto 22, 3) := dAX10_busiest (70, (.goto 22, 3)) (List.mem_of_getElem? (i := 37) rfl)
theorem dX10_busiest_73 : decode cX10_busiest 73 = .ok (.iload 5, 2) := dAX10_busiest (73, (.iload 5, 2)) (List.mem_of_getElem? (i := 38) rfl)
theorem dX10_busiest_75 : decode cX10_busiest 75 = .ok (.istore_n 2, 1) := dAX10_busiest (75, (.istore_n 2, 1)) (List.mem_of_getElem? (i := 39) rfl)
theorem dX10_busiest_76 : decode cX10_busiest 76 = .ok (.iload 6, 2) := dAX10_busiest (76, (.iload 6, 2)) (List.mem_of_getElem? (i := 40) rfl)
theorem dX10_busiest_78 : decode cX10_busiest 78 = .ok (.istore_n 3, 1) := dAX10_busiest (78, (.istore_n 3, 1)) (List.mem_of_getElem? (i := 41) rfl)
theorem dX10_busiest_79 : decode cX10_busiest 79 = .ok (.aload_n 0, 1) := dAX10_busiest (79, (.aload_n 0, 1)) (List.mem_of_getElem? (i := 42) rfl)
theorem dX10_busiest_80 : decode cX10_busiest 80 = .ok (.aload_n 0, 1) := dAX10_busiest (80, (.aload_n 0, 1)) (List.mem_of_getElem? (i := 43) rfl)
theorem dX10_busiest_81 : decode cX10_busiest 81 = .ok (.getfield 35, 3) := dAX10_busiest (81, (.getfield 35, 3)) (List.mem_of_getElem? (i := 44) rfl)
theorem dX10_busiest_84 : decode cX10_busiest 84 = .ok (.invokevirtual 259, 3) := dAX10_busiest (84, (.invokevirtual 259, 3)) (List.mem_of_getElem? (i := 45) rfl)
theorem dX10_busiest_87 : decode cX10_busiest 87 = .ok (.invokestatic 306, 3) := dAX10_busiest (87, (.invokestatic 306, 3)) (List.mem_of_getElem? (i := 46) rfl)
theorem dX10_busiest_90 : decode cX10_busiest 90 = .ok (.istore 4, 2) := dAX10_busiest (90, (.istore 4, 2)) (List.mem_of_getElem? (i := 47) rfl)
theorem dX10_busiest_92 : decode cX10_busiest 92 = .ok (.iinc 5 1, 3) := dAX10_busiest (92, (.iinc 5 1, 3)) (List.mem_of_getElem? (i := 48) rfl)
theorem dX10_busiest_95 : decode cX10_busiest 95 = .ok (.goto (-51), 3) := dAX10_busiest (95, (.goto (-51), 3)) (List.mem_of_getElem? (i := 49) rfl)
theorem dX10_busiest_98 : decode cX10_busiest 98 = .ok (.iload_n 1, 1) := dAX10_busiest (98, (.iload_n 1, 1)) (List.mem_of_getElem? (i := 50) rfl)
theorem dX10_busiest_99 : decode cX10_busiest 99 = .ok (.ifCond .eq 7, 3) := dAX10_busiest (99, (.ifCond .eq 7, 3)) (List.mem_of_getElem? (i := 51) rfl)
theorem dX10_busiest_102 : decode cX10_busiest 102 = .ok (.iload_n 2, 1) := dAX10_busiest (102, (.iload_n 2, 1)) (List.mem_of_getElem? (i := 52) rfl)
theorem dX10_busiest_103 : decode cX10_busiest 103 = .ok (.goto 5, 3) := dAX10_busiest (103, (.goto 5, 3)) (List.mem_of_getElem? (i := 53) rfl)
theorem dX10_busiest_106 : decode cX10_busiest 106 = .ok (.iload 4, 2) := dAX10_busiest (106, (.iload 4, 2)) (List.mem_of_getElem? (i := 54) rfl)
theorem dX10_busiest_108 : decode cX10_busiest 108 = .ok (.ireturn, 1) := dAX10_busiest (108, (.ireturn, 1)) (List.mem_of_getElem? (i := 55) rfl)
set_option maxRecDepth 20000 in
theorem ggX10_busiest_X10_good : GoodIn wsX10_busiest wsX10_good := goodIn_r _ [8, 9, 10, 61, 62, 63, 64, 65, 66, 67, 68, 69, 70, 71, 72, 73, 74, 75, 76, 77, 78, 79, 80, 81, 82, 83, 84, 85, 86, 87, 88, 89, 90, 91, 92, 93, 94, 95] rfl (by decide +kernel)
set_option maxRecDepth 20000 in
theorem gX10_busiest_X10_good : GoodIn wsX10_busiest (wsV RX10 159 RX10 yX10_good wsX10_good) := goodIn_app (goodIn_of _ (by decide +kernel)) ggX10_busiest_X10_good
set_option maxRecDepth 20000 in
theorem ggX10_busiest_X10_no : GoodIn wsX10_busiest wsX10_no := goodIn_r _ [14, 10, 61, 62, 63, 64, 65, 66, 67, 68, 69, 70, 71, 72, 73, 74, 75, 76, 77, 78, 79, 80, 81, 82, 83, 84, 85, 86, 87, 88, 89, 90, 91, 92, 93, 94, 95] rfl (by decide +kernel)
set_option maxRecDepth 20000 in
theorem gX10_busiest_X10_no : GoodIn wsX10_busiest (wsV RX10 162 RX10 yX10_no wsX10_no) := goodIn_app (goodIn_of _ (by decide +kernel)) ggX10_busiest_X10_no
set_option maxRecDepth 20000 in
theorem ggX10_busiest_X10_copy : GoodIn wsX10_busiest wsX10_copy := goodIn_r _ [17] rfl (by decide +kernel)
set_option maxRecDepth 20000 in
theorem gX10_busiest_X10_copy : GoodIn wsX10_busiest (va_wsS RX10 168 yX10_copy wsX10_copy) := goodIn_app (goodIn_of _ (by decide +kernel)) ggX10_busiest_X10_copy
set_option maxRecDepth 20000 in
theorem ggX10_busiest_X10_hourOf : GoodIn wsX10_busiest wsX10_hourOf := goodIn_r _ [21, 22, 23, 24, 25, 7, 26, 27, 28, 29, 30, 31, 32, 33, 34, 35, 36, 37, 38, 39, 40, 41, 42, 43, 44, 45, 46, 47, 48, 49, 50, 51, 52, 53, 54, 55, 56, 57, 61, 62, 63, 64, 65, 66, 67, 68, 69, 70, 71, 72, 73, 74, 75, 76, 77, 78, 79, 80, 81, 82, 83, 84, 85, 86, 87, 88, 89, 90, 91, 92, 93, 94, 95] rfl (by decide +kernel)
set_option maxRecDepth 20000 in
theorem gX10_busiest_X10_hourOf : GoodIn wsX10_busiest (wsV RX10 293 RX10 yX10_hourOf wsX10_hourOf) := goodIn_app (goodIn_of _ (by decide +kernel)) ggX10_busiest_X10_hourOf
set_option maxRecDepth 20000 in
theorem ggX10_busiest_X10_ones : GoodIn wsX10_busiest wsX10_ones := goodIn_r _ [60] rfl (by decide +kernel)
set_option maxRecDepth 20000 in
theorem gX10_busiest_X10_ones : GoodIn wsX10_busiest (va_wsS RX10 306 yX10_ones wsX10_ones) := goodIn_app (goodIn_of _ (by decide +kernel)) ggX10_busiest_X10_ones
set_option maxRecDepth 20000 in
theorem ggX10_busiest_X10_thereOf : GoodIn wsX10_busiest wsX10_thereOf := goodIn_r _ [46, 22, 27, 28, 7, 29, 61, 62, 63, 64, 65, 66, 67, 68, 69, 70, 71, 72, 73, 74, 75, 76, 77, 78, 79, 80, 81, 82, 83, 84, 85, 86, 87, 88, 89, 90, 91, 92, 93, 94, 95] rfl (by decide +kernel)
set_option maxRecDepth 20000 in
theorem gX10_busiest_X10_thereOf : GoodIn wsX10_busiest (wsV RX10 259 RX10 yX10_thereOf wsX10_thereOf) := goodIn_app (goodIn_of _ (by decide +kernel)) ggX10_busiest_X10_thereOf
theorem kX10_busiest_176 : Cond.fieldLink RX10 176 "EveningVowModel" "hasEvening" "Z" ∈ wsX10_busiest := List.mem_of_getElem? (i := 1) rfl
theorem iX10_busiest_X10 : ∀ w ∈ u_ws RX10 TX10 35, w ∈ wsX10_busiest := fun w h => (List.mem_cons_of_mem _ (List.mem_append_right _ h))
theorem kX10_busiest_26 : Cond.fieldLink RX10 26 "EveningVowModel" "st" "[I" ∈ wsX10_busiest := List.mem_of_getElem? (i := 2) rfl
theorem kX10_busiest_35 : Cond.fieldLink RX10 35 "EveningVowModel" "trial" "[I" ∈ wsX10_busiest := List.mem_of_getElem? (i := 3) rfl
set_option maxHeartbeats 4000000 in
set_option maxRecDepth 100000 in
theorem wX10_busiest_L44 {p : Program} {l : Launch} {e : Env} {s : State} {m : MethodId} {args : Array Value} {below : List Frame} {meth : Method} {c : Code} {g : GG} {A : Nat → Prop} (C0 : Cx p s m args meth c cX10_busiest 7 (some .int) RX10 wsX10_busiest g A) (a_t : Nat) (p_t : Nat → Nat) (n : Nat) (x1 : Int32) (f_t_15 : Nat → Int32) (f_t_17 : Nat → Int32) (r : Int32) (o_t' : Nat → Int32) (f_t_25' : Nat → Int32) (K : Int32 → Int32 → (Nat → Int32) → (Nat → Int32) → Option (Int32 × (Nat → Int32) × (Nat → Int32))) (hKx : ∀ (x2 : Int32) (x4 : Int32) (o_t : Nat → Int32) (f_t_25 : Nat → Int32) (H : Heap) (locs : List Loc) (ls : Array Slot), K x2 x4 o_t f_t_25 = some (r, o_t', f_t_25') → va_P g.1 vwCl [oX10 a_t p_t o_t, aI g (p_t 15) 266 f_t_15, aI g (p_t 17) 17 f_t_17, aI g (p_t 25) 17 f_t_25] H → va_D A [oX10 a_t p_t o_t, aI g (p_t 15) 266 f_t_15, aI g (p_t 17) 17 f_t_17, aI g (p_t 25) 17 f_t_25] → va_S A s.heap H locs → lv_has ls 7 [(1, .int x1), (2, .int x2), (4, .int x4)] → W p l e ({ frames := 4, cells := 0, slots := 0, locals := 93 } : Room) s m args below meth c H locs 0 0 (MQ below (EndI g r [oX10 a_t p_t o_t', aI g (p_t 15) 266 f_t_15, aI g (p_t 17) 17 f_t_17, aI g (p_t 25) 17 f_t_25'] A) args s 0 0 A) (F0 m 98 ls [])) : ∀ (k : Nat) (x2 : Int32) (x3 : Int32) (x4 : Int32) (x5 : Int32) (o_t : Nat → Int32) (f_t_25 : Nat → Int32), fX10_busiest_L44 n x1 f_t_15 K k x2 x3 x4 x5 o_t f_t_25 = some (r, o_t', f_t_25') → ∀ (H : Heap) (locs : List Loc) (ls : Array Slot), va_P g.1 vwCl [oX10 a_t p_t o_t, aI g (p_t 15) 266 f_t_15, aI g (p_t 17) 17 f_t_17, aI g (p_t 25) 17 f_t_25] H → va_D A [oX10 a_t p_t o_t, aI g (p_t 15) 266 f_t_15, aI g (p_t 17) 17 f_t_17, aI g (p_t 25) 17 f_t_25] → va_S A s.heap H locs → lv_has ls 7 [(0, .ref a_t), (1, .int x1), (2, .int x2), (3, .int x3), (4, .int x4), (5, .int x5)] → W p l e ({ frames := 4, cells := 0, slots := 0, locals := 93 } : Room) s m args below meth c H locs 0 0 (MQ below (EndI g r [oX10 a_t p_t o_t', aI g (p_t 15) 266 f_t_15, aI g (p_t 17) 17 f_t_17, aI g (p_t 25) 17 f_t_25'] A) args s 0 0 A) (F0 m 44 ls []) := by
  obtain ⟨hx, hb, hml, hown, hts, hr, hlk, hK, hA, hSW⟩ := id C0
  intro k
  induction k with
  | zero =>
    intro x2 x3 x4 x5 o_t f_t_25 hF
    exact absurd hF (by simp [fX10_busiest_L44])
  | succ k ih =>
    intro x2 x3 x4 x5 o_t f_t_25 hF H locs ls hP hD hS hl
    rw [fX10_busiest_L44] at hF
    refine lv_iload hx hb dX10_busiest_44 (lv_at hl 5 rfl) ?_
    refine lv_bipush (v := (60 : Int32)) hx hb dX10_busiest_46 (by decide) ?_
    refine lv_icmp_gt (tgt := 98) hx hb dX10_busiest_48 (by decide) (fun c_6 => ?_) (fun c_6 => ?_)
    · have hF := it_p c_6 hF
      exact hKx x2 x4 o_t f_t_25 _ _ _ hF (hP.sub [0, 1, 2, 3] rfl) (hD.sub [0, 1, 2, 3] rfl rfl) hS (lv_sub hl [1, 2, 4] rfl)
    · have hF := it_n c_6 hF
      refine lv_aload_n hx hb dX10_busiest_51 rfl (lv_at hl 0 rfl) ?_
      refine lv_aload_n hx hb dX10_busiest_52 rfl (lv_at hl 0 rfl) ?_
      refine va_get (D := g.1) (ci := 10) (v := .ref (p_t 25)) (C := RX10) (T := TX10) (N := 35) hx hb hts iX10_busiest_X10 hown hK.1 hP 0 rfl rfl 25 (by decide) (hts _ kX10_busiest_35) (fun _ h9 => h9) rfl dX10_busiest_53 ?_
      obtain ⟨u_7, u_8, u_9, hu_10, hF⟩ := ob3_some hF
      refine call_i (wr := [aI g (p_t 17) 17 f_t_17]) (As := [.ref (p_t 25)]) (rest := []) (ci := 10) (q0 := 0) C0 (mX10_hourOf l g a_t (p_t 25) p_t n o_t f_t_15 f_t_25 u_7 u_8 u_9 hu_10) (cwV 1 hts gX10_busiest_X10_hourOf rfl rfl rfl (by decide +kernel) ⟨Nat.le_of_ble_eq_true rfl, Nat.le_of_ble_eq_true rfl⟩) hP hD hS [0, 1, 3] [2] rfl rfl rfl rfl rfl (by decide) rfl rfl hl.1 rfl rfl (Nat.le_of_ble_eq_true rfl) ⟨Nat.zero_le _, Nat.zero_le _⟩ dX10_busiest_56 ?_
      intro H locs hP hD hS
      obtain ⟨u_11, hu_12, hF⟩ := ob1_some hF
      refine call_si (wr := [aI g (p_t 17) 17 f_t_17, oX10 a_t p_t u_8, aI g (p_t 15) 266 f_t_15, aI g (p_t 25) 17 u_9]) (As := [.int u_7]) (rest := []) C0 (mX10_ones l g n u_7 u_11 hu_12) (va_cwS 1 hts gX10_busiest_X10_ones rfl rfl rfl (by decide +kernel) ⟨Nat.le_of_ble_eq_true rfl, Nat.le_of_ble_eq_true rfl⟩) hP hD hS [] [0, 1, 2, 3] rfl rfl rfl rfl rfl (by decide) hl.1 rfl rfl (Nat.le_of_ble_eq_true rfl) ⟨Nat.zero_le _, Nat.zero_le _⟩ dX10_busiest_59 ?_
      intro H locs hP hD hS
      refine lv_istore (lv' := [(6, .int u_11), (0, .ref a_t), (1, .int x1), (2, .int x2), (3, .int x3), (4, .int x4), (5, .int x5)]) hx hb dX10_busiest_62 hl (by decide) rfl (fun ls hl => ?_)
      refine lv_iload hx hb dX10_busiest_64 (lv_at hl 0 rfl) ?_
      refine lv_iload_n hx hb dX10_busiest_66 rfl (lv_at hl 4 rfl) ?_
      refine lv_icmp_gt (tgt := 73) hx hb dX10_busiest_67 (by decide) (fun c_13 => ?_) (fun c_13 => ?_)
      · have hF := it_p c_13 hF
        refine lv_iload hx hb dX10_busiest_73 (lv_at hl 6 rfl) ?_
        refine lv_istore_n (lv' := [(2, .int x5), (6, .int u_11), (0, .ref a_t), (1, .int x1), (3, .int x3), (4, .int x4), (5, .int x5)]) hx hb dX10_busiest_75 rfl hl (by decide) rfl (fun ls hl => ?_)
        refine lv_iload hx hb dX10_busiest_76 (lv_at hl 1 rfl) ?_
        refine lv_istore_n (lv' := [(3, .int u_11), (2, .int x5), (6, .int u_11), (0, .ref a_t), (1, .int x1), (4, .int x4), (5, .int x5)]) hx hb dX10_busiest_78 rfl hl (by decide) rfl (fun ls hl => ?_)
        refine lv_aload_n hx hb dX10_busiest_79 rfl (lv_at hl 3 rfl) ?_
        refine lv_aload_n hx hb dX10_busiest_80 rfl (lv_at hl 3 rfl) ?_
        refine va_get (D := g.1) (ci := 10) (v := .ref (p_t 25)) (C := RX10) (T := TX10) (N := 35) hx hb hts iX10_busiest_X10 hown hK.1 hP 1 rfl rfl 25 (by decide) (hts _ kX10_busiest_35) (fun _ h9 => h9) rfl dX10_busiest_81 ?_
        obtain ⟨u_14, hu_15, hF⟩ := ob1_some hF
        refine call_i (wr := [aI g (p_t 17) 17 f_t_17]) (As := [.ref (p_t 25)]) (rest := []) (ci := 10) (q0 := 0) C0 (mX10_thereOf l g a_t (p_t 25) p_t n u_8 f_t_15 u_9 u_14 hu_15) (cwV 1 hts gX10_busiest_X10_thereOf rfl rfl rfl (by decide +kernel) ⟨Nat.le_of_ble_eq_true rfl, Nat.le_of_ble_eq_true rfl⟩) hP hD hS [1, 2, 3] [0] rfl rfl rfl rfl rfl (by decide) rfl rfl hl.1 rfl rfl (Nat.le_of_ble_eq_true rfl) ⟨Nat.zero_le _, Nat.zero_le _⟩ dX10_busiest_84 ?_
        intro H locs hP hD hS
        obtain ⟨u_16, hu_17, hF⟩ := ob1_some hF
        refine call_si (wr := [aI g (p_t 17) 17 f_t_17, oX10 a_t p_t u_8, aI g (p_t 15) 266 f_t_15, aI g (p_t 25) 17 u_9]) (As := [.int u_14]) (rest := []) C0 (mX10_ones l g n u_14 u_16 hu_17) (va_cwS 1 hts gX10_busiest_X10_ones rfl rfl rfl (by decide +kernel) ⟨Nat.le_of_ble_eq_true rfl, Nat.le_of_ble_eq_true rfl⟩) hP hD hS [] [0, 1, 2, 3] rfl rfl rfl rfl rfl (by decide) hl.1 rfl rfl (Nat.le_of_ble_eq_true rfl) ⟨Nat.zero_le _, Nat.zero_le _⟩ dX10_busiest_87 ?_
        intro H locs hP hD hS
        refine lv_istore (lv' := [(4, .int u_16), (3, .int u_11), (2, .int x5), (6, .int u_11), (0, .ref a_t), (1, .int x1), (5, .int x5)]) hx hb dX10_busiest_90 hl (by decide) rfl (fun ls hl => ?_)
        refine lv_iinc (v := (x5 + (1 : Int32))) (lv' := [(5, .int (x5 + (1 : Int32))), (4, .int u_16), (3, .int u_11), (2, .int x5), (6, .int u_11), (0, .ref a_t), (1, .int x1)]) hx hb dX10_busiest_92 hl (k := 6) rfl rfl (by decide) rfl (fun ls hl => ?_)
        refine lv_goto (tgt := 44) hx hb dX10_busiest_95 (by decide) ?_
        exact ih x5 u_11 u_16 (x5 + (1 : Int32)) u_8 u_9 hF _ _ _ (hP.sub [1, 2, 0, 3] rfl) (hD.sub [1, 2, 0, 3] rfl rfl) hS (lv_sub hl [5, 6, 3, 2, 1, 0] rfl)
      · have hF := it_n c_13 hF
        refine lv_goto (tgt := 92) hx hb dX10_busiest_70 (by decide) ?_
        refine lv_iinc (v := (x5 + (1 : Int32))) (lv' := [(5, .int (x5 + (1 : Int32))), (6, .int u_11), (0, .ref a_t), (1, .int x1), (2, .int x2), (3, .int x3), (4, .int x4)]) hx hb dX10_busiest_92 hl (k := 6) rfl rfl (by decide) rfl (fun ls hl => ?_)
        refine lv_goto (tgt := 44) hx hb dX10_busiest_95 (by decide) ?_
        exact ih x2 x3 x4 (x5 + (1 : Int32)) u_8 u_9 hF _ _ _ (hP.sub [1, 2, 0, 3] rfl) (hD.sub [1, 2, 0, 3] rfl rfl) hS (lv_sub hl [2, 3, 4, 5, 6, 0] rfl)
set_option maxHeartbeats 4000000 in
set_option maxRecDepth 100000 in
theorem mX10_busiest (l : Launch) (g : GG) (a_t : Nat) (p_t : Nat → Nat) (n : Nat) (x1 : Int32) (o_t : Nat → Int32) (f_t_15 : Nat → Int32) (f_t_17 : Nat → Int32) (f_t_25 : Nat → Int32) (r : Int32) (o_t' : Nat → Int32) (f_t_25' : Nat → Int32) (hF : fX10_busiest n x1 o_t f_t_15 f_t_17 f_t_25 = some (r, o_t', f_t_25')) : MI l g yX10_busiest wsX10_busiest ({ frames := 4, cells := 0, slots := 0, locals := 93 } : Room) [.ref a_t, .int x1] [oX10 a_t p_t o_t, aI g (p_t 15) 266 f_t_15, aI g (p_t 17) 17 f_t_17, aI g (p_t 25) 17 f_t_25] r [oX10 a_t p_t o_t', aI g (p_t 15) 266 f_t_15, aI g (p_t 17) 17 f_t_17, aI g (p_t 25) 17 f_t_25'] := by
  refine MI.of (cc := cX10_busiest) (maxL := 7) (rt := .int) (own := RX10) rfl rfl (by decide) (Nat.le_of_ble_eq_true rfl) ?_
  intro p e s m args below meth c A C0 hP hD hS ls hl
  obtain ⟨hx, hb, hml, hown, hts, hr, hlk, hK, hA, hSW⟩ := id C0
  have hl : lv_has ls 7 [(0, .ref a_t), (1, .int x1)] := hl
  rw [fX10_busiest] at hF
  refine lv_aload_n hx hb dX10_busiest_0 rfl (lv_at hl 0 rfl) ?_
  obtain ⟨u_1, hu_2, hF⟩ := ob1_some hF
  refine call_v (wr := [aI g (p_t 15) 266 f_t_15, aI g (p_t 17) 17 f_t_17, aI g (p_t 25) 17 f_t_25]) (As := []) (rest := []) (ci := 10) (q0 := 0) C0 (mX10_good l g a_t p_t n o_t u_1 hu_2) (cwV 0 hts gX10_busiest_X10_good rfl rfl rfl (by decide +kernel) ⟨Nat.le_of_ble_eq_true rfl, Nat.le_of_ble_eq_true rfl⟩) hP hD hS [0] [1, 2, 3] rfl rfl rfl rfl rfl (by decide) rfl rfl hl.1 rfl rfl (Nat.le_of_ble_eq_true rfl) ⟨Nat.zero_le _, Nat.zero_le _⟩ dX10_busiest_1 ?_
  intro H locs hP hD hS
  refine lv_aload_n hx hb dX10_busiest_4 rfl (lv_at hl 0 rfl) ?_
  refine va_get (D := g.1) (ci := 10) (v := .int (u_1 14)) (C := RX10) (T := TX10) (N := 35) hx hb hts iX10_busiest_X10 hown hK.1 hP 3 rfl rfl 14 (by decide) (hts _ kX10_busiest_176) (fun _ h9 => h9) rfl dX10_busiest_5 ?_
  refine lv_if_ne (tgt := 17) hx hb dX10_busiest_8 (by decide) (fun c_3 => ?_) (fun c_3 => ?_)
  · have hF := it_n c_3 hF
    refine lv_aload_n hx hb dX10_busiest_17 rfl (lv_at hl 0 rfl) ?_
    refine va_get (D := g.1) (ci := 10) (v := .ref (p_t 17)) (C := RX10) (T := TX10) (N := 35) hx hb hts iX10_busiest_X10 hown hK.1 hP 3 rfl rfl 17 (by decide) (hts _ kX10_busiest_26) (fun _ h9 => h9) rfl dX10_busiest_18 ?_
    refine lv_iconst (v := (0 : Int32)) hx hb dX10_busiest_21 (by decide) ?_
    refine lv_aload_n hx hb dX10_busiest_22 rfl (lv_at hl 0 rfl) ?_
    refine va_get (D := g.1) (ci := 10) (v := .ref (p_t 25)) (C := RX10) (T := TX10) (N := 35) hx hb hts iX10_busiest_X10 hown hK.1 hP 3 rfl rfl 25 (by decide) (hts _ kX10_busiest_35) (fun _ h9 => h9) rfl dX10_busiest_23 ?_
    refine lv_iconst (v := (0 : Int32)) hx hb dX10_busiest_26 (by decide) ?_
    refine lv_bipush (v := (17 : Int32)) hx hb dX10_busiest_27 (by decide) ?_
    obtain ⟨u_4, hu_5, hF⟩ := ob1_some hF
    refine call_sv (wr := [aI g (p_t 15) 266 f_t_15, oX10 a_t p_t u_1]) (As := [.ref (p_t 17), .int (0 : Int32), .ref (p_t 25), .int (0 : Int32), .int (17 : Int32)]) (rest := []) C0 (mX10_copy l g (p_t 17) (p_t 25) n (0 : Int32) (0 : Int32) (17 : Int32) 17 17 f_t_17 f_t_25 u_4 hu_5) (va_cwS 5 hts gX10_busiest_X10_copy rfl rfl rfl (by decide +kernel) ⟨Nat.le_of_ble_eq_true rfl, Nat.le_of_ble_eq_true rfl⟩) hP hD hS [1, 2] [0, 3] rfl rfl rfl rfl rfl (by decide) hl.1 rfl rfl (Nat.le_of_ble_eq_true rfl) ⟨Nat.zero_le _, Nat.zero_le _⟩ dX10_busiest_29 ?_
    intro H locs hP hD hS
    refine lv_bipush (v := (-2 : Int32)) hx hb dX10_busiest_32 (by decide) ?_
    refine lv_istore_n (lv' := [(2, .int (-2 : Int32)), (0, .ref a_t), (1, .int x1)]) hx hb dX10_busiest_34 rfl hl (by decide) rfl (fun ls hl => ?_)
    refine lv_iconst (v := (0 : Int32)) hx hb dX10_busiest_35 (by decide) ?_
    refine lv_istore_n (lv' := [(3, .int (0 : Int32)), (2, .int (-2 : Int32)), (0, .ref a_t), (1, .int x1)]) hx hb dX10_busiest_36 rfl hl (by decide) rfl (fun ls hl => ?_)
    refine lv_bipush (v := (-2 : Int32)) hx hb dX10_busiest_37 (by decide) ?_
    refine lv_istore (lv' := [(4, .int (-2 : Int32)), (3, .int (0 : Int32)), (2, .int (-2 : Int32)), (0, .ref a_t), (1, .int x1)]) hx hb dX10_busiest_39 hl (by decide) rfl (fun ls hl => ?_)
    refine lv_iconst (v := (1 : Int32)) hx hb dX10_busiest_41 (by decide) ?_
    refine lv_istore (lv' := [(5, .int (1 : Int32)), (4, .int (-2 : Int32)), (3, .int (0 : Int32)), (2, .int (-2 : Int32)), (0, .ref a_t), (1, .int x1)]) hx hb dX10_busiest_42 hl (by decide) rfl (fun ls hl => ?_)
    refine wX10_busiest_L44 C0 a_t p_t n x1 f_t_15 f_t_17 r o_t' f_t_25' _ ?_ n (-2 : Int32) (0 : Int32) (-2 : Int32) (1 : Int32) u_1 u_4 hF _ _ _ (hP.sub [1, 0, 2, 3] rfl) (hD.sub [1, 0, 2, 3] rfl rfl) hS (lv_sub hl [4, 5, 3, 2, 1, 0] rfl)
    · intro x2_x44 x4_x44 o_t_x44 f_t_25_x44 H locs ls hF hP hD hS hl
      refine lv_iload_n hx hb dX10_busiest_98 rfl (lv_at hl 0 rfl) ?_
      refine lv_if_eq (tgt := 106) hx hb dX10_busiest_99 (by decide) (fun c_18 => ?_) (fun c_18 => ?_)
      · have hF := it_p c_18 hF
        refine lv_iload hx hb dX10_busiest_106 (lv_at hl 2 rfl) ?_
        cases hF
        exact ret_i C0 hP hD hS [0, 1, 2, 3] rfl rfl rfl dX10_busiest_108 rfl
      · have hF := it_n c_18 hF
        refine lv_iload_n hx hb dX10_busiest_102 rfl (lv_at hl 1 rfl) ?_
        refine lv_goto (tgt := 108) hx hb dX10_busiest_103 (by decide) ?_
        cases hF
        exact ret_i C0 hP hD hS [0, 1, 2, 3] rfl rfl rfl dX10_busiest_108 rfl
  · have hF := it_p c_3 hF
    refine lv_aload_n hx hb dX10_busiest_11 rfl (lv_at hl 0 rfl) ?_
    refine lv_iconst (v := (1 : Int32)) hx hb dX10_busiest_12 (by decide) ?_
    obtain ⟨u_19, u_20, hu_21, hF⟩ := ob2_some hF
    refine call_i (wr := [aI g (p_t 15) 266 f_t_15, aI g (p_t 17) 17 f_t_17, aI g (p_t 25) 17 f_t_25]) (As := [.int (1 : Int32)]) (rest := []) (ci := 10) (q0 := 0) C0 (mX10_no l g a_t p_t n (1 : Int32) u_1 u_19 u_20 hu_21) (cwV 1 hts gX10_busiest_X10_no rfl rfl rfl (by decide +kernel) ⟨Nat.le_of_ble_eq_true rfl, Nat.le_of_ble_eq_true rfl⟩) hP hD hS [3] [0, 1, 2] rfl rfl rfl rfl rfl (by decide) rfl rfl hl.1 rfl rfl (Nat.le_of_ble_eq_true rfl) ⟨Nat.zero_le _, Nat.zero_le _⟩ dX10_busiest_13 ?_
    intro H locs hP hD hS
    cases hF
    exact ret_i C0 hP hD hS [3, 0, 1, 2] rfl rfl rfl dX10_busiest_16 rfl

theorem dAX10_order : ∀ q ∈ ([(0, (.aload_n 0, 1)), (1, (.invokevirtual 159, 3)), (4, (.aload_n 0, 1)), (5, (.getfield 176, 3)), (8, (.ifCond .eq 7, 3)), (11, (.iload_n 1, 1)), (12, (.ifCond .ge 9, 3)), (15, (.aload_n 0, 1)), (16, (.iconst 1, 1)), (17, (.invokevirtual 162, 3)), (20, (.ireturn, 1)), (21, (.aload_n 0, 1)), (22, (.getfield 26, 3)), (25, (.iconst 0, 1)), (26, (.aload_n 0, 1)), (27, (.getfield 35, 3)), (30, (.iconst 0, 1)), (31, (.bipush 17, 2)), (33, (.invokestatic 168, 3)), (36, (.iconst 0, 1)), (37, (.istore_n 2, 1)), (38, (.iconst 0, 1)), (39, (.istore_n 3, 1)), (40, (.iload_n 3, 1)), (41, (.bipush 60, 2)), (43, (.if_icmp .ge 63, 3)), (46, (.aload_n 0, 1)), (47, (.aload_n 0, 1)), (48, (.getfield 35, 3)), (51, (.invokevirtual 293, 3)), (54, (.istore 4, 2)), (56, (.iconst 0, 1)), (57, (.istore 5, 2)), (59, (.iload 5, 2)), (61, (.aload_n 0, 1)), (62, (.getfield 20, 3)), (65, (.iconst 3, 1)), (66, (.iaload, 1)), (67, (.if_icmp .ge 33, 3)), (70, (.iload 4, 2)), (72, (.iload 5, 2)), (74, (.invokestatic 252, 3)), (77, (.ifCond .ne 6, 3)), (80, (.goto 14, 3)), (83, (.iload_n 2, 1)), (84, (.iload_n 1, 1)), (85, (.if_icmp .ne 6, 3)), (88, (.iload 5, 2)), (90, (.ireturn, 1)), (91, (.iinc 2 1, 3)), (94, (.iinc 5 1, 3)), (97, (.goto (-38), 3)), (100, (.iinc 3 1, 3)), (103, (.goto (-63), 3)), (106, (.bipush (-2), 2)), (108, (.ireturn, 1))] : List (Nat × (Instr × Nat))), decode cX10_order q.1 = .ok q.2 := by decide +kernel
theorem dX10_order_0 : decode cX10_order 0 = .ok (.aload_n 0, 1) := dAX10_order (0, (.aload_n 0, 1)) (List.mem_of_getElem? (i := 0) rfl)
theorem dX10_order_1 : decode cX10_order 1 = .ok (.invokevirtual 159, 3) := dAX10_order (1, (.invokevirtual 159, 3)) (List.mem_of_getElem? (i := 1) rfl)
theorem dX10_order_4 : decode cX10_order 4 = .ok (.aload_n 0, 1) := dAX10_order (4, (.aload_n 0, 1)) (List.mem_of_getElem? (i := 2) rfl)
theorem dX10_order_5 : decode cX10_order 5 = .ok (.getfield 176, 3) := dAX10_order (5, (.getfield 176, 3)) (List.mem_of_getElem? (i := 3) rfl)
theorem dX10_order_8 : decode cX10_order 8 = .ok (.ifCond .eq 7, 3) := dAX10_order (8, (.ifCond .eq 7, 3)) (List.mem_of_getElem? (i := 4) rfl)
theorem dX10_order_11 : decode cX10_order 11 = .ok (.iload_n 1, 1) := dAX10_order (11, (.iload_n 1, 1)) (List.mem_of_getElem? (i := 5) rfl)
theorem dX10_order_12 : decode cX10_order 12 = .ok (.ifCond .ge 9, 3) := dAX10_order (12, (.ifCond .ge 9, 3)) (List.mem_of_getElem? (i := 6) rfl)
theorem dX10_order_15 : decode cX10_order 15 = .ok (.aload_n 0, 1) := dAX10_order (15, (.aload_n 0, 1)) (List.mem_of_getElem? (i := 7) rfl)
theorem dX10_order_16 : decode cX10_order 16 = .ok (.iconst 1, 1) := dAX10_order (16, (.iconst 1, 1)) (List.mem_of_getElem? (i := 8) rfl)
theorem dX10_order_17 : decode cX10_order 17 = .ok (.invokevirtual 162, 3) := dAX10_order (17, (.invokevirtual 162, 3)) (List.mem_of_getElem? (i := 9) rfl)
theorem dX10_order_20 : decode cX10_order 20 = .ok (.ireturn, 1) := dAX10_order (20, (.ireturn, 1)) (List.mem_of_getElem? (i := 10) rfl)
theorem dX10_order_21 : decode cX10_order 21 = .ok (.aload_n 0, 1) := dAX10_order (21, (.aload_n 0, 1)) (List.mem_of_getElem? (i := 11) rfl)
theorem dX10_order_22 : decode cX10_order 22 = .ok (.getfield 26, 3) := dAX10_order (22, (.getfield 26, 3)) (List.mem_of_getElem? (i := 12) rfl)
theorem dX10_order_25 : decode cX10_order 25 = .ok (.iconst 0, 1) := dAX10_order (25, (.iconst 0, 1)) (List.mem_of_getElem? (i := 13) rfl)
theorem dX10_order_26 : decode cX10_order 26 = .ok (.aload_n 0, 1) := dAX10_order (26, (.aload_n 0, 1)) (List.mem_of_getElem? (i := 14) rfl)
theorem dX10_order_27 : decode cX10_order 27 = .ok (.getfield 35, 3) := dAX10_order (27, (.getfield 35, 3)) (List.mem_of_getElem? (i := 15) rfl)
theorem dX10_order_30 : decode cX10_order 30 = .ok (.iconst 0, 1) := dAX10_order (30, (.iconst 0, 1)) (List.mem_of_getElem? (i := 16) rfl)
theorem dX10_order_31 : decode cX10_order 31 = .ok (.bipush 17, 2) := dAX10_order (31, (.bipush 17, 2)) (List.mem_of_getElem? (i := 17) rfl)
theorem dX10_order_33 : decode cX10_order 33 = .ok (.invokestatic 168, 3) := dAX10_order (33, (.invokestatic 168, 3)) (List.mem_of_getElem? (i := 18) rfl)
theorem dX10_order_36 : decode cX10_order 36 = .ok (.iconst 0, 1) := dAX10_order (36, (.iconst 0, 1)) (List.mem_of_getElem? (i := 19) rfl)
theorem dX10_order_37 : decode cX10_order 37 = .ok (.istore_n 2, 1) := dAX10_order (37, (.istore_n 2, 1)) (List.mem_of_getElem? (i := 20) rfl)
theorem dX10_order_38 : decode cX10_order 38 = .ok (.iconst 0, 1) := dAX10_order (38, (.iconst 0, 1)) (List.mem_of_getElem? (i := 21) rfl)
theorem dX10_order_39 : decode cX10_order 39 = .ok (.istore_n 3, 1) := dAX10_order (39, (.istore_n 3, 1)) (List.mem_of_getElem? (i := 22) rfl)
theorem dX10_order_40 : decode cX10_order 40 = .ok (.iload_n 3, 1) := dAX10_order (40, (.iload_n 3, 1)) (List.mem_of_getElem? (i := 23) rfl)
theorem dX10_order_41 : decode cX10_order 41 = .ok (.bipush 60, 2) := dAX10_order (41, (.bipush 60, 2)) (List.mem_of_getElem? (i := 24) rfl)
theorem dX10_order_43 : decode cX10_order 43 = .ok (.if_icmp .ge 63, 3) := dAX10_order (43, (.if_icmp .ge 63, 3)) (List.mem_of_getElem? (i := 25) rfl)
theorem dX10_order_46 : decode cX10_order 46 = .ok (.aload_n 0, 1) := dAX10_order (46, (.aload_n 0, 1)) (List.mem_of_getElem? (i := 26) rfl)
theorem dX10_order_47 : decode cX10_order 47 = .ok (.aload_n 0, 1) := dAX10_order (47, (.aload_n 0, 1)) (List.mem_of_getElem? (i := 27) rfl)
theorem dX10_order_48 : decode cX10_order 48 = .ok (.getfield 35, 3) := dAX10_order (48, (.getfield 35, 3)) (List.mem_of_getElem? (i := 28) rfl)
theorem dX10_order_51 : decode cX10_order 51 = .ok (.invokevirtual 293, 3) := dAX10_order (51, (.invokevirtual 293, 3)) (List.mem_of_getElem? (i := 29) rfl)
theorem dX10_order_54 : decode cX10_order 54 = .ok (.istore 4, 2) := dAX10_order (54, (.istore 4, 2)) (List.mem_of_getElem? (i := 30) rfl)
theorem dX10_order_56 : decode cX10_order 56 = .ok (.iconst 0, 1) := dAX10_order (56, (.iconst 0, 1)) (List.mem_of_getElem? (i := 31) rfl)
theorem dX10_order_57 : decode cX10_order 57 = .ok (.istore 5, 2) := dAX10_order (57, (.istore 5, 2)) (List.mem_of_getElem? (i := 32) rfl)
theorem dX10_order_59 : decode cX10_order 59 = .ok (.iload 5, 2) := dAX10_order (59, (.iload 5, 2)) (List.mem_of_getElem? (i := 33) rfl)
theorem dX10_order_61 : decode cX10_order 61 = .ok (.aload_n 0, 1) := dAX10_order (61, (.aload_n 0, 1)) (List.mem_of_getElem? (i := 34) rfl)
theorem dX10_order_62 : decode cX10_order 62 = .ok (.getfield 20, 3) := dAX10_order (62, (.getfield 20, 3)) (List.mem_of_getElem? (i := 35) rfl)
theorem dX10_order_65 : decode cX10_order 65 = .ok (.iconst 3, 1) := dAX10_order (65, (.iconst 3, 1)) (List.mem_of_getElem? (i := 36) rfl)
theorem dX10_order_66 : decode cX10_order 66 = .ok (.iaload, 1) := dAX10_order (66, (.iaload, 1)) (List.mem_of_getElem? (i := 37) rfl)
theorem dX10_order_67 : decode cX10_order 67 = .ok (.if_icmp .ge 33, 3) := dAX10_order (67, (.if_icmp .ge 33, 3)) (List.mem_of_getElem? (i := 38) rfl)
theorem dX10_order_70 : decode cX10_order 70 = .ok (.iload 4, 2) := dAX10_order (70, (.iload 4, 2)) (List.mem_of_getElem? (i := 39) rfl)
theorem dX10_order_72 : decode cX10_order 72 = .ok (.iload 5, 2) := dAX10_order (72, (.iload 5, 2)) (List.mem_of_getElem? (i := 40) rfl)
theorem dX10_order_74 : decode cX10_order 74 = .ok (.invokestatic 252, 3) := dAX10_order (74, (.invokestatic 252, 3)) (List.mem_of_getElem? (i := 41) rfl)
theorem dX10_order_77 : decode cX10_order 77 = .ok (.ifCond .ne 6, 3) := dAX10_order (77, (.ifCond .ne 6, 3)) (List.mem_of_getElem? (i := 42) rfl)
theorem dX10_order_80 : decode cX10_order 80 = .ok (.goto 14, 3) := dAX10_order (80, (.goto 14, 3)) (List.mem_of_getElem? (i := 43) rfl)
theorem dX10_order_83 : decode cX10_order 83 = .ok (.iload_n 2, 1) := dAX10_order (83, (.iload_n 2, 1)) (List.mem_of_getElem? (i := 44) rfl)
theorem dX10_order_84 : decode cX10_order 84 = .ok (.iload_n 1, 1) := dAX10_order (84, (.iload_n 1, 1)) (List.mem_of_getElem? (i := 45) rfl)
theorem dX10_order_85 : decode cX10_order 85 = .ok (.if_icmp .ne 6, 3) := dAX10_order (85, (.if_icmp .ne 6, 3)) (List.mem_of_getElem? (i := 46) rfl)
theorem dX10_order_88 : decode cX10_order 88 = .ok (.iload 5, 2) := dAX10_order (88, (.iload 5, 2)) (List.mem_of_getElem? (i := 47) rfl)
theorem dX10_order_90 : decode cX10_order 90 = .ok (.ireturn, 1) := dAX10_order (90, (.ireturn, 1)) (List.mem_of_getElem? (i := 48) rfl)
theorem dX10_order_91 : decode cX10_order 91 = .ok (.iinc 2 1, 3) := dAX10_order (91, (.iinc 2 1, 3)) (List.mem_of_getElem? (i := 49) rfl)
theorem dX10_order_94 : decode cX10_order 94 = .ok (.iinc 5 1, 3) := dAX10_order (94, (.iinc 5 1, 3)) (List.mem_of_getElem? (i := 50) rfl)
theorem dX10_order_97 : decode cX10_order 97 = .ok (.goto (-38), 3) := dAX10_order (97, (.goto (-38), 3)) (List.mem_of_getElem? (i := 51) rfl)
theorem dX10_order_100 : decode cX10_order 100 = .ok (.iinc 3 1, 3) := dAX10_order (100, (.iinc 3 1, 3)) (List.mem_of_getElem? (i := 52) rfl)
theorem dX10_order_103 : decode cX10_order 103 = .ok (.goto (-63), 3) := dAX10_order (103, (.goto (-63), 3)) (List.mem_of_getElem? (i := 53) rfl)
theorem dX10_order_106 : decode cX10_order 106 = .ok (.bipush (-2), 2) := dAX10_order (106, (.bipush (-2), 2)) (List.mem_of_getElem? (i := 54) rfl)
theorem dX10_order_108 : decode cX10_order 108 = .ok (.ireturn, 1) := dAX10_order (108, (.ireturn, 1)) (List.mem_of_getElem? (i := 55) rfl)
set_option maxRecDepth 20000 in
theorem ggX10_order_X10_good : GoodIn wsX10_order wsX10_good := goodIn_r _ [9, 10, 11, 58, 59, 60, 61, 62, 63, 64, 65, 66, 67, 68, 69, 70, 71, 72, 73, 74, 75, 76, 77, 78, 79, 80, 81, 82, 83, 84, 85, 86, 87, 88, 89, 90, 91, 92] rfl (by decide +kernel)
set_option maxRecDepth 20000 in
theorem gX10_order_X10_good : GoodIn wsX10_order (wsV RX10 159 RX10 yX10_good wsX10_good) := goodIn_app (goodIn_of _ (by decide +kernel)) ggX10_order_X10_good
set_option maxRecDepth 20000 in
theorem ggX10_order_X10_no : GoodIn wsX10_order wsX10_no := goodIn_r _ [15, 11, 58, 59, 60, 61, 62, 63, 64, 65, 66, 67, 68, 69, 70, 71, 72, 73, 74, 75, 76, 77, 78, 79, 80, 81, 82, 83, 84, 85, 86, 87, 88, 89, 90, 91, 92] rfl (by decide +kernel)
set_option maxRecDepth 20000 in
theorem gX10_order_X10_no : GoodIn wsX10_order (wsV RX10 162 RX10 yX10_no wsX10_no) := goodIn_app (goodIn_of _ (by decide +kernel)) ggX10_order_X10_no
set_option maxRecDepth 20000 in
theorem ggX10_order_X10_copy : GoodIn wsX10_order wsX10_copy := goodIn_r _ [18] rfl (by decide +kernel)
set_option maxRecDepth 20000 in
theorem gX10_order_X10_copy : GoodIn wsX10_order (va_wsS RX10 168 yX10_copy wsX10_copy) := goodIn_app (goodIn_of _ (by decide +kernel)) ggX10_order_X10_copy
set_option maxRecDepth 20000 in
theorem ggX10_order_X10_hourOf : GoodIn wsX10_order wsX10_hourOf := goodIn_r _ [22, 4, 23, 24, 25, 8, 26, 27, 28, 29, 30, 31, 32, 33, 34, 35, 36, 37, 38, 39, 40, 41, 42, 43, 44, 45, 46, 47, 48, 49, 50, 51, 52, 53, 54, 55, 56, 57, 58, 59, 60, 61, 62, 63, 64, 65, 66, 67, 68, 69, 70, 71, 72, 73, 74, 75, 76, 77, 78, 79, 80, 81, 82, 83, 84, 85, 86, 87, 88, 89, 90, 91, 92] rfl (by decide +kernel)
set_option maxRecDepth 20000 in
theorem gX10_order_X10_hourOf : GoodIn wsX10_order (wsV RX10 293 RX10 yX10_hourOf wsX10_hourOf) := goodIn_app (goodIn_of _ (by decide +kernel)) ggX10_order_X10_hourOf
set_option maxRecDepth 20000 in
theorem ggX10_order_X10_hasBit : GoodIn wsX10_order wsX10_hasBit := goodIn_r _ [57] rfl (by decide +kernel)
set_option maxRecDepth 20000 in
theorem gX10_order_X10_hasBit : GoodIn wsX10_order (va_wsS RX10 252 yX10_hasBit wsX10_hasBit) := goodIn_app (goodIn_of _ (by decide +kernel)) ggX10_order_X10_hasBit
theorem kX10_order_176 : Cond.fieldLink RX10 176 "EveningVowModel" "hasEvening" "Z" ∈ wsX10_order := List.mem_of_getElem? (i := 1) rfl
theorem iX10_order_X10 : ∀ w ∈ u_ws RX10 TX10 35, w ∈ wsX10_order := fun w h => (List.mem_cons_of_mem _ (List.mem_append_right _ h))
theorem kX10_order_26 : Cond.fieldLink RX10 26 "EveningVowModel" "st" "[I" ∈ wsX10_order := List.mem_of_getElem? (i := 2) rfl
theorem kX10_order_35 : Cond.fieldLink RX10 35 "EveningVowModel" "trial" "[I" ∈ wsX10_order := List.mem_of_getElem? (i := 3) rfl
theorem kX10_order_20 : Cond.fieldLink RX10 20 "EveningVowModel" "\x72" "[I" ∈ wsX10_order := List.mem_of_getElem? (i := 4) rfl
set_option maxHeartbeats 4000000 in
set_option maxRecDepth 100000 in
theorem wX10_order_L59 {p : Program} {l : Launch} {e : Env} {s : State} {m : MethodId} {args : Array Value} {below : List Frame} {meth : Method} {c : Code} {g : GG} {A : Nat → Prop} (C0 : Cx p s m args meth c cX10_order 6 (some .int) RX10 wsX10_order g A) (a_t : Nat) (p_t : Nat → Nat) (n : Nat) (x1 : Int32) (x3 : Int32) (x4 : Int32) (o_t : Nat → Int32) (f_t_15 : Nat → Int32) (f_t_25 : Nat → Int32) (f_t_17 : Nat → Int32) (r : Int32) (o_t' : Nat → Int32) (f_t_25' : Nat → Int32) (K : Int32 → Option (Int32 × (Nat → Int32) × (Nat → Int32))) (hKx : ∀ (x2 : Int32) (H : Heap) (locs : List Loc) (ls : Array Slot), K x2 = some (r, o_t', f_t_25') → va_P g.1 vwCl [oX10 a_t p_t o_t, aI g (p_t 15) 266 f_t_15, aI g (p_t 17) 17 f_t_17, aI g (p_t 25) 17 f_t_25] H → va_D A [oX10 a_t p_t o_t, aI g (p_t 15) 266 f_t_15, aI g (p_t 17) 17 f_t_17, aI g (p_t 25) 17 f_t_25] → va_S A s.heap H locs → lv_has ls 6 [(0, .ref a_t), (1, .int x1), (2, .int x2), (3, .int x3)] → W p l e ({ frames := 4, cells := 0, slots := 0, locals := 93 } : Room) s m args below meth c H locs 0 0 (MQ below (EndI g r [oX10 a_t p_t o_t', aI g (p_t 15) 266 f_t_15, aI g (p_t 17) 17 f_t_17, aI g (p_t 25) 17 f_t_25'] A) args s 0 0 A) (F0 m 100 ls [])) : ∀ (k : Nat) (x2 : Int32) (x5 : Int32), fX10_order_L59 n x1 x3 x4 o_t f_t_15 f_t_25 K k x2 x5 = some (r, o_t', f_t_25') → ∀ (H : Heap) (locs : List Loc) (ls : Array Slot), va_P g.1 vwCl [oX10 a_t p_t o_t, aI g (p_t 15) 266 f_t_15, aI g (p_t 17) 17 f_t_17, aI g (p_t 25) 17 f_t_25] H → va_D A [oX10 a_t p_t o_t, aI g (p_t 15) 266 f_t_15, aI g (p_t 17) 17 f_t_17, aI g (p_t 25) 17 f_t_25] → va_S A s.heap H locs → lv_has ls 6 [(0, .ref a_t), (1, .int x1), (2, .int x2), (3, .int x3), (4, .int x4), (5, .int x5)] → W p l e ({ frames := 4, cells := 0, slots := 0, locals := 93 } : Room) s m args below meth c H locs 0 0 (MQ below (EndI g r [oX10 a_t p_t o_t', aI g (p_t 15) 266 f_t_15, aI g (p_t 17) 17 f_t_17, aI g (p_t 25) 17 f_t_25'] A) args s 0 0 A) (F0 m 59 ls []) := by
  obtain ⟨hx, hb, hml, hown, hts, hr, hlk, hK, hA, hSW⟩ := id C0
  intro k
  induction k with
  | zero =>
    intro x2 x5 hF
    exact absurd hF (by simp [fX10_order_L59])
  | succ k ih =>
    intro x2 x5 hF H locs ls hP hD hS hl
    rw [fX10_order_L59] at hF
    refine lv_iload hx hb dX10_order_59 (lv_at hl 5 rfl) ?_
    refine lv_aload_n hx hb dX10_order_61 rfl (lv_at hl 0 rfl) ?_
    refine va_get (D := g.1) (ci := 10) (v := .ref (p_t 15)) (C := RX10) (T := TX10) (N := 35) hx hb hts iX10_order_X10 hown hK.1 hP 0 rfl rfl 15 (by decide) (hts _ kX10_order_20) (fun _ h9 => h9) rfl dX10_order_62 ?_
    refine lv_iconst (v := (3 : Int32)) hx hb dX10_order_65 (by decide) ?_
    refine va_iald_k (j := 3) hx hb hK.1 hP 1 0 rfl rfl (by unfold vp_in; decide) rfl dX10_order_66 ?_
    refine lv_icmp_ge (tgt := 100) hx hb dX10_order_67 (by decide) (fun c_15 => ?_) (fun c_15 => ?_)
    · have hF := it_p c_15 hF
      exact hKx x2 _ _ _ hF (hP.sub [0, 1, 2, 3] rfl) (hD.sub [0, 1, 2, 3] rfl rfl) hS (lv_sub hl [0, 1, 2, 3] rfl)
    · have hF := it_n c_15 hF
      refine lv_iload hx hb dX10_order_70 (lv_at hl 4 rfl) ?_
      refine lv_iload hx hb dX10_order_72 (lv_at hl 5 rfl) ?_
      obtain ⟨u_16, hu_17, hF⟩ := ob1_some hF
      refine call_si (wr := [oX10 a_t p_t o_t, aI g (p_t 15) 266 f_t_15, aI g (p_t 17) 17 f_t_17, aI g (p_t 25) 17 f_t_25]) (As := [.int x4, .int x5]) (rest := []) C0 (mX10_hasBit l g n x4 x5 u_16 hu_17) (va_cwS 2 hts gX10_order_X10_hasBit rfl rfl rfl (by decide +kernel) ⟨Nat.le_of_ble_eq_true rfl, Nat.le_of_ble_eq_true rfl⟩) hP hD hS [] [0, 1, 2, 3] rfl rfl rfl rfl rfl (by decide) hl.1 rfl rfl (Nat.le_of_ble_eq_true rfl) ⟨Nat.zero_le _, Nat.zero_le _⟩ dX10_order_74 ?_
      intro H locs hP hD hS
      refine lv_if_ne (tgt := 83) hx hb dX10_order_77 (by decide) (fun c_18 => ?_) (fun c_18 => ?_)
      · have hF := it_n c_18 hF
        refine lv_iload_n hx hb dX10_order_83 rfl (lv_at hl 2 rfl) ?_
        refine lv_iload_n hx hb dX10_order_84 rfl (lv_at hl 1 rfl) ?_
        refine lv_icmp_ne (tgt := 91) hx hb dX10_order_85 (by decide) (fun c_19 => ?_) (fun c_19 => ?_)
        · have hF := it_n c_19 hF
          refine lv_iinc (v := (x2 + (1 : Int32))) (lv' := [(2, .int (x2 + (1 : Int32))), (0, .ref a_t), (1, .int x1), (3, .int x3), (4, .int x4), (5, .int x5)]) hx hb dX10_order_91 hl (k := 2) rfl rfl (by decide) rfl (fun ls hl => ?_)
          refine lv_iinc (v := (x5 + (1 : Int32))) (lv' := [(5, .int (x5 + (1 : Int32))), (2, .int (x2 + (1 : Int32))), (0, .ref a_t), (1, .int x1), (3, .int x3), (4, .int x4)]) hx hb dX10_order_94 hl (k := 5) rfl rfl (by decide) rfl (fun ls hl => ?_)
          refine lv_goto (tgt := 59) hx hb dX10_order_97 (by decide) ?_
          exact ih (x2 + (1 : Int32)) (x5 + (1 : Int32)) hF _ _ _ (hP.sub [0, 1, 2, 3] rfl) (hD.sub [0, 1, 2, 3] rfl rfl) hS (lv_sub hl [2, 3, 1, 4, 5, 0] rfl)
        · have hF := it_p c_19 hF
          refine lv_iload hx hb dX10_order_88 (lv_at hl 5 rfl) ?_
          cases hF
          exact ret_i C0 hP hD hS [0, 1, 2, 3] rfl rfl rfl dX10_order_90 rfl
      · have hF := it_p c_18 hF
        refine lv_goto (tgt := 94) hx hb dX10_order_80 (by decide) ?_
        refine lv_iinc (v := (x5 + (1 : Int32))) (lv' := [(5, .int (x5 + (1 : Int32))), (0, .ref a_t), (1, .int x1), (2, .int x2), (3, .int x3), (4, .int x4)]) hx hb dX10_order_94 hl (k := 5) rfl rfl (by decide) rfl (fun ls hl => ?_)
        refine lv_goto (tgt := 59) hx hb dX10_order_97 (by decide) ?_
        exact ih x2 (x5 + (1 : Int32)) hF _ _ _ (hP.sub [0, 1, 2, 3] rfl) (hD.sub [0, 1, 2, 3] rfl rfl) hS (lv_sub hl [1, 2, 3, 4, 5, 0] rfl)
set_option maxHeartbeats 4000000 in
set_option maxRecDepth 100000 in
theorem wX10_order_L40 {p : Program} {l : Launch} {e : Env} {s : State} {m : MethodId} {args : Array Value} {below : List Frame} {meth : Method} {c : Code} {g : GG} {A : Nat → Prop} (C0 : Cx p s m args meth c cX10_order 6 (some .int) RX10 wsX10_order g A) (a_t : Nat) (p_t : Nat → Nat) (n : Nat) (x1 : Int32) (f_t_15 : Nat → Int32) (f_t_17 : Nat → Int32) (r : Int32) (o_t' : Nat → Int32) (f_t_25' : Nat → Int32) (K : (Nat → Int32) → (Nat → Int32) → Option (Int32 × (Nat → Int32) × (Nat → Int32))) (hKx : ∀ (o_t : Nat → Int32) (f_t_25 : Nat → Int32) (H : Heap) (locs : List Loc) (ls : Array Slot), K o_t f_t_25 = some (r, o_t', f_t_25') → va_P g.1 vwCl [oX10 a_t p_t o_t, aI g (p_t 15) 266 f_t_15, aI g (p_t 17) 17 f_t_17, aI g (p_t 25) 17 f_t_25] H → va_D A [oX10 a_t p_t o_t, aI g (p_t 15) 266 f_t_15, aI g (p_t 17) 17 f_t_17, aI g (p_t 25) 17 f_t_25] → va_S A s.heap H locs → lv_has ls 6 [] → W p l e ({ frames := 4, cells := 0, slots := 0, locals := 93 } : Room) s m args below meth c H locs 0 0 (MQ below (EndI g r [oX10 a_t p_t o_t', aI g (p_t 15) 266 f_t_15, aI g (p_t 17) 17 f_t_17, aI g (p_t 25) 17 f_t_25'] A) args s 0 0 A) (F0 m 106 ls [])) : ∀ (k : Nat) (x2 : Int32) (x3 : Int32) (o_t : Nat → Int32) (f_t_25 : Nat → Int32), fX10_order_L40 n x1 f_t_15 K k x2 x3 o_t f_t_25 = some (r, o_t', f_t_25') → ∀ (H : Heap) (locs : List Loc) (ls : Array Slot), va_P g.1 vwCl [oX10 a_t p_t o_t, aI g (p_t 15) 266 f_t_15, aI g (p_t 17) 17 f_t_17, aI g (p_t 25) 17 f_t_25] H → va_D A [oX10 a_t p_t o_t, aI g (p_t 15) 266 f_t_15, aI g (p_t 17) 17 f_t_17, aI g (p_t 25) 17 f_t_25] → va_S A s.heap H locs → lv_has ls 6 [(0, .ref a_t), (1, .int x1), (2, .int x2), (3, .int x3)] → W p l e ({ frames := 4, cells := 0, slots := 0, locals := 93 } : Room) s m args below meth c H locs 0 0 (MQ below (EndI g r [oX10 a_t p_t o_t', aI g (p_t 15) 266 f_t_15, aI g (p_t 17) 17 f_t_17, aI g (p_t 25) 17 f_t_25'] A) args s 0 0 A) (F0 m 40 ls []) := by
  obtain ⟨hx, hb, hml, hown, hts, hr, hlk, hK, hA, hSW⟩ := id C0
  intro k
  induction k with
  | zero =>
    intro x2 x3 o_t f_t_25 hF
    exact absurd hF (by simp [fX10_order_L40])
  | succ k ih =>
    intro x2 x3 o_t f_t_25 hF H locs ls hP hD hS hl
    rw [fX10_order_L40] at hF
    refine lv_iload_n hx hb dX10_order_40 rfl (lv_at hl 3 rfl) ?_
    refine lv_bipush (v := (60 : Int32)) hx hb dX10_order_41 (by decide) ?_
    refine lv_icmp_ge (tgt := 106) hx hb dX10_order_43 (by decide) (fun c_10 => ?_) (fun c_10 => ?_)
    · have hF := it_p c_10 hF
      exact hKx o_t f_t_25 _ _ _ hF (hP.sub [0, 1, 2, 3] rfl) (hD.sub [0, 1, 2, 3] rfl rfl) hS (lv_sub hl [] rfl)
    · have hF := it_n c_10 hF
      refine lv_aload_n hx hb dX10_order_46 rfl (lv_at hl 0 rfl) ?_
      refine lv_aload_n hx hb dX10_order_47 rfl (lv_at hl 0 rfl) ?_
      refine va_get (D := g.1) (ci := 10) (v := .ref (p_t 25)) (C := RX10) (T := TX10) (N := 35) hx hb hts iX10_order_X10 hown hK.1 hP 0 rfl rfl 25 (by decide) (hts _ kX10_order_35) (fun _ h9 => h9) rfl dX10_order_48 ?_
      obtain ⟨u_11, u_12, u_13, hu_14, hF⟩ := ob3_some hF
      refine call_i (wr := [aI g (p_t 17) 17 f_t_17]) (As := [.ref (p_t 25)]) (rest := []) (ci := 10) (q0 := 0) C0 (mX10_hourOf l g a_t (p_t 25) p_t n o_t f_t_15 f_t_25 u_11 u_12 u_13 hu_14) (cwV 1 hts gX10_order_X10_hourOf rfl rfl rfl (by decide +kernel) ⟨Nat.le_of_ble_eq_true rfl, Nat.le_of_ble_eq_true rfl⟩) hP hD hS [0, 1, 3] [2] rfl rfl rfl rfl rfl (by decide) rfl rfl hl.1 rfl rfl (Nat.le_of_ble_eq_true rfl) ⟨Nat.zero_le _, Nat.zero_le _⟩ dX10_order_51 ?_
      intro H locs hP hD hS
      refine lv_istore (lv' := [(4, .int u_11), (0, .ref a_t), (1, .int x1), (2, .int x2), (3, .int x3)]) hx hb dX10_order_54 hl (by decide) rfl (fun ls hl => ?_)
      refine lv_iconst (v := (0 : Int32)) hx hb dX10_order_56 (by decide) ?_
      refine lv_istore (lv' := [(5, .int (0 : Int32)), (4, .int u_11), (0, .ref a_t), (1, .int x1), (2, .int x2), (3, .int x3)]) hx hb dX10_order_57 hl (by decide) rfl (fun ls hl => ?_)
      refine wX10_order_L59 C0 a_t p_t n x1 x3 u_11 u_12 f_t_15 u_13 f_t_17 r o_t' f_t_25' _ ?_ n x2 (0 : Int32) hF _ _ _ (hP.sub [1, 2, 0, 3] rfl) (hD.sub [1, 2, 0, 3] rfl rfl) hS (lv_sub hl [2, 3, 4, 5, 1, 0] rfl)
      · intro x2_x59 H locs ls hF hP hD hS hl
        refine lv_iinc (v := (x3 + (1 : Int32))) (lv' := [(3, .int (x3 + (1 : Int32))), (0, .ref a_t), (1, .int x1), (2, .int x2_x59)]) hx hb dX10_order_100 hl (k := 3) rfl rfl (by decide) rfl (fun ls hl => ?_)
        refine lv_goto (tgt := 40) hx hb dX10_order_103 (by decide) ?_
        exact ih x2_x59 (x3 + (1 : Int32)) u_12 u_13 hF _ _ _ (hP.sub [0, 1, 2, 3] rfl) (hD.sub [0, 1, 2, 3] rfl rfl) hS (lv_sub hl [1, 2, 3, 0] rfl)
set_option maxHeartbeats 4000000 in
set_option maxRecDepth 100000 in
theorem mX10_order (l : Launch) (g : GG) (a_t : Nat) (p_t : Nat → Nat) (n : Nat) (x1 : Int32) (o_t : Nat → Int32) (f_t_15 : Nat → Int32) (f_t_17 : Nat → Int32) (f_t_25 : Nat → Int32) (r : Int32) (o_t' : Nat → Int32) (f_t_25' : Nat → Int32) (hF : fX10_order n x1 o_t f_t_15 f_t_17 f_t_25 = some (r, o_t', f_t_25')) : MI l g yX10_order wsX10_order ({ frames := 4, cells := 0, slots := 0, locals := 93 } : Room) [.ref a_t, .int x1] [oX10 a_t p_t o_t, aI g (p_t 15) 266 f_t_15, aI g (p_t 17) 17 f_t_17, aI g (p_t 25) 17 f_t_25] r [oX10 a_t p_t o_t', aI g (p_t 15) 266 f_t_15, aI g (p_t 17) 17 f_t_17, aI g (p_t 25) 17 f_t_25'] := by
  refine MI.of (cc := cX10_order) (maxL := 6) (rt := .int) (own := RX10) rfl rfl (by decide) (Nat.le_of_ble_eq_true rfl) ?_
  intro p e s m args below meth c A C0 hP hD hS ls hl
  obtain ⟨hx, hb, hml, hown, hts, hr, hlk, hK, hA, hSW⟩ := id C0
  have hl : lv_has ls 6 [(0, .ref a_t), (1, .int x1)] := hl
  rw [fX10_order] at hF
  refine lv_aload_n hx hb dX10_order_0 rfl (lv_at hl 0 rfl) ?_
  obtain ⟨u_1, hu_2, hF⟩ := ob1_some hF
  refine call_v (wr := [aI g (p_t 15) 266 f_t_15, aI g (p_t 17) 17 f_t_17, aI g (p_t 25) 17 f_t_25]) (As := []) (rest := []) (ci := 10) (q0 := 0) C0 (mX10_good l g a_t p_t n o_t u_1 hu_2) (cwV 0 hts gX10_order_X10_good rfl rfl rfl (by decide +kernel) ⟨Nat.le_of_ble_eq_true rfl, Nat.le_of_ble_eq_true rfl⟩) hP hD hS [0] [1, 2, 3] rfl rfl rfl rfl rfl (by decide) rfl rfl hl.1 rfl rfl (Nat.le_of_ble_eq_true rfl) ⟨Nat.zero_le _, Nat.zero_le _⟩ dX10_order_1 ?_
  intro H locs hP hD hS
  refine lv_aload_n hx hb dX10_order_4 rfl (lv_at hl 0 rfl) ?_
  refine va_get (D := g.1) (ci := 10) (v := .int (u_1 14)) (C := RX10) (T := TX10) (N := 35) hx hb hts iX10_order_X10 hown hK.1 hP 3 rfl rfl 14 (by decide) (hts _ kX10_order_176) (fun _ h9 => h9) rfl dX10_order_5 ?_
  refine lv_if_eq (tgt := 15) hx hb dX10_order_8 (by decide) (fun c_3 => ?_) (fun c_3 => ?_)
  · have hF := it_p c_3 hF
    refine lv_aload_n hx hb dX10_order_15 rfl (lv_at hl 0 rfl) ?_
    refine lv_iconst (v := (1 : Int32)) hx hb dX10_order_16 (by decide) ?_
    obtain ⟨u_4, u_5, hu_6, hF⟩ := ob2_some hF
    refine call_i (wr := [aI g (p_t 15) 266 f_t_15, aI g (p_t 17) 17 f_t_17, aI g (p_t 25) 17 f_t_25]) (As := [.int (1 : Int32)]) (rest := []) (ci := 10) (q0 := 0) C0 (mX10_no l g a_t p_t n (1 : Int32) u_1 u_4 u_5 hu_6) (cwV 1 hts gX10_order_X10_no rfl rfl rfl (by decide +kernel) ⟨Nat.le_of_ble_eq_true rfl, Nat.le_of_ble_eq_true rfl⟩) hP hD hS [3] [0, 1, 2] rfl rfl rfl rfl rfl (by decide) rfl rfl hl.1 rfl rfl (Nat.le_of_ble_eq_true rfl) ⟨Nat.zero_le _, Nat.zero_le _⟩ dX10_order_17 ?_
    intro H locs hP hD hS
    cases hF
    exact ret_i C0 hP hD hS [3, 0, 1, 2] rfl rfl rfl dX10_order_20 rfl
  · have hF := it_n c_3 hF
    refine lv_iload_n hx hb dX10_order_11 rfl (lv_at hl 1 rfl) ?_
    refine lv_if_ge (tgt := 21) hx hb dX10_order_12 (by decide) (fun c_7 => ?_) (fun c_7 => ?_)
    · have hF := it_p c_7 hF
      refine lv_aload_n hx hb dX10_order_21 rfl (lv_at hl 0 rfl) ?_
      refine va_get (D := g.1) (ci := 10) (v := .ref (p_t 17)) (C := RX10) (T := TX10) (N := 35) hx hb hts iX10_order_X10 hown hK.1 hP 3 rfl rfl 17 (by decide) (hts _ kX10_order_26) (fun _ h9 => h9) rfl dX10_order_22 ?_
      refine lv_iconst (v := (0 : Int32)) hx hb dX10_order_25 (by decide) ?_
      refine lv_aload_n hx hb dX10_order_26 rfl (lv_at hl 0 rfl) ?_
      refine va_get (D := g.1) (ci := 10) (v := .ref (p_t 25)) (C := RX10) (T := TX10) (N := 35) hx hb hts iX10_order_X10 hown hK.1 hP 3 rfl rfl 25 (by decide) (hts _ kX10_order_35) (fun _ h9 => h9) rfl dX10_order_27 ?_
      refine lv_iconst (v := (0 : Int32)) hx hb dX10_order_30 (by decide) ?_
      refine lv_bipush (v := (17 : Int32)) hx hb dX10_order_31 (by decide) ?_
      obtain ⟨u_8, hu_9, hF⟩ := ob1_some hF
      refine call_sv (wr := [aI g (p_t 15) 266 f_t_15, oX10 a_t p_t u_1]) (As := [.ref (p_t 17), .int (0 : Int32), .ref (p_t 25), .int (0 : Int32), .int (17 : Int32)]) (rest := []) C0 (mX10_copy l g (p_t 17) (p_t 25) n (0 : Int32) (0 : Int32) (17 : Int32) 17 17 f_t_17 f_t_25 u_8 hu_9) (va_cwS 5 hts gX10_order_X10_copy rfl rfl rfl (by decide +kernel) ⟨Nat.le_of_ble_eq_true rfl, Nat.le_of_ble_eq_true rfl⟩) hP hD hS [1, 2] [0, 3] rfl rfl rfl rfl rfl (by decide) hl.1 rfl rfl (Nat.le_of_ble_eq_true rfl) ⟨Nat.zero_le _, Nat.zero_le _⟩ dX10_order_33 ?_
      intro H locs hP hD hS
      refine lv_iconst (v := (0 : Int32)) hx hb dX10_order_36 (by decide) ?_
      refine lv_istore_n (lv' := [(2, .int (0 : Int32)), (0, .ref a_t), (1, .int x1)]) hx hb dX10_order_37 rfl hl (by decide) rfl (fun ls hl => ?_)
      refine lv_iconst (v := (0 : Int32)) hx hb dX10_order_38 (by decide) ?_
      refine lv_istore_n (lv' := [(3, .int (0 : Int32)), (2, .int (0 : Int32)), (0, .ref a_t), (1, .int x1)]) hx hb dX10_order_39 rfl hl (by decide) rfl (fun ls hl => ?_)
      refine wX10_order_L40 C0 a_t p_t n x1 f_t_15 f_t_17 r o_t' f_t_25' _ ?_ n (0 : Int32) (0 : Int32) u_1 u_8 hF _ _ _ (hP.sub [1, 0, 2, 3] rfl) (hD.sub [1, 0, 2, 3] rfl rfl) hS (lv_sub hl [2, 3, 1, 0] rfl)
      · intro o_t_x40 f_t_25_x40 H locs ls hF hP hD hS hl
        refine lv_bipush (v := (-2 : Int32)) hx hb dX10_order_106 (by decide) ?_
        cases hF
        exact ret_i C0 hP hD hS [0, 1, 2, 3] rfl rfl rfl dX10_order_108 rfl
    · have hF := it_n c_7 hF
      refine lv_aload_n hx hb dX10_order_15 rfl (lv_at hl 0 rfl) ?_
      refine lv_iconst (v := (1 : Int32)) hx hb dX10_order_16 (by decide) ?_
      obtain ⟨u_20, u_21, hu_22, hF⟩ := ob2_some hF
      refine call_i (wr := [aI g (p_t 15) 266 f_t_15, aI g (p_t 17) 17 f_t_17, aI g (p_t 25) 17 f_t_25]) (As := [.int (1 : Int32)]) (rest := []) (ci := 10) (q0 := 0) C0 (mX10_no l g a_t p_t n (1 : Int32) u_1 u_20 u_21 hu_22) (cwV 1 hts gX10_order_X10_no rfl rfl rfl (by decide +kernel) ⟨Nat.le_of_ble_eq_true rfl, Nat.le_of_ble_eq_true rfl⟩) hP hD hS [3] [0, 1, 2] rfl rfl rfl rfl rfl (by decide) rfl rfl hl.1 rfl rfl (Nat.le_of_ble_eq_true rfl) ⟨Nat.zero_le _, Nat.zero_le _⟩ dX10_order_17 ?_
      intro H locs hP hD hS
      cases hF
      exact ret_i C0 hP hD hS [3, 0, 1, 2] rfl rfl rfl dX10_order_20 rfl

