theorem dAX10_image : ∀ q ∈ ([(0, (.aload_n 0, 1)), (1, (.invokevirtual 159, 3)), (4, (.aload_n 0, 1)), (5, (.getfield 176, 3)), (8, (.ifCond .ne 9, 3)), (11, (.aload_n 0, 1)), (12, (.iconst 1, 1)), (13, (.invokevirtual 162, 3)), (16, (.ireturn, 1)), (17, (.aload_n 0, 1)), (18, (.getfield 182, 3)), (21, (.iconst 3, 1)), (22, (.if_icmp .ne 9, 3)), (25, (.aload_n 0, 1)), (26, (.iconst 3, 1)), (27, (.invokevirtual 162, 3)), (30, (.ireturn, 1)), (31, (.aload_n 0, 1)), (32, (.getfield 26, 3)), (35, (.iconst 0, 1)), (36, (.aload_n 0, 1)), (37, (.getfield 32, 3)), (40, (.bipush 17, 2)), (42, (.aload_n 0, 1)), (43, (.getfield 182, 3)), (46, (.imul, 1)), (47, (.bipush 17, 2)), (49, (.invokestatic 168, 3)), (52, (.aload_n 0, 1)), (53, (.dup, 1)), (54, (.getfield 182, 3)), (57, (.iconst 1, 1)), (58, (.iadd, 1)), (59, (.putfield 182, 3)), (62, (.aload_n 0, 1)), (63, (.getfield 182, 3)), (66, (.iconst 1, 1)), (67, (.isub, 1)), (68, (.ireturn, 1))] : List (Nat × (Instr × Nat))), decode cX10_image q.1 = .ok q.2 := by decide +kernel
theorem dX10_image_0 : decode cX10_image 0 = .ok (.aload_n 0, 1) := dAX10_image (0, (.aload_n 0, 1)) (List.mem_of_getElem? (i := 0) rfl)
theorem dX10_image_1 : decode cX10_image 1 = .ok (.invokevirtual 159, 3) := dAX10_image (1, (.invokevirtual 159, 3)) (List.mem_of_getElem? (i := 1) rfl)
theorem dX10_image_4 : decode cX10_image 4 = .ok (.aload_n 0, 1) := dAX10_image (4, (.aload_n 0, 1)) (List.mem_of_getElem? (i := 2) rfl)
theorem dX10_image_5 : decode cX10_image 5 = .ok (.getfield 176, 3) := dAX10_image (5, (.getfield 176, 3)) (List.mem_of_getElem? (i := 3) rfl)
theorem dX10_image_8 : decode cX10_image 8 = .ok (.ifCond .ne 9, 3) := dAX10_image (8, (.ifCond .ne 9, 3)) (List.mem_of_getElem? (i := 4) rfl)
theorem dX10_image_11 : decode cX10_image 11 = .ok (.aload_n 0, 1) := dAX10_image (11, (.aload_n 0, 1)) (List.mem_of_getElem? (i := 5) rfl)
theorem dX10_image_12 : decode cX10_image 12 = .ok (.iconst 1, 1) := dAX10_image (12, (.iconst 1, 1)) (List.mem_of_getElem? (i := 6) rfl)
theorem dX10_image_13 : decode cX10_image 13 = .ok (.invokevirtual 162, 3) := dAX10_image (13, (.invokevirtual 162, 3)) (List.mem_of_getElem? (i := 7) rfl)
theorem dX10_image_16 : decode cX10_image 16 = .ok (.ireturn, 1) := dAX10_image (16, (.ireturn, 1)) (List.mem_of_getElem? (i := 8) rfl)
theorem dX10_image_17 : decode cX10_image 17 = .ok (.aload_n 0, 1) := dAX10_image (17, (.aload_n 0, 1)) (List.mem_of_getElem? (i := 9) rfl)
theorem dX10_image_18 : decode cX10_image 18 = .ok (.getfield 182, 3) := dAX10_image (18, (.getfield 182, 3)) (List.mem_of_getElem? (i := 10) rfl)
theorem dX10_image_21 : decode cX10_image 21 = .ok (.iconst 3, 1) := dAX10_image (21, (.iconst 3, 1)) (List.mem_of_getElem? (i := 11) rfl)
theorem dX10_image_22 : decode cX10_image 22 = .ok (.if_icmp .ne 9, 3) := dAX10_image (22, (.if_icmp .ne 9, 3)) (List.mem_of_getElem? (i := 12) rfl)
theorem dX10_image_25 : decode cX10_image 25 = .ok (.aload_n 0, 1) := dAX10_image (25, (.aload_n 0, 1)) (List.mem_of_getElem? (i := 13) rfl)
theorem dX10_image_26 : decode cX10_image 26 = .ok (.iconst 3, 1) := dAX10_image (26, (.iconst 3, 1)) (List.mem_of_getElem? (i := 14) rfl)
theorem dX10_image_27 : decode cX10_image 27 = .ok (.invokevirtual 162, 3) := dAX10_image (27, (.invokevirtual 162, 3)) (List.mem_of_getElem? (i := 15) rfl)
theorem dX10_image_30 : decode cX10_image 30 = .ok (.ireturn, 1) := dAX10_image (30, (.ireturn, 1)) (List.mem_of_getElem? (i := 16) rfl)
theorem dX10_image_31 : decode cX10_image 31 = .ok (.aload_n 0, 1) := dAX10_image (31, (.aload_n 0, 1)) (List.mem_of_getElem? (i := 17) rfl)
theorem dX10_image_32 : decode cX10_image 32 = .ok (.getfield 26, 3) := dAX10_image (32, (.getfield 26, 3)) (List.mem_of_getElem? (i := 18) rfl)
theorem dX10_image_35 : decode cX10_image 35 = .ok (.iconst 0, 1) := dAX10_image (35, (.iconst 0, 1)) (List.mem_of_getElem? (i := 19) rfl)
theorem dX10_image_36 : decode cX10_image 36 = .ok (.aload_n 0, 1) := dAX10_image (36, (.aload_n 0, 1)) (List.mem_of_getElem? (i := 20) rfl)
theorem dX10_image_37 : decode cX10_image 37 = .ok (.getfield 32, 3) := dAX10_image (37, (.getfield 32, 3)) (List.mem_of_getElem? (i := 21) rfl)
theorem dX10_image_40 : decode cX10_image 40 = .ok (.bipush 17, 2) := dAX10_image (40, (.bipush 17, 2)) (List.mem_of_getElem? (i := 22) rfl)
theorem dX10_image_42 : decode cX10_image 42 = .ok (.aload_n 0, 1) := dAX10_image (42, (.aload_n 0, 1)) (List.mem_of_getElem? (i := 23) rfl)
theorem dX10_image_43 : decode cX10_image 43 = .ok (.getfield 182, 3) := dAX10_image (43, (.getfield 182, 3)) (List.mem_of_getElem? (i := 24) rfl)
theorem dX10_image_46 : decode cX10_image 46 = .ok (.imul, 1) := dAX10_image (46, (.imul, 1)) (List.mem_of_getElem? (i := 25) rfl)
theorem dX10_image_47 : decode cX10_image 47 = .ok (.bipush 17, 2) := dAX10_image (47, (.bipush 17, 2)) (List.mem_of_getElem? (i := 26) rfl)
theorem dX10_image_49 : decode cX10_image 49 = .ok (.invokestatic 168, 3) := dAX10_image (49, (.invokestatic 168, 3)) (List.mem_of_getElem? (i := 27) rfl)
theorem dX10_image_52 : decode cX10_image 52 = .ok (.aload_n 0, 1) := dAX10_image (52, (.aload_n 0, 1)) (List.mem_of_getElem? (i := 28) rfl)
theorem dX10_image_53 : decode cX10_image 53 = .ok (.dup, 1) := dAX10_image (53, (.dup, 1)) (List.mem_of_getElem? (i := 29) rfl)
theorem dX10_image_54 : decode cX10_image 54 = .ok (.getfield 182, 3) := dAX10_image (54, (.getfield 182, 3)) (List.mem_of_getElem? (i := 30) rfl)
theorem dX10_image_57 : decode cX10_image 57 = .ok (.iconst 1, 1) := dAX10_image (57, (.iconst 1, 1)) (List.mem_of_getElem? (i := 31) rfl)
theorem dX10_image_58 : decode cX10_image 58 = .ok (.iadd, 1) := dAX10_image (58, (.iadd, 1)) (List.mem_of_getElem? (i := 32) rfl)
theorem dX10_image_59 : decode cX10_image 59 = .ok (.putfield 182, 3) := dAX10_image (59, (.putfield 182, 3)) (List.mem_of_getElem? (i := 33) rfl)
theorem dX10_image_62 : decode cX10_image 62 = .ok (.aload_n 0, 1) := dAX10_image (62, (.aload_n 0, 1)) (List.mem_of_getElem? (i := 34) rfl)
theorem dX10_image_63 : decode cX10_image 63 = .ok (.getfield 182, 3) := dAX10_image (63, (.getfield 182, 3)) (List.mem_of_getElem? (i := 35) rfl)
theorem dX10_image_66 : decode cX10_image 66 = .ok (.iconst 1, 1) := dAX10_image (66, (.iconst 1, 1)) (List.mem_of_getElem? (i := 36) rfl)
theorem dX10_image_67 : decode cX10_image 67 = .ok (.isub, 1) := dAX10_image (67, (.isub, 1)) (List.mem_of_getElem? (i := 37) rfl)
theorem dX10_image_68 : decode cX10_image 68 = .ok (.ireturn, 1) := dAX10_image (68, (.ireturn, 1)) (List.mem_of_getElem? (i := 38) rfl)
set_option maxRecDepth 20000 in
theorem ggX10_image_X10_good : GoodIn wsX10_image wsX10_good := goodIn_r _ [9, 10, 11, 19, 20, 21, 22, 23, 24, 25, 26, 27, 28, 29, 30, 31, 32, 33, 34, 35, 36, 37, 38, 39, 40, 41, 42, 43, 44, 45, 46, 47, 48, 49, 50, 51, 52, 53] rfl (by decide +kernel)
set_option maxRecDepth 20000 in
theorem gX10_image_X10_good : GoodIn wsX10_image (wsV RX10 159 RX10 yX10_good wsX10_good) := goodIn_app (goodIn_of _ (by decide +kernel)) ggX10_image_X10_good
set_option maxRecDepth 20000 in
theorem ggX10_image_X10_no : GoodIn wsX10_image wsX10_no := goodIn_r _ [15, 11, 19, 20, 21, 22, 23, 24, 25, 26, 27, 28, 29, 30, 31, 32, 33, 34, 35, 36, 37, 38, 39, 40, 41, 42, 43, 44, 45, 46, 47, 48, 49, 50, 51, 52, 53] rfl (by decide +kernel)
set_option maxRecDepth 20000 in
theorem gX10_image_X10_no : GoodIn wsX10_image (wsV RX10 162 RX10 yX10_no wsX10_no) := goodIn_app (goodIn_of _ (by decide +kernel)) ggX10_image_X10_no
set_option maxRecDepth 20000 in
theorem ggX10_image_X10_copy : GoodIn wsX10_image wsX10_copy := goodIn_r _ [18] rfl (by decide +kernel)
set_option maxRecDepth 20000 in
theorem gX10_image_X10_copy : GoodIn wsX10_image (va_wsS RX10 168 yX10_copy wsX10_copy) := goodIn_app (goodIn_of _ (by decide +kernel)) ggX10_image_X10_copy
theorem kX10_image_176 : Cond.fieldLink RX10 176 "EveningVowModel" "hasEvening" "Z" ∈ wsX10_image := List.mem_of_getElem? (i := 1) rfl
theorem iX10_image_X10 : ∀ w ∈ u_ws RX10 TX10 35, w ∈ wsX10_image := fun w h => (List.mem_cons_of_mem _ (List.mem_append_right _ h))
theorem kX10_image_182 : Cond.fieldLink RX10 182 "EveningVowModel" "images" "I" ∈ wsX10_image := List.mem_of_getElem? (i := 2) rfl
theorem kX10_image_26 : Cond.fieldLink RX10 26 "EveningVowModel" "st" "[I" ∈ wsX10_image := List.mem_of_getElem? (i := 3) rfl
theorem kX10_image_32 : Cond.fieldLink RX10 32 "EveningVowModel" "kept" "[I" ∈ wsX10_image := List.mem_of_getElem? (i := 4) rfl
set_option maxHeartbeats 4000000 in
set_option maxRecDepth 100000 in
theorem mX10_image (l : Launch) (g : GG) (a_t : Nat) (p_t : Nat → Nat) (n : Nat) (o_t : Nat → Int32) (f_t_17 : Nat → Int32) (f_t_19 : Nat → Int32) (r : Int32) (o_t' : Nat → Int32) (f_t_19' : Nat → Int32) (hF : fX10_image n o_t f_t_17 f_t_19 = some (r, o_t', f_t_19')) : MI l g yX10_image wsX10_image ({ frames := 1, cells := 0, slots := 0, locals := 25 } : Room) [.ref a_t] [oX10 a_t p_t o_t, aI g (p_t 17) 17 f_t_17, aI g (p_t 19) 51 f_t_19] r [oX10 a_t p_t o_t', aI g (p_t 17) 17 f_t_17, aI g (p_t 19) 51 f_t_19'] := by
  refine MI.of (cc := cX10_image) (maxL := 1) (rt := .int) (own := RX10) rfl rfl (by decide) (Nat.le_of_ble_eq_true rfl) ?_
  intro p e s m args below meth c A C0 hP hD hS ls hl
  obtain ⟨hx, hb, hml, hown, hts, hr, hlk, hK, hA, hSW⟩ := id C0
  have hl : lv_has ls 1 [(0, .ref a_t)] := hl
  rw [fX10_image] at hF
  refine lv_aload_n hx hb dX10_image_0 rfl (lv_at hl 0 rfl) ?_
  obtain ⟨u_1, hu_2, hF⟩ := ob1_some hF
  refine call_v (wr := [aI g (p_t 17) 17 f_t_17, aI g (p_t 19) 51 f_t_19]) (As := []) (rest := []) (ci := 10) (q0 := 0) C0 (mX10_good l g a_t p_t n o_t u_1 hu_2) (cwV 0 hts gX10_image_X10_good rfl rfl rfl (by decide +kernel) ⟨Nat.le_of_ble_eq_true rfl, Nat.le_of_ble_eq_true rfl⟩) hP hD hS [0] [1, 2] rfl rfl rfl rfl rfl (by decide) rfl rfl hl.1 rfl rfl (Nat.le_of_ble_eq_true rfl) ⟨Nat.zero_le _, Nat.zero_le _⟩ dX10_image_1 ?_
  intro H locs hP hD hS
  refine lv_aload_n hx hb dX10_image_4 rfl (lv_at hl 0 rfl) ?_
  refine va_get (D := g.1) (ci := 10) (v := .int (u_1 14)) (C := RX10) (T := TX10) (N := 35) hx hb hts iX10_image_X10 hown hK.1 hP 2 rfl rfl 14 (by decide) (hts _ kX10_image_176) (fun _ h9 => h9) rfl dX10_image_5 ?_
  refine lv_if_ne (tgt := 17) hx hb dX10_image_8 (by decide) (fun c_3 => ?_) (fun c_3 => ?_)
  · have hF := it_n c_3 hF
    refine lv_aload_n hx hb dX10_image_17 rfl (lv_at hl 0 rfl) ?_
    refine va_get (D := g.1) (ci := 10) (v := .int (u_1 21)) (C := RX10) (T := TX10) (N := 35) hx hb hts iX10_image_X10 hown hK.1 hP 2 rfl rfl 21 (by decide) (hts _ kX10_image_182) (fun _ h9 => h9) rfl dX10_image_18 ?_
    refine lv_iconst (v := (3 : Int32)) hx hb dX10_image_21 (by decide) ?_
    refine lv_icmp_ne (tgt := 31) hx hb dX10_image_22 (by decide) (fun c_4 => ?_) (fun c_4 => ?_)
    · have hF := it_n c_4 hF
      refine lv_aload_n hx hb dX10_image_31 rfl (lv_at hl 0 rfl) ?_
      refine va_get (D := g.1) (ci := 10) (v := .ref (p_t 17)) (C := RX10) (T := TX10) (N := 35) hx hb hts iX10_image_X10 hown hK.1 hP 2 rfl rfl 17 (by decide) (hts _ kX10_image_26) (fun _ h9 => h9) rfl dX10_image_32 ?_
      refine lv_iconst (v := (0 : Int32)) hx hb dX10_image_35 (by decide) ?_
      refine lv_aload_n hx hb dX10_image_36 rfl (lv_at hl 0 rfl) ?_
      refine va_get (D := g.1) (ci := 10) (v := .ref (p_t 19)) (C := RX10) (T := TX10) (N := 35) hx hb hts iX10_image_X10 hown hK.1 hP 2 rfl rfl 19 (by decide) (hts _ kX10_image_32) (fun _ h9 => h9) rfl dX10_image_37 ?_
      refine lv_bipush (v := (17 : Int32)) hx hb dX10_image_40 (by decide) ?_
      refine lv_aload_n hx hb dX10_image_42 rfl (lv_at hl 0 rfl) ?_
      refine va_get (D := g.1) (ci := 10) (v := .int (u_1 21)) (C := RX10) (T := TX10) (N := 35) hx hb hts iX10_image_X10 hown hK.1 hP 2 rfl rfl 21 (by decide) (hts _ kX10_image_182) (fun _ h9 => h9) rfl dX10_image_43 ?_
      refine lv_imul hx hb dX10_image_46 ?_
      refine lv_bipush (v := (17 : Int32)) hx hb dX10_image_47 (by decide) ?_
      obtain ⟨u_5, hu_6, hF⟩ := ob1_some hF
      refine call_sv (wr := [oX10 a_t p_t u_1]) (As := [.ref (p_t 17), .int (0 : Int32), .ref (p_t 19), .int ((17 : Int32) * (u_1 21)), .int (17 : Int32)]) (rest := []) C0 (mX10_copy l g (p_t 17) (p_t 19) n (0 : Int32) ((17 : Int32) * (u_1 21)) (17 : Int32) 17 51 f_t_17 f_t_19 u_5 hu_6) (va_cwS 5 hts gX10_image_X10_copy rfl rfl rfl (by decide +kernel) ⟨Nat.le_of_ble_eq_true rfl, Nat.le_of_ble_eq_true rfl⟩) hP hD hS [0, 1] [2] rfl rfl rfl rfl rfl (by decide) hl.1 rfl rfl (Nat.le_of_ble_eq_true rfl) ⟨Nat.zero_le _, Nat.zero_le _⟩ dX10_image_49 ?_
      intro H locs hP hD hS
      refine lv_aload_n hx hb dX10_image_52 rfl (lv_at hl 0 rfl) ?_
      refine lv_dup hx hb dX10_image_53 rfl ?_
      refine va_get (D := g.1) (ci := 10) (v := .int (u_1 21)) (C := RX10) (T := TX10) (N := 35) hx hb hts iX10_image_X10 hown hK.1 hP 0 rfl rfl 21 (by decide) (hts _ kX10_image_182) (fun _ h9 => h9) rfl dX10_image_54 ?_
      refine lv_iconst (v := (1 : Int32)) hx hb dX10_image_57 (by decide) ?_
      refine lv_iadd hx hb dX10_image_58 ?_
      refine va_put (D := g.1) (ci := 10) (v := .int ((u_1 21) + (1 : Int32))) (ty := .int) (C := RX10) (T := TX10) (N := 35) hx hb hts iX10_image_X10 tyX10 tyX10_ok nmX10 hown hK.1 hP hD hS 0 rfl rfl 21 (by decide) (hts _ kX10_image_182) (fun _ h9 => h9) rfl (by decide +kernel) rfl rfl (Nat.le_of_ble_eq_true rfl) dX10_image_59 (fun H locs hP hD hS => ?_)
      have hP : va_P g.1 vwCl [oX10 a_t p_t (upd u_1 21 ((u_1 21) + (1 : Int32))), aI g (p_t 17) 17 f_t_17, aI g (p_t 19) 51 u_5] H := hP
      have hD : va_D A [oX10 a_t p_t (upd u_1 21 ((u_1 21) + (1 : Int32))), aI g (p_t 17) 17 f_t_17, aI g (p_t 19) 51 u_5] := hD
      refine lv_aload_n hx hb dX10_image_62 rfl (lv_at hl 0 rfl) ?_
      refine va_get (D := g.1) (ci := 10) (v := .int ((u_1 21) + (1 : Int32))) (C := RX10) (T := TX10) (N := 35) hx hb hts iX10_image_X10 hown hK.1 hP 0 rfl rfl 21 (by decide) (hts _ kX10_image_182) (fun _ h9 => h9) rfl dX10_image_63 ?_
      refine lv_iconst (v := (1 : Int32)) hx hb dX10_image_66 (by decide) ?_
      refine lv_isub hx hb dX10_image_67 ?_
      cases hF
      exact ret_i C0 hP hD hS [0, 1, 2] rfl rfl rfl dX10_image_68 rfl
    · have hF := it_p c_4 hF
      refine lv_aload_n hx hb dX10_image_25 rfl (lv_at hl 0 rfl) ?_
      refine lv_iconst (v := (3 : Int32)) hx hb dX10_image_26 (by decide) ?_
      obtain ⟨u_7, u_8, hu_9, hF⟩ := ob2_some hF
      refine call_i (wr := [aI g (p_t 17) 17 f_t_17, aI g (p_t 19) 51 f_t_19]) (As := [.int (3 : Int32)]) (rest := []) (ci := 10) (q0 := 0) C0 (mX10_no l g a_t p_t n (3 : Int32) u_1 u_7 u_8 hu_9) (cwV 1 hts gX10_image_X10_no rfl rfl rfl (by decide +kernel) ⟨Nat.le_of_ble_eq_true rfl, Nat.le_of_ble_eq_true rfl⟩) hP hD hS [2] [0, 1] rfl rfl rfl rfl rfl (by decide) rfl rfl hl.1 rfl rfl (Nat.le_of_ble_eq_true rfl) ⟨Nat.zero_le _, Nat.zero_le _⟩ dX10_image_27 ?_
      intro H locs hP hD hS
      cases hF
      exact ret_i C0 hP hD hS [2, 0, 1] rfl rfl rfl dX10_image_30 rfl
  · have hF := it_p c_3 hF
    refine lv_aload_n hx hb dX10_image_11 rfl (lv_at hl 0 rfl) ?_
    refine lv_iconst (v := (1 : Int32)) hx hb dX10_image_12 (by decide) ?_
    obtain ⟨u_10, u_11, hu_12, hF⟩ := ob2_some hF
    refine call_i (wr := [aI g (p_t 17) 17 f_t_17, aI g (p_t 19) 51 f_t_19]) (As := [.int (1 : Int32)]) (rest := []) (ci := 10) (q0 := 0) C0 (mX10_no l g a_t p_t n (1 : Int32) u_1 u_10 u_11 hu_12) (cwV 1 hts gX10_image_X10_no rfl rfl rfl (by decide +kernel) ⟨Nat.le_of_ble_eq_true rfl, Nat.le_of_ble_eq_true rfl⟩) hP hD hS [2] [0, 1] rfl rfl rfl rfl rfl (by decide) rfl rfl hl.1 rfl rfl (Nat.le_of_ble_eq_true rfl) ⟨Nat.zero_le _, Nat.zero_le _⟩ dX10_image_13 ?_
    intro H locs hP hD hS
    cases hF
    exact ret_i C0 hP hD hS [2, 0, 1] rfl rfl rfl dX10_image_16 rfl

theorem dAX10_back : ∀ q ∈ ([(0, (.aload_n 0, 1)), (1, (.invokevirtual 159, 3)), (4, (.iload_n 1, 1)), (5, (.iconst 0, 1)), (6, (.aload_n 0, 1)), (7, (.getfield 182, 3)), (10, (.iconst 1, 1)), (11, (.isub, 1)), (12, (.invokestatic 144, 3)), (15, (.ifCond .ne 9, 3)), (18, (.aload_n 0, 1)), (19, (.iconst 1, 1)), (20, (.invokevirtual 395, 3)), (23, (.ireturn, 1)), (24, (.aload_n 0, 1)), (25, (.getfield 32, 3)), (28, (.bipush 17, 2)), (30, (.iload_n 1, 1)), (31, (.imul, 1)), (32, (.aload_n 0, 1)), (33, (.getfield 26, 3)), (36, (.iconst 0, 1)), (37, (.bipush 17, 2)), (39, (.invokestatic 168, 3)), (42, (.aload_n 0, 1)), (43, (.iconst 0, 1)), (44, (.putfield 179, 3)), (47, (.iconst 1, 1)), (48, (.ireturn, 1))] : List (Nat × (Instr × Nat))), decode cX10_back q.1 = .ok q.2 := by decide +kernel
theorem dX10_back_0 : decode cX10_back 0 = .ok (.aload_n 0, 1) := dAX10_back (0, (.aload_n 0, 1)) (List.mem_of_getElem? (i := 0) rfl)
theorem dX10_back_1 : decode cX10_back 1 = .ok (.invokevirtual 159, 3) := dAX10_back (1, (.invokevirtual 159, 3)) (List.mem_of_getElem? (i := 1) rfl)
theorem dX10_back_4 : decode cX10_back 4 = .ok (.iload_n 1, 1) := dAX10_back (4, (.iload_n 1, 1)) (List.mem_of_getElem? (i := 2) rfl)
theorem dX10_back_5 : decode cX10_back 5 = .ok (.iconst 0, 1) := dAX10_back (5, (.iconst 0, 1)) (List.mem_of_getElem? (i := 3) rfl)
theorem dX10_back_6 : decode cX10_back 6 = .ok (.aload_n 0, 1) := dAX10_back (6, (.aload_n 0, 1)) (List.mem_of_getElem? (i := 4) rfl)
theorem dX10_back_7 : decode cX10_back 7 = .ok (.getfield 182, 3) := dAX10_back (7, (.getfield 182, 3)) (List.mem_of_getElem? (i := 5) rfl)
theorem dX10_back_10 : decode cX10_back 10 = .ok (.iconst 1, 1) := dAX10_back (10, (.iconst 1, 1)) (List.mem_of_getElem? (i := 6) rfl)
theorem dX10_back_11 : decode cX10_back 11 = .ok (.isub, 1) := dAX10_back (11, (.isub, 1)) (List.mem_of_getElem? (i := 7) rfl)
theorem dX10_back_12 : decode cX10_back 12 = .ok (.invokestatic 144, 3) := dAX10_back (12, (.invokestatic 144, 3)) (List.mem_of_getElem? (i := 8) rfl)
theorem dX10_back_15 : decode cX10_back 15 = .ok (.ifCond .ne 9, 3) := dAX10_back (15, (.ifCond .ne 9, 3)) (List.mem_of_getElem? (i := 9) rfl)
theorem dX10_back_18 : decode cX10_back 18 = .ok (.aload_n 0, 1) := dAX10_back (18, (.aload_n 0, 1)) (List.mem_of_getElem? (i := 10) rfl)
theorem dX10_back_19 : decode cX10_back 19 = .ok (.iconst 1, 1) := dAX10_back (19, (.iconst 1, 1)) (List.mem_of_getElem? (i := 11) rfl)
theorem dX10_back_20 : decode cX10_back 20 = .ok (.invokevirtual 395, 3) := dAX10_back (20, (.invokevirtual 395, 3)) (List.mem_of_getElem? (i := 12) rfl)
theorem dX10_back_23 : decode cX10_back 23 = .ok (.ireturn, 1) := dAX10_back (23, (.ireturn, 1)) (List.mem_of_getElem? (i := 13) rfl)
theorem dX10_back_24 : decode cX10_back 24 = .ok (.aload_n 0, 1) := dAX10_back (24, (.aload_n 0, 1)) (List.mem_of_getElem? (i := 14) rfl)
theorem dX10_back_25 : decode cX10_back 25 = .ok (.getfield 32, 3) := dAX10_back (25, (.getfield 32, 3)) (List.mem_of_getElem? (i := 15) rfl)
theorem dX10_back_28 : decode cX10_back 28 = .ok (.bipush 17, 2) := dAX10_back (28, (.bipush 17, 2)) (List.mem_of_getElem? (i := 16) rfl)
theorem dX10_back_30 : decode cX10_back 30 = .ok (.iload_n 1, 1) := dAX10_back (30, (.iload_n 1, 1)) (List.mem_of_getElem? (i := 17) rfl)
theorem dX10_back_31 : decode cX10_back 31 = .ok (.imul, 1) := dAX10_back (31, (.imul, 1)) (List.mem_of_getElem? (i := 18) rfl)
theorem dX10_back_32 : decode cX10_back 32 = .ok (.aload_n 0, 1) := dAX10_back (32, (.aload_n 0, 1)) (List.mem_of_getElem? (i := 19) rfl)
theorem dX10_back_33 : decode cX10_back 33 = .ok (.getfield 26, 3) := dAX10_back (33, (.getfield 26, 3)) (List.mem_of_getElem? (i := 20) rfl)
theorem dX10_back_36 : decode cX10_back 36 = .ok (.iconst 0, 1) := dAX10_back (36, (.iconst 0, 1)) (List.mem_of_getElem? (i := 21) rfl)
theorem dX10_back_37 : decode cX10_back 37 = .ok (.bipush 17, 2) := dAX10_back (37, (.bipush 17, 2)) (List.mem_of_getElem? (i := 22) rfl)
theorem dX10_back_39 : decode cX10_back 39 = .ok (.invokestatic 168, 3) := dAX10_back (39, (.invokestatic 168, 3)) (List.mem_of_getElem? (i := 23) rfl)
theorem dX10_back_42 : decode cX10_back 42 = .ok (.aload_n 0, 1) := dAX10_back (42, (.aload_n 0, 1)) (List.mem_of_getElem? (i := 24) rfl)
theorem dX10_back_43 : decode cX10_back 43 = .ok (.iconst 0, 1) := dAX10_back (43, (.iconst 0, 1)) (List.mem_of_getElem? (i := 25) rfl)
theorem dX10_back_44 : decode cX10_back 44 = .ok (.putfield 179, 3) := dAX10_back (44, (.putfield 179, 3)) (List.mem_of_getElem? (i := 26) rfl)
theorem dX10_back_47 : decode cX10_back 47 = .ok (.iconst 1, 1) := dAX10_back (47, (.iconst 1, 1)) (List.mem_of_getElem? (i := 27) rfl)
theorem dX10_back_48 : decode cX10_back 48 = .ok (.ireturn, 1) := dAX10_back (48, (.ireturn, 1)) (List.mem_of_getElem? (i := 28) rfl)
set_option maxRecDepth 20000 in
theorem ggX10_back_X10_good : GoodIn wsX10_back wsX10_good := goodIn_r _ [9, 10, 11, 22, 23, 24, 25, 26, 27, 28, 29, 30, 31, 32, 33, 34, 35, 36, 37, 38, 39, 40, 41, 42, 43, 44, 45, 46, 47, 48, 49, 50, 51, 52, 53, 54, 55, 56] rfl (by decide +kernel)
set_option maxRecDepth 20000 in
theorem gX10_back_X10_good : GoodIn wsX10_back (wsV RX10 159 RX10 yX10_good wsX10_good) := goodIn_app (goodIn_of _ (by decide +kernel)) ggX10_back_X10_good
set_option maxRecDepth 20000 in
theorem ggX10_back_X10_in : GoodIn wsX10_back wsX10_in := goodIn_r _ [14] rfl (by decide +kernel)
set_option maxRecDepth 20000 in
theorem gX10_back_X10_in : GoodIn wsX10_back (va_wsS RX10 144 yX10_in wsX10_in) := goodIn_app (goodIn_of _ (by decide +kernel)) ggX10_back_X10_in
set_option maxRecDepth 20000 in
theorem ggX10_back_X10_isNot : GoodIn wsX10_back wsX10_isNot := goodIn_r _ [18, 11, 22, 23, 24, 25, 26, 27, 28, 29, 30, 31, 32, 33, 34, 35, 36, 37, 38, 39, 40, 41, 42, 43, 44, 45, 46, 47, 48, 49, 50, 51, 52, 53, 54, 55, 56] rfl (by decide +kernel)
set_option maxRecDepth 20000 in
theorem gX10_back_X10_isNot : GoodIn wsX10_back (wsV RX10 395 RX10 yX10_isNot wsX10_isNot) := goodIn_app (goodIn_of _ (by decide +kernel)) ggX10_back_X10_isNot
set_option maxRecDepth 20000 in
theorem ggX10_back_X10_copy : GoodIn wsX10_back wsX10_copy := goodIn_r _ [21] rfl (by decide +kernel)
set_option maxRecDepth 20000 in
theorem gX10_back_X10_copy : GoodIn wsX10_back (va_wsS RX10 168 yX10_copy wsX10_copy) := goodIn_app (goodIn_of _ (by decide +kernel)) ggX10_back_X10_copy
theorem kX10_back_182 : Cond.fieldLink RX10 182 "EveningVowModel" "images" "I" ∈ wsX10_back := List.mem_of_getElem? (i := 1) rfl
theorem iX10_back_X10 : ∀ w ∈ u_ws RX10 TX10 35, w ∈ wsX10_back := fun w h => (List.mem_cons_of_mem _ (List.mem_append_right _ h))
theorem kX10_back_32 : Cond.fieldLink RX10 32 "EveningVowModel" "kept" "[I" ∈ wsX10_back := List.mem_of_getElem? (i := 2) rfl
theorem kX10_back_26 : Cond.fieldLink RX10 26 "EveningVowModel" "st" "[I" ∈ wsX10_back := List.mem_of_getElem? (i := 3) rfl
theorem kX10_back_179 : Cond.fieldLink RX10 179 "EveningVowModel" "undos" "I" ∈ wsX10_back := List.mem_of_getElem? (i := 4) rfl
set_option maxHeartbeats 4000000 in
set_option maxRecDepth 100000 in
theorem mX10_back (l : Launch) (g : GG) (a_t : Nat) (p_t : Nat → Nat) (n : Nat) (x1 : Int32) (o_t : Nat → Int32) (f_t_17 : Nat → Int32) (f_t_19 : Nat → Int32) (r : Int32) (o_t' : Nat → Int32) (f_t_17' : Nat → Int32) (hF : fX10_back n x1 o_t f_t_17 f_t_19 = some (r, o_t', f_t_17')) : MI l g yX10_back wsX10_back ({ frames := 1, cells := 0, slots := 0, locals := 25 } : Room) [.ref a_t, .int x1] [oX10 a_t p_t o_t, aI g (p_t 17) 17 f_t_17, aI g (p_t 19) 51 f_t_19] r [oX10 a_t p_t o_t', aI g (p_t 17) 17 f_t_17', aI g (p_t 19) 51 f_t_19] := by
  refine MI.of (cc := cX10_back) (maxL := 2) (rt := .boolean) (own := RX10) rfl rfl (by decide) (Nat.le_of_ble_eq_true rfl) ?_
  intro p e s m args below meth c A C0 hP hD hS ls hl
  obtain ⟨hx, hb, hml, hown, hts, hr, hlk, hK, hA, hSW⟩ := id C0
  have hl : lv_has ls 2 [(0, .ref a_t), (1, .int x1)] := hl
  rw [fX10_back] at hF
  refine lv_aload_n hx hb dX10_back_0 rfl (lv_at hl 0 rfl) ?_
  obtain ⟨u_1, hu_2, hF⟩ := ob1_some hF
  refine call_v (wr := [aI g (p_t 17) 17 f_t_17, aI g (p_t 19) 51 f_t_19]) (As := []) (rest := []) (ci := 10) (q0 := 0) C0 (mX10_good l g a_t p_t n o_t u_1 hu_2) (cwV 0 hts gX10_back_X10_good rfl rfl rfl (by decide +kernel) ⟨Nat.le_of_ble_eq_true rfl, Nat.le_of_ble_eq_true rfl⟩) hP hD hS [0] [1, 2] rfl rfl rfl rfl rfl (by decide) rfl rfl hl.1 rfl rfl (Nat.le_of_ble_eq_true rfl) ⟨Nat.zero_le _, Nat.zero_le _⟩ dX10_back_1 ?_
  intro H locs hP hD hS
  refine lv_iload_n hx hb dX10_back_4 rfl (lv_at hl 1 rfl) ?_
  refine lv_iconst (v := (0 : Int32)) hx hb dX10_back_5 (by decide) ?_
  refine lv_aload_n hx hb dX10_back_6 rfl (lv_at hl 0 rfl) ?_
  refine va_get (D := g.1) (ci := 10) (v := .int (u_1 21)) (C := RX10) (T := TX10) (N := 35) hx hb hts iX10_back_X10 hown hK.1 hP 2 rfl rfl 21 (by decide) (hts _ kX10_back_182) (fun _ h9 => h9) rfl dX10_back_7 ?_
  refine lv_iconst (v := (1 : Int32)) hx hb dX10_back_10 (by decide) ?_
  refine lv_isub hx hb dX10_back_11 ?_
  obtain ⟨u_3, hu_4, hF⟩ := ob1_some hF
  refine call_si (wr := [aI g (p_t 17) 17 f_t_17, aI g (p_t 19) 51 f_t_19, oX10 a_t p_t u_1]) (As := [.int x1, .int (0 : Int32), .int ((u_1 21) - (1 : Int32))]) (rest := []) C0 (mX10_in l g n x1 (0 : Int32) ((u_1 21) - (1 : Int32)) u_3 hu_4) (va_cwS 3 hts gX10_back_X10_in rfl rfl rfl (by decide +kernel) ⟨Nat.le_of_ble_eq_true rfl, Nat.le_of_ble_eq_true rfl⟩) hP hD hS [] [0, 1, 2] rfl rfl rfl rfl rfl (by decide) hl.1 rfl rfl (Nat.le_of_ble_eq_true rfl) ⟨Nat.zero_le _, Nat.zero_le _⟩ dX10_back_12 ?_
  intro H locs hP hD hS
  refine lv_if_ne (tgt := 24) hx hb dX10_back_15 (by decide) (fun c_5 => ?_) (fun c_5 => ?_)
  · have hF := it_n c_5 hF
    refine lv_aload_n hx hb dX10_back_24 rfl (lv_at hl 0 rfl) ?_
    refine va_get (D := g.1) (ci := 10) (v := .ref (p_t 19)) (C := RX10) (T := TX10) (N := 35) hx hb hts iX10_back_X10 hown hK.1 hP 2 rfl rfl 19 (by decide) (hts _ kX10_back_32) (fun _ h9 => h9) rfl dX10_back_25 ?_
    refine lv_bipush (v := (17 : Int32)) hx hb dX10_back_28 (by decide) ?_
    refine lv_iload_n hx hb dX10_back_30 rfl (lv_at hl 1 rfl) ?_
    refine lv_imul hx hb dX10_back_31 ?_
    refine lv_aload_n hx hb dX10_back_32 rfl (lv_at hl 0 rfl) ?_
    refine va_get (D := g.1) (ci := 10) (v := .ref (p_t 17)) (C := RX10) (T := TX10) (N := 35) hx hb hts iX10_back_X10 hown hK.1 hP 2 rfl rfl 17 (by decide) (hts _ kX10_back_26) (fun _ h9 => h9) rfl dX10_back_33 ?_
    refine lv_iconst (v := (0 : Int32)) hx hb dX10_back_36 (by decide) ?_
    refine lv_bipush (v := (17 : Int32)) hx hb dX10_back_37 (by decide) ?_
    obtain ⟨u_6, hu_7, hF⟩ := ob1_some hF
    refine call_sv (wr := [oX10 a_t p_t u_1]) (As := [.ref (p_t 19), .int ((17 : Int32) * x1), .ref (p_t 17), .int (0 : Int32), .int (17 : Int32)]) (rest := []) C0 (mX10_copy l g (p_t 19) (p_t 17) n ((17 : Int32) * x1) (0 : Int32) (17 : Int32) 51 17 f_t_19 f_t_17 u_6 hu_7) (va_cwS 5 hts gX10_back_X10_copy rfl rfl rfl (by decide +kernel) ⟨Nat.le_of_ble_eq_true rfl, Nat.le_of_ble_eq_true rfl⟩) hP hD hS [1, 0] [2] rfl rfl rfl rfl rfl (by decide) hl.1 rfl rfl (Nat.le_of_ble_eq_true rfl) ⟨Nat.zero_le _, Nat.zero_le _⟩ dX10_back_39 ?_
    intro H locs hP hD hS
    refine lv_aload_n hx hb dX10_back_42 rfl (lv_at hl 0 rfl) ?_
    refine lv_iconst (v := (0 : Int32)) hx hb dX10_back_43 (by decide) ?_
    refine va_put (D := g.1) (ci := 10) (v := .int (0 : Int32)) (ty := .int) (C := RX10) (T := TX10) (N := 35) hx hb hts iX10_back_X10 tyX10 tyX10_ok nmX10 hown hK.1 hP hD hS 0 rfl rfl 20 (by decide) (hts _ kX10_back_179) (fun _ h9 => h9) rfl (by decide +kernel) rfl rfl (Nat.le_of_ble_eq_true rfl) dX10_back_44 (fun H locs hP hD hS => ?_)
    have hP : va_P g.1 vwCl [oX10 a_t p_t (upd u_1 20 (0 : Int32)), aI g (p_t 19) 51 f_t_19, aI g (p_t 17) 17 u_6] H := hP
    have hD : va_D A [oX10 a_t p_t (upd u_1 20 (0 : Int32)), aI g (p_t 19) 51 f_t_19, aI g (p_t 17) 17 u_6] := hD
    refine lv_iconst (v := (1 : Int32)) hx hb dX10_back_47 (by decide) ?_
    cases hF
    exact ret_z C0 hP hD hS [0, 2, 1] rfl rfl rfl dX10_back_48 rfl rfl
  · have hF := it_p c_5 hF
    refine lv_aload_n hx hb dX10_back_18 rfl (lv_at hl 0 rfl) ?_
    refine lv_iconst (v := (1 : Int32)) hx hb dX10_back_19 (by decide) ?_
    obtain ⟨u_8, u_9, hu_10, hF⟩ := ob2_some hF
    refine call_i (wr := [aI g (p_t 17) 17 f_t_17, aI g (p_t 19) 51 f_t_19]) (As := [.int (1 : Int32)]) (rest := []) (ci := 10) (q0 := 0) C0 (mX10_isNot l g a_t p_t n (1 : Int32) u_1 u_8 u_9 hu_10) (cwV 1 hts gX10_back_X10_isNot rfl rfl rfl (by decide +kernel) ⟨Nat.le_of_ble_eq_true rfl, Nat.le_of_ble_eq_true rfl⟩) hP hD hS [2] [0, 1] rfl rfl rfl rfl rfl (by decide) rfl rfl hl.1 rfl rfl (Nat.le_of_ble_eq_true rfl) ⟨Nat.zero_le _, Nat.zero_le _⟩ dX10_back_20 ?_
    intro H locs hP hD hS
    obtain ⟨h_11, hF⟩ := it_ck hF
    cases hF
    exact ret_z C0 hP hD hS [2, 0, 1] rfl rfl rfl dX10_back_23 (nar01 h_11) rfl

theorem dAX10_led : ∀ q ∈ ([(0, (.iconst 0, 1)), (1, (.istore_n 2, 1)), (2, (.iconst 0, 1)), (3, (.istore_n 3, 1)), (4, (.aload_n 0, 1)), (5, (.getfield 176, 3)), (8, (.ifCond .eq 52, 3)), (11, (.iload_n 3, 1)), (12, (.aload_n 0, 1)), (13, (.getfield 20, 3)), (16, (.bipush 6, 2)), (18, (.iaload, 1)), (19, (.if_icmp .ge 41, 3)), (22, (.aload_n 0, 1)), (23, (.getfield 26, 3)), (26, (.bipush 16, 2)), (28, (.iaload, 1)), (29, (.iload_n 3, 1)), (30, (.invokestatic 252, 3)), (33, (.ifCond .ne 6, 3)), (36, (.goto 18, 3)), (39, (.iload_n 2, 1)), (40, (.iload_n 1, 1)), (41, (.if_icmp .ne 10, 3)), (44, (.aload_n 0, 1)), (45, (.iconst 0, 1)), (46, (.putfield 53, 3)), (49, (.iload_n 3, 1)), (50, (.ireturn, 1)), (51, (.iinc 2 1, 3)), (54, (.iinc 3 1, 3)), (57, (.goto (-53), 3)), (60, (.aload_n 0, 1)), (61, (.iconst 1, 1)), (62, (.putfield 53, 3)), (65, (.iconst 0, 1)), (66, (.ireturn, 1))] : List (Nat × (Instr × Nat))), decode cX10_led q.1 = .ok q.2 := by decide +kernel
theorem dX10_led_0 : decode cX10_led 0 = .ok (.iconst 0, 1) := dAX10_led (0, (.iconst 0, 1)) (List.mem_of_getElem? (i := 0) rfl)
theorem dX10_led_1 : decode cX10_led 1 = .ok (.istore_n 2, 1) := dAX10_led (1, (.istore_n 2, 1)) (List.mem_of_getElem? (i := 1) rfl)
theorem dX10_led_2 : decode cX10_led 2 = .ok (.iconst 0, 1) := dAX10_led (2, (.iconst 0, 1)) (List.mem_of_getElem? (i := 2) rfl)
theorem dX10_led_3 : decode cX10_led 3 = .ok (.istore_n 3, 1) := dAX10_led (3, (.istore_n 3, 1)) (List.mem_of_getElem? (i := 3) rfl)
theorem dX10_led_4 : decode cX10_led 4 = .ok (.aload_n 0, 1) := dAX10_led (4, (.aload_n 0, 1)) (List.mem_of_getElem? (i := 4) rfl)
theorem dX10_led_5 : decode cX10_led 5 = .ok (.getfield 176, 3) := dAX10_led (5, (.getfield 176, 3)) (List.mem_of_getElem? (i := 5) rfl)
theorem dX10_led_8 : decode cX10_led 8 = .ok (.ifCond .eq 52, 3) := dAX10_led (8, (.ifCond .eq 52, 3)) (List.mem_of_getElem? (i := 6) rfl)
theorem dX10_led_11 : decode cX10_led 11 = .ok (.iload_n 3, 1) := dAX10_led (11, (.iload_n 3, 1)) (List.mem_of_getElem? (i := 7) rfl)
theorem dX10_led_12 : decode cX10_led 12 = .ok (.aload_n 0, 1) := dAX10_led (12, (.aload_n 0, 1)) (List.mem_of_getElem? (i := 8) rfl)
theorem dX10_led_13 : decode cX10_led 13 = .ok (.getfield 20, 3) := dAX10_led (13, (.getfield 20, 3)) (List.mem_of_getElem? (i := 9) rfl)
theorem dX10_led_16 : decode cX10_led 16 = .ok (.bipush 6, 2) := dAX10_led (16, (.bipush 6, 2)) (List.mem_of_getElem? (i := 10) rfl)
theorem dX10_led_18 : decode cX10_led 18 = .ok (.iaload, 1) := dAX10_led (18, (.iaload, 1)) (List.mem_of_getElem? (i := 11) rfl)
theorem dX10_led_19 : decode cX10_led 19 = .ok (.if_icmp .ge 41, 3) := dAX10_led (19, (.if_icmp .ge 41, 3)) (List.mem_of_getElem? (i := 12) rfl)
theorem dX10_led_22 : decode cX10_led 22 = .ok (.aload_n 0, 1) := dAX10_led (22, (.aload_n 0, 1)) (List.mem_of_getElem? (i := 13) rfl)
theorem dX10_led_23 : decode cX10_led 23 = .ok (.getfield 26, 3) := dAX10_led (23, (.getfield 26, 3)) (List.mem_of_getElem? (i := 14) rfl)
theorem dX10_led_26 : decode cX10_led 26 = .ok (.bipush 16, 2) := dAX10_led (26, (.bipush 16, 2)) (List.mem_of_getElem? (i := 15) rfl)
theorem dX10_led_28 : decode cX10_led 28 = .ok (.iaload, 1) := dAX10_led (28, (.iaload, 1)) (List.mem_of_getElem? (i := 16) rfl)
theorem dX10_led_29 : decode cX10_led 29 = .ok (.iload_n 3, 1) := dAX10_led (29, (.iload_n 3, 1)) (List.mem_of_getElem? (i := 17) rfl)
theorem dX10_led_30 : decode cX10_led 30 = .ok (.invokestatic 252, 3) := dAX10_led (30, (.invokestatic 252, 3)) (List.mem_of_getElem? (i := 18) rfl)
theorem dX10_led_33 : decode cX10_led 33 = .ok (.ifCond .ne 6, 3) := dAX10_led (33, (.ifCond .ne 6, 3)) (List.mem_of_getElem? (i := 19) rfl)
theorem dX10_led_36 : decode cX10_led 36 = .ok (.goto 18, 3) := dAX10_led (36, (.goto 18, 3)) (List.mem_of_getElem? (i := 20) rfl)
theorem dX10_led_39 : decode cX10_led 39 = .ok (.iload_n 2, 1) := dAX10_led (39, (.iload_n 2, 1)) (List.mem_of_getElem? (i := 21) rfl)
theorem dX10_led_40 : decode cX10_led 40 = .ok (.iload_n 1, 1) := dAX10_led (40, (.iload_n 1, 1)) (List.mem_of_getElem? (i := 22) rfl)
theorem dX10_led_41 : decode cX10_led 41 = .ok (.if_icmp .ne 10, 3) := dAX10_led (41, (.if_icmp .ne 10, 3)) (List.mem_of_getElem? (i := 23) rfl)
theorem dX10_led_44 : decode cX10_led 44 = .ok (.aload_n 0, 1) := dAX10_led (44, (.aload_n 0, 1)) (List.mem_of_getElem? (i := 24) rfl)
theorem dX10_led_45 : decode cX10_led 45 = .ok (.iconst 0, 1) := dAX10_led (45, (.iconst 0, 1)) (List.mem_of_getElem? (i := 25) rfl)
theorem dX10_led_46 : decode cX10_led 46 = .ok (.putfield 53, 3) := dAX10_led (46, (.putfield 53, 3)) (List.mem_of_getElem? (i := 26) rfl)
theorem dX10_led_49 : decode cX10_led 49 = .ok (.iload_n 3, 1) := dAX10_led (49, (.iload_n 3, 1)) (List.mem_of_getElem? (i := 27) rfl)
theorem dX10_led_50 : decode cX10_led 50 = .ok (.ireturn, 1) := dAX10_led (50, (.ireturn, 1)) (List.mem_of_getElem? (i := 28) rfl)
theorem dX10_led_51 : decode cX10_led 51 = .ok (.iinc 2 1, 3) := dAX10_led (51, (.iinc 2 1, 3)) (List.mem_of_getElem? (i := 29) rfl)
theorem dX10_led_54 : decode cX10_led 54 = .ok (.iinc 3 1, 3) := dAX10_led (54, (.iinc 3 1, 3)) (List.mem_of_getElem? (i := 30) rfl)
theorem dX10_led_57 : decode cX10_led 57 = .ok (.goto (-53), 3) := dAX10_led (57, (.goto (-53), 3)) (List.mem_of_getElem? (i := 31) rfl)
theorem dX10_led_60 : decode cX10_led 60 = .ok (.aload_n 0, 1) := dAX10_led (60, (.aload_n 0, 1)) (List.mem_of_getElem? (i := 32) rfl)
theorem dX10_led_61 : decode cX10_led 61 = .ok (.iconst 1, 1) := dAX10_led (61, (.iconst 1, 1)) (List.mem_of_getElem? (i := 33) rfl)
theorem dX10_led_62 : decode cX10_led 62 = .ok (.putfield 53, 3) := dAX10_led (62, (.putfield 53, 3)) (List.mem_of_getElem? (i := 34) rfl)
theorem dX10_led_65 : decode cX10_led 65 = .ok (.iconst 0, 1) := dAX10_led (65, (.iconst 0, 1)) (List.mem_of_getElem? (i := 35) rfl)
theorem dX10_led_66 : decode cX10_led 66 = .ok (.ireturn, 1) := dAX10_led (66, (.ireturn, 1)) (List.mem_of_getElem? (i := 36) rfl)
set_option maxRecDepth 20000 in
theorem ggX10_led_X10_hasBit : GoodIn wsX10_led wsX10_hasBit := goodIn_r _ [8] rfl (by decide +kernel)
set_option maxRecDepth 20000 in
theorem gX10_led_X10_hasBit : GoodIn wsX10_led (va_wsS RX10 252 yX10_hasBit wsX10_hasBit) := goodIn_app (goodIn_of _ (by decide +kernel)) ggX10_led_X10_hasBit
theorem kX10_led_176 : Cond.fieldLink RX10 176 "EveningVowModel" "hasEvening" "Z" ∈ wsX10_led := List.mem_of_getElem? (i := 1) rfl
theorem iX10_led_X10 : ∀ w ∈ u_ws RX10 TX10 35, w ∈ wsX10_led := fun w h => (List.mem_cons_of_mem _ (List.mem_append_right _ h))
theorem kX10_led_20 : Cond.fieldLink RX10 20 "EveningVowModel" "\x72" "[I" ∈ wsX10_led := List.mem_of_getElem? (i := 2) rfl
theorem kX10_led_26 : Cond.fieldLink RX10 26 "EveningVowModel" "st" "[I" ∈ wsX10_led := List.mem_of_getElem? (i := 3) rfl
theorem kX10_led_53 : Cond.fieldLink RX10 53 "EveningVowModel" "thrown" "I" ∈ wsX10_led := List.mem_of_getElem? (i := 4) rfl
set_option maxHeartbeats 4000000 in
set_option maxRecDepth 100000 in
theorem wX10_led_L4 {p : Program} {l : Launch} {e : Env} {s : State} {m : MethodId} {args : Array Value} {below : List Frame} {meth : Method} {c : Code} {g : GG} {A : Nat → Prop} (C0 : Cx p s m args meth c cX10_led 4 (some .int) RX10 wsX10_led g A) (a_t : Nat) (p_t : Nat → Nat) (n : Nat) (x1 : Int32) (o_t : Nat → Int32) (f_t_15 : Nat → Int32) (f_t_17 : Nat → Int32)  (r : Int32) (o_t' : Nat → Int32) (K : Unit → Option (Int32 × (Nat → Int32))) (hKx : ∀  (H : Heap) (locs : List Loc) (ls : Array Slot), K () = some (r, o_t') → va_P g.1 vwCl [oX10 a_t p_t o_t, aI g (p_t 15) 266 f_t_15, aI g (p_t 17) 17 f_t_17] H → va_D A [oX10 a_t p_t o_t, aI g (p_t 15) 266 f_t_15, aI g (p_t 17) 17 f_t_17] → va_S A s.heap H locs → lv_has ls 4 [(0, .ref a_t)] → W p l e ({ frames := 1, cells := 0, slots := 0, locals := 21 } : Room) s m args below meth c H locs 0 0 (MQ below (EndI g r [oX10 a_t p_t o_t', aI g (p_t 15) 266 f_t_15, aI g (p_t 17) 17 f_t_17] A) args s 0 0 A) (F0 m 60 ls [])) : ∀ (k : Nat) (x2 : Int32) (x3 : Int32), fX10_led_L4 n x1 o_t f_t_15 f_t_17 K k x2 x3 = some (r, o_t') → ∀ (H : Heap) (locs : List Loc) (ls : Array Slot), va_P g.1 vwCl [oX10 a_t p_t o_t, aI g (p_t 15) 266 f_t_15, aI g (p_t 17) 17 f_t_17] H → va_D A [oX10 a_t p_t o_t, aI g (p_t 15) 266 f_t_15, aI g (p_t 17) 17 f_t_17] → va_S A s.heap H locs → lv_has ls 4 [(0, .ref a_t), (1, .int x1), (2, .int x2), (3, .int x3)] → W p l e ({ frames := 1, cells := 0, slots := 0, locals := 21 } : Room) s m args below meth c H locs 0 0 (MQ below (EndI g r [oX10 a_t p_t o_t', aI g (p_t 15) 266 f_t_15, aI g (p_t 17) 17 f_t_17] A) args s 0 0 A) (F0 m 4 ls []) := by
  obtain ⟨hx, hb, hml, hown, hts, hr, hlk, hK, hA, hSW⟩ := id C0
  intro k
  induction k with
  | zero =>
    intro x2 x3 hF
    exact absurd hF (by simp [fX10_led_L4])
  | succ k ih =>
    intro x2 x3 hF H locs ls hP hD hS hl
    rw [fX10_led_L4] at hF
    refine lv_aload_n hx hb dX10_led_4 rfl (lv_at hl 0 rfl) ?_
    refine va_get (D := g.1) (ci := 10) (v := .int (o_t 14)) (C := RX10) (T := TX10) (N := 35) hx hb hts iX10_led_X10 hown hK.1 hP 0 rfl rfl 14 (by decide) (hts _ kX10_led_176) (fun _ h9 => h9) rfl dX10_led_5 ?_
    refine lv_if_eq (tgt := 60) hx hb dX10_led_8 (by decide) (fun c_1 => ?_) (fun c_1 => ?_)
    · have hF := it_p c_1 hF
      exact hKx  _ _ _ hF (hP.sub [0, 1, 2] rfl) (hD.sub [0, 1, 2] rfl rfl) hS (lv_sub hl [0] rfl)
    · have hF := it_n c_1 hF
      refine lv_iload_n hx hb dX10_led_11 rfl (lv_at hl 3 rfl) ?_
      refine lv_aload_n hx hb dX10_led_12 rfl (lv_at hl 0 rfl) ?_
      refine va_get (D := g.1) (ci := 10) (v := .ref (p_t 15)) (C := RX10) (T := TX10) (N := 35) hx hb hts iX10_led_X10 hown hK.1 hP 0 rfl rfl 15 (by decide) (hts _ kX10_led_20) (fun _ h9 => h9) rfl dX10_led_13 ?_
      refine lv_bipush (v := (6 : Int32)) hx hb dX10_led_16 (by decide) ?_
      refine va_iald_k (j := 6) hx hb hK.1 hP 1 0 rfl rfl (by unfold vp_in; decide) rfl dX10_led_18 ?_
      refine lv_icmp_ge (tgt := 60) hx hb dX10_led_19 (by decide) (fun c_2 => ?_) (fun c_2 => ?_)
      · have hF := it_p c_2 hF
        exact hKx  _ _ _ hF (hP.sub [0, 1, 2] rfl) (hD.sub [0, 1, 2] rfl rfl) hS (lv_sub hl [0] rfl)
      · have hF := it_n c_2 hF
        refine lv_aload_n hx hb dX10_led_22 rfl (lv_at hl 0 rfl) ?_
        refine va_get (D := g.1) (ci := 10) (v := .ref (p_t 17)) (C := RX10) (T := TX10) (N := 35) hx hb hts iX10_led_X10 hown hK.1 hP 0 rfl rfl 17 (by decide) (hts _ kX10_led_26) (fun _ h9 => h9) rfl dX10_led_23 ?_
        refine lv_bipush (v := (16 : Int32)) hx hb dX10_led_26 (by decide) ?_
        refine va_iald_k (j := 16) hx hb hK.1 hP 2 0 rfl rfl (by unfold vp_in; decide) rfl dX10_led_28 ?_
        refine lv_iload_n hx hb dX10_led_29 rfl (lv_at hl 3 rfl) ?_
        obtain ⟨u_3, hu_4, hF⟩ := ob1_some hF
        refine call_si (wr := [oX10 a_t p_t o_t, aI g (p_t 15) 266 f_t_15, aI g (p_t 17) 17 f_t_17]) (As := [.int (f_t_17 16), .int x3]) (rest := []) C0 (mX10_hasBit l g n (f_t_17 16) x3 u_3 hu_4) (va_cwS 2 hts gX10_led_X10_hasBit rfl rfl rfl (by decide +kernel) ⟨Nat.le_of_ble_eq_true rfl, Nat.le_of_ble_eq_true rfl⟩) hP hD hS [] [0, 1, 2] rfl rfl rfl rfl rfl (by decide) hl.1 rfl rfl (Nat.le_of_ble_eq_true rfl) ⟨Nat.zero_le _, Nat.zero_le _⟩ dX10_led_30 ?_
        intro H locs hP hD hS
        refine lv_if_ne (tgt := 39) hx hb dX10_led_33 (by decide) (fun c_5 => ?_) (fun c_5 => ?_)
        · have hF := it_n c_5 hF
          refine lv_iload_n hx hb dX10_led_39 rfl (lv_at hl 2 rfl) ?_
          refine lv_iload_n hx hb dX10_led_40 rfl (lv_at hl 1 rfl) ?_
          refine lv_icmp_ne (tgt := 51) hx hb dX10_led_41 (by decide) (fun c_6 => ?_) (fun c_6 => ?_)
          · have hF := it_n c_6 hF
            refine lv_iinc (v := (x2 + (1 : Int32))) (lv' := [(2, .int (x2 + (1 : Int32))), (0, .ref a_t), (1, .int x1), (3, .int x3)]) hx hb dX10_led_51 hl (k := 2) rfl rfl (by decide) rfl (fun ls hl => ?_)
            refine lv_iinc (v := (x3 + (1 : Int32))) (lv' := [(3, .int (x3 + (1 : Int32))), (2, .int (x2 + (1 : Int32))), (0, .ref a_t), (1, .int x1)]) hx hb dX10_led_54 hl (k := 3) rfl rfl (by decide) rfl (fun ls hl => ?_)
            refine lv_goto (tgt := 4) hx hb dX10_led_57 (by decide) ?_
            exact ih (x2 + (1 : Int32)) (x3 + (1 : Int32)) hF _ _ _ (hP.sub [0, 1, 2] rfl) (hD.sub [0, 1, 2] rfl rfl) hS (lv_sub hl [2, 3, 1, 0] rfl)
          · have hF := it_p c_6 hF
            refine lv_aload_n hx hb dX10_led_44 rfl (lv_at hl 0 rfl) ?_
            refine lv_iconst (v := (0 : Int32)) hx hb dX10_led_45 (by decide) ?_
            refine va_put (D := g.1) (ci := 10) (v := .int (0 : Int32)) (ty := .int) (C := RX10) (T := TX10) (N := 35) hx hb hts iX10_led_X10 tyX10 tyX10_ok nmX10 hown hK.1 hP hD hS 0 rfl rfl 0 (by decide) (hts _ kX10_led_53) (fun _ h9 => h9) rfl (by decide +kernel) rfl rfl (Nat.le_of_ble_eq_true rfl) dX10_led_46 (fun H locs hP hD hS => ?_)
            have hP : va_P g.1 vwCl [oX10 a_t p_t (upd o_t 0 (0 : Int32)), aI g (p_t 15) 266 f_t_15, aI g (p_t 17) 17 f_t_17] H := hP
            have hD : va_D A [oX10 a_t p_t (upd o_t 0 (0 : Int32)), aI g (p_t 15) 266 f_t_15, aI g (p_t 17) 17 f_t_17] := hD
            refine lv_iload_n hx hb dX10_led_49 rfl (lv_at hl 3 rfl) ?_
            cases hF
            exact ret_i C0 hP hD hS [0, 1, 2] rfl rfl rfl dX10_led_50 rfl
        · have hF := it_p c_5 hF
          refine lv_goto (tgt := 54) hx hb dX10_led_36 (by decide) ?_
          refine lv_iinc (v := (x3 + (1 : Int32))) (lv' := [(3, .int (x3 + (1 : Int32))), (0, .ref a_t), (1, .int x1), (2, .int x2)]) hx hb dX10_led_54 hl (k := 3) rfl rfl (by decide) rfl (fun ls hl => ?_)
          refine lv_goto (tgt := 4) hx hb dX10_led_57 (by decide) ?_
          exact ih x2 (x3 + (1 : Int32)) hF _ _ _ (hP.sub [0, 1, 2] rfl) (hD.sub [0, 1, 2] rfl rfl) hS (lv_sub hl [1, 2, 3, 0] rfl)
set_option maxHeartbeats 4000000 in
set_option maxRecDepth 100000 in
theorem mX10_led (l : Launch) (g : GG) (a_t : Nat) (p_t : Nat → Nat) (n : Nat) (x1 : Int32) (o_t : Nat → Int32) (f_t_15 : Nat → Int32) (f_t_17 : Nat → Int32) (r : Int32) (o_t' : Nat → Int32) (hF : fX10_led n x1 o_t f_t_15 f_t_17 = some (r, o_t')) : MI l g yX10_led wsX10_led ({ frames := 1, cells := 0, slots := 0, locals := 21 } : Room) [.ref a_t, .int x1] [oX10 a_t p_t o_t, aI g (p_t 15) 266 f_t_15, aI g (p_t 17) 17 f_t_17] r [oX10 a_t p_t o_t', aI g (p_t 15) 266 f_t_15, aI g (p_t 17) 17 f_t_17] := by
  refine MI.of (cc := cX10_led) (maxL := 4) (rt := .int) (own := RX10) rfl rfl (by decide) (Nat.le_of_ble_eq_true rfl) ?_
  intro p e s m args below meth c A C0 hP hD hS ls hl
  obtain ⟨hx, hb, hml, hown, hts, hr, hlk, hK, hA, hSW⟩ := id C0
  have hl : lv_has ls 4 [(0, .ref a_t), (1, .int x1)] := hl
  rw [fX10_led] at hF
  refine lv_iconst (v := (0 : Int32)) hx hb dX10_led_0 (by decide) ?_
  refine lv_istore_n (lv' := [(2, .int (0 : Int32)), (0, .ref a_t), (1, .int x1)]) hx hb dX10_led_1 rfl hl (by decide) rfl (fun ls hl => ?_)
  refine lv_iconst (v := (0 : Int32)) hx hb dX10_led_2 (by decide) ?_
  refine lv_istore_n (lv' := [(3, .int (0 : Int32)), (2, .int (0 : Int32)), (0, .ref a_t), (1, .int x1)]) hx hb dX10_led_3 rfl hl (by decide) rfl (fun ls hl => ?_)
  refine wX10_led_L4 C0 a_t p_t n x1 o_t f_t_15 f_t_17 r o_t' _ ?_ n (0 : Int32) (0 : Int32) hF _ _ _ (hP.sub [0, 1, 2] rfl) (hD.sub [0, 1, 2] rfl rfl) hS (lv_sub hl [2, 3, 1, 0] rfl)
  · intro  H locs ls hF hP hD hS hl
    refine lv_aload_n hx hb dX10_led_60 rfl (lv_at hl 0 rfl) ?_
    refine lv_iconst (v := (1 : Int32)) hx hb dX10_led_61 (by decide) ?_
    refine va_put (D := g.1) (ci := 10) (v := .int (1 : Int32)) (ty := .int) (C := RX10) (T := TX10) (N := 35) hx hb hts iX10_led_X10 tyX10 tyX10_ok nmX10 hown hK.1 hP hD hS 0 rfl rfl 0 (by decide) (hts _ kX10_led_53) (fun _ h9 => h9) rfl (by decide +kernel) rfl rfl (Nat.le_of_ble_eq_true rfl) dX10_led_62 (fun H locs hP hD hS => ?_)
    have hP : va_P g.1 vwCl [oX10 a_t p_t (upd o_t 0 (1 : Int32)), aI g (p_t 15) 266 f_t_15, aI g (p_t 17) 17 f_t_17] H := hP
    have hD : va_D A [oX10 a_t p_t (upd o_t 0 (1 : Int32)), aI g (p_t 15) 266 f_t_15, aI g (p_t 17) 17 f_t_17] := hD
    refine lv_iconst (v := (0 : Int32)) hx hb dX10_led_65 (by decide) ?_
    cases hF
    exact ret_i C0 hP hD hS [0, 1, 2] rfl rfl rfl dX10_led_66 rfl

theorem dAX10_size : ∀ q ∈ ([(0, (.aload_n 0, 1)), (1, (.iconst 0, 1)), (2, (.putfield 53, 3)), (5, (.iload_n 1, 1)), (6, (.bipush 13, 2)), (8, (.if_icmp .ne 8, 3)), (11, (.aload_n 0, 1)), (12, (.getfield 59, 3)), (15, (.ireturn, 1)), (16, (.aload_n 0, 1)), (17, (.getfield 176, 3)), (20, (.ifCond .ne 19, 3)), (23, (.iload_n 1, 1)), (24, (.iconst 0, 1)), (25, (.bipush 12, 2)), (27, (.invokestatic 144, 3)), (30, (.ifCond .eq 7, 3)), (33, (.iconst 0, 1)), (34, (.goto 4, 3)), (37, (.iconst (-1), 1)), (38, (.ireturn, 1)), (39, (.iload_n 1, 1)), (40, (.iconst 1, 1)), (41, (.bipush 8, 2)), (43, (.invokestatic 144, 3)), (46, (.ifCond .eq 10, 3)), (49, (.aload_n 0, 1)), (50, (.getfield 20, 3)), (53, (.iload_n 1, 1)), (54, (.iaload, 1)), (55, (.ireturn, 1)), (56, (.iload_n 1, 1)), (57, (.tableswitch 105 0 12 #[67, 105, 105, 105, 105, 105, 105, 105, 105, 75, 83, 95, 100], 67)), (124, (.aload_n 0, 1)), (125, (.getfield 26, 3)), (128, (.bipush 15, 2)), (130, (.iaload, 1)), (131, (.ireturn, 1)), (132, (.aload_n 0, 1)), (133, (.getfield 26, 3)), (136, (.bipush 14, 2)), (138, (.iaload, 1)), (139, (.ireturn, 1)), (140, (.aload_n 0, 1)), (141, (.aload_n 0, 1)), (142, (.getfield 26, 3)), (145, (.invokevirtual 259, 3)), (148, (.invokestatic 306, 3)), (151, (.ireturn, 1)), (152, (.aload_n 0, 1)), (153, (.getfield 179, 3)), (156, (.ireturn, 1)), (157, (.aload_n 0, 1)), (158, (.getfield 182, 3)), (161, (.ireturn, 1)), (162, (.iconst (-1), 1)), (163, (.ireturn, 1))] : List (Nat × (Instr × Nat))), decode cX10_size q.1 = .ok q.2 := by decide +kernel
theorem dX10_size_0 : decode cX10_size 0 = .ok (.aload_n 0, 1) := dAX10_size (0, (.aload_n 0, 1)) (List.mem_of_getElem? (i := 0) rfl)
theorem dX10_size_1 : decode cX10_size 1 = .ok (.iconst 0, 1) := dAX10_size (1, (.iconst 0, 1)) (List.mem_of_getElem? (i := 1) rfl)
theorem dX10_size_2 : decode cX10_size 2 = .ok (.putfield 53, 3) := dAX10_size (2, (.putfield 53, 3)) (List.mem_of_getElem? (i := 2) rfl)
theorem dX10_size_5 : decode cX10_size 5 = .ok (.iload_n 1, 1) := dAX10_size (5, (.iload_n 1, 1)) (List.mem_of_getElem? (i := 3) rfl)
theorem dX10_size_6 : decode cX10_size 6 = .ok (.bipush 13, 2) := dAX10_size (6, (.bipush 13, 2)) (List.mem_of_getElem? (i := 4) rfl)
theorem dX10_size_8 : decode cX10_size 8 = .ok (.if_icmp .ne 8, 3) := dAX10_size (8, (.if_icmp .ne 8, 3)) (List.mem_of_getElem? (i := 5) rfl)
theorem dX10_size_11 : decode cX10_size 11 = .ok (.aload_n 0, 1) := dAX10_size (11, (.aload_n 0, 1)) (List.mem_of_getElem? (i := 6) rfl)
theorem dX10_size_12 : decode cX10_size 12 = .ok (.getfield 59, 3) := dAX10_size (12, (.getfield 59, 3)) (List.mem_of_getElem? (i := 7) rfl)
theorem dX10_size_15 : decode cX10_size 15 = .ok (.ireturn, 1) := dAX10_size (15, (.ireturn, 1)) (List.mem_of_getElem? (i := 8) rfl)
theorem dX10_size_16 : decode cX10_size 16 = .ok (.aload_n 0, 1) := dAX10_size (16, (.aload_n 0, 1)) (List.mem_of_getElem? (i := 9) rfl)
theorem dX10_size_17 : decode cX10_size 17 = .ok (.getfield 176, 3) := dAX10_size (17, (.getfield 176, 3)) (List.mem_of_getElem? (i := 10) rfl)
theorem dX10_size_20 : decode cX10_size 20 = .ok (.ifCond .ne 19, 3) := dAX10_size (20, (.ifCond .ne 19, 3)) (List.mem_of_getElem? (i := 11) rfl)
theorem dX10_size_23 : decode cX10_size 23 = .ok (.iload_n 1, 1) := dAX10_size (23, (.iload_n 1, 1)) (List.mem_of_getElem? (i := 12) rfl)
theorem dX10_size_24 : decode cX10_size 24 = .ok (.iconst 0, 1) := dAX10_size (24, (.iconst 0, 1)) (List.mem_of_getElem? (i := 13) rfl)
theorem dX10_size_25 : decode cX10_size 25 = .ok (.bipush 12, 2) := dAX10_size (25, (.bipush 12, 2)) (List.mem_of_getElem? (i := 14) rfl)
theorem dX10_size_27 : decode cX10_size 27 = .ok (.invokestatic 144, 3) := dAX10_size (27, (.invokestatic 144, 3)) (List.mem_of_getElem? (i := 15) rfl)
theorem dX10_size_30 : decode cX10_size 30 = .ok (.ifCond .eq 7, 3) := dAX10_size (30, (.ifCond .eq 7, 3)) (List.mem_of_getElem? (i := 16) rfl)
theorem dX10_size_33 : decode cX10_size 33 = .ok (.iconst 0, 1) := dAX10_size (33, (.iconst 0, 1)) (List.mem_of_getElem? (i := 17) rfl)
theorem dX10_size_34 : decode cX10_size 34 = .ok (.goto 4, 3) := dAX10_size (34, (.goto 4, 3)) (List.mem_of_getElem? (i := 18) rfl)
theorem dX10_size_37 : decode cX10_size 37 = .ok (.iconst (-1), 1) := dAX10_size (37, (.iconst (-1), 1)) (List.mem_of_getElem? (i := 19) rfl)
theorem dX10_size_38 : decode cX10_size 38 = .ok (.ireturn, 1) := dAX10_size (38, (.ireturn, 1)) (List.mem_of_getElem? (i := 20) rfl)
theorem dX10_size_39 : decode cX10_size 39 = .ok (.iload_n 1, 1) := dAX10_size (39, (.iload_n 1, 1)) (List.mem_of_getElem? (i := 21) rfl)
theorem dX10_size_40 : decode cX10_size 40 = .ok (.iconst 1, 1) := dAX10_size (40, (.iconst 1, 1)) (List.mem_of_getElem? (i := 22) rfl)
theorem dX10_size_41 : decode cX10_size 41 = .ok (.bipush 8, 2) := dAX10_size (41, (.bipush 8, 2)) (List.mem_of_getElem? (i := 23) rfl)
theorem dX10_size_43 : decode cX10_size 43 = .ok (.invokestatic 144, 3) := dAX10_size (43, (.invokestatic 144, 3)) (List.mem_of_getElem? (i := 24) rfl)
theorem dX10_size_46 : decode cX10_size 46 = .ok (.ifCond .eq 10, 3) := dAX10_size (46, (.ifCond .eq 10, 3)) (List.mem_of_getElem? (i := 25) rfl)
theorem dX10_size_49 : decode cX10_size 49 = .ok (.aload_n 0, 1) := dAX10_size (49, (.aload_n 0, 1)) (List.mem_of_getElem? (i := 26) rfl)
theorem dX10_size_50 : decode cX10_size 50 = .ok (.getfield 20, 3) := dAX10_size (50, (.getfield 20, 3)) (List.mem_of_getElem? (i := 27) rfl)
theorem dX10_size_53 : decode cX10_size 53 = .ok (.iload_n 1, 1) := dAX10_size (53, (.iload_n 1, 1)) (List.mem_of_getElem? (i := 28) rfl)
theorem dX10_size_54 : decode cX10_size 54 = .ok (.iaload, 1) := dAX10_size (54, (.iaload, 1)) (List.mem_of_getElem? (i := 29) rfl)
theorem dX10_size_55 : decode cX10_size 55 = .ok (.ireturn, 1) := dAX10_size (55, (.ireturn, 1)) (List.mem_of_getElem? (i := 30) rfl)
theorem dX10_size_56 : decode cX10_size 56 = .ok (.iload_n 1, 1) := dAX10_size (56, (.iload_n 1, 1)) (List.mem_of_getElem? (i := 31) rfl)
theorem dX10_size_57 : decode cX10_size 57 = .ok (.tableswitch 105 0 12 #[67, 105, 105, 105, 105, 105, 105, 105, 105, 75, 83, 95, 100], 67) := dAX10_size (57, (.tableswitch 105 0 12 #[67, 105, 105, 105, 105, 105, 105, 105, 105, 75, 83, 95, 100], 67)) (List.mem_of_getElem? (i := 32) rfl)
theorem dX10_size_124 : decode cX10_size 124 = .ok (.aload_n 0, 1) := dAX10_size (124, (.aload_n 0, 1)) (List.mem_of_getElem? (i := 33) rfl)
theorem dX10_size_125 : decode cX10_size 125 = .ok (.getfield 26, 3) := dAX10_size (125, (.getfield 26, 3)) (List.mem_of_getElem? (i := 34) rfl)
theorem dX10_size_128 : decode cX10_size 128 = .ok (.bipush 15, 2) := dAX10_size (128, (.bipush 15, 2)) (List.mem_of_getElem? (i := 35) rfl)
theorem dX10_size_130 : decode cX10_size 130 = .ok (.iaload, 1) := dAX10_size (130, (.iaload, 1)) (List.mem_of_getElem? (i := 36) rfl)
theorem dX10_size_131 : decode cX10_size 131 = .ok (.ireturn, 1) := dAX10_size (131, (.ireturn, 1)) (List.mem_of_getElem? (i := 37) rfl)
theorem dX10_size_132 : decode cX10_size 132 = .ok (.aload_n 0, 1) := dAX10_size (132, (.aload_n 0, 1)) (List.mem_of_getElem? (i := 38) rfl)
theorem dX10_size_133 : decode cX10_size 133 = .ok (.getfield 26, 3) := dAX10_size (133, (.getfield 26, 3)) (List.mem_of_getElem? (i := 39) rfl)
theorem dX10_size_136 : decode cX10_size 136 = .ok (.bipush 14, 2) := dAX10_size (136, (.bipush 14, 2)) (List.mem_of_getElem? (i := 40) rfl)
theorem dX10_size_138 : decode cX10_size 138 = .ok (.iaload, 1) := dAX10_size (138, (.iaload, 1)) (List.mem_of_getElem? (i := 41) rfl)
theorem dX10_size_139 : decode cX10_size 139 = .ok (.ireturn, 1) := dAX10_size (139, (.ireturn, 1)) (List.mem_of_getElem? (i := 42) rfl)
theorem dX10_size_140 : decode cX10_size 140 = .ok (.aload_n 0, 1) := dAX10_size (140, (.aload_n 0, 1)) (List.mem_of_getElem? (i := 43) rfl)
theorem dX10_size_141 : decode cX10_size 141 = .ok (.aload_n 0, 1) := dAX10_size (141, (.aload_n 0, 1)) (List.mem_of_getElem? (i := 44) rfl)
theorem dX10_size_142 : decode cX10_size 142 = .ok (.getfield 26, 3) := dAX10_size (142, (.getfield 26, 3)) (List.mem_of_getElem? (i := 45) rfl)
theorem dX10_size_145 : decode cX10_size 145 = .ok (.invokevirtual 259, 3) := dAX10_size (145, (.invokevirtual 259, 3)) (List.mem_of_getElem? (i := 46) rfl)
theorem dX10_size_148 : decode cX10_size 148 = .ok (.invokestatic 306, 3) := dAX10_size (148, (.invokestatic 306, 3)) (List.mem_of_getElem? (i := 47) rfl)
theorem dX10_size_151 : decode cX10_size 151 = .ok (.ireturn, 1) := dAX10_size (151, (.ireturn, 1)) (List.mem_of_getElem? (i := 48) rfl)
theorem dX10_size_152 : decode cX10_size 152 = .ok (.aload_n 0, 1) := dAX10_size (152, (.aload_n 0, 1)) (List.mem_of_getElem? (i := 49) rfl)
theorem dX10_size_153 : decode cX10_size 153 = .ok (.getfield 179, 3) := dAX10_size (153, (.getfield 179, 3)) (List.mem_of_getElem? (i := 50) rfl)
theorem dX10_size_156 : decode cX10_size 156 = .ok (.ireturn, 1) := dAX10_size (156, (.ireturn, 1)) (List.mem_of_getElem? (i := 51) rfl)
theorem dX10_size_157 : decode cX10_size 157 = .ok (.aload_n 0, 1) := dAX10_size (157, (.aload_n 0, 1)) (List.mem_of_getElem? (i := 52) rfl)
theorem dX10_size_158 : decode cX10_size 158 = .ok (.getfield 182, 3) := dAX10_size (158, (.getfield 182, 3)) (List.mem_of_getElem? (i := 53) rfl)
theorem dX10_size_161 : decode cX10_size 161 = .ok (.ireturn, 1) := dAX10_size (161, (.ireturn, 1)) (List.mem_of_getElem? (i := 54) rfl)
theorem dX10_size_162 : decode cX10_size 162 = .ok (.iconst (-1), 1) := dAX10_size (162, (.iconst (-1), 1)) (List.mem_of_getElem? (i := 55) rfl)
theorem dX10_size_163 : decode cX10_size 163 = .ok (.ireturn, 1) := dAX10_size (163, (.ireturn, 1)) (List.mem_of_getElem? (i := 56) rfl)
set_option maxRecDepth 20000 in
theorem ggX10_size_X10_in : GoodIn wsX10_size wsX10_in := goodIn_r _ [11] rfl (by decide +kernel)
set_option maxRecDepth 20000 in
theorem gX10_size_X10_in : GoodIn wsX10_size (va_wsS RX10 144 yX10_in wsX10_in) := goodIn_app (goodIn_of _ (by decide +kernel)) ggX10_size_X10_in
set_option maxRecDepth 20000 in
theorem ggX10_size_X10_thereOf : GoodIn wsX10_size wsX10_thereOf := goodIn_r _ [15, 4, 16, 17, 10, 18, 22, 23, 24, 25, 26, 27, 28, 29, 30, 31, 32, 33, 34, 35, 36, 37, 38, 39, 40, 41, 42, 43, 44, 45, 46, 47, 48, 49, 50, 51, 52, 53, 54, 55, 56] rfl (by decide +kernel)
set_option maxRecDepth 20000 in
theorem gX10_size_X10_thereOf : GoodIn wsX10_size (wsV RX10 259 RX10 yX10_thereOf wsX10_thereOf) := goodIn_app (goodIn_of _ (by decide +kernel)) ggX10_size_X10_thereOf
set_option maxRecDepth 20000 in
theorem ggX10_size_X10_ones : GoodIn wsX10_size wsX10_ones := goodIn_r _ [21] rfl (by decide +kernel)
set_option maxRecDepth 20000 in
theorem gX10_size_X10_ones : GoodIn wsX10_size (va_wsS RX10 306 yX10_ones wsX10_ones) := goodIn_app (goodIn_of _ (by decide +kernel)) ggX10_size_X10_ones
theorem kX10_size_53 : Cond.fieldLink RX10 53 "EveningVowModel" "thrown" "I" ∈ wsX10_size := List.mem_of_getElem? (i := 1) rfl
theorem iX10_size_X10 : ∀ w ∈ u_ws RX10 TX10 35, w ∈ wsX10_size := fun w h => (List.mem_cons_of_mem _ (List.mem_append_right _ h))
theorem kX10_size_176 : Cond.fieldLink RX10 176 "EveningVowModel" "hasEvening" "Z" ∈ wsX10_size := List.mem_of_getElem? (i := 3) rfl
theorem kX10_size_26 : Cond.fieldLink RX10 26 "EveningVowModel" "st" "[I" ∈ wsX10_size := List.mem_of_getElem? (i := 5) rfl
theorem kX10_size_179 : Cond.fieldLink RX10 179 "EveningVowModel" "undos" "I" ∈ wsX10_size := List.mem_of_getElem? (i := 6) rfl
theorem kX10_size_182 : Cond.fieldLink RX10 182 "EveningVowModel" "images" "I" ∈ wsX10_size := List.mem_of_getElem? (i := 7) rfl
theorem kX10_size_20 : Cond.fieldLink RX10 20 "EveningVowModel" "\x72" "[I" ∈ wsX10_size := List.mem_of_getElem? (i := 4) rfl
theorem kX10_size_59 : Cond.fieldLink RX10 59 "EveningVowModel" "taped" "I" ∈ wsX10_size := List.mem_of_getElem? (i := 2) rfl
set_option maxHeartbeats 4000000 in
set_option maxRecDepth 100000 in
theorem mX10_size (l : Launch) (g : GG) (a_t : Nat) (p_t : Nat → Nat) (n : Nat) (x1 : Int32) (o_t : Nat → Int32) (f_t_15 : Nat → Int32) (f_t_17 : Nat → Int32) (r : Int32) (o_t' : Nat → Int32) (hF : fX10_size n x1 o_t f_t_15 f_t_17 = some (r, o_t')) : MI l g yX10_size wsX10_size ({ frames := 2, cells := 0, slots := 0, locals := 44 } : Room) [.ref a_t, .int x1] [oX10 a_t p_t o_t, aI g (p_t 15) 266 f_t_15, aI g (p_t 17) 17 f_t_17] r [oX10 a_t p_t o_t', aI g (p_t 15) 266 f_t_15, aI g (p_t 17) 17 f_t_17] := by
  refine MI.of (cc := cX10_size) (maxL := 2) (rt := .int) (own := RX10) rfl rfl (by decide) (Nat.le_of_ble_eq_true rfl) ?_
  intro p e s m args below meth c A C0 hP hD hS ls hl
  obtain ⟨hx, hb, hml, hown, hts, hr, hlk, hK, hA, hSW⟩ := id C0
  have hl : lv_has ls 2 [(0, .ref a_t), (1, .int x1)] := hl
  rw [fX10_size] at hF
  refine lv_aload_n hx hb dX10_size_0 rfl (lv_at hl 0 rfl) ?_
  refine lv_iconst (v := (0 : Int32)) hx hb dX10_size_1 (by decide) ?_
  refine va_put (D := g.1) (ci := 10) (v := .int (0 : Int32)) (ty := .int) (C := RX10) (T := TX10) (N := 35) hx hb hts iX10_size_X10 tyX10 tyX10_ok nmX10 hown hK.1 hP hD hS 0 rfl rfl 0 (by decide) (hts _ kX10_size_53) (fun _ h9 => h9) rfl (by decide +kernel) rfl rfl (Nat.le_of_ble_eq_true rfl) dX10_size_2 (fun H locs hP hD hS => ?_)
  have hP : va_P g.1 vwCl [oX10 a_t p_t (upd o_t 0 (0 : Int32)), aI g (p_t 15) 266 f_t_15, aI g (p_t 17) 17 f_t_17] H := hP
  have hD : va_D A [oX10 a_t p_t (upd o_t 0 (0 : Int32)), aI g (p_t 15) 266 f_t_15, aI g (p_t 17) 17 f_t_17] := hD
  refine lv_iload_n hx hb dX10_size_5 rfl (lv_at hl 1 rfl) ?_
  refine lv_bipush (v := (13 : Int32)) hx hb dX10_size_6 (by decide) ?_
  refine lv_icmp_ne (tgt := 16) hx hb dX10_size_8 (by decide) (fun c_1 => ?_) (fun c_1 => ?_)
  · have hF := it_n c_1 hF
    refine lv_aload_n hx hb dX10_size_16 rfl (lv_at hl 0 rfl) ?_
    refine va_get (D := g.1) (ci := 10) (v := .int (o_t 14)) (C := RX10) (T := TX10) (N := 35) hx hb hts iX10_size_X10 hown hK.1 hP 0 rfl rfl 14 (by decide) (hts _ kX10_size_176) (fun _ h9 => h9) rfl dX10_size_17 ?_
    refine lv_if_ne (tgt := 39) hx hb dX10_size_20 (by decide) (fun c_2 => ?_) (fun c_2 => ?_)
    · have hF := it_n c_2 hF
      refine lv_iload_n hx hb dX10_size_39 rfl (lv_at hl 1 rfl) ?_
      refine lv_iconst (v := (1 : Int32)) hx hb dX10_size_40 (by decide) ?_
      refine lv_bipush (v := (8 : Int32)) hx hb dX10_size_41 (by decide) ?_
      obtain ⟨u_3, hu_4, hF⟩ := ob1_some hF
      refine call_si (wr := [oX10 a_t p_t (upd o_t 0 (0 : Int32)), aI g (p_t 15) 266 f_t_15, aI g (p_t 17) 17 f_t_17]) (As := [.int x1, .int (1 : Int32), .int (8 : Int32)]) (rest := []) C0 (mX10_in l g n x1 (1 : Int32) (8 : Int32) u_3 hu_4) (va_cwS 3 hts gX10_size_X10_in rfl rfl rfl (by decide +kernel) ⟨Nat.le_of_ble_eq_true rfl, Nat.le_of_ble_eq_true rfl⟩) hP hD hS [] [0, 1, 2] rfl rfl rfl rfl rfl (by decide) hl.1 rfl rfl (Nat.le_of_ble_eq_true rfl) ⟨Nat.zero_le _, Nat.zero_le _⟩ dX10_size_43 ?_
      intro H locs hP hD hS
      refine lv_if_eq (tgt := 56) hx hb dX10_size_46 (by decide) (fun c_5 => ?_) (fun c_5 => ?_)
      · have hF := it_p c_5 hF
        refine lv_iload_n hx hb dX10_size_56 rfl (lv_at hl 1 rfl) ?_
        by_cases c_6 : x1 = (0 : Int32)
        · have hF := it_p c_6 hF
          refine lv_tableIn (off := 67) (tgt := 124) hx hb dX10_size_57 (by rw [c_6]; decide) (by rw [c_6]; decide) (by rw [c_6]; rfl) (by decide) ?_
          refine lv_aload_n hx hb dX10_size_124 rfl (lv_at hl 0 rfl) ?_
          refine va_get (D := g.1) (ci := 10) (v := .ref (p_t 17)) (C := RX10) (T := TX10) (N := 35) hx hb hts iX10_size_X10 hown hK.1 hP 0 rfl rfl 17 (by decide) (hts _ kX10_size_26) (fun _ h9 => h9) rfl dX10_size_125 ?_
          refine lv_bipush (v := (15 : Int32)) hx hb dX10_size_128 (by decide) ?_
          refine va_iald_k (j := 15) hx hb hK.1 hP 2 0 rfl rfl (by unfold vp_in; decide) rfl dX10_size_130 ?_
          cases hF
          exact ret_i C0 hP hD hS [0, 1, 2] rfl rfl rfl dX10_size_131 rfl
        have hF := it_n c_6 hF
        by_cases c_7 : x1 = (1 : Int32)
        · have hF := it_p c_7 hF
          refine lv_tableIn (off := 105) (tgt := 162) hx hb dX10_size_57 (by rw [c_7]; decide) (by rw [c_7]; decide) (by rw [c_7]; rfl) (by decide) ?_
          refine lv_iconst (v := (-1 : Int32)) hx hb dX10_size_162 (by decide) ?_
          cases hF
          exact ret_i C0 hP hD hS [0, 1, 2] rfl rfl rfl dX10_size_163 rfl
        have hF := it_n c_7 hF
        by_cases c_8 : x1 = (2 : Int32)
        · have hF := it_p c_8 hF
          refine lv_tableIn (off := 105) (tgt := 162) hx hb dX10_size_57 (by rw [c_8]; decide) (by rw [c_8]; decide) (by rw [c_8]; rfl) (by decide) ?_
          refine lv_iconst (v := (-1 : Int32)) hx hb dX10_size_162 (by decide) ?_
          cases hF
          exact ret_i C0 hP hD hS [0, 1, 2] rfl rfl rfl dX10_size_163 rfl
        have hF := it_n c_8 hF
        by_cases c_9 : x1 = (3 : Int32)
        · have hF := it_p c_9 hF
          refine lv_tableIn (off := 105) (tgt := 162) hx hb dX10_size_57 (by rw [c_9]; decide) (by rw [c_9]; decide) (by rw [c_9]; rfl) (by decide) ?_
          refine lv_iconst (v := (-1 : Int32)) hx hb dX10_size_162 (by decide) ?_
          cases hF
          exact ret_i C0 hP hD hS [0, 1, 2] rfl rfl rfl dX10_size_163 rfl
        have hF := it_n c_9 hF
        by_cases c_10 : x1 = (4 : Int32)
        · have hF := it_p c_10 hF
          refine lv_tableIn (off := 105) (tgt := 162) hx hb dX10_size_57 (by rw [c_10]; decide) (by rw [c_10]; decide) (by rw [c_10]; rfl) (by decide) ?_
          refine lv_iconst (v := (-1 : Int32)) hx hb dX10_size_162 (by decide) ?_
          cases hF
          exact ret_i C0 hP hD hS [0, 1, 2] rfl rfl rfl dX10_size_163 rfl
        have hF := it_n c_10 hF
        by_cases c_11 : x1 = (5 : Int32)
        · have hF := it_p c_11 hF
          refine lv_tableIn (off := 105) (tgt := 162) hx hb dX10_size_57 (by rw [c_11]; decide) (by rw [c_11]; decide) (by rw [c_11]; rfl) (by decide) ?_
          refine lv_iconst (v := (-1 : Int32)) hx hb dX10_size_162 (by decide) ?_
          cases hF
          exact ret_i C0 hP hD hS [0, 1, 2] rfl rfl rfl dX10_size_163 rfl
        have hF := it_n c_11 hF
        by_cases c_12 : x1 = (6 : Int32)
        · have hF := it_p c_12 hF
          refine lv_tableIn (off := 105) (tgt := 162) hx hb dX10_size_57 (by rw [c_12]; decide) (by rw [c_12]; decide) (by rw [c_12]; rfl) (by decide) ?_
          refine lv_iconst (v := (-1 : Int32)) hx hb dX10_size_162 (by decide) ?_
          cases hF
          exact ret_i C0 hP hD hS [0, 1, 2] rfl rfl rfl dX10_size_163 rfl
        have hF := it_n c_12 hF
        by_cases c_13 : x1 = (7 : Int32)
        · have hF := it_p c_13 hF
          refine lv_tableIn (off := 105) (tgt := 162) hx hb dX10_size_57 (by rw [c_13]; decide) (by rw [c_13]; decide) (by rw [c_13]; rfl) (by decide) ?_
          refine lv_iconst (v := (-1 : Int32)) hx hb dX10_size_162 (by decide) ?_
          cases hF
          exact ret_i C0 hP hD hS [0, 1, 2] rfl rfl rfl dX10_size_163 rfl
        have hF := it_n c_13 hF
        by_cases c_14 : x1 = (8 : Int32)
        · have hF := it_p c_14 hF
          refine lv_tableIn (off := 105) (tgt := 162) hx hb dX10_size_57 (by rw [c_14]; decide) (by rw [c_14]; decide) (by rw [c_14]; rfl) (by decide) ?_
          refine lv_iconst (v := (-1 : Int32)) hx hb dX10_size_162 (by decide) ?_
          cases hF
          exact ret_i C0 hP hD hS [0, 1, 2] rfl rfl rfl dX10_size_163 rfl
        have hF := it_n c_14 hF
        by_cases c_15 : x1 = (9 : Int32)
        · have hF := it_p c_15 hF
          refine lv_tableIn (off := 75) (tgt := 132) hx hb dX10_size_57 (by rw [c_15]; decide) (by rw [c_15]; decide) (by rw [c_15]; rfl) (by decide) ?_
          refine lv_aload_n hx hb dX10_size_132 rfl (lv_at hl 0 rfl) ?_
          refine va_get (D := g.1) (ci := 10) (v := .ref (p_t 17)) (C := RX10) (T := TX10) (N := 35) hx hb hts iX10_size_X10 hown hK.1 hP 0 rfl rfl 17 (by decide) (hts _ kX10_size_26) (fun _ h9 => h9) rfl dX10_size_133 ?_
          refine lv_bipush (v := (14 : Int32)) hx hb dX10_size_136 (by decide) ?_
          refine va_iald_k (j := 14) hx hb hK.1 hP 2 0 rfl rfl (by unfold vp_in; decide) rfl dX10_size_138 ?_
          cases hF
          exact ret_i C0 hP hD hS [0, 1, 2] rfl rfl rfl dX10_size_139 rfl
        have hF := it_n c_15 hF
        by_cases c_16 : x1 = (10 : Int32)
        · have hF := it_p c_16 hF
          refine lv_tableIn (off := 83) (tgt := 140) hx hb dX10_size_57 (by rw [c_16]; decide) (by rw [c_16]; decide) (by rw [c_16]; rfl) (by decide) ?_
          refine lv_aload_n hx hb dX10_size_140 rfl (lv_at hl 0 rfl) ?_
          refine lv_aload_n hx hb dX10_size_141 rfl (lv_at hl 0 rfl) ?_
          refine va_get (D := g.1) (ci := 10) (v := .ref (p_t 17)) (C := RX10) (T := TX10) (N := 35) hx hb hts iX10_size_X10 hown hK.1 hP 0 rfl rfl 17 (by decide) (hts _ kX10_size_26) (fun _ h9 => h9) rfl dX10_size_142 ?_
          obtain ⟨u_17, hu_18, hF⟩ := ob1_some hF
          refine call_i (wr := []) (As := [.ref (p_t 17)]) (rest := []) (ci := 10) (q0 := 0) C0 (mX10_thereOf l g a_t (p_t 17) p_t n (upd o_t 0 (0 : Int32)) f_t_15 f_t_17 u_17 hu_18) (cwV 1 hts gX10_size_X10_thereOf rfl rfl rfl (by decide +kernel) ⟨Nat.le_of_ble_eq_true rfl, Nat.le_of_ble_eq_true rfl⟩) hP hD hS [0, 1, 2] [] rfl rfl rfl rfl rfl (by decide) rfl rfl hl.1 rfl rfl (Nat.le_of_ble_eq_true rfl) ⟨Nat.zero_le _, Nat.zero_le _⟩ dX10_size_145 ?_
          intro H locs hP hD hS
          obtain ⟨u_19, hu_20, hF⟩ := ob1_some hF
          refine call_si (wr := [oX10 a_t p_t (upd o_t 0 (0 : Int32)), aI g (p_t 15) 266 f_t_15, aI g (p_t 17) 17 f_t_17]) (As := [.int u_17]) (rest := []) C0 (mX10_ones l g n u_17 u_19 hu_20) (va_cwS 1 hts gX10_size_X10_ones rfl rfl rfl (by decide +kernel) ⟨Nat.le_of_ble_eq_true rfl, Nat.le_of_ble_eq_true rfl⟩) hP hD hS [] [0, 1, 2] rfl rfl rfl rfl rfl (by decide) hl.1 rfl rfl (Nat.le_of_ble_eq_true rfl) ⟨Nat.zero_le _, Nat.zero_le _⟩ dX10_size_148 ?_
          intro H locs hP hD hS
          cases hF
          exact ret_i C0 hP hD hS [0, 1, 2] rfl rfl rfl dX10_size_151 rfl
        have hF := it_n c_16 hF
        by_cases c_21 : x1 = (11 : Int32)
        · have hF := it_p c_21 hF
          refine lv_tableIn (off := 95) (tgt := 152) hx hb dX10_size_57 (by rw [c_21]; decide) (by rw [c_21]; decide) (by rw [c_21]; rfl) (by decide) ?_
          refine lv_aload_n hx hb dX10_size_152 rfl (lv_at hl 0 rfl) ?_
          refine va_get (D := g.1) (ci := 10) (v := .int (o_t 20)) (C := RX10) (T := TX10) (N := 35) hx hb hts iX10_size_X10 hown hK.1 hP 0 rfl rfl 20 (by decide) (hts _ kX10_size_179) (fun _ h9 => h9) rfl dX10_size_153 ?_
          cases hF
          exact ret_i C0 hP hD hS [0, 1, 2] rfl rfl rfl dX10_size_156 rfl
        have hF := it_n c_21 hF
        by_cases c_22 : x1 = (12 : Int32)
        · have hF := it_p c_22 hF
          refine lv_tableIn (off := 100) (tgt := 157) hx hb dX10_size_57 (by rw [c_22]; decide) (by rw [c_22]; decide) (by rw [c_22]; rfl) (by decide) ?_
          refine lv_aload_n hx hb dX10_size_157 rfl (lv_at hl 0 rfl) ?_
          refine va_get (D := g.1) (ci := 10) (v := .int (o_t 21)) (C := RX10) (T := TX10) (N := 35) hx hb hts iX10_size_X10 hown hK.1 hP 0 rfl rfl 21 (by decide) (hts _ kX10_size_182) (fun _ h9 => h9) rfl dX10_size_158 ?_
          cases hF
          exact ret_i C0 hP hD hS [0, 1, 2] rfl rfl rfl dX10_size_161 rfl
        have hF := it_n c_22 hF
        have tc_6 := lv_neT (a := 0) c_6 (by decide)
        have tc_7 := lv_neT (a := 1) c_7 (by decide)
        have tc_8 := lv_neT (a := 2) c_8 (by decide)
        have tc_9 := lv_neT (a := 3) c_9 (by decide)
        have tc_10 := lv_neT (a := 4) c_10 (by decide)
        have tc_11 := lv_neT (a := 5) c_11 (by decide)
        have tc_12 := lv_neT (a := 6) c_12 (by decide)
        have tc_13 := lv_neT (a := 7) c_13 (by decide)
        have tc_14 := lv_neT (a := 8) c_14 (by decide)
        have tc_15 := lv_neT (a := 9) c_15 (by decide)
        have tc_16 := lv_neT (a := 10) c_16 (by decide)
        have tc_21 := lv_neT (a := 11) c_21 (by decide)
        have tc_22 := lv_neT (a := 12) c_22 (by decide)
        refine lv_tableOut (tgt := 162) hx hb dX10_size_57 (by omega) (by decide) ?_
        refine lv_iconst (v := (-1 : Int32)) hx hb dX10_size_162 (by decide) ?_
        cases hF
        exact ret_i C0 hP hD hS [0, 1, 2] rfl rfl rfl dX10_size_163 rfl
      · have hF := it_n c_5 hF
        refine lv_aload_n hx hb dX10_size_49 rfl (lv_at hl 0 rfl) ?_
        refine va_get (D := g.1) (ci := 10) (v := .ref (p_t 15)) (C := RX10) (T := TX10) (N := 35) hx hb hts iX10_size_X10 hown hK.1 hP 0 rfl rfl 15 (by decide) (hts _ kX10_size_20) (fun _ h9 => h9) rfl dX10_size_50 ?_
        refine lv_iload_n hx hb dX10_size_53 rfl (lv_at hl 1 rfl) ?_
        obtain ⟨h_23, hF⟩ := it_ck hF
        refine va_iald hx hb hK.1 hP 1 0 rfl rfl h_23 dX10_size_54 ?_
        cases hF
        exact ret_i C0 hP hD hS [0, 1, 2] rfl rfl rfl dX10_size_55 rfl
    · have hF := it_p c_2 hF
      refine lv_iload_n hx hb dX10_size_23 rfl (lv_at hl 1 rfl) ?_
      refine lv_iconst (v := (0 : Int32)) hx hb dX10_size_24 (by decide) ?_
      refine lv_bipush (v := (12 : Int32)) hx hb dX10_size_25 (by decide) ?_
      obtain ⟨u_24, hu_25, hF⟩ := ob1_some hF
      refine call_si (wr := [oX10 a_t p_t (upd o_t 0 (0 : Int32)), aI g (p_t 15) 266 f_t_15, aI g (p_t 17) 17 f_t_17]) (As := [.int x1, .int (0 : Int32), .int (12 : Int32)]) (rest := []) C0 (mX10_in l g n x1 (0 : Int32) (12 : Int32) u_24 hu_25) (va_cwS 3 hts gX10_size_X10_in rfl rfl rfl (by decide +kernel) ⟨Nat.le_of_ble_eq_true rfl, Nat.le_of_ble_eq_true rfl⟩) hP hD hS [] [0, 1, 2] rfl rfl rfl rfl rfl (by decide) hl.1 rfl rfl (Nat.le_of_ble_eq_true rfl) ⟨Nat.zero_le _, Nat.zero_le _⟩ dX10_size_27 ?_
      intro H locs hP hD hS
      refine lv_if_eq (tgt := 37) hx hb dX10_size_30 (by decide) (fun c_26 => ?_) (fun c_26 => ?_)
      · have hF := it_p c_26 hF
        refine lv_iconst (v := (-1 : Int32)) hx hb dX10_size_37 (by decide) ?_
        cases hF
        exact ret_i C0 hP hD hS [0, 1, 2] rfl rfl rfl dX10_size_38 rfl
      · have hF := it_n c_26 hF
        refine lv_iconst (v := (0 : Int32)) hx hb dX10_size_33 (by decide) ?_
        refine lv_goto (tgt := 38) hx hb dX10_size_34 (by decide) ?_
        cases hF
        exact ret_i C0 hP hD hS [0, 1, 2] rfl rfl rfl dX10_size_38 rfl
  · have hF := it_p c_1 hF
    refine lv_aload_n hx hb dX10_size_11 rfl (lv_at hl 0 rfl) ?_
    refine va_get (D := g.1) (ci := 10) (v := .int (o_t 2)) (C := RX10) (T := TX10) (N := 35) hx hb hts iX10_size_X10 hown hK.1 hP 0 rfl rfl 2 (by decide) (hts _ kX10_size_59) (fun _ h9 => h9) rfl dX10_size_12 ?_
    cases hF
    exact ret_i C0 hP hD hS [0, 1, 2] rfl rfl rfl dX10_size_15 rfl

theorem dAX10_trouble : ∀ q ∈ ([(0, (.aload_n 0, 1)), (1, (.iconst 0, 1)), (2, (.putfield 53, 3)), (5, (.aload_n 0, 1)), (6, (.getfield 56, 3)), (9, (.ireturn, 1))] : List (Nat × (Instr × Nat))), decode cX10_trouble q.1 = .ok q.2 := by decide +kernel
theorem dX10_trouble_0 : decode cX10_trouble 0 = .ok (.aload_n 0, 1) := dAX10_trouble (0, (.aload_n 0, 1)) (List.mem_of_getElem? (i := 0) rfl)
theorem dX10_trouble_1 : decode cX10_trouble 1 = .ok (.iconst 0, 1) := dAX10_trouble (1, (.iconst 0, 1)) (List.mem_of_getElem? (i := 1) rfl)
theorem dX10_trouble_2 : decode cX10_trouble 2 = .ok (.putfield 53, 3) := dAX10_trouble (2, (.putfield 53, 3)) (List.mem_of_getElem? (i := 2) rfl)
theorem dX10_trouble_5 : decode cX10_trouble 5 = .ok (.aload_n 0, 1) := dAX10_trouble (5, (.aload_n 0, 1)) (List.mem_of_getElem? (i := 3) rfl)
theorem dX10_trouble_6 : decode cX10_trouble 6 = .ok (.getfield 56, 3) := dAX10_trouble (6, (.getfield 56, 3)) (List.mem_of_getElem? (i := 4) rfl)
theorem dX10_trouble_9 : decode cX10_trouble 9 = .ok (.ireturn, 1) := dAX10_trouble (9, (.ireturn, 1)) (List.mem_of_getElem? (i := 5) rfl)
theorem kX10_trouble_53 : Cond.fieldLink RX10 53 "EveningVowModel" "thrown" "I" ∈ wsX10_trouble := List.mem_of_getElem? (i := 1) rfl
theorem iX10_trouble_X10 : ∀ w ∈ u_ws RX10 TX10 35, w ∈ wsX10_trouble := fun w h => (List.mem_cons_of_mem _ (List.mem_append_right _ h))
theorem kX10_trouble_56 : Cond.fieldLink RX10 56 "EveningVowModel" "trouble" "I" ∈ wsX10_trouble := List.mem_of_getElem? (i := 2) rfl
set_option maxHeartbeats 4000000 in
set_option maxRecDepth 100000 in
theorem mX10_trouble (l : Launch) (g : GG) (a_t : Nat) (p_t : Nat → Nat) (n : Nat) (o_t : Nat → Int32) (r : Int32) (o_t' : Nat → Int32) (hF : fX10_trouble n o_t = some (r, o_t')) : MI l g yX10_trouble wsX10_trouble ({ frames := 0, cells := 0, slots := 0, locals := 0 } : Room) [.ref a_t] [oX10 a_t p_t o_t] r [oX10 a_t p_t o_t'] := by
  refine MI.of (cc := cX10_trouble) (maxL := 1) (rt := .int) (own := RX10) rfl rfl (by decide) (Nat.le_of_ble_eq_true rfl) ?_
  intro p e s m args below meth c A C0 hP hD hS ls hl
  obtain ⟨hx, hb, hml, hown, hts, hr, hlk, hK, hA, hSW⟩ := id C0
  have hl : lv_has ls 1 [(0, .ref a_t)] := hl
  rw [fX10_trouble] at hF
  refine lv_aload_n hx hb dX10_trouble_0 rfl (lv_at hl 0 rfl) ?_
  refine lv_iconst (v := (0 : Int32)) hx hb dX10_trouble_1 (by decide) ?_
  refine va_put (D := g.1) (ci := 10) (v := .int (0 : Int32)) (ty := .int) (C := RX10) (T := TX10) (N := 35) hx hb hts iX10_trouble_X10 tyX10 tyX10_ok nmX10 hown hK.1 hP hD hS 0 rfl rfl 0 (by decide) (hts _ kX10_trouble_53) (fun _ h9 => h9) rfl (by decide +kernel) rfl rfl (Nat.le_of_ble_eq_true rfl) dX10_trouble_2 (fun H locs hP hD hS => ?_)
  have hP : va_P g.1 vwCl [oX10 a_t p_t (upd o_t 0 (0 : Int32))] H := hP
  have hD : va_D A [oX10 a_t p_t (upd o_t 0 (0 : Int32))] := hD
  refine lv_aload_n hx hb dX10_trouble_5 rfl (lv_at hl 0 rfl) ?_
  refine va_get (D := g.1) (ci := 10) (v := .int (o_t 11)) (C := RX10) (T := TX10) (N := 35) hx hb hts iX10_trouble_X10 hown hK.1 hP 0 rfl rfl 11 (by decide) (hts _ kX10_trouble_56) (fun _ h9 => h9) rfl dX10_trouble_6 ?_
  cases hF
  exact ret_i C0 hP hD hS [0] rfl rfl rfl dX10_trouble_9 rfl

