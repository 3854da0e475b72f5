theorem dAX9_feed : ∀ q ∈ ([(0, (.aload_n 0, 1)), (1, (.getfield 12, 3)), (4, (.getfield 91, 3)), (7, (.bipush 20, 2)), (9, (.iadd, 1)), (10, (.sipush 800, 3)), (13, (.if_icmp .le 5, 3)), (16, (.iconst (-1), 1)), (17, (.ireturn, 1)), (18, (.aload_n 0, 1)), (19, (.getfield 12, 3)), (22, (.iload_n 1, 1)), (23, (.invokevirtual 94, 3)), (26, (.aload_n 0, 1)), (27, (.getfield 12, 3)), (30, (.iload_n 2, 1)), (31, (.invokevirtual 94, 3)), (34, (.aload_n 0, 1)), (35, (.getfield 12, 3)), (38, (.iload_n 3, 1)), (39, (.invokevirtual 94, 3)), (42, (.aload_n 0, 1)), (43, (.getfield 12, 3)), (46, (.iload 4, 2)), (48, (.invokevirtual 94, 3)), (51, (.aload_n 0, 1)), (52, (.getfield 12, 3)), (55, (.iload 5, 2)), (57, (.invokevirtual 94, 3)), (60, (.aload_n 0, 1)), (61, (.getfield 12, 3)), (64, (.getfield 91, 3)), (67, (.ireturn, 1))] : List (Nat × (Instr × Nat))), decode cX9_feed q.1 = .ok q.2 := by decide +kernel
theorem dX9_feed_0 : decode cX9_feed 0 = .ok (.aload_n 0, 1) := dAX9_feed (0, (.aload_n 0, 1)) (List.mem_of_getElem? (i := 0) rfl)
theorem dX9_feed_1 : decode cX9_feed 1 = .ok (.getfield 12, 3) := dAX9_feed (1, (.getfield 12, 3)) (List.mem_of_getElem? (i := 1) rfl)
theorem dX9_feed_4 : decode cX9_feed 4 = .ok (.getfield 91, 3) := dAX9_feed (4, (.getfield 91, 3)) (List.mem_of_getElem? (i := 2) rfl)
theorem dX9_feed_7 : decode cX9_feed 7 = .ok (.bipush 20, 2) := dAX9_feed (7, (.bipush 20, 2)) (List.mem_of_getElem? (i := 3) rfl)
theorem dX9_feed_9 : decode cX9_feed 9 = .ok (.iadd, 1) := dAX9_feed (9, (.iadd, 1)) (List.mem_of_getElem? (i := 4) rfl)
theorem dX9_feed_10 : decode cX9_feed 10 = .ok (.sipush 800, 3) := dAX9_feed (10, (.sipush 800, 3)) (List.mem_of_getElem? (i := 5) rfl)
theorem dX9_feed_13 : decode cX9_feed 13 = .ok (.if_icmp .le 5, 3) := dAX9_feed (13, (.if_icmp .le 5, 3)) (List.mem_of_getElem? (i := 6) rfl)
theorem dX9_feed_16 : decode cX9_feed 16 = .ok (.iconst (-1), 1) := dAX9_feed (16, (.iconst (-1), 1)) (List.mem_of_getElem? (i := 7) rfl)
theorem dX9_feed_17 : decode cX9_feed 17 = .ok (.ireturn, 1) := dAX9_feed (17, (.ireturn, 1)) (List.mem_of_getElem? (i := 8) rfl)
theorem dX9_feed_18 : decode cX9_feed 18 = .ok (.aload_n 0, 1) := dAX9_feed (18, (.aload_n 0, 1)) (List.mem_of_getElem? (i := 9) rfl)
theorem dX9_feed_19 : decode cX9_feed 19 = .ok (.getfield 12, 3) := dAX9_feed (19, (.getfield 12, 3)) (List.mem_of_getElem? (i := 10) rfl)
theorem dX9_feed_22 : decode cX9_feed 22 = .ok (.iload_n 1, 1) := dAX9_feed (22, (.iload_n 1, 1)) (List.mem_of_getElem? (i := 11) rfl)
theorem dX9_feed_23 : decode cX9_feed 23 = .ok (.invokevirtual 94, 3) := dAX9_feed (23, (.invokevirtual 94, 3)) (List.mem_of_getElem? (i := 12) rfl)
theorem dX9_feed_26 : decode cX9_feed 26 = .ok (.aload_n 0, 1) := dAX9_feed (26, (.aload_n 0, 1)) (List.mem_of_getElem? (i := 13) rfl)
theorem dX9_feed_27 : decode cX9_feed 27 = .ok (.getfield 12, 3) := dAX9_feed (27, (.getfield 12, 3)) (List.mem_of_getElem? (i := 14) rfl)
theorem dX9_feed_30 : decode cX9_feed 30 = .ok (.iload_n 2, 1) := dAX9_feed (30, (.iload_n 2, 1)) (List.mem_of_getElem? (i := 15) rfl)
theorem dX9_feed_31 : decode cX9_feed 31 = .ok (.invokevirtual 94, 3) := dAX9_feed (31, (.invokevirtual 94, 3)) (List.mem_of_getElem? (i := 16) rfl)
theorem dX9_feed_34 : decode cX9_feed 34 = .ok (.aload_n 0, 1) := dAX9_feed (34, (.aload_n 0, 1)) (List.mem_of_getElem? (i := 17) rfl)
theorem dX9_feed_35 : decode cX9_feed 35 = .ok (.getfield 12, 3) := dAX9_feed (35, (.getfield 12, 3)) (List.mem_of_getElem? (i := 18) rfl)
theorem dX9_feed_38 : decode cX9_feed 38 = .ok (.iload_n 3, 1) := dAX9_feed (38, (.iload_n 3, 1)) (List.mem_of_getElem? (i := 19) rfl)
theorem dX9_feed_39 : decode cX9_feed 39 = .ok (.invokevirtual 94, 3) := dAX9_feed (39, (.invokevirtual 94, 3)) (List.mem_of_getElem? (i := 20) rfl)
theorem dX9_feed_42 : decode cX9_feed 42 = .ok (.aload_n 0, 1) := dAX9_feed (42, (.aload_n 0, 1)) (List.mem_of_getElem? (i := 21) rfl)
theorem dX9_feed_43 : decode cX9_feed 43 = .ok (.getfield 12, 3) := dAX9_feed (43, (.getfield 12, 3)) (List.mem_of_getElem? (i := 22) rfl)
theorem dX9_feed_46 : decode cX9_feed 46 = .ok (.iload 4, 2) := dAX9_feed (46, (.iload 4, 2)) (List.mem_of_getElem? (i := 23) rfl)
theorem dX9_feed_48 : decode cX9_feed 48 = .ok (.invokevirtual 94, 3) := dAX9_feed (48, (.invokevirtual 94, 3)) (List.mem_of_getElem? (i := 24) rfl)
theorem dX9_feed_51 : decode cX9_feed 51 = .ok (.aload_n 0, 1) := dAX9_feed (51, (.aload_n 0, 1)) (List.mem_of_getElem? (i := 25) rfl)
theorem dX9_feed_52 : decode cX9_feed 52 = .ok (.getfield 12, 3) := dAX9_feed (52, (.getfield 12, 3)) (List.mem_of_getElem? (i := 26) rfl)
theorem dX9_feed_55 : decode cX9_feed 55 = .ok (.iload 5, 2) := dAX9_feed (55, (.iload 5, 2)) (List.mem_of_getElem? (i := 27) rfl)
theorem dX9_feed_57 : decode cX9_feed 57 = .ok (.invokevirtual 94, 3) := dAX9_feed (57, (.invokevirtual 94, 3)) (List.mem_of_getElem? (i := 28) rfl)
theorem dX9_feed_60 : decode cX9_feed 60 = .ok (.aload_n 0, 1) := dAX9_feed (60, (.aload_n 0, 1)) (List.mem_of_getElem? (i := 29) rfl)
theorem dX9_feed_61 : decode cX9_feed 61 = .ok (.getfield 12, 3) := dAX9_feed (61, (.getfield 12, 3)) (List.mem_of_getElem? (i := 30) rfl)
theorem dX9_feed_64 : decode cX9_feed 64 = .ok (.getfield 91, 3) := dAX9_feed (64, (.getfield 91, 3)) (List.mem_of_getElem? (i := 31) rfl)
theorem dX9_feed_67 : decode cX9_feed 67 = .ok (.ireturn, 1) := dAX9_feed (67, (.ireturn, 1)) (List.mem_of_getElem? (i := 32) rfl)
set_option maxRecDepth 20000 in
theorem ggX9_feed_X5_putNumber : GoodIn wsX9_feed wsX5_putNumber := goodIn_r _ [7, 8, 9, 25, 26, 27, 28, 29, 30, 31, 32, 33, 34, 35, 36, 37, 38, 39] rfl (by decide +kernel)
set_option maxRecDepth 20000 in
theorem gX9_feed_X5_putNumber : GoodIn wsX9_feed (wsV RX9 94 RX5 yX5_putNumber wsX5_putNumber) := goodIn_app (goodIn_of _ (by decide +kernel)) ggX9_feed_X5_putNumber
theorem kX9_feed_12 : Cond.fieldLink RX9 12 "EveningVow" "reader" "LEveningVow$Reader;" ∈ wsX9_feed := List.mem_of_getElem? (i := 1) rfl
theorem iX9_feed_X9 : ∀ w ∈ u_ws RX9 TX9 15, w ∈ wsX9_feed := fun w h => (List.mem_cons_of_mem _ (List.mem_append_left _ (List.mem_append_right _ h)))
theorem kX9_feed_91 : Cond.fieldLink RX9 91 "EveningVow$Reader" "tapeBytes" "I" ∈ wsX9_feed := List.mem_of_getElem? (i := 2) rfl
theorem iX9_feed_X5 : ∀ w ∈ u_ws RX5 TX5 15, w ∈ wsX9_feed := fun w h => (List.mem_cons_of_mem _ (List.mem_append_right _ h))
set_option maxHeartbeats 4000000 in
set_option maxRecDepth 100000 in
theorem mX9_feed (l : Launch) (g : GG) (a_t : Nat) (p_t : Nat → Nat) (p_t_0 : Nat → Nat) (n : Nat) (x1 : Int32) (x2 : Int32) (x3 : Int32) (x4 : Int32) (x5 : Int32) (o_t : Nat → Int32) (o_t_0 : Nat → Int32) (c_t_0 : Int64) (f_t_0_0 : Nat → Int32) (r : Int32) (o_t_0' : Nat → Int32) (c_t_0' : Int64) (f_t_0_0' : Nat → Int32) (hF : fX9_feed n x1 x2 x3 x4 x5 o_t o_t_0 c_t_0 f_t_0_0 = some (r, o_t_0', c_t_0', f_t_0_0')) : MI l g yX9_feed wsX9_feed ({ frames := 1, cells := 0, slots := 0, locals := 22 } : Room) [.ref a_t, .int x1, .int x2, .int x3, .int x4, .int x5] [oX9 a_t p_t o_t, oX5 (p_t 0) p_t_0 o_t_0 c_t_0, aI g (p_t_0 0) 800 f_t_0_0] r [oX9 a_t p_t o_t, oX5 (p_t 0) p_t_0 o_t_0' c_t_0', aI g (p_t_0 0) 800 f_t_0_0'] := by
  refine MI.of (cc := cX9_feed) (maxL := 6) (rt := .int) (own := RX9) rfl rfl (by decide) (Nat.le_of_ble_eq_true rfl) ?_
  intro p e s m args below meth c A C0 hP hD hS ls hl
  obtain ⟨hx, hb, hml, hown, hts, hr, hlk, hK, hA, hSW⟩ := id C0
  have hl : lv_has ls 6 [(0, .ref a_t), (1, .int x1), (2, .int x2), (3, .int x3), (4, .int x4), (5, .int x5)] := hl
  rw [fX9_feed] at hF
  refine lv_aload_n hx hb dX9_feed_0 rfl (lv_at hl 0 rfl) ?_
  refine va_get (D := g.1) (ci := 9) (v := .ref (p_t 0)) (C := RX9) (T := TX9) (N := 15) hx hb hts iX9_feed_X9 hown hK.1 hP 0 rfl rfl 0 (by decide) (hts _ kX9_feed_12) (fun _ h9 => h9) rfl dX9_feed_1 ?_
  refine va_get (D := g.1) (ci := 5) (v := .int (o_t_0 1)) (C := RX5) (T := TX5) (N := 15) hx hb hts iX9_feed_X5 hown hK.1 hP 1 rfl rfl 1 (by decide) (hts _ kX9_feed_91) (fun _ h9 => h9) rfl dX9_feed_4 ?_
  refine lv_bipush (v := (20 : Int32)) hx hb dX9_feed_7 (by decide) ?_
  refine lv_iadd hx hb dX9_feed_9 ?_
  refine lv_sipush (v := (800 : Int32)) hx hb dX9_feed_10 (by decide) ?_
  refine lv_icmp_le (tgt := 18) hx hb dX9_feed_13 (by decide) (fun c_1 => ?_) (fun c_1 => ?_)
  · have hF := it_p c_1 hF
    refine lv_aload_n hx hb dX9_feed_18 rfl (lv_at hl 0 rfl) ?_
    refine va_get (D := g.1) (ci := 9) (v := .ref (p_t 0)) (C := RX9) (T := TX9) (N := 15) hx hb hts iX9_feed_X9 hown hK.1 hP 0 rfl rfl 0 (by decide) (hts _ kX9_feed_12) (fun _ h9 => h9) rfl dX9_feed_19 ?_
    refine lv_iload_n hx hb dX9_feed_22 rfl (lv_at hl 1 rfl) ?_
    obtain ⟨u_2, u_3, u_4, hu_5, hF⟩ := ob3_some hF
    refine call_v (wr := [oX9 a_t p_t o_t]) (As := [.int x1]) (rest := []) (ci := 5) (q0 := 0) C0 (mX5_putNumber l g (p_t 0) p_t_0 n x1 o_t_0 c_t_0 f_t_0_0 u_2 u_3 u_4 hu_5) (cwV 1 hts gX9_feed_X5_putNumber rfl rfl rfl (by decide +kernel) ⟨Nat.le_of_ble_eq_true rfl, Nat.le_of_ble_eq_true rfl⟩) hP hD hS [1, 2] [0] rfl rfl rfl rfl rfl (by decide) rfl rfl hl.1 rfl rfl (Nat.le_of_ble_eq_true rfl) ⟨Nat.zero_le _, Nat.zero_le _⟩ dX9_feed_23 ?_
    intro H locs hP hD hS
    refine lv_aload_n hx hb dX9_feed_26 rfl (lv_at hl 0 rfl) ?_
    refine va_get (D := g.1) (ci := 9) (v := .ref (p_t 0)) (C := RX9) (T := TX9) (N := 15) hx hb hts iX9_feed_X9 hown hK.1 hP 0 rfl rfl 0 (by decide) (hts _ kX9_feed_12) (fun _ h9 => h9) rfl dX9_feed_27 ?_
    refine lv_iload_n hx hb dX9_feed_30 rfl (lv_at hl 2 rfl) ?_
    obtain ⟨u_6, u_7, u_8, hu_9, hF⟩ := ob3_some hF
    refine call_v (wr := [oX9 a_t p_t o_t]) (As := [.int x2]) (rest := []) (ci := 5) (q0 := 0) C0 (mX5_putNumber l g (p_t 0) p_t_0 n x2 u_2 u_3 u_4 u_6 u_7 u_8 hu_9) (cwV 1 hts gX9_feed_X5_putNumber rfl rfl rfl (by decide +kernel) ⟨Nat.le_of_ble_eq_true rfl, Nat.le_of_ble_eq_true rfl⟩) hP hD hS [1, 2] [0] rfl rfl rfl rfl rfl (by decide) rfl rfl hl.1 rfl rfl (Nat.le_of_ble_eq_true rfl) ⟨Nat.zero_le _, Nat.zero_le _⟩ dX9_feed_31 ?_
    intro H locs hP hD hS
    refine lv_aload_n hx hb dX9_feed_34 rfl (lv_at hl 0 rfl) ?_
    refine va_get (D := g.1) (ci := 9) (v := .ref (p_t 0)) (C := RX9) (T := TX9) (N := 15) hx hb hts iX9_feed_X9 hown hK.1 hP 0 rfl rfl 0 (by decide) (hts _ kX9_feed_12) (fun _ h9 => h9) rfl dX9_feed_35 ?_
    refine lv_iload_n hx hb dX9_feed_38 rfl (lv_at hl 3 rfl) ?_
    obtain ⟨u_10, u_11, u_12, hu_13, hF⟩ := ob3_some hF
    refine call_v (wr := [oX9 a_t p_t o_t]) (As := [.int x3]) (rest := []) (ci := 5) (q0 := 0) C0 (mX5_putNumber l g (p_t 0) p_t_0 n x3 u_6 u_7 u_8 u_10 u_11 u_12 hu_13) (cwV 1 hts gX9_feed_X5_putNumber rfl rfl rfl (by decide +kernel) ⟨Nat.le_of_ble_eq_true rfl, Nat.le_of_ble_eq_true rfl⟩) hP hD hS [1, 2] [0] rfl rfl rfl rfl rfl (by decide) rfl rfl hl.1 rfl rfl (Nat.le_of_ble_eq_true rfl) ⟨Nat.zero_le _, Nat.zero_le _⟩ dX9_feed_39 ?_
    intro H locs hP hD hS
    refine lv_aload_n hx hb dX9_feed_42 rfl (lv_at hl 0 rfl) ?_
    refine va_get (D := g.1) (ci := 9) (v := .ref (p_t 0)) (C := RX9) (T := TX9) (N := 15) hx hb hts iX9_feed_X9 hown hK.1 hP 0 rfl rfl 0 (by decide) (hts _ kX9_feed_12) (fun _ h9 => h9) rfl dX9_feed_43 ?_
    refine lv_iload hx hb dX9_feed_46 (lv_at hl 4 rfl) ?_
    obtain ⟨u_14, u_15, u_16, hu_17, hF⟩ := ob3_some hF
    refine call_v (wr := [oX9 a_t p_t o_t]) (As := [.int x4]) (rest := []) (ci := 5) (q0 := 0) C0 (mX5_putNumber l g (p_t 0) p_t_0 n x4 u_10 u_11 u_12 u_14 u_15 u_16 hu_17) (cwV 1 hts gX9_feed_X5_putNumber rfl rfl rfl (by decide +kernel) ⟨Nat.le_of_ble_eq_true rfl, Nat.le_of_ble_eq_true rfl⟩) hP hD hS [1, 2] [0] rfl rfl rfl rfl rfl (by decide) rfl rfl hl.1 rfl rfl (Nat.le_of_ble_eq_true rfl) ⟨Nat.zero_le _, Nat.zero_le _⟩ dX9_feed_48 ?_
    intro H locs hP hD hS
    refine lv_aload_n hx hb dX9_feed_51 rfl (lv_at hl 0 rfl) ?_
    refine va_get (D := g.1) (ci := 9) (v := .ref (p_t 0)) (C := RX9) (T := TX9) (N := 15) hx hb hts iX9_feed_X9 hown hK.1 hP 0 rfl rfl 0 (by decide) (hts _ kX9_feed_12) (fun _ h9 => h9) rfl dX9_feed_52 ?_
    refine lv_iload hx hb dX9_feed_55 (lv_at hl 5 rfl) ?_
    obtain ⟨u_18, u_19, u_20, hu_21, hF⟩ := ob3_some hF
    refine call_v (wr := [oX9 a_t p_t o_t]) (As := [.int x5]) (rest := []) (ci := 5) (q0 := 0) C0 (mX5_putNumber l g (p_t 0) p_t_0 n x5 u_14 u_15 u_16 u_18 u_19 u_20 hu_21) (cwV 1 hts gX9_feed_X5_putNumber rfl rfl rfl (by decide +kernel) ⟨Nat.le_of_ble_eq_true rfl, Nat.le_of_ble_eq_true rfl⟩) hP hD hS [1, 2] [0] rfl rfl rfl rfl rfl (by decide) rfl rfl hl.1 rfl rfl (Nat.le_of_ble_eq_true rfl) ⟨Nat.zero_le _, Nat.zero_le _⟩ dX9_feed_57 ?_
    intro H locs hP hD hS
    refine lv_aload_n hx hb dX9_feed_60 rfl (lv_at hl 0 rfl) ?_
    refine va_get (D := g.1) (ci := 9) (v := .ref (p_t 0)) (C := RX9) (T := TX9) (N := 15) hx hb hts iX9_feed_X9 hown hK.1 hP 0 rfl rfl 0 (by decide) (hts _ kX9_feed_12) (fun _ h9 => h9) rfl dX9_feed_61 ?_
    refine va_get (D := g.1) (ci := 5) (v := .int (u_18 1)) (C := RX5) (T := TX5) (N := 15) hx hb hts iX9_feed_X5 hown hK.1 hP 1 rfl rfl 1 (by decide) (hts _ kX9_feed_91) (fun _ h9 => h9) rfl dX9_feed_64 ?_
    cases hF
    exact ret_i C0 hP hD hS [0, 1, 2] rfl rfl rfl dX9_feed_67 rfl
  · have hF := it_n c_1 hF
    refine lv_iconst (v := (-1 : Int32)) hx hb dX9_feed_16 (by decide) ?_
    cases hF
    exact ret_i C0 hP hD hS [0, 1, 2] rfl rfl rfl dX9_feed_17 rfl

theorem dAX9_refuse : ∀ q ∈ ([(0, (.aload_n 0, 1)), (1, (.iload_n 1, 1)), (2, (.putfield 30, 3)), (5, (.iconst (-1), 1)), (6, (.ireturn, 1))] : List (Nat × (Instr × Nat))), decode cX9_refuse q.1 = .ok q.2 := by decide +kernel
theorem dX9_refuse_0 : decode cX9_refuse 0 = .ok (.aload_n 0, 1) := dAX9_refuse (0, (.aload_n 0, 1)) (List.mem_of_getElem? (i := 0) rfl)
theorem dX9_refuse_1 : decode cX9_refuse 1 = .ok (.iload_n 1, 1) := dAX9_refuse (1, (.iload_n 1, 1)) (List.mem_of_getElem? (i := 1) rfl)
theorem dX9_refuse_2 : decode cX9_refuse 2 = .ok (.putfield 30, 3) := dAX9_refuse (2, (.putfield 30, 3)) (List.mem_of_getElem? (i := 2) rfl)
theorem dX9_refuse_5 : decode cX9_refuse 5 = .ok (.iconst (-1), 1) := dAX9_refuse (5, (.iconst (-1), 1)) (List.mem_of_getElem? (i := 3) rfl)
theorem dX9_refuse_6 : decode cX9_refuse 6 = .ok (.ireturn, 1) := dAX9_refuse (6, (.ireturn, 1)) (List.mem_of_getElem? (i := 4) rfl)
theorem kX9_refuse_30 : Cond.fieldLink RX9 30 "EveningVow" "refusal" "I" ∈ wsX9_refuse := List.mem_of_getElem? (i := 1) rfl
theorem iX9_refuse_X9 : ∀ w ∈ u_ws RX9 TX9 15, w ∈ wsX9_refuse := fun w h => (List.mem_cons_of_mem _ (List.mem_append_right _ h))
set_option maxHeartbeats 4000000 in
set_option maxRecDepth 100000 in
theorem mX9_refuse (l : Launch) (g : GG) (a_t : Nat) (p_t : Nat → Nat) (n : Nat) (x1 : Int32) (o_t : Nat → Int32) (r : Int32) (o_t' : Nat → Int32) (hF : fX9_refuse n x1 o_t = some (r, o_t')) : MI l g yX9_refuse wsX9_refuse ({ frames := 0, cells := 0, slots := 0, locals := 0 } : Room) [.ref a_t, .int x1] [oX9 a_t p_t o_t] r [oX9 a_t p_t o_t'] := by
  refine MI.of (cc := cX9_refuse) (maxL := 2) (rt := .int) (own := RX9) rfl rfl (by decide) (Nat.le_of_ble_eq_true rfl) ?_
  intro p e s m args below meth c A C0 hP hD hS ls hl
  obtain ⟨hx, hb, hml, hown, hts, hr, hlk, hK, hA, hSW⟩ := id C0
  have hl : lv_has ls 2 [(0, .ref a_t), (1, .int x1)] := hl
  rw [fX9_refuse] at hF
  refine lv_aload_n hx hb dX9_refuse_0 rfl (lv_at hl 0 rfl) ?_
  refine lv_iload_n hx hb dX9_refuse_1 rfl (lv_at hl 1 rfl) ?_
  refine va_put (D := g.1) (ci := 9) (v := .int x1) (ty := .int) (C := RX9) (T := TX9) (N := 15) hx hb hts iX9_refuse_X9 tyX9 tyX9_ok nmX9 hown hK.1 hP hD hS 0 rfl rfl 4 (by decide) (hts _ kX9_refuse_30) (fun _ h9 => h9) rfl (by decide +kernel) rfl rfl (Nat.le_of_ble_eq_true rfl) dX9_refuse_2 (fun H locs hP hD hS => ?_)
  have hP : va_P g.1 vwCl [oX9 a_t p_t (upd o_t 4 x1)] H := hP
  have hD : va_D A [oX9 a_t p_t (upd o_t 4 x1)] := hD
  refine lv_iconst (v := (-1 : Int32)) hx hb dX9_refuse_5 (by decide) ?_
  cases hF
  exact ret_i C0 hP hD hS [0] rfl rfl rfl dX9_refuse_6 rfl

theorem dAX9_forgetSearches : ∀ q ∈ ([(0, (.aload_n 0, 1)), (1, (.getfield 73, 3)), (4, (.iconst 0, 1)), (5, (.putfield 352, 3)), (8, (.aload_n 0, 1)), (9, (.getfield 80, 3)), (12, (.iconst 0, 1)), (13, (.putfield 353, 3)), (16, (.return_, 1))] : List (Nat × (Instr × Nat))), decode cX9_forgetSearches q.1 = .ok q.2 := by decide +kernel
theorem dX9_forgetSearches_0 : decode cX9_forgetSearches 0 = .ok (.aload_n 0, 1) := dAX9_forgetSearches (0, (.aload_n 0, 1)) (List.mem_of_getElem? (i := 0) rfl)
theorem dX9_forgetSearches_1 : decode cX9_forgetSearches 1 = .ok (.getfield 73, 3) := dAX9_forgetSearches (1, (.getfield 73, 3)) (List.mem_of_getElem? (i := 1) rfl)
theorem dX9_forgetSearches_4 : decode cX9_forgetSearches 4 = .ok (.iconst 0, 1) := dAX9_forgetSearches (4, (.iconst 0, 1)) (List.mem_of_getElem? (i := 2) rfl)
theorem dX9_forgetSearches_5 : decode cX9_forgetSearches 5 = .ok (.putfield 352, 3) := dAX9_forgetSearches (5, (.putfield 352, 3)) (List.mem_of_getElem? (i := 3) rfl)
theorem dX9_forgetSearches_8 : decode cX9_forgetSearches 8 = .ok (.aload_n 0, 1) := dAX9_forgetSearches (8, (.aload_n 0, 1)) (List.mem_of_getElem? (i := 4) rfl)
theorem dX9_forgetSearches_9 : decode cX9_forgetSearches 9 = .ok (.getfield 80, 3) := dAX9_forgetSearches (9, (.getfield 80, 3)) (List.mem_of_getElem? (i := 5) rfl)
theorem dX9_forgetSearches_12 : decode cX9_forgetSearches 12 = .ok (.iconst 0, 1) := dAX9_forgetSearches (12, (.iconst 0, 1)) (List.mem_of_getElem? (i := 6) rfl)
theorem dX9_forgetSearches_13 : decode cX9_forgetSearches 13 = .ok (.putfield 353, 3) := dAX9_forgetSearches (13, (.putfield 353, 3)) (List.mem_of_getElem? (i := 7) rfl)
theorem dX9_forgetSearches_16 : decode cX9_forgetSearches 16 = .ok (.return_, 1) := dAX9_forgetSearches (16, (.return_, 1)) (List.mem_of_getElem? (i := 8) rfl)
theorem kX9_forgetSearches_73 : Cond.fieldLink RX9 73 "EveningVow" "rows" "LEveningVow$TaleRows;" ∈ wsX9_forgetSearches := List.mem_of_getElem? (i := 1) rfl
theorem iX9_forgetSearches_X9 : ∀ w ∈ u_ws RX9 TX9 15, w ∈ wsX9_forgetSearches := fun w h => (List.mem_cons_of_mem _ (List.mem_append_left _ (List.mem_append_left _ (List.mem_append_right _ h))))
theorem kX9_forgetSearches_352 : Cond.fieldLink RX9 352 "EveningVow$TaleRows" "known" "Z" ∈ wsX9_forgetSearches := List.mem_of_getElem? (i := 2) rfl
theorem iX9_forgetSearches_X6 : ∀ w ∈ u_ws RX6 TX6 7, w ∈ wsX9_forgetSearches := fun w h => (List.mem_cons_of_mem _ (List.mem_append_left _ (List.mem_append_right _ h)))
theorem kX9_forgetSearches_80 : Cond.fieldLink RX9 80 "EveningVow" "shares" "LEveningVow$CupShares;" ∈ wsX9_forgetSearches := List.mem_of_getElem? (i := 3) rfl
theorem kX9_forgetSearches_353 : Cond.fieldLink RX9 353 "EveningVow$CupShares" "known" "Z" ∈ wsX9_forgetSearches := List.mem_of_getElem? (i := 4) rfl
theorem iX9_forgetSearches_X0 : ∀ w ∈ u_ws RX0 TX0 6, w ∈ wsX9_forgetSearches := fun w h => (List.mem_cons_of_mem _ (List.mem_append_right _ h))
set_option maxHeartbeats 4000000 in
set_option maxRecDepth 100000 in
theorem mX9_forgetSearches (l : Launch) (g : GG) (a_t : Nat) (p_t : Nat → Nat) (p_t_12 : Nat → Nat) (p_t_13 : Nat → Nat) (n : Nat) (o_t : Nat → Int32) (o_t_12 : Nat → Int32) (o_t_13 : Nat → Int32) (o_t_12' : Nat → Int32) (o_t_13' : Nat → Int32) (hF : fX9_forgetSearches n o_t o_t_12 o_t_13 = some (o_t_12', o_t_13')) : MV l g yX9_forgetSearches wsX9_forgetSearches ({ frames := 0, cells := 0, slots := 0, locals := 0 } : Room) [.ref a_t] [oX9 a_t p_t o_t, oX6 (p_t 12) p_t_12 o_t_12, oX0 (p_t 13) p_t_13 o_t_13] [oX9 a_t p_t o_t, oX6 (p_t 12) p_t_12 o_t_12', oX0 (p_t 13) p_t_13 o_t_13'] := by
  refine MV.of (cc := cX9_forgetSearches) (maxL := 1) (own := RX9) rfl rfl (by decide) (Nat.le_of_ble_eq_true rfl) ?_
  intro p e s m args below meth c A C0 hP hD hS ls hl
  obtain ⟨hx, hb, hml, hown, hts, hr, hlk, hK, hA, hSW⟩ := id C0
  have hl : lv_has ls 1 [(0, .ref a_t)] := hl
  rw [fX9_forgetSearches] at hF
  refine lv_aload_n hx hb dX9_forgetSearches_0 rfl (lv_at hl 0 rfl) ?_
  refine va_get (D := g.1) (ci := 9) (v := .ref (p_t 12)) (C := RX9) (T := TX9) (N := 15) hx hb hts iX9_forgetSearches_X9 hown hK.1 hP 0 rfl rfl 12 (by decide) (hts _ kX9_forgetSearches_73) (fun _ h9 => h9) rfl dX9_forgetSearches_1 ?_
  refine lv_iconst (v := (0 : Int32)) hx hb dX9_forgetSearches_4 (by decide) ?_
  refine va_put (D := g.1) (ci := 6) (v := .int (0 : Int32)) (ty := .boolean) (C := RX6) (T := TX6) (N := 7) hx hb hts iX9_forgetSearches_X6 tyX6 tyX6_ok nmX6 hown hK.1 hP hD hS 1 rfl rfl 0 (by decide) (hts _ kX9_forgetSearches_352) (fun _ h9 => h9) rfl (by decide +kernel) rfl rfl (Nat.le_of_ble_eq_true rfl) dX9_forgetSearches_5 (fun H locs hP hD hS => ?_)
  have hP : va_P g.1 vwCl [oX9 a_t p_t o_t, oX6 (p_t 12) p_t_12 (upd o_t_12 0 (0 : Int32)), oX0 (p_t 13) p_t_13 o_t_13] H := hP
  have hD : va_D A [oX9 a_t p_t o_t, oX6 (p_t 12) p_t_12 (upd o_t_12 0 (0 : Int32)), oX0 (p_t 13) p_t_13 o_t_13] := hD
  refine lv_aload_n hx hb dX9_forgetSearches_8 rfl (lv_at hl 0 rfl) ?_
  refine va_get (D := g.1) (ci := 9) (v := .ref (p_t 13)) (C := RX9) (T := TX9) (N := 15) hx hb hts iX9_forgetSearches_X9 hown hK.1 hP 0 rfl rfl 13 (by decide) (hts _ kX9_forgetSearches_80) (fun _ h9 => h9) rfl dX9_forgetSearches_9 ?_
  refine lv_iconst (v := (0 : Int32)) hx hb dX9_forgetSearches_12 (by decide) ?_
  refine va_put (D := g.1) (ci := 0) (v := .int (0 : Int32)) (ty := .boolean) (C := RX0) (T := TX0) (N := 6) hx hb hts iX9_forgetSearches_X0 tyX0 tyX0_ok nmX0 hown hK.1 hP hD hS 2 rfl rfl 0 (by decide) (hts _ kX9_forgetSearches_353) (fun _ h9 => h9) rfl (by decide +kernel) rfl rfl (Nat.le_of_ble_eq_true rfl) dX9_forgetSearches_13 (fun H locs hP hD hS => ?_)
  have hP : va_P g.1 vwCl [oX9 a_t p_t o_t, oX6 (p_t 12) p_t_12 (upd o_t_12 0 (0 : Int32)), oX0 (p_t 13) p_t_13 (upd o_t_13 0 (0 : Int32))] H := hP
  have hD : va_D A [oX9 a_t p_t o_t, oX6 (p_t 12) p_t_12 (upd o_t_12 0 (0 : Int32)), oX0 (p_t 13) p_t_13 (upd o_t_13 0 (0 : Int32))] := hD
  cases hF
  exact ret_v C0 hP hD hS [0, 1, 2] rfl rfl rfl dX9_forgetSearches_16

theorem dAX9_beginTold : ∀ q ∈ ([(0, (.aload_n 0, 1)), (1, (.getfield 23, 3)), (4, (.astore_n 1, 1)), (5, (.aload_n 0, 1)), (6, (.aload_n 0, 1)), (7, (.getfield 19, 3)), (10, (.putfield 23, 3)), (13, (.aload_n 0, 1)), (14, (.aload_n 1, 1)), (15, (.putfield 19, 3)), (18, (.aload_n 0, 1)), (19, (.iconst 1, 1)), (20, (.putfield 26, 3)), (23, (.aload_n 0, 1)), (24, (.getfield 37, 3)), (27, (.aload_n 0, 1)), (28, (.getfield 19, 3)), (31, (.invokevirtual 345, 3)), (34, (.aload_n 0, 1)), (35, (.getfield 59, 3)), (38, (.invokevirtual 324, 3)), (41, (.aload_n 0, 1)), (42, (.iconst 0, 1)), (43, (.putfield 67, 3)), (46, (.aload_n 0, 1)), (47, (.getfield 87, 3)), (50, (.iconst 0, 1)), (51, (.putfield 349, 3)), (54, (.aload_n 0, 1)), (55, (.invokevirtual 321, 3)), (58, (.return_, 1))] : List (Nat × (Instr × Nat))), decode cX9_beginTold q.1 = .ok q.2 := by decide +kernel
theorem dX9_beginTold_0 : decode cX9_beginTold 0 = .ok (.aload_n 0, 1) := dAX9_beginTold (0, (.aload_n 0, 1)) (List.mem_of_getElem? (i := 0) rfl)
theorem dX9_beginTold_1 : decode cX9_beginTold 1 = .ok (.getfield 23, 3) := dAX9_beginTold (1, (.getfield 23, 3)) (List.mem_of_getElem? (i := 1) rfl)
theorem dX9_beginTold_4 : decode cX9_beginTold 4 = .ok (.astore_n 1, 1) := dAX9_beginTold (4, (.astore_n 1, 1)) (List.mem_of_getElem? (i := 2) rfl)
theorem dX9_beginTold_5 : decode cX9_beginTold 5 = .ok (.aload_n 0, 1) := dAX9_beginTold (5, (.aload_n 0, 1)) (List.mem_of_getElem? (i := 3) rfl)
theorem dX9_beginTold_6 : decode cX9_beginTold 6 = .ok (.aload_n 0, 1) := dAX9_beginTold (6, (.aload_n 0, 1)) (List.mem_of_getElem? (i := 4) rfl)
theorem dX9_beginTold_7 : decode cX9_beginTold 7 = .ok (.getfield 19, 3) := dAX9_beginTold (7, (.getfield 19, 3)) (List.mem_of_getElem? (i := 5) rfl)
theorem dX9_beginTold_10 : decode cX9_beginTold 10 = .ok (.putfield 23, 3) := dAX9_beginTold (10, (.putfield 23, 3)) (List.mem_of_getElem? (i := 6) rfl)
theorem dX9_beginTold_13 : decode cX9_beginTold 13 = .ok (.aload_n 0, 1) := dAX9_beginTold (13, (.aload_n 0, 1)) (List.mem_of_getElem? (i := 7) rfl)
theorem dX9_beginTold_14 : decode cX9_beginTold 14 = .ok (.aload_n 1, 1) := dAX9_beginTold (14, (.aload_n 1, 1)) (List.mem_of_getElem? (i := 8) rfl)
theorem dX9_beginTold_15 : decode cX9_beginTold 15 = .ok (.putfield 19, 3) := dAX9_beginTold (15, (.putfield 19, 3)) (List.mem_of_getElem? (i := 9) rfl)
theorem dX9_beginTold_18 : decode cX9_beginTold 18 = .ok (.aload_n 0, 1) := dAX9_beginTold (18, (.aload_n 0, 1)) (List.mem_of_getElem? (i := 10) rfl)
theorem dX9_beginTold_19 : decode cX9_beginTold 19 = .ok (.iconst 1, 1) := dAX9_beginTold (19, (.iconst 1, 1)) (List.mem_of_getElem? (i := 11) rfl)
theorem dX9_beginTold_20 : decode cX9_beginTold 20 = .ok (.putfield 26, 3) := dAX9_beginTold (20, (.putfield 26, 3)) (List.mem_of_getElem? (i := 12) rfl)
theorem dX9_beginTold_23 : decode cX9_beginTold 23 = .ok (.aload_n 0, 1) := dAX9_beginTold (23, (.aload_n 0, 1)) (List.mem_of_getElem? (i := 13) rfl)
theorem dX9_beginTold_24 : decode cX9_beginTold 24 = .ok (.getfield 37, 3) := dAX9_beginTold (24, (.getfield 37, 3)) (List.mem_of_getElem? (i := 14) rfl)
theorem dX9_beginTold_27 : decode cX9_beginTold 27 = .ok (.aload_n 0, 1) := dAX9_beginTold (27, (.aload_n 0, 1)) (List.mem_of_getElem? (i := 15) rfl)
theorem dX9_beginTold_28 : decode cX9_beginTold 28 = .ok (.getfield 19, 3) := dAX9_beginTold (28, (.getfield 19, 3)) (List.mem_of_getElem? (i := 16) rfl)
theorem dX9_beginTold_31 : decode cX9_beginTold 31 = .ok (.invokevirtual 345, 3) := dAX9_beginTold (31, (.invokevirtual 345, 3)) (List.mem_of_getElem? (i := 17) rfl)
theorem dX9_beginTold_34 : decode cX9_beginTold 34 = .ok (.aload_n 0, 1) := dAX9_beginTold (34, (.aload_n 0, 1)) (List.mem_of_getElem? (i := 18) rfl)
theorem dX9_beginTold_35 : decode cX9_beginTold 35 = .ok (.getfield 59, 3) := dAX9_beginTold (35, (.getfield 59, 3)) (List.mem_of_getElem? (i := 19) rfl)
theorem dX9_beginTold_38 : decode cX9_beginTold 38 = .ok (.invokevirtual 324, 3) := dAX9_beginTold (38, (.invokevirtual 324, 3)) (List.mem_of_getElem? (i := 20) rfl)
theorem dX9_beginTold_41 : decode cX9_beginTold 41 = .ok (.aload_n 0, 1) := dAX9_beginTold (41, (.aload_n 0, 1)) (List.mem_of_getElem? (i := 21) rfl)
theorem dX9_beginTold_42 : decode cX9_beginTold 42 = .ok (.iconst 0, 1) := dAX9_beginTold (42, (.iconst 0, 1)) (List.mem_of_getElem? (i := 22) rfl)
theorem dX9_beginTold_43 : decode cX9_beginTold 43 = .ok (.putfield 67, 3) := dAX9_beginTold (43, (.putfield 67, 3)) (List.mem_of_getElem? (i := 23) rfl)
theorem dX9_beginTold_46 : decode cX9_beginTold 46 = .ok (.aload_n 0, 1) := dAX9_beginTold (46, (.aload_n 0, 1)) (List.mem_of_getElem? (i := 24) rfl)
theorem dX9_beginTold_47 : decode cX9_beginTold 47 = .ok (.getfield 87, 3) := dAX9_beginTold (47, (.getfield 87, 3)) (List.mem_of_getElem? (i := 25) rfl)
theorem dX9_beginTold_50 : decode cX9_beginTold 50 = .ok (.iconst 0, 1) := dAX9_beginTold (50, (.iconst 0, 1)) (List.mem_of_getElem? (i := 26) rfl)
theorem dX9_beginTold_51 : decode cX9_beginTold 51 = .ok (.putfield 349, 3) := dAX9_beginTold (51, (.putfield 349, 3)) (List.mem_of_getElem? (i := 27) rfl)
theorem dX9_beginTold_54 : decode cX9_beginTold 54 = .ok (.aload_n 0, 1) := dAX9_beginTold (54, (.aload_n 0, 1)) (List.mem_of_getElem? (i := 28) rfl)
theorem dX9_beginTold_55 : decode cX9_beginTold 55 = .ok (.invokevirtual 321, 3) := dAX9_beginTold (55, (.invokevirtual 321, 3)) (List.mem_of_getElem? (i := 29) rfl)
theorem dX9_beginTold_58 : decode cX9_beginTold 58 = .ok (.return_, 1) := dAX9_beginTold (58, (.return_, 1)) (List.mem_of_getElem? (i := 30) rfl)
set_option maxRecDepth 20000 in
theorem ggX9_beginTold_X2_begin : GoodIn wsX9_beginTold wsX2_begin := goodIn_r _ [13, 14, 15, 16, 17, 18, 19, 20, 21, 22, 60, 61, 62, 63, 64, 65, 66, 67, 68, 69, 70, 71, 72, 73, 74, 75, 76, 77, 78, 79, 80, 81, 82, 83, 84, 85] rfl (by decide +kernel)
set_option maxRecDepth 20000 in
theorem gX9_beginTold_X2_begin : GoodIn wsX9_beginTold (wsV RX9 345 RX2 yX2_begin wsX2_begin) := goodIn_app (goodIn_of _ (by decide +kernel)) ggX9_beginTold_X2_begin
set_option maxRecDepth 20000 in
theorem ggX9_beginTold_X4_forget : GoodIn wsX9_beginTold wsX4_forget := goodIn_r _ [27, 28, 86, 87, 88] rfl (by decide +kernel)
set_option maxRecDepth 20000 in
theorem gX9_beginTold_X4_forget : GoodIn wsX9_beginTold (wsV RX9 324 RX4 yX4_forget wsX4_forget) := goodIn_app (goodIn_of _ (by decide +kernel)) ggX9_beginTold_X4_forget
set_option maxRecDepth 20000 in
theorem ggX9_beginTold_X9_forgetSearches : GoodIn wsX9_beginTold wsX9_forgetSearches := goodIn_r _ [33, 34, 35, 36, 37, 38, 39, 40, 41, 42, 43, 44, 45, 46, 47, 48, 49, 50, 51, 52, 89, 90, 91, 92, 93, 94, 95, 96, 97, 98, 99, 100, 101] rfl (by decide +kernel)
set_option maxRecDepth 20000 in
theorem gX9_beginTold_X9_forgetSearches : GoodIn wsX9_beginTold (wsV RX9 321 RX9 yX9_forgetSearches wsX9_forgetSearches) := goodIn_app (goodIn_of _ (by decide +kernel)) ggX9_beginTold_X9_forgetSearches
theorem kX9_beginTold_23 : Cond.fieldLink RX9 23 "EveningVow" "spare" "LEveningVow$House;" ∈ wsX9_beginTold := List.mem_of_getElem? (i := 1) rfl
theorem iX9_beginTold_X9 : ∀ w ∈ u_ws RX9 TX9 15, w ∈ wsX9_beginTold := fun w h => (List.mem_cons_of_mem _ (List.mem_append_left _ (List.mem_append_left _ (List.mem_append_left _ (List.mem_append_left _ (List.mem_append_left _ (List.mem_append_left _ (List.mem_append_right _ h))))))))
theorem kX9_beginTold_19 : Cond.fieldLink RX9 19 "EveningVow" "told" "LEveningVow$House;" ∈ wsX9_beginTold := List.mem_of_getElem? (i := 2) rfl
theorem kX9_beginTold_26 : Cond.fieldLink RX9 26 "EveningVow" "begun" "Z" ∈ wsX9_beginTold := List.mem_of_getElem? (i := 3) rfl
theorem kX9_beginTold_37 : Cond.fieldLink RX9 37 "EveningVow" "now" "LEveningVow$Night;" ∈ wsX9_beginTold := List.mem_of_getElem? (i := 4) rfl
theorem kX9_beginTold_59 : Cond.fieldLink RX9 59 "EveningVow" "past" "LEveningVow$Past;" ∈ wsX9_beginTold := List.mem_of_getElem? (i := 5) rfl
theorem kX9_beginTold_67 : Cond.fieldLink RX9 67 "EveningVow" "imageCount" "I" ∈ wsX9_beginTold := List.mem_of_getElem? (i := 6) rfl
theorem kX9_beginTold_87 : Cond.fieldLink RX9 87 "EveningVow" "unseen" "LEveningVow$Unseen;" ∈ wsX9_beginTold := List.mem_of_getElem? (i := 7) rfl
theorem kX9_beginTold_349 : Cond.fieldLink RX9 349 "EveningVow$Unseen" "known" "Z" ∈ wsX9_beginTold := List.mem_of_getElem? (i := 8) rfl
theorem iX9_beginTold_X8 : ∀ w ∈ u_ws RX8 TX8 7, w ∈ wsX9_beginTold := fun w h => (List.mem_cons_of_mem _ (List.mem_append_left _ (List.mem_append_left _ (List.mem_append_left _ (List.mem_append_left _ (List.mem_append_left _ (List.mem_append_right _ h)))))))
set_option maxHeartbeats 4000000 in
set_option maxRecDepth 100000 in
theorem mX9_beginTold (l : Launch) (g : GG) (a_t : Nat) (p_t : Nat → Nat) (p_t_2 : Nat → Nat) (p_t_5 : Nat → Nat) (p_t_9 : Nat → Nat) (p_t_12 : Nat → Nat) (p_t_13 : Nat → Nat) (p_t_14 : Nat → Nat) (n : Nat) (o_t : Nat → Int32) (o_t_2 : Nat → Int32) (f_t_2_5 : Nat → Int32) (o_t_5 : Nat → Int32) (f_t_5_6 : Nat → Int32) (f_t_5_7 : Nat → Int32) (o_t_9 : Nat → Int32) (o_t_12 : Nat → Int32) (o_t_13 : Nat → Int32) (o_t_14 : Nat → Int32) (o_t' : Nat → Int32) (o_t_5' : Nat → Int32) (f_t_5_6' : Nat → Int32) (f_t_5_7' : Nat → Int32) (o_t_9' : Nat → Int32) (o_t_12' : Nat → Int32) (o_t_13' : Nat → Int32) (o_t_14' : Nat → Int32) (hF : fX9_beginTold n o_t o_t_2 f_t_2_5 o_t_5 f_t_5_6 f_t_5_7 o_t_9 o_t_12 o_t_13 o_t_14 = some (o_t', o_t_5', f_t_5_6', f_t_5_7', o_t_9', o_t_12', o_t_13', o_t_14')) : MV l g yX9_beginTold wsX9_beginTold ({ frames := 1, cells := 0, slots := 0, locals := 22 } : Room) [.ref a_t] [oX9 a_t p_t o_t, oX1 (p_t 2) p_t_2 o_t_2, aI g (p_t_2 5) 7 f_t_2_5, oX2 (p_t 5) p_t_5 o_t_5, aI g (p_t_5 6) 7 f_t_5_6, aI g (p_t_5 7) 7 f_t_5_7, oX4 (p_t 9) p_t_9 o_t_9, oX6 (p_t 12) p_t_12 o_t_12, oX0 (p_t 13) p_t_13 o_t_13, oX8 (p_t 14) p_t_14 o_t_14] [oX9 a_t (swp true p_t) o_t', oX1 (p_t 2) p_t_2 o_t_2, aI g (p_t_2 5) 7 f_t_2_5, oX2 (p_t 5) p_t_5 o_t_5', aI g (p_t_5 6) 7 f_t_5_6', aI g (p_t_5 7) 7 f_t_5_7', oX4 (p_t 9) p_t_9 o_t_9', oX6 (p_t 12) p_t_12 o_t_12', oX0 (p_t 13) p_t_13 o_t_13', oX8 (p_t 14) p_t_14 o_t_14'] := by
  refine MV.of (cc := cX9_beginTold) (maxL := 2) (own := RX9) rfl rfl (by decide) (Nat.le_of_ble_eq_true rfl) ?_
  intro p e s m args below meth c A C0 hP hD hS ls hl
  obtain ⟨hx, hb, hml, hown, hts, hr, hlk, hK, hA, hSW⟩ := id C0
  have hl : lv_has ls 2 [(0, .ref a_t)] := hl
  rw [fX9_beginTold] at hF
  refine lv_aload_n hx hb dX9_beginTold_0 rfl (lv_at hl 0 rfl) ?_
  refine va_get (D := g.1) (ci := 9) (v := .ref (p_t 2)) (C := RX9) (T := TX9) (N := 15) hx hb hts iX9_beginTold_X9 hown hK.1 hP 0 rfl rfl 2 (by decide) (hts _ kX9_beginTold_23) (fun _ h9 => h9) rfl dX9_beginTold_1 ?_
  refine lv_astore_n (lv' := [(1, .ref (p_t 2)), (0, .ref a_t)]) hx hb dX9_beginTold_4 rfl hl (by decide) rfl (fun ls hl => ?_)
  refine lv_aload_n hx hb dX9_beginTold_5 rfl (lv_at hl 1 rfl) ?_
  refine lv_aload_n hx hb dX9_beginTold_6 rfl (lv_at hl 1 rfl) ?_
  refine va_get (D := g.1) (ci := 9) (v := .ref (p_t 1)) (C := RX9) (T := TX9) (N := 15) hx hb hts iX9_beginTold_X9 hown hK.1 hP 0 rfl rfl 1 (by decide) (hts _ kX9_beginTold_19) (fun _ h9 => h9) rfl dX9_beginTold_7 ?_
  refine va_put (D := g.1) (ci := 9) (v := .ref (p_t 1)) (ty := .object "EveningVow$House") (C := RX9) (T := TX9) (N := 15) hx hb hts iX9_beginTold_X9 tyX9 tyX9_ok nmX9 hown hK.1 hP hD hS 0 rfl rfl 2 (by decide) (hts _ kX9_beginTold_23) (fun _ h9 => h9) rfl (by decide +kernel) rfl rfl (Nat.le_of_ble_eq_true rfl) dX9_beginTold_10 (fun H locs hP hD hS => ?_)
  have hP : va_P g.1 vwCl [oX9 a_t (va_up p_t 2 (p_t 1)) o_t, oX1 (p_t 2) p_t_2 o_t_2, aI g (p_t_2 5) 7 f_t_2_5, oX2 (p_t 5) p_t_5 o_t_5, aI g (p_t_5 6) 7 f_t_5_6, aI g (p_t_5 7) 7 f_t_5_7, oX4 (p_t 9) p_t_9 o_t_9, oX6 (p_t 12) p_t_12 o_t_12, oX0 (p_t 13) p_t_13 o_t_13, oX8 (p_t 14) p_t_14 o_t_14] H := hP
  have hD : va_D A [oX9 a_t (va_up p_t 2 (p_t 1)) o_t, oX1 (p_t 2) p_t_2 o_t_2, aI g (p_t_2 5) 7 f_t_2_5, oX2 (p_t 5) p_t_5 o_t_5, aI g (p_t_5 6) 7 f_t_5_6, aI g (p_t_5 7) 7 f_t_5_7, oX4 (p_t 9) p_t_9 o_t_9, oX6 (p_t 12) p_t_12 o_t_12, oX0 (p_t 13) p_t_13 o_t_13, oX8 (p_t 14) p_t_14 o_t_14] := hD
  refine lv_aload_n hx hb dX9_beginTold_13 rfl (lv_at hl 1 rfl) ?_
  refine lv_aload_n hx hb dX9_beginTold_14 rfl (lv_at hl 0 rfl) ?_
  refine va_put (D := g.1) (ci := 9) (v := .ref (p_t 2)) (ty := .object "EveningVow$House") (C := RX9) (T := TX9) (N := 15) hx hb hts iX9_beginTold_X9 tyX9 tyX9_ok nmX9 hown hK.1 hP hD hS 0 rfl rfl 1 (by decide) (hts _ kX9_beginTold_19) (fun _ h9 => h9) rfl (by decide +kernel) rfl rfl (Nat.le_of_ble_eq_true rfl) dX9_beginTold_15 (fun H locs hP hD hS => ?_)
  have hP : va_P g.1 vwCl [oX9 a_t (va_up (va_up p_t 2 (p_t 1)) 1 (p_t 2)) o_t, oX1 (p_t 2) p_t_2 o_t_2, aI g (p_t_2 5) 7 f_t_2_5, oX2 (p_t 5) p_t_5 o_t_5, aI g (p_t_5 6) 7 f_t_5_6, aI g (p_t_5 7) 7 f_t_5_7, oX4 (p_t 9) p_t_9 o_t_9, oX6 (p_t 12) p_t_12 o_t_12, oX0 (p_t 13) p_t_13 o_t_13, oX8 (p_t 14) p_t_14 o_t_14] H := hP
  have hD : va_D A [oX9 a_t (va_up (va_up p_t 2 (p_t 1)) 1 (p_t 2)) o_t, oX1 (p_t 2) p_t_2 o_t_2, aI g (p_t_2 5) 7 f_t_2_5, oX2 (p_t 5) p_t_5 o_t_5, aI g (p_t_5 6) 7 f_t_5_6, aI g (p_t_5 7) 7 f_t_5_7, oX4 (p_t 9) p_t_9 o_t_9, oX6 (p_t 12) p_t_12 o_t_12, oX0 (p_t 13) p_t_13 o_t_13, oX8 (p_t 14) p_t_14 o_t_14] := hD
  refine lv_aload_n hx hb dX9_beginTold_18 rfl (lv_at hl 1 rfl) ?_
  refine lv_iconst (v := (1 : Int32)) hx hb dX9_beginTold_19 (by decide) ?_
  refine va_put (D := g.1) (ci := 9) (v := .int (1 : Int32)) (ty := .boolean) (C := RX9) (T := TX9) (N := 15) hx hb hts iX9_beginTold_X9 tyX9 tyX9_ok nmX9 hown hK.1 hP hD hS 0 rfl rfl 3 (by decide) (hts _ kX9_beginTold_26) (fun _ h9 => h9) rfl (by decide +kernel) rfl rfl (Nat.le_of_ble_eq_true rfl) dX9_beginTold_20 (fun H locs hP hD hS => ?_)
  have hP : va_P g.1 vwCl [oX9 a_t (va_up (va_up p_t 2 (p_t 1)) 1 (p_t 2)) (upd o_t 3 (1 : Int32)), oX1 (p_t 2) p_t_2 o_t_2, aI g (p_t_2 5) 7 f_t_2_5, oX2 (p_t 5) p_t_5 o_t_5, aI g (p_t_5 6) 7 f_t_5_6, aI g (p_t_5 7) 7 f_t_5_7, oX4 (p_t 9) p_t_9 o_t_9, oX6 (p_t 12) p_t_12 o_t_12, oX0 (p_t 13) p_t_13 o_t_13, oX8 (p_t 14) p_t_14 o_t_14] H := hP
  have hD : va_D A [oX9 a_t (va_up (va_up p_t 2 (p_t 1)) 1 (p_t 2)) (upd o_t 3 (1 : Int32)), oX1 (p_t 2) p_t_2 o_t_2, aI g (p_t_2 5) 7 f_t_2_5, oX2 (p_t 5) p_t_5 o_t_5, aI g (p_t_5 6) 7 f_t_5_6, aI g (p_t_5 7) 7 f_t_5_7, oX4 (p_t 9) p_t_9 o_t_9, oX6 (p_t 12) p_t_12 o_t_12, oX0 (p_t 13) p_t_13 o_t_13, oX8 (p_t 14) p_t_14 o_t_14] := hD
  refine lv_aload_n hx hb dX9_beginTold_23 rfl (lv_at hl 1 rfl) ?_
  refine va_get (D := g.1) (ci := 9) (v := .ref (p_t 5)) (C := RX9) (T := TX9) (N := 15) hx hb hts iX9_beginTold_X9 hown hK.1 hP 0 rfl rfl 5 (by decide) (hts _ kX9_beginTold_37) (fun _ h9 => h9) rfl dX9_beginTold_24 ?_
  refine lv_aload_n hx hb dX9_beginTold_27 rfl (lv_at hl 1 rfl) ?_
  refine va_get (D := g.1) (ci := 9) (v := .ref (p_t 2)) (C := RX9) (T := TX9) (N := 15) hx hb hts iX9_beginTold_X9 hown hK.1 hP 0 rfl rfl 1 (by decide) (hts _ kX9_beginTold_19) (fun _ h9 => h9) rfl dX9_beginTold_28 ?_
  obtain ⟨u_1, u_2, u_3, hu_4, hF⟩ := ob3_some hF
  refine call_v (wr := [oX9 a_t (va_up (va_up p_t 2 (p_t 1)) 1 (p_t 2)) (upd o_t 3 (1 : Int32)), oX4 (p_t 9) p_t_9 o_t_9, oX6 (p_t 12) p_t_12 o_t_12, oX0 (p_t 13) p_t_13 o_t_13, oX8 (p_t 14) p_t_14 o_t_14]) (As := [.ref (p_t 2)]) (rest := []) (ci := 2) (q0 := 0) C0 (mX2_begin l g (p_t 5) (p_t 2) p_t_5 p_t_2 n o_t_5 f_t_5_6 f_t_5_7 o_t_2 f_t_2_5 u_1 u_2 u_3 hu_4) (cwV 1 hts gX9_beginTold_X2_begin rfl rfl rfl (by decide +kernel) ⟨Nat.le_of_ble_eq_true rfl, Nat.le_of_ble_eq_true rfl⟩) hP hD hS [3, 4, 5, 1, 2] [0, 6, 7, 8, 9] rfl rfl rfl rfl rfl (by decide) rfl rfl hl.1 rfl rfl (Nat.le_of_ble_eq_true rfl) ⟨Nat.zero_le _, Nat.zero_le _⟩ dX9_beginTold_31 ?_
  intro H locs hP hD hS
  refine lv_aload_n hx hb dX9_beginTold_34 rfl (lv_at hl 1 rfl) ?_
  refine va_get (D := g.1) (ci := 9) (v := .ref (p_t 9)) (C := RX9) (T := TX9) (N := 15) hx hb hts iX9_beginTold_X9 hown hK.1 hP 0 rfl rfl 9 (by decide) (hts _ kX9_beginTold_59) (fun _ h9 => h9) rfl dX9_beginTold_35 ?_
  obtain ⟨u_5, hu_6, hF⟩ := ob1_some hF
  refine call_v (wr := [oX9 a_t (va_up (va_up p_t 2 (p_t 1)) 1 (p_t 2)) (upd o_t 3 (1 : Int32)), oX6 (p_t 12) p_t_12 o_t_12, oX0 (p_t 13) p_t_13 o_t_13, oX8 (p_t 14) p_t_14 o_t_14, oX2 (p_t 5) p_t_5 u_1, aI g (p_t_5 6) 7 u_2, aI g (p_t_5 7) 7 u_3, oX1 (p_t 2) p_t_2 o_t_2, aI g (p_t_2 5) 7 f_t_2_5]) (As := []) (rest := []) (ci := 4) (q0 := 0) C0 (mX4_forget l g (p_t 9) p_t_9 n o_t_9 u_5 hu_6) (cwV 0 hts gX9_beginTold_X4_forget rfl rfl rfl (by decide +kernel) ⟨Nat.le_of_ble_eq_true rfl, Nat.le_of_ble_eq_true rfl⟩) hP hD hS [1] [0, 2, 3, 4, 5, 6, 7, 8, 9] rfl rfl rfl rfl rfl (by decide) rfl rfl hl.1 rfl rfl (Nat.le_of_ble_eq_true rfl) ⟨Nat.zero_le _, Nat.zero_le _⟩ dX9_beginTold_38 ?_
  intro H locs hP hD hS
  refine lv_aload_n hx hb dX9_beginTold_41 rfl (lv_at hl 1 rfl) ?_
  refine lv_iconst (v := (0 : Int32)) hx hb dX9_beginTold_42 (by decide) ?_
  refine va_put (D := g.1) (ci := 9) (v := .int (0 : Int32)) (ty := .int) (C := RX9) (T := TX9) (N := 15) hx hb hts iX9_beginTold_X9 tyX9 tyX9_ok nmX9 hown hK.1 hP hD hS 0 rfl rfl 11 (by decide) (hts _ kX9_beginTold_67) (fun _ h9 => h9) rfl (by decide +kernel) rfl rfl (Nat.le_of_ble_eq_true rfl) dX9_beginTold_43 (fun H locs hP hD hS => ?_)
  have hP : va_P g.1 vwCl [oX9 a_t (va_up (va_up p_t 2 (p_t 1)) 1 (p_t 2)) (upd (upd o_t 3 (1 : Int32)) 11 (0 : Int32)), oX6 (p_t 12) p_t_12 o_t_12, oX0 (p_t 13) p_t_13 o_t_13, oX8 (p_t 14) p_t_14 o_t_14, oX2 (p_t 5) p_t_5 u_1, aI g (p_t_5 6) 7 u_2, aI g (p_t_5 7) 7 u_3, oX1 (p_t 2) p_t_2 o_t_2, aI g (p_t_2 5) 7 f_t_2_5, oX4 (p_t 9) p_t_9 u_5] H := hP
  have hD : va_D A [oX9 a_t (va_up (va_up p_t 2 (p_t 1)) 1 (p_t 2)) (upd (upd o_t 3 (1 : Int32)) 11 (0 : Int32)), oX6 (p_t 12) p_t_12 o_t_12, oX0 (p_t 13) p_t_13 o_t_13, oX8 (p_t 14) p_t_14 o_t_14, oX2 (p_t 5) p_t_5 u_1, aI g (p_t_5 6) 7 u_2, aI g (p_t_5 7) 7 u_3, oX1 (p_t 2) p_t_2 o_t_2, aI g (p_t_2 5) 7 f_t_2_5, oX4 (p_t 9) p_t_9 u_5] := hD
  refine lv_aload_n hx hb dX9_beginTold_46 rfl (lv_at hl 1 rfl) ?_
  refine va_get (D := g.1) (ci := 9) (v := .ref (p_t 14)) (C := RX9) (T := TX9) (N := 15) hx hb hts iX9_beginTold_X9 hown hK.1 hP 0 rfl rfl 14 (by decide) (hts _ kX9_beginTold_87) (fun _ h9 => h9) rfl dX9_beginTold_47 ?_
  refine lv_iconst (v := (0 : Int32)) hx hb dX9_beginTold_50 (by decide) ?_
  refine va_put (D := g.1) (ci := 8) (v := .int (0 : Int32)) (ty := .boolean) (C := RX8) (T := TX8) (N := 7) hx hb hts iX9_beginTold_X8 tyX8 tyX8_ok nmX8 hown hK.1 hP hD hS 3 rfl rfl 0 (by decide) (hts _ kX9_beginTold_349) (fun _ h9 => h9) rfl (by decide +kernel) rfl rfl (Nat.le_of_ble_eq_true rfl) dX9_beginTold_51 (fun H locs hP hD hS => ?_)
  have hP : va_P g.1 vwCl [oX9 a_t (va_up (va_up p_t 2 (p_t 1)) 1 (p_t 2)) (upd (upd o_t 3 (1 : Int32)) 11 (0 : Int32)), oX6 (p_t 12) p_t_12 o_t_12, oX0 (p_t 13) p_t_13 o_t_13, oX8 (p_t 14) p_t_14 (upd o_t_14 0 (0 : Int32)), oX2 (p_t 5) p_t_5 u_1, aI g (p_t_5 6) 7 u_2, aI g (p_t_5 7) 7 u_3, oX1 (p_t 2) p_t_2 o_t_2, aI g (p_t_2 5) 7 f_t_2_5, oX4 (p_t 9) p_t_9 u_5] H := hP
  have hD : va_D A [oX9 a_t (va_up (va_up p_t 2 (p_t 1)) 1 (p_t 2)) (upd (upd o_t 3 (1 : Int32)) 11 (0 : Int32)), oX6 (p_t 12) p_t_12 o_t_12, oX0 (p_t 13) p_t_13 o_t_13, oX8 (p_t 14) p_t_14 (upd o_t_14 0 (0 : Int32)), oX2 (p_t 5) p_t_5 u_1, aI g (p_t_5 6) 7 u_2, aI g (p_t_5 7) 7 u_3, oX1 (p_t 2) p_t_2 o_t_2, aI g (p_t_2 5) 7 f_t_2_5, oX4 (p_t 9) p_t_9 u_5] := hD
  refine lv_aload_n hx hb dX9_beginTold_54 rfl (lv_at hl 1 rfl) ?_
  obtain ⟨u_7, u_8, hu_9, hF⟩ := ob2_some hF
  refine call_v (wr := [oX8 (p_t 14) p_t_14 (upd o_t_14 0 (0 : Int32)), oX2 (p_t 5) p_t_5 u_1, aI g (p_t_5 6) 7 u_2, aI g (p_t_5 7) 7 u_3, oX1 (p_t 2) p_t_2 o_t_2, aI g (p_t_2 5) 7 f_t_2_5, oX4 (p_t 9) p_t_9 u_5]) (As := []) (rest := []) (ci := 9) (q0 := 0) C0 (mX9_forgetSearches l g a_t (va_up (va_up p_t 2 (p_t 1)) 1 (p_t 2)) p_t_12 p_t_13 n (upd (upd o_t 3 (1 : Int32)) 11 (0 : Int32)) o_t_12 o_t_13 u_7 u_8 hu_9) (cwV 0 hts gX9_beginTold_X9_forgetSearches rfl rfl rfl (by decide +kernel) ⟨Nat.le_of_ble_eq_true rfl, Nat.le_of_ble_eq_true rfl⟩) hP hD hS [0, 1, 2] [3, 4, 5, 6, 7, 8, 9] rfl rfl rfl rfl rfl (by decide) rfl rfl hl.1 rfl rfl (Nat.le_of_ble_eq_true rfl) ⟨Nat.zero_le _, Nat.zero_le _⟩ dX9_beginTold_55 ?_
  intro H locs hP hD hS
  cases hF
  exact ret_v C0 hP hD hS [7, 4, 5, 1, 2, 3, 6, 8, 9, 0] rfl rfl rfl dX9_beginTold_58

theorem dAX9_evening : ∀ q ∈ ([(0, (.iload_n 1, 1)), (1, (.ifCond .lt 14, 3)), (4, (.iload_n 1, 1)), (5, (.aload_n 0, 1)), (6, (.getfield 12, 3)), (9, (.getfield 91, 3)), (12, (.if_icmp .le 9, 3)), (15, (.aload_n 0, 1)), (16, (.iconst 2, 1)), (17, (.invokevirtual 98, 3)), (20, (.ireturn, 1)), (21, (.aload_n 0, 1)), (22, (.getfield 12, 3)), (25, (.iload_n 1, 1)), (26, (.aload_n 0, 1)), (27, (.getfield 23, 3)), (30, (.invokevirtual 102, 3)), (33, (.istore_n 2, 1)), (34, (.aload_n 0, 1)), (35, (.getfield 12, 3)), (38, (.iconst 0, 1)), (39, (.putfield 91, 3)), (42, (.iload_n 2, 1)), (43, (.ifCond .ne 9, 3)), (46, (.aload_n 0, 1)), (47, (.iconst 4, 1)), (48, (.invokevirtual 98, 3)), (51, (.ireturn, 1)), (52, (.aload_n 0, 1)), (53, (.invokevirtual 106, 3)), (56, (.aload_n 0, 1)), (57, (.iconst 0, 1)), (58, (.putfield 30, 3)), (61, (.aload_n 0, 1)), (62, (.getfield 19, 3)), (65, (.getfield 109, 3)), (68, (.ireturn, 1))] : List (Nat × (Instr × Nat))), decode cX9_evening q.1 = .ok q.2 := by decide +kernel
theorem dX9_evening_0 : decode cX9_evening 0 = .ok (.iload_n 1, 1) := dAX9_evening (0, (.iload_n 1, 1)) (List.mem_of_getElem? (i := 0) rfl)
theorem dX9_evening_1 : decode cX9_evening 1 = .ok (.ifCond .lt 14, 3) := dAX9_evening (1, (.ifCond .lt 14, 3)) (List.mem_of_getElem? (i := 1) rfl)
theorem dX9_evening_4 : decode cX9_evening 4 = .ok (.iload_n 1, 1) := dAX9_evening (4, (.iload_n 1, 1)) (List.mem_of_getElem? (i := 2) rfl)
theorem dX9_evening_5 : decode cX9_evening 5 = .ok (.aload_n 0, 1) := dAX9_evening (5, (.aload_n 0, 1)) (List.mem_of_getElem? (i := 3) rfl)
theorem dX9_evening_6 : decode cX9_evening 6 = .ok (.getfield 12, 3) := dAX9_evening (6, (.getfield 12, 3)) (List.mem_of_getElem? (i := 4) rfl)
theorem dX9_evening_9 : decode cX9_evening 9 = .ok (.getfield 91, 3) := dAX9_evening (9, (.getfield 91, 3)) (List.mem_of_getElem? (i := 5) rfl)
theorem dX9_evening_12 : decode cX9_evening 12 = .ok (.if_icmp .le 9, 3) := dAX9_evening (12, (.if_icmp .le 9, 3)) (List.mem_of_getElem? (i := 6) rfl)
theorem dX9_evening_15 : decode cX9_evening 15 = .ok (.aload_n 0, 1) := dAX9_evening (15, (.aload_n 0, 1)) (List.mem_of_getElem? (i := 7) rfl)
theorem dX9_evening_16 : decode cX9_evening 16 = .ok (.iconst 2, 1) := dAX9_evening (16, (.iconst 2, 1)) (List.mem_of_getElem? (i := 8) rfl)
theorem dX9_evening_17 : decode cX9_evening 17 = .ok (.invokevirtual 98, 3) := dAX9_evening (17, (.invokevirtual 98, 3)) (List.mem_of_getElem? (i := 9) rfl)
theorem dX9_evening_20 : decode cX9_evening 20 = .ok (.ireturn, 1) := dAX9_evening (20, (.ireturn, 1)) (List.mem_of_getElem? (i := 10) rfl)
theorem dX9_evening_21 : decode cX9_evening 21 = .ok (.aload_n 0, 1) := dAX9_evening (21, (.aload_n 0, 1)) (List.mem_of_getElem? (i := 11) rfl)
theorem dX9_evening_22 : decode cX9_evening 22 = .ok (.getfield 12, 3) := dAX9_evening (22, (.getfield 12, 3)) (List.mem_of_getElem? (i := 12) rfl)
theorem dX9_evening_25 : decode cX9_evening 25 = .ok (.iload_n 1, 1) := dAX9_evening (25, (.iload_n 1, 1)) (List.mem_of_getElem? (i := 13) rfl)
theorem dX9_evening_26 : decode cX9_evening 26 = .ok (.aload_n 0, 1) := dAX9_evening (26, (.aload_n 0, 1)) (List.mem_of_getElem? (i := 14) rfl)
theorem dX9_evening_27 : decode cX9_evening 27 = .ok (.getfield 23, 3) := dAX9_evening (27, (.getfield 23, 3)) (List.mem_of_getElem? (i := 15) rfl)
theorem dX9_evening_30 : decode cX9_evening 30 = .ok (.invokevirtual 102, 3) := dAX9_evening (30, (.invokevirtual 102, 3)) (List.mem_of_getElem? (i := 16) rfl)
theorem dX9_evening_33 : decode cX9_evening 33 = .ok (.istore_n 2, 1) := dAX9_evening (33, (.istore_n 2, 1)) (List.mem_of_getElem? (i := 17) rfl)
theorem dX9_evening_34 : decode cX9_evening 34 = .ok (.aload_n 0, 1) := dAX9_evening (34, (.aload_n 0, 1)) (List.mem_of_getElem? (i := 18) rfl)
theorem dX9_evening_35 : decode cX9_evening 35 = .ok (.getfield 12, 3) := dAX9_evening (35, (.getfield 12, 3)) (List.mem_of_getElem? (i := 19) rfl)
theorem dX9_evening_38 : decode cX9_evening 38 = .ok (.iconst 0, 1) := dAX9_evening (38, (.iconst 0, 1)) (List.mem_of_getElem? (i := 20) rfl)
theorem dX9_evening_39 : decode cX9_evening 39 = .ok (.putfield 91, 3) := dAX9_evening (39, (.putfield 91, 3)) (List.mem_of_getElem? (i := 21) rfl)
theorem dX9_evening_42 : decode cX9_evening 42 = .ok (.iload_n 2, 1) := dAX9_evening (42, (.iload_n 2, 1)) (List.mem_of_getElem? (i := 22) rfl)
theorem dX9_evening_43 : decode cX9_evening 43 = .ok (.ifCond .ne 9, 3) := dAX9_evening (43, (.ifCond .ne 9, 3)) (List.mem_of_getElem? (i := 23) rfl)
theorem dX9_evening_46 : decode cX9_evening 46 = .ok (.aload_n 0, 1) := dAX9_evening (46, (.aload_n 0, 1)) (List.mem_of_getElem? (i := 24) rfl)
theorem dX9_evening_47 : decode cX9_evening 47 = .ok (.iconst 4, 1) := dAX9_evening (47, (.iconst 4, 1)) (List.mem_of_getElem? (i := 25) rfl)
theorem dX9_evening_48 : decode cX9_evening 48 = .ok (.invokevirtual 98, 3) := dAX9_evening (48, (.invokevirtual 98, 3)) (List.mem_of_getElem? (i := 26) rfl)
theorem dX9_evening_51 : decode cX9_evening 51 = .ok (.ireturn, 1) := dAX9_evening (51, (.ireturn, 1)) (List.mem_of_getElem? (i := 27) rfl)
theorem dX9_evening_52 : decode cX9_evening 52 = .ok (.aload_n 0, 1) := dAX9_evening (52, (.aload_n 0, 1)) (List.mem_of_getElem? (i := 28) rfl)
theorem dX9_evening_53 : decode cX9_evening 53 = .ok (.invokevirtual 106, 3) := dAX9_evening (53, (.invokevirtual 106, 3)) (List.mem_of_getElem? (i := 29) rfl)
theorem dX9_evening_56 : decode cX9_evening 56 = .ok (.aload_n 0, 1) := dAX9_evening (56, (.aload_n 0, 1)) (List.mem_of_getElem? (i := 30) rfl)
theorem dX9_evening_57 : decode cX9_evening 57 = .ok (.iconst 0, 1) := dAX9_evening (57, (.iconst 0, 1)) (List.mem_of_getElem? (i := 31) rfl)
theorem dX9_evening_58 : decode cX9_evening 58 = .ok (.putfield 30, 3) := dAX9_evening (58, (.putfield 30, 3)) (List.mem_of_getElem? (i := 32) rfl)
theorem dX9_evening_61 : decode cX9_evening 61 = .ok (.aload_n 0, 1) := dAX9_evening (61, (.aload_n 0, 1)) (List.mem_of_getElem? (i := 33) rfl)
theorem dX9_evening_62 : decode cX9_evening 62 = .ok (.getfield 19, 3) := dAX9_evening (62, (.getfield 19, 3)) (List.mem_of_getElem? (i := 34) rfl)
theorem dX9_evening_65 : decode cX9_evening 65 = .ok (.getfield 109, 3) := dAX9_evening (65, (.getfield 109, 3)) (List.mem_of_getElem? (i := 35) rfl)
theorem dX9_evening_68 : decode cX9_evening 68 = .ok (.ireturn, 1) := dAX9_evening (68, (.ireturn, 1)) (List.mem_of_getElem? (i := 36) rfl)
set_option maxRecDepth 20000 in
theorem ggX9_evening_X9_refuse : GoodIn wsX9_evening wsX9_refuse := goodIn_r _ [11, 4, 240, 241, 242, 243, 244, 245, 246, 247, 248, 249, 250, 251, 252, 253, 254] rfl (by decide +kernel)
set_option maxRecDepth 20000 in
theorem gX9_evening_X9_refuse : GoodIn wsX9_evening (wsV RX9 98 RX9 yX9_refuse wsX9_refuse) := goodIn_app (goodIn_of _ (by decide +kernel)) ggX9_evening_X9_refuse
set_option maxRecDepth 20000 in
theorem ggX9_evening_X5_read : GoodIn wsX9_evening wsX5_read := goodIn_r _ [16, 17, 18, 19, 20, 21, 22, 23, 24, 25, 26, 27, 28, 29, 30, 31, 32, 33, 34, 35, 36, 37, 38, 39, 40, 41, 42, 43, 15, 44, 45, 46, 47, 48, 49, 50, 51, 52, 53, 54, 55, 56, 57, 58, 59, 60, 61, 62, 63, 64, 65, 66, 67, 68, 69, 70, 71, 72, 73, 74, 75, 76, 77, 78, 79, 80, 81, 82, 83, 84, 85, 86, 87, 88, 89, 90, 91, 92, 93, 94, 95, 96, 97, 98, 99, 100, 101, 102, 103, 104, 105, 106, 107, 108, 109, 110, 111, 112, 113, 114, 115, 116, 117, 118, 119, 120, 121, 122, 123, 124, 125, 126, 127, 128, 129, 130, 131, 132, 133, 134, 135, 136, 137, 138, 139, 140, 141, 142, 143, 144, 145, 146, 147, 148, 149, 150, 151, 152, 153, 154, 155, 156, 157, 158, 159, 160, 161, 162, 163, 164, 165, 166, 167, 168, 169, 170, 171, 172, 173, 174, 175, 176, 177, 178, 179, 180, 181, 182, 183, 184, 185, 186, 187, 188, 189, 190, 191, 192, 193, 194, 195, 196, 197, 198, 199, 200, 201, 255, 256, 257, 258, 259, 260, 261, 262, 263, 264, 265, 266, 267, 268, 269, 270, 271, 272, 273, 274, 275, 276, 277, 278, 279, 280, 281, 282, 283, 284, 285, 286, 287, 288, 289, 290, 291, 292, 293] rfl (by decide +kernel)
set_option maxRecDepth 20000 in
theorem gX9_evening_X5_read : GoodIn wsX9_evening (wsV RX9 102 RX5 yX5_read wsX5_read) := goodIn_app (goodIn_of _ (by decide +kernel)) ggX9_evening_X5_read
set_option maxRecDepth 20000 in
theorem ggX9_evening_X9_beginTold : GoodIn wsX9_evening wsX9_beginTold := goodIn_r _ [205, 3, 5, 206, 207, 208, 209, 210, 211, 212, 213, 214, 215, 216, 217, 218, 219, 220, 221, 222, 223, 224, 225, 226, 227, 228, 229, 230, 231, 232, 233, 234, 10, 235, 236, 237, 238, 239, 240, 241, 242, 243, 244, 245, 246, 247, 248, 249, 250, 251, 252, 253, 254, 294, 295, 296, 297, 298, 299, 300, 301, 302, 303, 304, 305, 306, 307, 308, 309, 270, 271, 272, 273, 274, 275, 276, 277, 278, 279, 280, 281, 282, 283, 284, 285, 286, 310, 311, 312, 313, 314, 315, 316, 317, 318, 319, 320, 321, 322, 323, 324, 325] rfl (by decide +kernel)
set_option maxRecDepth 20000 in
theorem gX9_evening_X9_beginTold : GoodIn wsX9_evening (wsV RX9 106 RX9 yX9_beginTold wsX9_beginTold) := goodIn_app (goodIn_of _ (by decide +kernel)) ggX9_evening_X9_beginTold
theorem kX9_evening_12 : Cond.fieldLink RX9 12 "EveningVow" "reader" "LEveningVow$Reader;" ∈ wsX9_evening := List.mem_of_getElem? (i := 1) rfl
theorem iX9_evening_X9 : ∀ w ∈ u_ws RX9 TX9 15, w ∈ wsX9_evening := fun w h => (List.mem_cons_of_mem _ (List.mem_append_left _ (List.mem_append_left _ (List.mem_append_left _ (List.mem_append_left _ (List.mem_append_left _ (List.mem_append_left _ (List.mem_append_left _ (List.mem_append_left _ (List.mem_append_right _ h))))))))))
theorem kX9_evening_91 : Cond.fieldLink RX9 91 "EveningVow$Reader" "tapeBytes" "I" ∈ wsX9_evening := List.mem_of_getElem? (i := 2) rfl
theorem iX9_evening_X5 : ∀ w ∈ u_ws RX5 TX5 15, w ∈ wsX9_evening := fun w h => (List.mem_cons_of_mem _ (List.mem_append_left _ (List.mem_append_left _ (List.mem_append_left _ (List.mem_append_left _ (List.mem_append_left _ (List.mem_append_left _ (List.mem_append_left _ (List.mem_append_right _ h)))))))))
theorem kX9_evening_23 : Cond.fieldLink RX9 23 "EveningVow" "spare" "LEveningVow$House;" ∈ wsX9_evening := List.mem_of_getElem? (i := 3) rfl
theorem kX9_evening_30 : Cond.fieldLink RX9 30 "EveningVow" "refusal" "I" ∈ wsX9_evening := List.mem_of_getElem? (i := 4) rfl
theorem kX9_evening_19 : Cond.fieldLink RX9 19 "EveningVow" "told" "LEveningVow$House;" ∈ wsX9_evening := List.mem_of_getElem? (i := 5) rfl
theorem kX9_evening_109 : Cond.fieldLink RX9 109 "EveningVow$House" "guests" "I" ∈ wsX9_evening := List.mem_of_getElem? (i := 6) rfl
theorem iX9_evening_X1 : ∀ w ∈ u_ws RX1 TX1 17, w ∈ wsX9_evening := fun w h => (List.mem_cons_of_mem _ (List.mem_append_left _ (List.mem_append_left _ (List.mem_append_left _ (List.mem_append_left _ (List.mem_append_left _ (List.mem_append_left _ (List.mem_append_right _ h))))))))
set_option maxHeartbeats 4000000 in
set_option maxRecDepth 100000 in
theorem mX9_evening (l : Launch) (g : GG) (a_t : Nat) (p_t : Nat → Nat) (p_t_0 : Nat → Nat) (p_t_2 : Nat → Nat) (p_t_2_16 : Nat → Nat) (p_t_5 : Nat → Nat) (p_t_9 : Nat → Nat) (p_t_12 : Nat → Nat) (p_t_13 : Nat → Nat) (p_t_14 : Nat → Nat) (n : Nat) (x1 : Int32) (o_t : Nat → Int32) (o_t_0 : Nat → Int32) (c_t_0 : Int64) (f_t_0_0 : Nat → Int32) (f_t_0_12 : Nat → Int64) (f_t_0_13 : Nat → Int32) (f_t_0_14 : Nat → Int32) (o_t_2 : Nat → Int32) (f_t_2_4 : Nat → Int32) (f_t_2_5 : Nat → Int32) (f_t_2_6 : Nat → Int32) (f_t_2_7 : Nat → Int32) (f_t_2_10 : Nat → Int32) (f_t_2_11 : Nat → Int32) (f_t_2_12 : Nat → Int32) (f_t_2_14 : Nat → Int32) (f_t_2_15 : Nat → Int32) (o_t_2_16 : Nat → Int32) (f_t_2_16_1 : Nat → Int32) (f_t_2_16_2 : Nat → Int32) (f_t_2_16_4 : Nat → Int32) (f_t_2_16_5 : Nat → Int32) (f_t_2_16_6 : Nat → Int32) (o_t_5 : Nat → Int32) (f_t_5_6 : Nat → Int32) (f_t_5_7 : Nat → Int32) (o_t_9 : Nat → Int32) (o_t_12 : Nat → Int32) (o_t_13 : Nat → Int32) (o_t_14 : Nat → Int32) (r : Int32) (sw : Bool) (o_t' : Nat → Int32) (o_t_0' : Nat → Int32) (c_t_0' : Int64) (f_t_0_12' : Nat → Int64) (f_t_0_13' : Nat → Int32) (f_t_0_14' : Nat → Int32) (o_t_2' : Nat → Int32) (f_t_2_4' : Nat → Int32) (f_t_2_5' : Nat → Int32) (f_t_2_6' : Nat → Int32) (f_t_2_7' : Nat → Int32) (f_t_2_10' : Nat → Int32) (f_t_2_11' : Nat → Int32) (f_t_2_12' : Nat → Int32) (f_t_2_14' : Nat → Int32) (f_t_2_15' : Nat → Int32) (o_t_2_16' : Nat → Int32) (f_t_2_16_1' : Nat → Int32) (f_t_2_16_2' : Nat → Int32) (f_t_2_16_4' : Nat → Int32) (f_t_2_16_5' : Nat → Int32) (f_t_2_16_6' : Nat → Int32) (o_t_5' : Nat → Int32) (f_t_5_6' : Nat → Int32) (f_t_5_7' : Nat → Int32) (o_t_9' : Nat → Int32) (o_t_12' : Nat → Int32) (o_t_13' : Nat → Int32) (o_t_14' : Nat → Int32) (hF : fX9_evening n x1 o_t o_t_0 c_t_0 f_t_0_0 f_t_0_12 f_t_0_13 f_t_0_14 o_t_2 f_t_2_4 f_t_2_5 f_t_2_6 f_t_2_7 f_t_2_10 f_t_2_11 f_t_2_12 f_t_2_14 f_t_2_15 o_t_2_16 f_t_2_16_1 f_t_2_16_2 f_t_2_16_4 f_t_2_16_5 f_t_2_16_6 o_t_5 f_t_5_6 f_t_5_7 o_t_9 o_t_12 o_t_13 o_t_14 = some (r, sw, o_t', o_t_0', c_t_0', f_t_0_12', f_t_0_13', f_t_0_14', o_t_2', f_t_2_4', f_t_2_5', f_t_2_6', f_t_2_7', f_t_2_10', f_t_2_11', f_t_2_12', f_t_2_14', f_t_2_15', o_t_2_16', f_t_2_16_1', f_t_2_16_2', f_t_2_16_4', f_t_2_16_5', f_t_2_16_6', o_t_5', f_t_5_6', f_t_5_7', o_t_9', o_t_12', o_t_13', o_t_14')) : MI l g yX9_evening wsX9_evening ({ frames := 7, cells := 0, slots := 0, locals := 153 } : Room) [.ref a_t, .int x1] [oX9 a_t p_t o_t, oX5 (p_t 0) p_t_0 o_t_0 c_t_0, aI g (p_t_0 0) 800 f_t_0_0, aJ g (p_t_0 12) 16 f_t_0_12, aI g (p_t_0 13) 16 f_t_0_13, aI g (p_t_0 14) 16 f_t_0_14, oX1 (p_t 2) p_t_2 o_t_2, aI g (p_t_2 4) 7 f_t_2_4, aI g (p_t_2 5) 7 f_t_2_5, aI g (p_t_2 6) 7 f_t_2_6, aI g (p_t_2 7) 7 f_t_2_7, aI g (p_t_2 10) 8 f_t_2_10, aI g (p_t_2 11) 8 f_t_2_11, aI g (p_t_2 12) 8 f_t_2_12, aI g (p_t_2 14) 4 f_t_2_14, aI g (p_t_2 15) 4 f_t_2_15, oX7 (p_t_2 16) p_t_2_16 o_t_2_16, aI g (p_t_2_16 1) 5 f_t_2_16_1, aI g (p_t_2_16 2) 5 f_t_2_16_2, aI g (p_t_2_16 4) 6 f_t_2_16_4, aI g (p_t_2_16 5) 6 f_t_2_16_5, aI g (p_t_2_16 6) 6 f_t_2_16_6, oX2 (p_t 5) p_t_5 o_t_5, aI g (p_t_5 6) 7 f_t_5_6, aI g (p_t_5 7) 7 f_t_5_7, oX4 (p_t 9) p_t_9 o_t_9, oX6 (p_t 12) p_t_12 o_t_12, oX0 (p_t 13) p_t_13 o_t_13, oX8 (p_t 14) p_t_14 o_t_14] r [oX9 a_t (swp sw p_t) o_t', oX5 (p_t 0) p_t_0 o_t_0' c_t_0', aI g (p_t_0 0) 800 f_t_0_0, aJ g (p_t_0 12) 16 f_t_0_12', aI g (p_t_0 13) 16 f_t_0_13', aI g (p_t_0 14) 16 f_t_0_14', oX1 (p_t 2) p_t_2 o_t_2', aI g (p_t_2 4) 7 f_t_2_4', aI g (p_t_2 5) 7 f_t_2_5', aI g (p_t_2 6) 7 f_t_2_6', aI g (p_t_2 7) 7 f_t_2_7', aI g (p_t_2 10) 8 f_t_2_10', aI g (p_t_2 11) 8 f_t_2_11', aI g (p_t_2 12) 8 f_t_2_12', aI g (p_t_2 14) 4 f_t_2_14', aI g (p_t_2 15) 4 f_t_2_15', oX7 (p_t_2 16) p_t_2_16 o_t_2_16', aI g (p_t_2_16 1) 5 f_t_2_16_1', aI g (p_t_2_16 2) 5 f_t_2_16_2', aI g (p_t_2_16 4) 6 f_t_2_16_4', aI g (p_t_2_16 5) 6 f_t_2_16_5', aI g (p_t_2_16 6) 6 f_t_2_16_6', oX2 (p_t 5) p_t_5 o_t_5', aI g (p_t_5 6) 7 f_t_5_6', aI g (p_t_5 7) 7 f_t_5_7', oX4 (p_t 9) p_t_9 o_t_9', oX6 (p_t 12) p_t_12 o_t_12', oX0 (p_t 13) p_t_13 o_t_13', oX8 (p_t 14) p_t_14 o_t_14'] := by
  refine MI.of (cc := cX9_evening) (maxL := 3) (rt := .int) (own := RX9) rfl rfl (by decide) (Nat.le_of_ble_eq_true rfl) ?_
  intro p e s m args below meth c A C0 hP hD hS ls hl
  obtain ⟨hx, hb, hml, hown, hts, hr, hlk, hK, hA, hSW⟩ := id C0
  have hl : lv_has ls 3 [(0, .ref a_t), (1, .int x1)] := hl
  rw [fX9_evening] at hF
  refine lv_iload_n hx hb dX9_evening_0 rfl (lv_at hl 1 rfl) ?_
  refine lv_if_lt (tgt := 15) hx hb dX9_evening_1 (by decide) (fun c_1 => ?_) (fun c_1 => ?_)
  · have hF := it_p c_1 hF
    refine lv_aload_n hx hb dX9_evening_15 rfl (lv_at hl 0 rfl) ?_
    refine lv_iconst (v := (2 : Int32)) hx hb dX9_evening_16 (by decide) ?_
    obtain ⟨u_2, u_3, hu_4, hF⟩ := ob2_some hF
    refine call_i (wr := [oX5 (p_t 0) p_t_0 o_t_0 c_t_0, aI g (p_t_0 0) 800 f_t_0_0, aJ g (p_t_0 12) 16 f_t_0_12, aI g (p_t_0 13) 16 f_t_0_13, aI g (p_t_0 14) 16 f_t_0_14, oX1 (p_t 2) p_t_2 o_t_2, aI g (p_t_2 4) 7 f_t_2_4, aI g (p_t_2 5) 7 f_t_2_5, aI g (p_t_2 6) 7 f_t_2_6, aI g (p_t_2 7) 7 f_t_2_7, aI g (p_t_2 10) 8 f_t_2_10, aI g (p_t_2 11) 8 f_t_2_11, aI g (p_t_2 12) 8 f_t_2_12, aI g (p_t_2 14) 4 f_t_2_14, aI g (p_t_2 15) 4 f_t_2_15, oX7 (p_t_2 16) p_t_2_16 o_t_2_16, aI g (p_t_2_16 1) 5 f_t_2_16_1, aI g (p_t_2_16 2) 5 f_t_2_16_2, aI g (p_t_2_16 4) 6 f_t_2_16_4, aI g (p_t_2_16 5) 6 f_t_2_16_5, aI g (p_t_2_16 6) 6 f_t_2_16_6, oX2 (p_t 5) p_t_5 o_t_5, aI g (p_t_5 6) 7 f_t_5_6, aI g (p_t_5 7) 7 f_t_5_7, oX4 (p_t 9) p_t_9 o_t_9, oX6 (p_t 12) p_t_12 o_t_12, oX0 (p_t 13) p_t_13 o_t_13, oX8 (p_t 14) p_t_14 o_t_14]) (As := [.int (2 : Int32)]) (rest := []) (ci := 9) (q0 := 0) C0 (mX9_refuse l g a_t p_t n (2 : Int32) o_t u_2 u_3 hu_4) (cwV 1 hts gX9_evening_X9_refuse rfl rfl rfl (by decide +kernel) ⟨Nat.le_of_ble_eq_true rfl, Nat.le_of_ble_eq_true rfl⟩) hP hD hS [0] [1, 2, 3, 4, 5, 6, 7, 8, 9, 10, 11, 12, 13, 14, 15, 16, 17, 18, 19, 20, 21, 22, 23, 24, 25, 26, 27, 28] rfl rfl rfl rfl rfl (by decide) rfl rfl hl.1 rfl rfl (Nat.le_of_ble_eq_true rfl) ⟨Nat.zero_le _, Nat.zero_le _⟩ dX9_evening_17 ?_
    intro H locs hP hD hS
    cases hF
    exact ret_i C0 hP hD hS [28, 0, 1, 2, 3, 4, 5, 6, 7, 8, 9, 10, 11, 12, 13, 14, 15, 16, 17, 18, 19, 20, 21, 22, 23, 24, 25, 26, 27] rfl rfl rfl dX9_evening_20 rfl
  · have hF := it_n c_1 hF
    refine lv_iload_n hx hb dX9_evening_4 rfl (lv_at hl 1 rfl) ?_
    refine lv_aload_n hx hb dX9_evening_5 rfl (lv_at hl 0 rfl) ?_
    refine va_get (D := g.1) (ci := 9) (v := .ref (p_t 0)) (C := RX9) (T := TX9) (N := 15) hx hb hts iX9_evening_X9 hown hK.1 hP 0 rfl rfl 0 (by decide) (hts _ kX9_evening_12) (fun _ h9 => h9) rfl dX9_evening_6 ?_
    refine va_get (D := g.1) (ci := 5) (v := .int (o_t_0 1)) (C := RX5) (T := TX5) (N := 15) hx hb hts iX9_evening_X5 hown hK.1 hP 1 rfl rfl 1 (by decide) (hts _ kX9_evening_91) (fun _ h9 => h9) rfl dX9_evening_9 ?_
    refine lv_icmp_le (tgt := 21) hx hb dX9_evening_12 (by decide) (fun c_5 => ?_) (fun c_5 => ?_)
    · have hF := it_p c_5 hF
      refine lv_aload_n hx hb dX9_evening_21 rfl (lv_at hl 0 rfl) ?_
      refine va_get (D := g.1) (ci := 9) (v := .ref (p_t 0)) (C := RX9) (T := TX9) (N := 15) hx hb hts iX9_evening_X9 hown hK.1 hP 0 rfl rfl 0 (by decide) (hts _ kX9_evening_12) (fun _ h9 => h9) rfl dX9_evening_22 ?_
      refine lv_iload_n hx hb dX9_evening_25 rfl (lv_at hl 1 rfl) ?_
      refine lv_aload_n hx hb dX9_evening_26 rfl (lv_at hl 0 rfl) ?_
      refine va_get (D := g.1) (ci := 9) (v := .ref (p_t 2)) (C := RX9) (T := TX9) (N := 15) hx hb hts iX9_evening_X9 hown hK.1 hP 0 rfl rfl 2 (by decide) (hts _ kX9_evening_23) (fun _ h9 => h9) rfl dX9_evening_27 ?_
      obtain ⟨u_6, u_7, u_8, u_9, u_10, u_11, u_12, u_13, u_14, u_15, u_16, u_17, u_18, u_19, u_20, u_21, u_22, u_23, u_24, u_25, u_26, u_27, hu_28, hF⟩ := ob22_some hF
      refine call_i (wr := [oX9 a_t p_t o_t, oX2 (p_t 5) p_t_5 o_t_5, aI g (p_t_5 6) 7 f_t_5_6, aI g (p_t_5 7) 7 f_t_5_7, oX4 (p_t 9) p_t_9 o_t_9, oX6 (p_t 12) p_t_12 o_t_12, oX0 (p_t 13) p_t_13 o_t_13, oX8 (p_t 14) p_t_14 o_t_14]) (As := [.int x1, .ref (p_t 2)]) (rest := []) (ci := 5) (q0 := 0) C0 (mX5_read l g (p_t 0) (p_t 2) p_t_0 p_t_2 p_t_2_16 n x1 o_t_0 c_t_0 f_t_0_0 f_t_0_12 f_t_0_13 f_t_0_14 o_t_2 f_t_2_4 f_t_2_5 f_t_2_6 f_t_2_7 f_t_2_10 f_t_2_11 f_t_2_12 f_t_2_14 f_t_2_15 o_t_2_16 f_t_2_16_1 f_t_2_16_2 f_t_2_16_4 f_t_2_16_5 f_t_2_16_6 u_6 u_7 u_8 u_9 u_10 u_11 u_12 u_13 u_14 u_15 u_16 u_17 u_18 u_19 u_20 u_21 u_22 u_23 u_24 u_25 u_26 u_27 hu_28) (cwV 2 hts gX9_evening_X5_read rfl rfl rfl (by decide +kernel) ⟨Nat.le_of_ble_eq_true rfl, Nat.le_of_ble_eq_true rfl⟩) hP hD hS [1, 2, 3, 4, 5, 6, 7, 8, 9, 10, 11, 12, 13, 14, 15, 16, 17, 18, 19, 20, 21] [0, 22, 23, 24, 25, 26, 27, 28] rfl rfl rfl rfl rfl (by decide) rfl rfl hl.1 rfl rfl (Nat.le_of_ble_eq_true rfl) ⟨Nat.zero_le _, Nat.zero_le _⟩ dX9_evening_30 ?_
      intro H locs hP hD hS
      refine lv_istore_n (lv' := [(2, .int u_6), (0, .ref a_t), (1, .int x1)]) hx hb dX9_evening_33 rfl hl (by decide) rfl (fun ls hl => ?_)
      refine lv_aload_n hx hb dX9_evening_34 rfl (lv_at hl 1 rfl) ?_
      refine va_get (D := g.1) (ci := 9) (v := .ref (p_t 0)) (C := RX9) (T := TX9) (N := 15) hx hb hts iX9_evening_X9 hown hK.1 hP 0 rfl rfl 0 (by decide) (hts _ kX9_evening_12) (fun _ h9 => h9) rfl dX9_evening_35 ?_
      refine lv_iconst (v := (0 : Int32)) hx hb dX9_evening_38 (by decide) ?_
      refine va_put (D := g.1) (ci := 5) (v := .int (0 : Int32)) (ty := .int) (C := RX5) (T := TX5) (N := 15) hx hb hts iX9_evening_X5 tyX5 tyX5_ok nmX5 hown hK.1 hP hD hS 8 rfl rfl 1 (by decide) (hts _ kX9_evening_91) (fun _ h9 => h9) rfl (by decide +kernel) rfl rfl (Nat.le_of_ble_eq_true rfl) dX9_evening_39 (fun H locs hP hD hS => ?_)
      have hP : va_P g.1 vwCl [oX9 a_t p_t o_t, oX2 (p_t 5) p_t_5 o_t_5, aI g (p_t_5 6) 7 f_t_5_6, aI g (p_t_5 7) 7 f_t_5_7, oX4 (p_t 9) p_t_9 o_t_9, oX6 (p_t 12) p_t_12 o_t_12, oX0 (p_t 13) p_t_13 o_t_13, oX8 (p_t 14) p_t_14 o_t_14, oX5 (p_t 0) p_t_0 (upd u_7 1 (0 : Int32)) u_8, aI g (p_t_0 0) 800 f_t_0_0, aJ g (p_t_0 12) 16 u_9, aI g (p_t_0 13) 16 u_10, aI g (p_t_0 14) 16 u_11, oX1 (p_t 2) p_t_2 u_12, aI g (p_t_2 4) 7 u_13, aI g (p_t_2 5) 7 u_14, aI g (p_t_2 6) 7 u_15, aI g (p_t_2 7) 7 u_16, aI g (p_t_2 10) 8 u_17, aI g (p_t_2 11) 8 u_18, aI g (p_t_2 12) 8 u_19, aI g (p_t_2 14) 4 u_20, aI g (p_t_2 15) 4 u_21, oX7 (p_t_2 16) p_t_2_16 u_22, aI g (p_t_2_16 1) 5 u_23, aI g (p_t_2_16 2) 5 u_24, aI g (p_t_2_16 4) 6 u_25, aI g (p_t_2_16 5) 6 u_26, aI g (p_t_2_16 6) 6 u_27] H := hP
      have hD : va_D A [oX9 a_t p_t o_t, oX2 (p_t 5) p_t_5 o_t_5, aI g (p_t_5 6) 7 f_t_5_6, aI g (p_t_5 7) 7 f_t_5_7, oX4 (p_t 9) p_t_9 o_t_9, oX6 (p_t 12) p_t_12 o_t_12, oX0 (p_t 13) p_t_13 o_t_13, oX8 (p_t 14) p_t_14 o_t_14, oX5 (p_t 0) p_t_0 (upd u_7 1 (0 : Int32)) u_8, aI g (p_t_0 0) 800 f_t_0_0, aJ g (p_t_0 12) 16 u_9, aI g (p_t_0 13) 16 u_10, aI g (p_t_0 14) 16 u_11, oX1 (p_t 2) p_t_2 u_12, aI g (p_t_2 4) 7 u_13, aI g (p_t_2 5) 7 u_14, aI g (p_t_2 6) 7 u_15, aI g (p_t_2 7) 7 u_16, aI g (p_t_2 10) 8 u_17, aI g (p_t_2 11) 8 u_18, aI g (p_t_2 12) 8 u_19, aI g (p_t_2 14) 4 u_20, aI g (p_t_2 15) 4 u_21, oX7 (p_t_2 16) p_t_2_16 u_22, aI g (p_t_2_16 1) 5 u_23, aI g (p_t_2_16 2) 5 u_24, aI g (p_t_2_16 4) 6 u_25, aI g (p_t_2_16 5) 6 u_26, aI g (p_t_2_16 6) 6 u_27] := hD
      refine lv_iload_n hx hb dX9_evening_42 rfl (lv_at hl 0 rfl) ?_
      refine lv_if_ne (tgt := 52) hx hb dX9_evening_43 (by decide) (fun c_29 => ?_) (fun c_29 => ?_)
      · have hF := it_n c_29 hF
        refine lv_aload_n hx hb dX9_evening_52 rfl (lv_at hl 1 rfl) ?_
        obtain ⟨u_30, u_31, u_32, u_33, u_34, u_35, u_36, u_37, hu_38, hF⟩ := ob8_some hF
        refine call_v (wr := [oX5 (p_t 0) p_t_0 (upd u_7 1 (0 : Int32)) u_8, aI g (p_t_0 0) 800 f_t_0_0, aJ g (p_t_0 12) 16 u_9, aI g (p_t_0 13) 16 u_10, aI g (p_t_0 14) 16 u_11, aI g (p_t_2 4) 7 u_13, aI g (p_t_2 6) 7 u_15, aI g (p_t_2 7) 7 u_16, aI g (p_t_2 10) 8 u_17, aI g (p_t_2 11) 8 u_18, aI g (p_t_2 12) 8 u_19, aI g (p_t_2 14) 4 u_20, aI g (p_t_2 15) 4 u_21, oX7 (p_t_2 16) p_t_2_16 u_22, aI g (p_t_2_16 1) 5 u_23, aI g (p_t_2_16 2) 5 u_24, aI g (p_t_2_16 4) 6 u_25, aI g (p_t_2_16 5) 6 u_26, aI g (p_t_2_16 6) 6 u_27]) (As := []) (rest := []) (ci := 9) (q0 := 0) C0 (mX9_beginTold l g a_t p_t p_t_2 p_t_5 p_t_9 p_t_12 p_t_13 p_t_14 n o_t u_12 u_14 o_t_5 f_t_5_6 f_t_5_7 o_t_9 o_t_12 o_t_13 o_t_14 u_30 u_31 u_32 u_33 u_34 u_35 u_36 u_37 hu_38) (cwV 0 hts gX9_evening_X9_beginTold rfl rfl rfl (by decide +kernel) ⟨Nat.le_of_ble_eq_true rfl, Nat.le_of_ble_eq_true rfl⟩) hP hD hS [0, 13, 15, 1, 2, 3, 4, 5, 6, 7] [8, 9, 10, 11, 12, 14, 16, 17, 18, 19, 20, 21, 22, 23, 24, 25, 26, 27, 28] rfl rfl rfl rfl rfl (by decide) rfl rfl hl.1 rfl rfl (Nat.le_of_ble_eq_true rfl) ⟨Nat.zero_le _, Nat.zero_le _⟩ dX9_evening_53 ?_
        intro H locs hP hD hS
        refine lv_aload_n hx hb dX9_evening_56 rfl (lv_at hl 1 rfl) ?_
        refine lv_iconst (v := (0 : Int32)) hx hb dX9_evening_57 (by decide) ?_
        refine va_put (D := g.1) (ci := 9) (v := .int (0 : Int32)) (ty := .int) (C := RX9) (T := TX9) (N := 15) hx hb hts iX9_evening_X9 tyX9 tyX9_ok nmX9 hown hK.1 hP hD hS 19 rfl rfl 4 (by decide) (hts _ kX9_evening_30) (fun _ h9 => h9) rfl (by decide +kernel) rfl rfl (Nat.le_of_ble_eq_true rfl) dX9_evening_58 (fun H locs hP hD hS => ?_)
        have hP : va_P g.1 vwCl [oX5 (p_t 0) p_t_0 (upd u_7 1 (0 : Int32)) u_8, aI g (p_t_0 0) 800 f_t_0_0, aJ g (p_t_0 12) 16 u_9, aI g (p_t_0 13) 16 u_10, aI g (p_t_0 14) 16 u_11, aI g (p_t_2 4) 7 u_13, aI g (p_t_2 6) 7 u_15, aI g (p_t_2 7) 7 u_16, aI g (p_t_2 10) 8 u_17, aI g (p_t_2 11) 8 u_18, aI g (p_t_2 12) 8 u_19, aI g (p_t_2 14) 4 u_20, aI g (p_t_2 15) 4 u_21, oX7 (p_t_2 16) p_t_2_16 u_22, aI g (p_t_2_16 1) 5 u_23, aI g (p_t_2_16 2) 5 u_24, aI g (p_t_2_16 4) 6 u_25, aI g (p_t_2_16 5) 6 u_26, aI g (p_t_2_16 6) 6 u_27, oX9 a_t (swp true p_t) (upd u_30 4 (0 : Int32)), oX1 (p_t 2) p_t_2 u_12, aI g (p_t_2 5) 7 u_14, oX2 (p_t 5) p_t_5 u_31, aI g (p_t_5 6) 7 u_32, aI g (p_t_5 7) 7 u_33, oX4 (p_t 9) p_t_9 u_34, oX6 (p_t 12) p_t_12 u_35, oX0 (p_t 13) p_t_13 u_36, oX8 (p_t 14) p_t_14 u_37] H := hP
        have hD : va_D A [oX5 (p_t 0) p_t_0 (upd u_7 1 (0 : Int32)) u_8, aI g (p_t_0 0) 800 f_t_0_0, aJ g (p_t_0 12) 16 u_9, aI g (p_t_0 13) 16 u_10, aI g (p_t_0 14) 16 u_11, aI g (p_t_2 4) 7 u_13, aI g (p_t_2 6) 7 u_15, aI g (p_t_2 7) 7 u_16, aI g (p_t_2 10) 8 u_17, aI g (p_t_2 11) 8 u_18, aI g (p_t_2 12) 8 u_19, aI g (p_t_2 14) 4 u_20, aI g (p_t_2 15) 4 u_21, oX7 (p_t_2 16) p_t_2_16 u_22, aI g (p_t_2_16 1) 5 u_23, aI g (p_t_2_16 2) 5 u_24, aI g (p_t_2_16 4) 6 u_25, aI g (p_t_2_16 5) 6 u_26, aI g (p_t_2_16 6) 6 u_27, oX9 a_t (swp true p_t) (upd u_30 4 (0 : Int32)), oX1 (p_t 2) p_t_2 u_12, aI g (p_t_2 5) 7 u_14, oX2 (p_t 5) p_t_5 u_31, aI g (p_t_5 6) 7 u_32, aI g (p_t_5 7) 7 u_33, oX4 (p_t 9) p_t_9 u_34, oX6 (p_t 12) p_t_12 u_35, oX0 (p_t 13) p_t_13 u_36, oX8 (p_t 14) p_t_14 u_37] := hD
        refine lv_aload_n hx hb dX9_evening_61 rfl (lv_at hl 1 rfl) ?_
        refine va_get (D := g.1) (ci := 9) (v := .ref (p_t 2)) (C := RX9) (T := TX9) (N := 15) hx hb hts iX9_evening_X9 hown hK.1 hP 19 rfl rfl 1 (by decide) (hts _ kX9_evening_19) (fun _ h9 => h9) rfl dX9_evening_62 ?_
        refine va_get (D := g.1) (ci := 1) (v := .int (u_12 3)) (C := RX1) (T := TX1) (N := 17) hx hb hts iX9_evening_X1 hown hK.1 hP 20 rfl rfl 3 (by decide) (hts _ kX9_evening_109) (fun _ h9 => h9) rfl dX9_evening_65 ?_
        cases hF
        exact ret_i C0 hP hD hS [19, 0, 1, 2, 3, 4, 20, 5, 21, 6, 7, 8, 9, 10, 11, 12, 13, 14, 15, 16, 17, 18, 22, 23, 24, 25, 26, 27, 28] rfl rfl rfl dX9_evening_68 rfl
      · have hF := it_p c_29 hF
        refine lv_aload_n hx hb dX9_evening_46 rfl (lv_at hl 1 rfl) ?_
        refine lv_iconst (v := (4 : Int32)) hx hb dX9_evening_47 (by decide) ?_
        obtain ⟨u_39, u_40, hu_41, hF⟩ := ob2_some hF
        refine call_i (wr := [oX2 (p_t 5) p_t_5 o_t_5, aI g (p_t_5 6) 7 f_t_5_6, aI g (p_t_5 7) 7 f_t_5_7, oX4 (p_t 9) p_t_9 o_t_9, oX6 (p_t 12) p_t_12 o_t_12, oX0 (p_t 13) p_t_13 o_t_13, oX8 (p_t 14) p_t_14 o_t_14, oX5 (p_t 0) p_t_0 (upd u_7 1 (0 : Int32)) u_8, aI g (p_t_0 0) 800 f_t_0_0, aJ g (p_t_0 12) 16 u_9, aI g (p_t_0 13) 16 u_10, aI g (p_t_0 14) 16 u_11, oX1 (p_t 2) p_t_2 u_12, aI g (p_t_2 4) 7 u_13, aI g (p_t_2 5) 7 u_14, aI g (p_t_2 6) 7 u_15, aI g (p_t_2 7) 7 u_16, aI g (p_t_2 10) 8 u_17, aI g (p_t_2 11) 8 u_18, aI g (p_t_2 12) 8 u_19, aI g (p_t_2 14) 4 u_20, aI g (p_t_2 15) 4 u_21, oX7 (p_t_2 16) p_t_2_16 u_22, aI g (p_t_2_16 1) 5 u_23, aI g (p_t_2_16 2) 5 u_24, aI g (p_t_2_16 4) 6 u_25, aI g (p_t_2_16 5) 6 u_26, aI g (p_t_2_16 6) 6 u_27]) (As := [.int (4 : Int32)]) (rest := []) (ci := 9) (q0 := 0) C0 (mX9_refuse l g a_t p_t n (4 : Int32) o_t u_39 u_40 hu_41) (cwV 1 hts gX9_evening_X9_refuse rfl rfl rfl (by decide +kernel) ⟨Nat.le_of_ble_eq_true rfl, Nat.le_of_ble_eq_true rfl⟩) hP hD hS [0] [1, 2, 3, 4, 5, 6, 7, 8, 9, 10, 11, 12, 13, 14, 15, 16, 17, 18, 19, 20, 21, 22, 23, 24, 25, 26, 27, 28] rfl rfl rfl rfl rfl (by decide) rfl rfl hl.1 rfl rfl (Nat.le_of_ble_eq_true rfl) ⟨Nat.zero_le _, Nat.zero_le _⟩ dX9_evening_48 ?_
        intro H locs hP hD hS
        cases hF
        exact ret_i C0 hP hD hS [28, 7, 8, 9, 10, 11, 12, 13, 14, 15, 16, 17, 18, 19, 20, 21, 22, 23, 24, 25, 26, 27, 0, 1, 2, 3, 4, 5, 6] rfl rfl rfl dX9_evening_51 rfl
    · have hF := it_n c_5 hF
      refine lv_aload_n hx hb dX9_evening_15 rfl (lv_at hl 0 rfl) ?_
      refine lv_iconst (v := (2 : Int32)) hx hb dX9_evening_16 (by decide) ?_
      obtain ⟨u_42, u_43, hu_44, hF⟩ := ob2_some hF
      refine call_i (wr := [oX5 (p_t 0) p_t_0 o_t_0 c_t_0, aI g (p_t_0 0) 800 f_t_0_0, aJ g (p_t_0 12) 16 f_t_0_12, aI g (p_t_0 13) 16 f_t_0_13, aI g (p_t_0 14) 16 f_t_0_14, oX1 (p_t 2) p_t_2 o_t_2, aI g (p_t_2 4) 7 f_t_2_4, aI g (p_t_2 5) 7 f_t_2_5, aI g (p_t_2 6) 7 f_t_2_6, aI g (p_t_2 7) 7 f_t_2_7, aI g (p_t_2 10) 8 f_t_2_10, aI g (p_t_2 11) 8 f_t_2_11, aI g (p_t_2 12) 8 f_t_2_12, aI g (p_t_2 14) 4 f_t_2_14, aI g (p_t_2 15) 4 f_t_2_15, oX7 (p_t_2 16) p_t_2_16 o_t_2_16, aI g (p_t_2_16 1) 5 f_t_2_16_1, aI g (p_t_2_16 2) 5 f_t_2_16_2, aI g (p_t_2_16 4) 6 f_t_2_16_4, aI g (p_t_2_16 5) 6 f_t_2_16_5, aI g (p_t_2_16 6) 6 f_t_2_16_6, oX2 (p_t 5) p_t_5 o_t_5, aI g (p_t_5 6) 7 f_t_5_6, aI g (p_t_5 7) 7 f_t_5_7, oX4 (p_t 9) p_t_9 o_t_9, oX6 (p_t 12) p_t_12 o_t_12, oX0 (p_t 13) p_t_13 o_t_13, oX8 (p_t 14) p_t_14 o_t_14]) (As := [.int (2 : Int32)]) (rest := []) (ci := 9) (q0 := 0) C0 (mX9_refuse l g a_t p_t n (2 : Int32) o_t u_42 u_43 hu_44) (cwV 1 hts gX9_evening_X9_refuse rfl rfl rfl (by decide +kernel) ⟨Nat.le_of_ble_eq_true rfl, Nat.le_of_ble_eq_true rfl⟩) hP hD hS [0] [1, 2, 3, 4, 5, 6, 7, 8, 9, 10, 11, 12, 13, 14, 15, 16, 17, 18, 19, 20, 21, 22, 23, 24, 25, 26, 27, 28] rfl rfl rfl rfl rfl (by decide) rfl rfl hl.1 rfl rfl (Nat.le_of_ble_eq_true rfl) ⟨Nat.zero_le _, Nat.zero_le _⟩ dX9_evening_17 ?_
      intro H locs hP hD hS
      cases hF
      exact ret_i C0 hP hD hS [28, 0, 1, 2, 3, 4, 5, 6, 7, 8, 9, 10, 11, 12, 13, 14, 15, 16, 17, 18, 19, 20, 21, 22, 23, 24, 25, 26, 27] rfl rfl rfl dX9_evening_20 rfl

theorem dAX9_fault : ∀ q ∈ ([(0, (.aload_n 0, 1)), (1, (.getfield 12, 3)), (4, (.getfield 112, 3)), (7, (.ireturn, 1))] : List (Nat × (Instr × Nat))), decode cX9_fault q.1 = .ok q.2 := by decide +kernel
theorem dX9_fault_0 : decode cX9_fault 0 = .ok (.aload_n 0, 1) := dAX9_fault (0, (.aload_n 0, 1)) (List.mem_of_getElem? (i := 0) rfl)
theorem dX9_fault_1 : decode cX9_fault 1 = .ok (.getfield 12, 3) := dAX9_fault (1, (.getfield 12, 3)) (List.mem_of_getElem? (i := 1) rfl)
theorem dX9_fault_4 : decode cX9_fault 4 = .ok (.getfield 112, 3) := dAX9_fault (4, (.getfield 112, 3)) (List.mem_of_getElem? (i := 2) rfl)
theorem dX9_fault_7 : decode cX9_fault 7 = .ok (.ireturn, 1) := dAX9_fault (7, (.ireturn, 1)) (List.mem_of_getElem? (i := 3) rfl)
theorem kX9_fault_12 : Cond.fieldLink RX9 12 "EveningVow" "reader" "LEveningVow$Reader;" ∈ wsX9_fault := List.mem_of_getElem? (i := 1) rfl
theorem iX9_fault_X9 : ∀ w ∈ u_ws RX9 TX9 15, w ∈ wsX9_fault := fun w h => (List.mem_cons_of_mem _ (List.mem_append_left _ (List.mem_append_right _ h)))
theorem kX9_fault_112 : Cond.fieldLink RX9 112 "EveningVow$Reader" "faultNumber" "I" ∈ wsX9_fault := List.mem_of_getElem? (i := 2) rfl
theorem iX9_fault_X5 : ∀ w ∈ u_ws RX5 TX5 15, w ∈ wsX9_fault := fun w h => (List.mem_cons_of_mem _ (List.mem_append_right _ h))
set_option maxHeartbeats 4000000 in
set_option maxRecDepth 100000 in
theorem mX9_fault (l : Launch) (g : GG) (a_t : Nat) (p_t : Nat → Nat) (p_t_0 : Nat → Nat) (n : Nat) (o_t : Nat → Int32) (o_t_0 : Nat → Int32) (c_t_0 : Int64) (r : Int32) (hF : fX9_fault n o_t o_t_0 c_t_0 = some (r)) : MI l g yX9_fault wsX9_fault ({ frames := 0, cells := 0, slots := 0, locals := 0 } : Room) [.ref a_t] [oX9 a_t p_t o_t, oX5 (p_t 0) p_t_0 o_t_0 c_t_0] r [oX9 a_t p_t o_t, oX5 (p_t 0) p_t_0 o_t_0 c_t_0] := by
  refine MI.of (cc := cX9_fault) (maxL := 1) (rt := .int) (own := RX9) rfl rfl (by decide) (Nat.le_of_ble_eq_true rfl) ?_
  intro p e s m args below meth c A C0 hP hD hS ls hl
  obtain ⟨hx, hb, hml, hown, hts, hr, hlk, hK, hA, hSW⟩ := id C0
  have hl : lv_has ls 1 [(0, .ref a_t)] := hl
  rw [fX9_fault] at hF
  refine lv_aload_n hx hb dX9_fault_0 rfl (lv_at hl 0 rfl) ?_
  refine va_get (D := g.1) (ci := 9) (v := .ref (p_t 0)) (C := RX9) (T := TX9) (N := 15) hx hb hts iX9_fault_X9 hown hK.1 hP 0 rfl rfl 0 (by decide) (hts _ kX9_fault_12) (fun _ h9 => h9) rfl dX9_fault_1 ?_
  refine va_get (D := g.1) (ci := 5) (v := .int (o_t_0 2)) (C := RX5) (T := TX5) (N := 15) hx hb hts iX9_fault_X5 hown hK.1 hP 1 rfl rfl 2 (by decide) (hts _ kX9_fault_112) (fun _ h9 => h9) rfl dX9_fault_4 ?_
  cases hF
  exact ret_i C0 hP hD hS [0, 1] rfl rfl rfl dX9_fault_7 rfl

theorem dAX9_where : ∀ q ∈ ([(0, (.aload_n 0, 1)), (1, (.getfield 30, 3)), (4, (.iconst 4, 1)), (5, (.if_icmp .ne 13, 3)), (8, (.aload_n 0, 1)), (9, (.getfield 12, 3)), (12, (.getfield 115, 3)), (15, (.goto 4, 3)), (18, (.iconst (-1), 1)), (19, (.ireturn, 1))] : List (Nat × (Instr × Nat))), decode cX9_where q.1 = .ok q.2 := by decide +kernel
theorem dX9_where_0 : decode cX9_where 0 = .ok (.aload_n 0, 1) := dAX9_where (0, (.aload_n 0, 1)) (List.mem_of_getElem? (i := 0) rfl)
theorem dX9_where_1 : decode cX9_where 1 = .ok (.getfield 30, 3) := dAX9_where (1, (.getfield 30, 3)) (List.mem_of_getElem? (i := 1) rfl)
theorem dX9_where_4 : decode cX9_where 4 = .ok (.iconst 4, 1) := dAX9_where (4, (.iconst 4, 1)) (List.mem_of_getElem? (i := 2) rfl)
theorem dX9_where_5 : decode cX9_where 5 = .ok (.if_icmp .ne 13, 3) := dAX9_where (5, (.if_icmp .ne 13, 3)) (List.mem_of_getElem? (i := 3) rfl)
theorem dX9_where_8 : decode cX9_where 8 = .ok (.aload_n 0, 1) := dAX9_where (8, (.aload_n 0, 1)) (List.mem_of_getElem? (i := 4) rfl)
theorem dX9_where_9 : decode cX9_where 9 = .ok (.getfield 12, 3) := dAX9_where (9, (.getfield 12, 3)) (List.mem_of_getElem? (i := 5) rfl)
theorem dX9_where_12 : decode cX9_where 12 = .ok (.getfield 115, 3) := dAX9_where (12, (.getfield 115, 3)) (List.mem_of_getElem? (i := 6) rfl)
theorem dX9_where_15 : decode cX9_where 15 = .ok (.goto 4, 3) := dAX9_where (15, (.goto 4, 3)) (List.mem_of_getElem? (i := 7) rfl)
theorem dX9_where_18 : decode cX9_where 18 = .ok (.iconst (-1), 1) := dAX9_where (18, (.iconst (-1), 1)) (List.mem_of_getElem? (i := 8) rfl)
theorem dX9_where_19 : decode cX9_where 19 = .ok (.ireturn, 1) := dAX9_where (19, (.ireturn, 1)) (List.mem_of_getElem? (i := 9) rfl)
theorem kX9_where_30 : Cond.fieldLink RX9 30 "EveningVow" "refusal" "I" ∈ wsX9_where := List.mem_of_getElem? (i := 1) rfl
theorem iX9_where_X9 : ∀ w ∈ u_ws RX9 TX9 15, w ∈ wsX9_where := fun w h => (List.mem_cons_of_mem _ (List.mem_append_left _ (List.mem_append_right _ h)))
theorem kX9_where_12 : Cond.fieldLink RX9 12 "EveningVow" "reader" "LEveningVow$Reader;" ∈ wsX9_where := List.mem_of_getElem? (i := 2) rfl
theorem kX9_where_115 : Cond.fieldLink RX9 115 "EveningVow$Reader" "faultPlace" "I" ∈ wsX9_where := List.mem_of_getElem? (i := 3) rfl
theorem iX9_where_X5 : ∀ w ∈ u_ws RX5 TX5 15, w ∈ wsX9_where := fun w h => (List.mem_cons_of_mem _ (List.mem_append_right _ h))
set_option maxHeartbeats 4000000 in
set_option maxRecDepth 100000 in
theorem mX9_where (l : Launch) (g : GG) (a_t : Nat) (p_t : Nat → Nat) (p_t_0 : Nat → Nat) (n : Nat) (o_t : Nat → Int32) (o_t_0 : Nat → Int32) (c_t_0 : Int64) (r : Int32) (hF : fX9_where n o_t o_t_0 c_t_0 = some (r)) : MI l g yX9_where wsX9_where ({ frames := 0, cells := 0, slots := 0, locals := 0 } : Room) [.ref a_t] [oX9 a_t p_t o_t, oX5 (p_t 0) p_t_0 o_t_0 c_t_0] r [oX9 a_t p_t o_t, oX5 (p_t 0) p_t_0 o_t_0 c_t_0] := by
  refine MI.of (cc := cX9_where) (maxL := 1) (rt := .int) (own := RX9) rfl rfl (by decide) (Nat.le_of_ble_eq_true rfl) ?_
  intro p e s m args below meth c A C0 hP hD hS ls hl
  obtain ⟨hx, hb, hml, hown, hts, hr, hlk, hK, hA, hSW⟩ := id C0
  have hl : lv_has ls 1 [(0, .ref a_t)] := hl
  rw [fX9_where] at hF
  refine lv_aload_n hx hb dX9_where_0 rfl (lv_at hl 0 rfl) ?_
  refine va_get (D := g.1) (ci := 9) (v := .int (o_t 4)) (C := RX9) (T := TX9) (N := 15) hx hb hts iX9_where_X9 hown hK.1 hP 0 rfl rfl 4 (by decide) (hts _ kX9_where_30) (fun _ h9 => h9) rfl dX9_where_1 ?_
  refine lv_iconst (v := (4 : Int32)) hx hb dX9_where_4 (by decide) ?_
  refine lv_icmp_ne (tgt := 18) hx hb dX9_where_5 (by decide) (fun c_1 => ?_) (fun c_1 => ?_)
  · have hF := it_n c_1 hF
    refine lv_iconst (v := (-1 : Int32)) hx hb dX9_where_18 (by decide) ?_
    cases hF
    exact ret_i C0 hP hD hS [0, 1] rfl rfl rfl dX9_where_19 rfl
  · have hF := it_p c_1 hF
    refine lv_aload_n hx hb dX9_where_8 rfl (lv_at hl 0 rfl) ?_
    refine va_get (D := g.1) (ci := 9) (v := .ref (p_t 0)) (C := RX9) (T := TX9) (N := 15) hx hb hts iX9_where_X9 hown hK.1 hP 0 rfl rfl 0 (by decide) (hts _ kX9_where_12) (fun _ h9 => h9) rfl dX9_where_9 ?_
    refine va_get (D := g.1) (ci := 5) (v := .int (o_t_0 3)) (C := RX5) (T := TX5) (N := 15) hx hb hts iX9_where_X5 hown hK.1 hP 1 rfl rfl 3 (by decide) (hts _ kX9_where_115) (fun _ h9 => h9) rfl dX9_where_12 ?_
    refine lv_goto (tgt := 19) hx hb dX9_where_15 (by decide) ?_
    cases hF
    exact ret_i C0 hP hD hS [0, 1] rfl rfl rfl dX9_where_19 rfl

theorem dAX9_guestAsked : ∀ q ∈ ([(0, (.iload_n 1, 1)), (1, (.ifCond .lt 18, 3)), (4, (.iload_n 1, 1)), (5, (.aload_n 0, 1)), (6, (.getfield 19, 3)), (9, (.getfield 109, 3)), (12, (.if_icmp .ge 7, 3)), (15, (.iconst 1, 1)), (16, (.goto 4, 3)), (19, (.iconst 0, 1)), (20, (.istore_n 2, 1)), (21, (.aload_n 0, 1)), (22, (.iload_n 2, 1)), (23, (.ifCond .eq 7, 3)), (26, (.iconst 0, 1)), (27, (.goto 4, 3)), (30, (.iconst 1, 1)), (31, (.putfield 30, 3)), (34, (.iload_n 2, 1)), (35, (.ireturn, 1))] : List (Nat × (Instr × Nat))), decode cX9_guestAsked q.1 = .ok q.2 := by decide +kernel
theorem dX9_guestAsked_0 : decode cX9_guestAsked 0 = .ok (.iload_n 1, 1) := dAX9_guestAsked (0, (.iload_n 1, 1)) (List.mem_of_getElem? (i := 0) rfl)
theorem dX9_guestAsked_1 : decode cX9_guestAsked 1 = .ok (.ifCond .lt 18, 3) := dAX9_guestAsked (1, (.ifCond .lt 18, 3)) (List.mem_of_getElem? (i := 1) rfl)
theorem dX9_guestAsked_4 : decode cX9_guestAsked 4 = .ok (.iload_n 1, 1) := dAX9_guestAsked (4, (.iload_n 1, 1)) (List.mem_of_getElem? (i := 2) rfl)
theorem dX9_guestAsked_5 : decode cX9_guestAsked 5 = .ok (.aload_n 0, 1) := dAX9_guestAsked (5, (.aload_n 0, 1)) (List.mem_of_getElem? (i := 3) rfl)
theorem dX9_guestAsked_6 : decode cX9_guestAsked 6 = .ok (.getfield 19, 3) := dAX9_guestAsked (6, (.getfield 19, 3)) (List.mem_of_getElem? (i := 4) rfl)
theorem dX9_guestAsked_9 : decode cX9_guestAsked 9 = .ok (.getfield 109, 3) := dAX9_guestAsked (9, (.getfield 109, 3)) (List.mem_of_getElem? (i := 5) rfl)
theorem dX9_guestAsked_12 : decode cX9_guestAsked 12 = .ok (.if_icmp .ge 7, 3) := dAX9_guestAsked (12, (.if_icmp .ge 7, 3)) (List.mem_of_getElem? (i := 6) rfl)
theorem dX9_guestAsked_15 : decode cX9_guestAsked 15 = .ok (.iconst 1, 1) := dAX9_guestAsked (15, (.iconst 1, 1)) (List.mem_of_getElem? (i := 7) rfl)
theorem dX9_guestAsked_16 : decode cX9_guestAsked 16 = .ok (.goto 4, 3) := dAX9_guestAsked (16, (.goto 4, 3)) (List.mem_of_getElem? (i := 8) rfl)
theorem dX9_guestAsked_19 : decode cX9_guestAsked 19 = .ok (.iconst 0, 1) := dAX9_guestAsked (19, (.iconst 0, 1)) (List.mem_of_getElem? (i := 9) rfl)
theorem dX9_guestAsked_20 : decode cX9_guestAsked 20 = .ok (.istore_n 2, 1) := dAX9_guestAsked (20, (.istore_n 2, 1)) (List.mem_of_getElem? (i := 10) rfl)
theorem dX9_guestAsked_21 : decode cX9_guestAsked 21 = .ok (.aload_n 0, 1) := dAX9_guestAsked (21, (.aload_n 0, 1)) (List.mem_of_getElem? (i := 11) rfl)
theorem dX9_guestAsked_22 : decode cX9_guestAsked 22 = .ok (.iload_n 2, 1) := dAX9_guestAsked (22, (.iload_n 2, 1)) (List.mem_of_getElem? (i := 12) rfl)
theorem dX9_guestAsked_23 : decode cX9_guestAsked 23 = .ok (.ifCond .eq 7, 3) := dAX9_guestAsked (23, (.ifCond .eq 7, 3)) (List.mem_of_getElem? (i := 13) rfl)
theorem dX9_guestAsked_26 : decode cX9_guestAsked 26 = .ok (.iconst 0, 1) := dAX9_guestAsked (26, (.iconst 0, 1)) (List.mem_of_getElem? (i := 14) rfl)
theorem dX9_guestAsked_27 : decode cX9_guestAsked 27 = .ok (.goto 4, 3) := dAX9_guestAsked (27, (.goto 4, 3)) (List.mem_of_getElem? (i := 15) rfl)
theorem dX9_guestAsked_30 : decode cX9_guestAsked 30 = .ok (.iconst 1, 1) := dAX9_guestAsked (30, (.iconst 1, 1)) (List.mem_of_getElem? (i := 16) rfl)
theorem dX9_guestAsked_31 : decode cX9_guestAsked 31 = .ok (.putfield 30, 3) := dAX9_guestAsked (31, (.putfield 30, 3)) (List.mem_of_getElem? (i := 17) rfl)
theorem dX9_guestAsked_34 : decode cX9_guestAsked 34 = .ok (.iload_n 2, 1) := dAX9_guestAsked (34, (.iload_n 2, 1)) (List.mem_of_getElem? (i := 18) rfl)
theorem dX9_guestAsked_35 : decode cX9_guestAsked 35 = .ok (.ireturn, 1) := dAX9_guestAsked (35, (.ireturn, 1)) (List.mem_of_getElem? (i := 19) rfl)
theorem kX9_guestAsked_30 : Cond.fieldLink RX9 30 "EveningVow" "refusal" "I" ∈ wsX9_guestAsked := List.mem_of_getElem? (i := 3) rfl
theorem iX9_guestAsked_X9 : ∀ w ∈ u_ws RX9 TX9 15, w ∈ wsX9_guestAsked := fun w h => (List.mem_cons_of_mem _ (List.mem_append_left _ (List.mem_append_right _ h)))
theorem kX9_guestAsked_19 : Cond.fieldLink RX9 19 "EveningVow" "told" "LEveningVow$House;" ∈ wsX9_guestAsked := List.mem_of_getElem? (i := 1) rfl
theorem kX9_guestAsked_109 : Cond.fieldLink RX9 109 "EveningVow$House" "guests" "I" ∈ wsX9_guestAsked := List.mem_of_getElem? (i := 2) rfl
theorem iX9_guestAsked_X1 : ∀ w ∈ u_ws RX1 TX1 17, w ∈ wsX9_guestAsked := fun w h => (List.mem_cons_of_mem _ (List.mem_append_right _ h))
set_option maxHeartbeats 4000000 in
set_option maxRecDepth 100000 in
theorem mX9_guestAsked (l : Launch) (g : GG) (a_t : Nat) (p_t : Nat → Nat) (p_t_1 : Nat → Nat) (n : Nat) (x1 : Int32) (o_t : Nat → Int32) (o_t_1 : Nat → Int32) (r : Int32) (o_t' : Nat → Int32) (hF : fX9_guestAsked n x1 o_t o_t_1 = some (r, o_t')) : MI l g yX9_guestAsked wsX9_guestAsked ({ frames := 0, cells := 0, slots := 0, locals := 0 } : Room) [.ref a_t, .int x1] [oX9 a_t p_t o_t, oX1 (p_t 1) p_t_1 o_t_1] r [oX9 a_t p_t o_t', oX1 (p_t 1) p_t_1 o_t_1] := by
  refine MI.of (cc := cX9_guestAsked) (maxL := 3) (rt := .boolean) (own := RX9) rfl rfl (by decide) (Nat.le_of_ble_eq_true rfl) ?_
  intro p e s m args below meth c A C0 hP hD hS ls hl
  obtain ⟨hx, hb, hml, hown, hts, hr, hlk, hK, hA, hSW⟩ := id C0
  have hl : lv_has ls 3 [(0, .ref a_t), (1, .int x1)] := hl
  rw [fX9_guestAsked] at hF
  refine lv_iload_n hx hb dX9_guestAsked_0 rfl (lv_at hl 1 rfl) ?_
  refine lv_if_lt (tgt := 19) hx hb dX9_guestAsked_1 (by decide) (fun c_1 => ?_) (fun c_1 => ?_)
  · have hF := it_p c_1 hF
    refine lv_iconst (v := (0 : Int32)) hx hb dX9_guestAsked_19 (by decide) ?_
    refine lv_istore_n (lv' := [(2, .int (0 : Int32)), (0, .ref a_t), (1, .int x1)]) hx hb dX9_guestAsked_20 rfl hl (by decide) rfl (fun ls hl => ?_)
    refine lv_aload_n hx hb dX9_guestAsked_21 rfl (lv_at hl 1 rfl) ?_
    refine lv_iload_n hx hb dX9_guestAsked_22 rfl (lv_at hl 0 rfl) ?_
    refine lv_if_eq (tgt := 30) hx hb dX9_guestAsked_23 (by decide) (fun c_2 => ?_) (fun c_2 => ?_)
    · skip
      refine lv_iconst (v := (1 : Int32)) hx hb dX9_guestAsked_30 (by decide) ?_
      refine va_put (D := g.1) (ci := 9) (v := .int (1 : Int32)) (ty := .int) (C := RX9) (T := TX9) (N := 15) hx hb hts iX9_guestAsked_X9 tyX9 tyX9_ok nmX9 hown hK.1 hP hD hS 0 rfl rfl 4 (by decide) (hts _ kX9_guestAsked_30) (fun _ h9 => h9) rfl (by decide +kernel) rfl rfl (Nat.le_of_ble_eq_true rfl) dX9_guestAsked_31 (fun H locs hP hD hS => ?_)
      have hP : va_P g.1 vwCl [oX9 a_t p_t (upd o_t 4 (1 : Int32)), oX1 (p_t 1) p_t_1 o_t_1] H := hP
      have hD : va_D A [oX9 a_t p_t (upd o_t 4 (1 : Int32)), oX1 (p_t 1) p_t_1 o_t_1] := hD
      refine lv_iload_n hx hb dX9_guestAsked_34 rfl (lv_at hl 0 rfl) ?_
      cases hF
      exact ret_z C0 hP hD hS [0, 1] rfl rfl rfl dX9_guestAsked_35 rfl rfl
    · exact absurd c_2 (by decide)
  · have hF := it_n c_1 hF
    refine lv_iload_n hx hb dX9_guestAsked_4 rfl (lv_at hl 1 rfl) ?_
    refine lv_aload_n hx hb dX9_guestAsked_5 rfl (lv_at hl 0 rfl) ?_
    refine va_get (D := g.1) (ci := 9) (v := .ref (p_t 1)) (C := RX9) (T := TX9) (N := 15) hx hb hts iX9_guestAsked_X9 hown hK.1 hP 0 rfl rfl 1 (by decide) (hts _ kX9_guestAsked_19) (fun _ h9 => h9) rfl dX9_guestAsked_6 ?_
    refine va_get (D := g.1) (ci := 1) (v := .int (o_t_1 3)) (C := RX1) (T := TX1) (N := 17) hx hb hts iX9_guestAsked_X1 hown hK.1 hP 1 rfl rfl 3 (by decide) (hts _ kX9_guestAsked_109) (fun _ h9 => h9) rfl dX9_guestAsked_9 ?_
    refine lv_icmp_ge (tgt := 19) hx hb dX9_guestAsked_12 (by decide) (fun c_3 => ?_) (fun c_3 => ?_)
    · have hF := it_p c_3 hF
      refine lv_iconst (v := (0 : Int32)) hx hb dX9_guestAsked_19 (by decide) ?_
      refine lv_istore_n (lv' := [(2, .int (0 : Int32)), (0, .ref a_t), (1, .int x1)]) hx hb dX9_guestAsked_20 rfl hl (by decide) rfl (fun ls hl => ?_)
      refine lv_aload_n hx hb dX9_guestAsked_21 rfl (lv_at hl 1 rfl) ?_
      refine lv_iload_n hx hb dX9_guestAsked_22 rfl (lv_at hl 0 rfl) ?_
      refine lv_if_eq (tgt := 30) hx hb dX9_guestAsked_23 (by decide) (fun c_4 => ?_) (fun c_4 => ?_)
      · skip
        refine lv_iconst (v := (1 : Int32)) hx hb dX9_guestAsked_30 (by decide) ?_
        refine va_put (D := g.1) (ci := 9) (v := .int (1 : Int32)) (ty := .int) (C := RX9) (T := TX9) (N := 15) hx hb hts iX9_guestAsked_X9 tyX9 tyX9_ok nmX9 hown hK.1 hP hD hS 0 rfl rfl 4 (by decide) (hts _ kX9_guestAsked_30) (fun _ h9 => h9) rfl (by decide +kernel) rfl rfl (Nat.le_of_ble_eq_true rfl) dX9_guestAsked_31 (fun H locs hP hD hS => ?_)
        have hP : va_P g.1 vwCl [oX9 a_t p_t (upd o_t 4 (1 : Int32)), oX1 (p_t 1) p_t_1 o_t_1] H := hP
        have hD : va_D A [oX9 a_t p_t (upd o_t 4 (1 : Int32)), oX1 (p_t 1) p_t_1 o_t_1] := hD
        refine lv_iload_n hx hb dX9_guestAsked_34 rfl (lv_at hl 0 rfl) ?_
        cases hF
        exact ret_z C0 hP hD hS [0, 1] rfl rfl rfl dX9_guestAsked_35 rfl rfl
      · exact absurd c_4 (by decide)
    · have hF := it_n c_3 hF
      refine lv_iconst (v := (1 : Int32)) hx hb dX9_guestAsked_15 (by decide) ?_
      refine lv_goto (tgt := 20) hx hb dX9_guestAsked_16 (by decide) ?_
      refine lv_istore_n (lv' := [(2, .int (1 : Int32)), (0, .ref a_t), (1, .int x1)]) hx hb dX9_guestAsked_20 rfl hl (by decide) rfl (fun ls hl => ?_)
      refine lv_aload_n hx hb dX9_guestAsked_21 rfl (lv_at hl 1 rfl) ?_
      refine lv_iload_n hx hb dX9_guestAsked_22 rfl (lv_at hl 0 rfl) ?_
      refine lv_if_eq (tgt := 30) hx hb dX9_guestAsked_23 (by decide) (fun c_5 => ?_) (fun c_5 => ?_)
      · exact absurd c_5 (by decide)
      · skip
        refine lv_iconst (v := (0 : Int32)) hx hb dX9_guestAsked_26 (by decide) ?_
        refine lv_goto (tgt := 31) hx hb dX9_guestAsked_27 (by decide) ?_
        refine va_put (D := g.1) (ci := 9) (v := .int (0 : Int32)) (ty := .int) (C := RX9) (T := TX9) (N := 15) hx hb hts iX9_guestAsked_X9 tyX9 tyX9_ok nmX9 hown hK.1 hP hD hS 0 rfl rfl 4 (by decide) (hts _ kX9_guestAsked_30) (fun _ h9 => h9) rfl (by decide +kernel) rfl rfl (Nat.le_of_ble_eq_true rfl) dX9_guestAsked_31 (fun H locs hP hD hS => ?_)
        have hP : va_P g.1 vwCl [oX9 a_t p_t (upd o_t 4 (0 : Int32)), oX1 (p_t 1) p_t_1 o_t_1] H := hP
        have hD : va_D A [oX9 a_t p_t (upd o_t 4 (0 : Int32)), oX1 (p_t 1) p_t_1 o_t_1] := hD
        refine lv_iload_n hx hb dX9_guestAsked_34 rfl (lv_at hl 0 rfl) ?_
        cases hF
        exact ret_z C0 hP hD hS [0, 1] rfl rfl rfl dX9_guestAsked_35 rfl rfl

theorem dAX9_guest : ∀ q ∈ ([(0, (.aload_n 0, 1)), (1, (.iload_n 1, 1)), (2, (.invokevirtual 118, 3)), (5, (.ifCond .ne 7, 3)), (8, (.sipush (-1000), 3)), (11, (.ireturn, 1)), (12, (.iload_n 2, 1)), (13, (.tableswitch 109 0 5 #[39, 49, 59, 72, 89, 99], 39)), (52, (.aload_n 0, 1)), (53, (.getfield 19, 3)), (56, (.getfield 122, 3)), (59, (.iload_n 1, 1)), (60, (.iaload, 1)), (61, (.ireturn, 1)), (62, (.aload_n 0, 1)), (63, (.getfield 37, 3)), (66, (.getfield 126, 3)), (69, (.iload_n 1, 1)), (70, (.iaload, 1)), (71, (.ireturn, 1)), (72, (.aload_n 0, 1)), (73, (.getfield 37, 3)), (76, (.aload_n 0, 1)), (77, (.getfield 19, 3)), (80, (.iload_n 1, 1)), (81, (.invokevirtual 129, 3)), (84, (.ireturn, 1)), (85, (.aload_n 0, 1)), (86, (.getfield 37, 3)), (89, (.iload_n 1, 1)), (90, (.invokevirtual 133, 3)), (93, (.ifCond .eq 7, 3)), (96, (.iconst 1, 1)), (97, (.goto 4, 3)), (100, (.iconst 0, 1)), (101, (.ireturn, 1)), (102, (.aload_n 0, 1)), (103, (.getfield 37, 3)), (106, (.getfield 136, 3)), (109, (.iload_n 1, 1)), (110, (.iaload, 1)), (111, (.ireturn, 1)), (112, (.aload_n 0, 1)), (113, (.getfield 19, 3)), (116, (.getfield 139, 3)), (119, (.iload_n 1, 1)), (120, (.iaload, 1)), (121, (.ireturn, 1)), (122, (.aload_n 0, 1)), (123, (.iconst 1, 1)), (124, (.invokevirtual 98, 3)), (127, (.pop, 1)), (128, (.sipush (-1000), 3)), (131, (.ireturn, 1))] : List (Nat × (Instr × Nat))), decode cX9_guest q.1 = .ok q.2 := by decide +kernel
theorem dX9_guest_0 : decode cX9_guest 0 = .ok (.aload_n 0, 1) := dAX9_guest (0, (.aload_n 0, 1)) (List.mem_of_getElem? (i := 0) rfl)
theorem dX9_guest_1 : decode cX9_guest 1 = .ok (.iload_n 1, 1) := dAX9_guest (1, (.iload_n 1, 1)) (List.mem_of_getElem? (i := 1) rfl)
theorem dX9_guest_2 : decode cX9_guest 2 = .ok (.invokevirtual 118, 3) := dAX9_guest (2, (.invokevirtual 118, 3)) (List.mem_of_getElem? (i := 2) rfl)
theorem dX9_guest_5 : decode cX9_guest 5 = .ok (.ifCond .ne 7, 3) := dAX9_guest (5, (.ifCond .ne 7, 3)) (List.mem_of_getElem? (i := 3) rfl)
theorem dX9_guest_8 : decode cX9_guest 8 = .ok (.sipush (-1000), 3) := dAX9_guest (8, (.sipush (-1000), 3)) (List.mem_of_getElem? (i := 4) rfl)
theorem dX9_guest_11 : decode cX9_guest 11 = .ok (.ireturn, 1) := dAX9_guest (11, (.ireturn, 1)) (List.mem_of_getElem? (i := 5) rfl)
theorem dX9_guest_12 : decode cX9_guest 12 = .ok (.iload_n 2, 1) := dAX9_guest (12, (.iload_n 2, 1)) (List.mem_of_getElem? (i := 6) rfl)
theorem dX9_guest_13 : decode cX9_guest 13 = .ok (.tableswitch 109 0 5 #[39, 49, 59, 72, 89, 99], 39) := dAX9_guest (13, (.tableswitch 109 0 5 #[39, 49, 59, 72, 89, 99], 39)) (List.mem_of_getElem? (i := 7) rfl)
theorem dX9_guest_52 : decode cX9_guest 52 = .ok (.aload_n 0, 1) := dAX9_guest (52, (.aload_n 0, 1)) (List.mem_of_getElem? (i := 8) rfl)
theorem dX9_guest_53 : decode cX9_guest 53 = .ok (.getfield 19, 3) := dAX9_guest (53, (.getfield 19, 3)) (List.mem_of_getElem? (i := 9) rfl)
theorem dX9_guest_56 : decode cX9_guest 56 = .ok (.getfield 122, 3) := dAX9_guest (56, (.getfield 122, 3)) (List.mem_of_getElem? (i := 10) rfl)
theorem dX9_guest_59 : decode cX9_guest 59 = .ok (.iload_n 1, 1) := dAX9_guest (59, (.iload_n 1, 1)) (List.mem_of_getElem? (i := 11) rfl)
theorem dX9_guest_60 : decode cX9_guest 60 = .ok (.iaload, 1) := dAX9_guest (60, (.iaload, 1)) (List.mem_of_getElem? (i := 12) rfl)
theorem dX9_guest_61 : decode cX9_guest 61 = .ok (.ireturn, 1) := dAX9_guest (61, (.ireturn, 1)) (List.mem_of_getElem? (i := 13) rfl)
theorem dX9_guest_62 : decode cX9_guest 62 = .ok (.aload_n 0, 1) := dAX9_guest (62, (.aload_n 0, 1)) (List.mem_of_getElem? (i := 14) rfl)
theorem dX9_guest_63 : decode cX9_guest 63 = .ok (.getfield 37, 3) := dAX9_guest (63, (.getfield 37, 3)) (List.mem_of_getElem? (i := 15) rfl)
theorem dX9_guest_66 : decode cX9_guest 66 = .ok (.getfield 126, 3) := dAX9_guest (66, (.getfield 126, 3)) (List.mem_of_getElem? (i := 16) rfl)
theorem dX9_guest_69 : decode cX9_guest 69 = .ok (.iload_n 1, 1) := dAX9_guest (69, (.iload_n 1, 1)) (List.mem_of_getElem? (i := 17) rfl)
theorem dX9_guest_70 : decode cX9_guest 70 = .ok (.iaload, 1) := dAX9_guest (70, (.iaload, 1)) (List.mem_of_getElem? (i := 18) rfl)
theorem dX9_guest_71 : decode cX9_guest 71 = .ok (.ireturn, 1) := dAX9_guest (71, (.ireturn, 1)) (List.mem_of_getElem? (i := 19) rfl)
theorem dX9_guest_72 : decode cX9_guest 72 = .ok (.aload_n 0, 1) := dAX9_guest (72, (.aload_n 0, 1)) (List.mem_of_getElem? (i := 20) rfl)
theorem dX9_guest_73 : decode cX9_guest 73 = .ok (.getfield 37, 3) := dAX9_guest (73, (.getfield 37, 3)) (List.mem_of_getElem? (i := 21) rfl)
theorem dX9_guest_76 : decode cX9_guest 76 = .ok (.aload_n 0, 1) := dAX9_guest (76, (.aload_n 0, 1)) (List.mem_of_getElem? (i := 22) rfl)
theorem dX9_guest_77 : decode cX9_guest 77 = .ok (.getfield 19, 3) := dAX9_guest (77, (.getfield 19, 3)) (List.mem_of_getElem? (i := 23) rfl)
theorem dX9_guest_80 : decode cX9_guest 80 = .ok (.iload_n 1, 1) := dAX9_guest (80, (.iload_n 1, 1)) (List.mem_of_getElem? (i := 24) rfl)
theorem dX9_guest_81 : decode cX9_guest 81 = .ok (.invokevirtual 129, 3) := dAX9_guest (81, (.invokevirtual 129, 3)) (List.mem_of_getElem? (i := 25) rfl)
theorem dX9_guest_84 : decode cX9_guest 84 = .ok (.ireturn, 1) := dAX9_guest (84, (.ireturn, 1)) (List.mem_of_getElem? (i := 26) rfl)
theorem dX9_guest_85 : decode cX9_guest 85 = .ok (.aload_n 0, 1) := dAX9_guest (85, (.aload_n 0, 1)) (List.mem_of_getElem? (i := 27) rfl)
theorem dX9_guest_86 : decode cX9_guest 86 = .ok (.getfield 37, 3) := dAX9_guest (86, (.getfield 37, 3)) (List.mem_of_getElem? (i := 28) rfl)
theorem dX9_guest_89 : decode cX9_guest 89 = .ok (.iload_n 1, 1) := dAX9_guest (89, (.iload_n 1, 1)) (List.mem_of_getElem? (i := 29) rfl)
theorem dX9_guest_90 : decode cX9_guest 90 = .ok (.invokevirtual 133, 3) := dAX9_guest (90, (.invokevirtual 133, 3)) (List.mem_of_getElem? (i := 30) rfl)
theorem dX9_guest_93 : decode cX9_guest 93 = .ok (.ifCond .eq 7, 3) := dAX9_guest (93, (.ifCond .eq 7, 3)) (List.mem_of_getElem? (i := 31) rfl)
theorem dX9_guest_96 : decode cX9_guest 96 = .ok (.iconst 1, 1) := dAX9_guest (96, (.iconst 1, 1)) (List.mem_of_getElem? (i := 32) rfl)
theorem dX9_guest_97 : decode cX9_guest 97 = .ok (.goto 4, 3) := dAX9_guest (97, (.goto 4, 3)) (List.mem_of_getElem? (i := 33) rfl)
theorem dX9_guest_100 : decode cX9_guest 100 = .ok (.iconst 0, 1) := dAX9_guest (100, (.iconst 0, 1)) (List.mem_of_getElem? (i := 34) rfl)
theorem dX9_guest_101 : decode cX9_guest 101 = .ok (.ireturn, 1) := dAX9_guest (101, (.ireturn, 1)) (List.mem_of_getElem? (i := 35) rfl)
theorem dX9_guest_102 : decode cX9_guest 102 = .ok (.aload_n 0, 1) := dAX9_guest (102, (.aload_n 0, 1)) (List.mem_of_getElem? (i := 36) rfl)
theorem dX9_guest_103 : decode cX9_guest 103 = .ok (.getfield 37, 3) := dAX9_guest (103, (.getfield 37, 3)) (List.mem_of_getElem? (i := 37) rfl)
theorem dX9_guest_106 : decode cX9_guest 106 = .ok (.getfield 136, 3) := dAX9_guest (106, (.getfield 136, 3)) (List.mem_of_getElem? (i := 38) rfl)
theorem dX9_guest_109 : decode cX9_guest 109 = .ok (.iload_n 1, 1) := dAX9_guest (109, (.iload_n 1, 1)) (List.mem_of_getElem? (i := 39) rfl)
theorem dX9_guest_110 : decode cX9_guest 110 = .ok (.iaload, 1) := dAX9_guest (110, (.iaload, 1)) (List.mem_of_getElem? (i := 40) rfl)
theorem dX9_guest_111 : decode cX9_guest 111 = .ok (.ireturn, 1) := dAX9_guest (111, (.ireturn, 1)) (List.mem_of_getElem? (i := 41) rfl)
theorem dX9_guest_112 : decode cX9_guest 112 = .ok (.aload_n 0, 1) := dAX9_guest (112, (.aload_n 0, 1)) (List.mem_of_getElem? (i := 42) rfl)
theorem dX9_guest_113 : decode cX9_guest 113 = .ok (.getfield 19, 3) := dAX9_guest (113, (.getfield 19, 3)) (List.mem_of_getElem? (i := 43) rfl)
theorem dX9_guest_116 : decode cX9_guest 116 = .ok (.getfield 139, 3) := dAX9_guest (116, (.getfield 139, 3)) (List.mem_of_getElem? (i := 44) rfl)
theorem dX9_guest_119 : decode cX9_guest 119 = .ok (.iload_n 1, 1) := dAX9_guest (119, (.iload_n 1, 1)) (List.mem_of_getElem? (i := 45) rfl)
theorem dX9_guest_120 : decode cX9_guest 120 = .ok (.iaload, 1) := dAX9_guest (120, (.iaload, 1)) (List.mem_of_getElem? (i := 46) rfl)
theorem dX9_guest_121 : decode cX9_guest 121 = .ok (.ireturn, 1) := dAX9_guest (121, (.ireturn, 1)) (List.mem_of_getElem? (i := 47) rfl)
theorem dX9_guest_122 : decode cX9_guest 122 = .ok (.aload_n 0, 1) := dAX9_guest (122, (.aload_n 0, 1)) (List.mem_of_getElem? (i := 48) rfl)
theorem dX9_guest_123 : decode cX9_guest 123 = .ok (.iconst 1, 1) := dAX9_guest (123, (.iconst 1, 1)) (List.mem_of_getElem? (i := 49) rfl)
theorem dX9_guest_124 : decode cX9_guest 124 = .ok (.invokevirtual 98, 3) := dAX9_guest (124, (.invokevirtual 98, 3)) (List.mem_of_getElem? (i := 50) rfl)
theorem dX9_guest_127 : decode cX9_guest 127 = .ok (.pop, 1) := dAX9_guest (127, (.pop, 1)) (List.mem_of_getElem? (i := 51) rfl)
theorem dX9_guest_128 : decode cX9_guest 128 = .ok (.sipush (-1000), 3) := dAX9_guest (128, (.sipush (-1000), 3)) (List.mem_of_getElem? (i := 52) rfl)
theorem dX9_guest_131 : decode cX9_guest 131 = .ok (.ireturn, 1) := dAX9_guest (131, (.ireturn, 1)) (List.mem_of_getElem? (i := 53) rfl)
set_option maxRecDepth 20000 in
theorem ggX9_guest_X9_guestAsked : GoodIn wsX9_guest wsX9_guestAsked := goodIn_r _ [11, 1, 12, 13, 41, 42, 43, 44, 45, 46, 47, 48, 49, 50, 51, 52, 53, 54, 55, 56, 57, 58, 59, 60, 61, 62, 63, 64, 65, 66, 67, 68, 69, 70, 71, 72] rfl (by decide +kernel)
set_option maxRecDepth 20000 in
theorem gX9_guest_X9_guestAsked : GoodIn wsX9_guest (wsV RX9 118 RX9 yX9_guestAsked wsX9_guestAsked) := goodIn_app (goodIn_of _ (by decide +kernel)) ggX9_guest_X9_guestAsked
set_option maxRecDepth 20000 in
theorem ggX9_guest_X2_willOf : GoodIn wsX9_guest wsX2_willOf := goodIn_r _ [18, 19, 20, 21, 22, 17, 23, 24, 25, 26, 27, 28, 29, 30, 73, 74, 75, 76, 77, 78, 79, 80, 81, 56, 57, 58, 59, 60, 61, 62, 63, 64, 65, 66, 67, 68, 69, 70, 71, 72] rfl (by decide +kernel)
set_option maxRecDepth 20000 in
theorem gX9_guest_X2_willOf : GoodIn wsX9_guest (wsV RX9 129 RX2 yX2_willOf wsX2_willOf) := goodIn_app (goodIn_of _ (by decide +kernel)) ggX9_guest_X2_willOf
set_option maxRecDepth 20000 in
theorem ggX9_guest_X2_has : GoodIn wsX9_guest wsX2_has := goodIn_r _ [34, 28, 35, 10, 36, 73, 74, 75, 76, 77, 78, 79, 80, 81] rfl (by decide +kernel)
set_option maxRecDepth 20000 in
theorem gX9_guest_X2_has : GoodIn wsX9_guest (wsV RX9 133 RX2 yX2_has wsX2_has) := goodIn_app (goodIn_of _ (by decide +kernel)) ggX9_guest_X2_has
set_option maxRecDepth 20000 in
theorem ggX9_guest_X9_refuse : GoodIn wsX9_guest wsX9_refuse := goodIn_r _ [40, 13, 41, 42, 43, 44, 45, 46, 47, 48, 49, 50, 51, 52, 53, 54, 55] rfl (by decide +kernel)
set_option maxRecDepth 20000 in
theorem gX9_guest_X9_refuse : GoodIn wsX9_guest (wsV RX9 98 RX9 yX9_refuse wsX9_refuse) := goodIn_app (goodIn_of _ (by decide +kernel)) ggX9_guest_X9_refuse
theorem kX9_guest_19 : Cond.fieldLink RX9 19 "EveningVow" "told" "LEveningVow$House;" ∈ wsX9_guest := List.mem_of_getElem? (i := 1) rfl
theorem iX9_guest_X9 : ∀ w ∈ u_ws RX9 TX9 15, w ∈ wsX9_guest := fun w h => (List.mem_cons_of_mem _ (List.mem_append_left _ (List.mem_append_left _ (List.mem_append_right _ h))))
theorem kX9_guest_122 : Cond.fieldLink RX9 122 "EveningVow$House" "kind" "[I" ∈ wsX9_guest := List.mem_of_getElem? (i := 2) rfl
theorem iX9_guest_X1 : ∀ w ∈ u_ws RX1 TX1 17, w ∈ wsX9_guest := fun w h => (List.mem_cons_of_mem _ (List.mem_append_left _ (List.mem_append_right _ h)))
theorem kX9_guest_37 : Cond.fieldLink RX9 37 "EveningVow" "now" "LEveningVow$Night;" ∈ wsX9_guest := List.mem_of_getElem? (i := 3) rfl
theorem kX9_guest_126 : Cond.fieldLink RX9 126 "EveningVow$Night" "want" "[I" ∈ wsX9_guest := List.mem_of_getElem? (i := 4) rfl
theorem iX9_guest_X2 : ∀ w ∈ u_ws RX2 TX2 9, w ∈ wsX9_guest := fun w h => (List.mem_cons_of_mem _ (List.mem_append_right _ h))
theorem kX9_guest_136 : Cond.fieldLink RX9 136 "EveningVow$Night" "leftAt" "[I" ∈ wsX9_guest := List.mem_of_getElem? (i := 5) rfl
theorem kX9_guest_139 : Cond.fieldLink RX9 139 "EveningVow$House" "mate" "[I" ∈ wsX9_guest := List.mem_of_getElem? (i := 6) rfl
set_option maxHeartbeats 4000000 in
set_option maxRecDepth 100000 in
theorem mX9_guest (l : Launch) (g : GG) (a_t : Nat) (p_t : Nat → Nat) (p_t_1 : Nat → Nat) (p_t_5 : Nat → Nat) (n : Nat) (x1 : Int32) (x2 : Int32) (o_t : Nat → Int32) (o_t_1 : Nat → Int32) (f_t_1_4 : Nat → Int32) (f_t_1_7 : Nat → Int32) (f_t_1_10 : Nat → Int32) (f_t_1_11 : Nat → Int32) (f_t_1_12 : Nat → Int32) (o_t_5 : Nat → Int32) (f_t_5_6 : Nat → Int32) (f_t_5_7 : Nat → Int32) (f_t_5_8 : Nat → Int32) (r : Int32) (o_t' : Nat → Int32) (f_t_5_8' : Nat → Int32) (hF : fX9_guest n x1 x2 o_t o_t_1 f_t_1_4 f_t_1_7 f_t_1_10 f_t_1_11 f_t_1_12 o_t_5 f_t_5_6 f_t_5_7 f_t_5_8 = some (r, o_t', f_t_5_8')) : MI l g yX9_guest wsX9_guest ({ frames := 2, cells := 0, slots := 0, locals := 45 } : Room) [.ref a_t, .int x1, .int x2] [oX9 a_t p_t o_t, oX1 (p_t 1) p_t_1 o_t_1, aI g (p_t_1 4) 7 f_t_1_4, aI g (p_t_1 7) 7 f_t_1_7, aI g (p_t_1 10) 8 f_t_1_10, aI g (p_t_1 11) 8 f_t_1_11, aI g (p_t_1 12) 8 f_t_1_12, oX2 (p_t 5) p_t_5 o_t_5, aI g (p_t_5 6) 7 f_t_5_6, aI g (p_t_5 7) 7 f_t_5_7, aI g (p_t_5 8) 7 f_t_5_8] r [oX9 a_t p_t o_t', oX1 (p_t 1) p_t_1 o_t_1, aI g (p_t_1 4) 7 f_t_1_4, aI g (p_t_1 7) 7 f_t_1_7, aI g (p_t_1 10) 8 f_t_1_10, aI g (p_t_1 11) 8 f_t_1_11, aI g (p_t_1 12) 8 f_t_1_12, oX2 (p_t 5) p_t_5 o_t_5, aI g (p_t_5 6) 7 f_t_5_6, aI g (p_t_5 7) 7 f_t_5_7, aI g (p_t_5 8) 7 f_t_5_8'] := by
  refine MI.of (cc := cX9_guest) (maxL := 3) (rt := .int) (own := RX9) rfl rfl (by decide) (Nat.le_of_ble_eq_true rfl) ?_
  intro p e s m args below meth c A C0 hP hD hS ls hl
  obtain ⟨hx, hb, hml, hown, hts, hr, hlk, hK, hA, hSW⟩ := id C0
  have hl : lv_has ls 3 [(0, .ref a_t), (1, .int x1), (2, .int x2)] := hl
  rw [fX9_guest] at hF
  refine lv_aload_n hx hb dX9_guest_0 rfl (lv_at hl 0 rfl) ?_
  refine lv_iload_n hx hb dX9_guest_1 rfl (lv_at hl 1 rfl) ?_
  obtain ⟨u_1, u_2, hu_3, hF⟩ := ob2_some hF
  refine call_i (wr := [aI g (p_t_1 4) 7 f_t_1_4, aI g (p_t_1 7) 7 f_t_1_7, aI g (p_t_1 10) 8 f_t_1_10, aI g (p_t_1 11) 8 f_t_1_11, aI g (p_t_1 12) 8 f_t_1_12, oX2 (p_t 5) p_t_5 o_t_5, aI g (p_t_5 6) 7 f_t_5_6, aI g (p_t_5 7) 7 f_t_5_7, aI g (p_t_5 8) 7 f_t_5_8]) (As := [.int x1]) (rest := []) (ci := 9) (q0 := 0) C0 (mX9_guestAsked l g a_t p_t p_t_1 n x1 o_t o_t_1 u_1 u_2 hu_3) (cwV 1 hts gX9_guest_X9_guestAsked rfl rfl rfl (by decide +kernel) ⟨Nat.le_of_ble_eq_true rfl, Nat.le_of_ble_eq_true rfl⟩) hP hD hS [0, 1] [2, 3, 4, 5, 6, 7, 8, 9, 10] rfl rfl rfl rfl rfl (by decide) rfl rfl hl.1 rfl rfl (Nat.le_of_ble_eq_true rfl) ⟨Nat.zero_le _, Nat.zero_le _⟩ dX9_guest_2 ?_
  intro H locs hP hD hS
  refine lv_if_ne (tgt := 12) hx hb dX9_guest_5 (by decide) (fun c_4 => ?_) (fun c_4 => ?_)
  · have hF := it_n c_4 hF
    refine lv_iload_n hx hb dX9_guest_12 rfl (lv_at hl 2 rfl) ?_
    by_cases c_5 : x2 = (0 : Int32)
    · have hF := it_p c_5 hF
      refine lv_tableIn (off := 39) (tgt := 52) hx hb dX9_guest_13 (by rw [c_5]; decide) (by rw [c_5]; decide) (by rw [c_5]; rfl) (by decide) ?_
      refine lv_aload_n hx hb dX9_guest_52 rfl (lv_at hl 0 rfl) ?_
      refine va_get (D := g.1) (ci := 9) (v := .ref (p_t 1)) (C := RX9) (T := TX9) (N := 15) hx hb hts iX9_guest_X9 hown hK.1 hP 9 rfl rfl 1 (by decide) (hts _ kX9_guest_19) (fun _ h9 => h9) rfl dX9_guest_53 ?_
      refine va_get (D := g.1) (ci := 1) (v := .ref (p_t_1 4)) (C := RX1) (T := TX1) (N := 17) hx hb hts iX9_guest_X1 hown hK.1 hP 10 rfl rfl 4 (by decide) (hts _ kX9_guest_122) (fun _ h9 => h9) rfl dX9_guest_56 ?_
      refine lv_iload_n hx hb dX9_guest_59 rfl (lv_at hl 1 rfl) ?_
      obtain ⟨h_6, hF⟩ := it_ck hF
      refine va_iald hx hb hK.1 hP 0 0 rfl rfl h_6 dX9_guest_60 ?_
      cases hF
      exact ret_i C0 hP hD hS [9, 10, 0, 1, 2, 3, 4, 5, 6, 7, 8] rfl rfl rfl dX9_guest_61 rfl
    have hF := it_n c_5 hF
    by_cases c_7 : x2 = (1 : Int32)
    · have hF := it_p c_7 hF
      refine lv_tableIn (off := 49) (tgt := 62) hx hb dX9_guest_13 (by rw [c_7]; decide) (by rw [c_7]; decide) (by rw [c_7]; rfl) (by decide) ?_
      refine lv_aload_n hx hb dX9_guest_62 rfl (lv_at hl 0 rfl) ?_
      refine va_get (D := g.1) (ci := 9) (v := .ref (p_t 5)) (C := RX9) (T := TX9) (N := 15) hx hb hts iX9_guest_X9 hown hK.1 hP 9 rfl rfl 5 (by decide) (hts _ kX9_guest_37) (fun _ h9 => h9) rfl dX9_guest_63 ?_
      refine va_get (D := g.1) (ci := 2) (v := .ref (p_t_5 6)) (C := RX2) (T := TX2) (N := 9) hx hb hts iX9_guest_X2 hown hK.1 hP 5 rfl rfl 6 (by decide) (hts _ kX9_guest_126) (fun _ h9 => h9) rfl dX9_guest_66 ?_
      refine lv_iload_n hx hb dX9_guest_69 rfl (lv_at hl 1 rfl) ?_
      obtain ⟨h_8, hF⟩ := it_ck hF
      refine va_iald hx hb hK.1 hP 6 0 rfl rfl h_8 dX9_guest_70 ?_
      cases hF
      exact ret_i C0 hP hD hS [9, 10, 0, 1, 2, 3, 4, 5, 6, 7, 8] rfl rfl rfl dX9_guest_71 rfl
    have hF := it_n c_7 hF
    by_cases c_9 : x2 = (2 : Int32)
    · have hF := it_p c_9 hF
      refine lv_tableIn (off := 59) (tgt := 72) hx hb dX9_guest_13 (by rw [c_9]; decide) (by rw [c_9]; decide) (by rw [c_9]; rfl) (by decide) ?_
      refine lv_aload_n hx hb dX9_guest_72 rfl (lv_at hl 0 rfl) ?_
      refine va_get (D := g.1) (ci := 9) (v := .ref (p_t 5)) (C := RX9) (T := TX9) (N := 15) hx hb hts iX9_guest_X9 hown hK.1 hP 9 rfl rfl 5 (by decide) (hts _ kX9_guest_37) (fun _ h9 => h9) rfl dX9_guest_73 ?_
      refine lv_aload_n hx hb dX9_guest_76 rfl (lv_at hl 0 rfl) ?_
      refine va_get (D := g.1) (ci := 9) (v := .ref (p_t 1)) (C := RX9) (T := TX9) (N := 15) hx hb hts iX9_guest_X9 hown hK.1 hP 9 rfl rfl 1 (by decide) (hts _ kX9_guest_19) (fun _ h9 => h9) rfl dX9_guest_77 ?_
      refine lv_iload_n hx hb dX9_guest_80 rfl (lv_at hl 1 rfl) ?_
      obtain ⟨u_10, u_11, hu_12, hF⟩ := ob2_some hF
      refine call_i (wr := [aI g (p_t_1 4) 7 f_t_1_4, aI g (p_t_1 7) 7 f_t_1_7, aI g (p_t_5 7) 7 f_t_5_7, oX9 a_t p_t u_2]) (As := [.ref (p_t 1), .int x1]) (rest := []) (ci := 2) (q0 := 0) C0 (mX2_willOf l g (p_t 5) (p_t 1) p_t_5 p_t_1 n x1 o_t_5 f_t_5_6 f_t_5_8 o_t_1 f_t_1_10 f_t_1_11 f_t_1_12 u_10 u_11 hu_12) (cwV 2 hts gX9_guest_X2_willOf rfl rfl rfl (by decide +kernel) ⟨Nat.le_of_ble_eq_true rfl, Nat.le_of_ble_eq_true rfl⟩) hP hD hS [5, 6, 8, 10, 2, 3, 4] [0, 1, 7, 9] rfl rfl rfl rfl rfl (by decide) rfl rfl hl.1 rfl rfl (Nat.le_of_ble_eq_true rfl) ⟨Nat.zero_le _, Nat.zero_le _⟩ dX9_guest_81 ?_
      intro H locs hP hD hS
      cases hF
      exact ret_i C0 hP hD hS [3, 7, 0, 1, 8, 9, 10, 4, 5, 2, 6] rfl rfl rfl dX9_guest_84 rfl
    have hF := it_n c_9 hF
    by_cases c_13 : x2 = (3 : Int32)
    · have hF := it_p c_13 hF
      refine lv_tableIn (off := 72) (tgt := 85) hx hb dX9_guest_13 (by rw [c_13]; decide) (by rw [c_13]; decide) (by rw [c_13]; rfl) (by decide) ?_
      refine lv_aload_n hx hb dX9_guest_85 rfl (lv_at hl 0 rfl) ?_
      refine va_get (D := g.1) (ci := 9) (v := .ref (p_t 5)) (C := RX9) (T := TX9) (N := 15) hx hb hts iX9_guest_X9 hown hK.1 hP 9 rfl rfl 5 (by decide) (hts _ kX9_guest_37) (fun _ h9 => h9) rfl dX9_guest_86 ?_
      refine lv_iload_n hx hb dX9_guest_89 rfl (lv_at hl 1 rfl) ?_
      obtain ⟨u_14, hu_15, hF⟩ := ob1_some hF
      refine call_i (wr := [aI g (p_t_1 4) 7 f_t_1_4, aI g (p_t_1 7) 7 f_t_1_7, aI g (p_t_1 10) 8 f_t_1_10, aI g (p_t_1 11) 8 f_t_1_11, aI g (p_t_1 12) 8 f_t_1_12, aI g (p_t_5 6) 7 f_t_5_6, aI g (p_t_5 7) 7 f_t_5_7, aI g (p_t_5 8) 7 f_t_5_8, oX9 a_t p_t u_2, oX1 (p_t 1) p_t_1 o_t_1]) (As := [.int x1]) (rest := []) (ci := 2) (q0 := 0) C0 (mX2_has l g (p_t 5) p_t_5 n x1 o_t_5 u_14 hu_15) (cwV 1 hts gX9_guest_X2_has rfl rfl rfl (by decide +kernel) ⟨Nat.le_of_ble_eq_true rfl, Nat.le_of_ble_eq_true rfl⟩) hP hD hS [5] [0, 1, 2, 3, 4, 6, 7, 8, 9, 10] rfl rfl rfl rfl rfl (by decide) rfl rfl hl.1 rfl rfl (Nat.le_of_ble_eq_true rfl) ⟨Nat.zero_le _, Nat.zero_le _⟩ dX9_guest_90 ?_
      intro H locs hP hD hS
      refine lv_if_eq (tgt := 100) hx hb dX9_guest_93 (by decide) (fun c_16 => ?_) (fun c_16 => ?_)
      · have hF := it_p c_16 hF
        refine lv_iconst (v := (0 : Int32)) hx hb dX9_guest_100 (by decide) ?_
        cases hF
        exact ret_i C0 hP hD hS [8, 9, 0, 1, 2, 3, 4, 10, 5, 6, 7] rfl rfl rfl dX9_guest_101 rfl
      · have hF := it_n c_16 hF
        refine lv_iconst (v := (1 : Int32)) hx hb dX9_guest_96 (by decide) ?_
        refine lv_goto (tgt := 101) hx hb dX9_guest_97 (by decide) ?_
        cases hF
        exact ret_i C0 hP hD hS [8, 9, 0, 1, 2, 3, 4, 10, 5, 6, 7] rfl rfl rfl dX9_guest_101 rfl
    have hF := it_n c_13 hF
    by_cases c_17 : x2 = (4 : Int32)
    · have hF := it_p c_17 hF
      refine lv_tableIn (off := 89) (tgt := 102) hx hb dX9_guest_13 (by rw [c_17]; decide) (by rw [c_17]; decide) (by rw [c_17]; rfl) (by decide) ?_
      refine lv_aload_n hx hb dX9_guest_102 rfl (lv_at hl 0 rfl) ?_
      refine va_get (D := g.1) (ci := 9) (v := .ref (p_t 5)) (C := RX9) (T := TX9) (N := 15) hx hb hts iX9_guest_X9 hown hK.1 hP 9 rfl rfl 5 (by decide) (hts _ kX9_guest_37) (fun _ h9 => h9) rfl dX9_guest_103 ?_
      refine va_get (D := g.1) (ci := 2) (v := .ref (p_t_5 7)) (C := RX2) (T := TX2) (N := 9) hx hb hts iX9_guest_X2 hown hK.1 hP 5 rfl rfl 7 (by decide) (hts _ kX9_guest_136) (fun _ h9 => h9) rfl dX9_guest_106 ?_
      refine lv_iload_n hx hb dX9_guest_109 rfl (lv_at hl 1 rfl) ?_
      obtain ⟨h_18, hF⟩ := it_ck hF
      refine va_iald hx hb hK.1 hP 7 0 rfl rfl h_18 dX9_guest_110 ?_
      cases hF
      exact ret_i C0 hP hD hS [9, 10, 0, 1, 2, 3, 4, 5, 6, 7, 8] rfl rfl rfl dX9_guest_111 rfl
    have hF := it_n c_17 hF
    by_cases c_19 : x2 = (5 : Int32)
    · have hF := it_p c_19 hF
      refine lv_tableIn (off := 99) (tgt := 112) hx hb dX9_guest_13 (by rw [c_19]; decide) (by rw [c_19]; decide) (by rw [c_19]; rfl) (by decide) ?_
      refine lv_aload_n hx hb dX9_guest_112 rfl (lv_at hl 0 rfl) ?_
      refine va_get (D := g.1) (ci := 9) (v := .ref (p_t 1)) (C := RX9) (T := TX9) (N := 15) hx hb hts iX9_guest_X9 hown hK.1 hP 9 rfl rfl 1 (by decide) (hts _ kX9_guest_19) (fun _ h9 => h9) rfl dX9_guest_113 ?_
      refine va_get (D := g.1) (ci := 1) (v := .ref (p_t_1 7)) (C := RX1) (T := TX1) (N := 17) hx hb hts iX9_guest_X1 hown hK.1 hP 10 rfl rfl 7 (by decide) (hts _ kX9_guest_139) (fun _ h9 => h9) rfl dX9_guest_116 ?_
      refine lv_iload_n hx hb dX9_guest_119 rfl (lv_at hl 1 rfl) ?_
      obtain ⟨h_20, hF⟩ := it_ck hF
      refine va_iald hx hb hK.1 hP 1 0 rfl rfl h_20 dX9_guest_120 ?_
      cases hF
      exact ret_i C0 hP hD hS [9, 10, 0, 1, 2, 3, 4, 5, 6, 7, 8] rfl rfl rfl dX9_guest_121 rfl
    have hF := it_n c_19 hF
    have tc_5 := lv_neT (a := 0) c_5 (by decide)
    have tc_7 := lv_neT (a := 1) c_7 (by decide)
    have tc_9 := lv_neT (a := 2) c_9 (by decide)
    have tc_13 := lv_neT (a := 3) c_13 (by decide)
    have tc_17 := lv_neT (a := 4) c_17 (by decide)
    have tc_19 := lv_neT (a := 5) c_19 (by decide)
    refine lv_tableOut (tgt := 122) hx hb dX9_guest_13 (by omega) (by decide) ?_
    refine lv_aload_n hx hb dX9_guest_122 rfl (lv_at hl 0 rfl) ?_
    refine lv_iconst (v := (1 : Int32)) hx hb dX9_guest_123 (by decide) ?_
    obtain ⟨u_21, u_22, hu_23, hF⟩ := ob2_some hF
    refine call_i (wr := [aI g (p_t_1 4) 7 f_t_1_4, aI g (p_t_1 7) 7 f_t_1_7, aI g (p_t_1 10) 8 f_t_1_10, aI g (p_t_1 11) 8 f_t_1_11, aI g (p_t_1 12) 8 f_t_1_12, oX2 (p_t 5) p_t_5 o_t_5, aI g (p_t_5 6) 7 f_t_5_6, aI g (p_t_5 7) 7 f_t_5_7, aI g (p_t_5 8) 7 f_t_5_8, oX1 (p_t 1) p_t_1 o_t_1]) (As := [.int (1 : Int32)]) (rest := []) (ci := 9) (q0 := 0) C0 (mX9_refuse l g a_t p_t n (1 : Int32) u_2 u_21 u_22 hu_23) (cwV 1 hts gX9_guest_X9_refuse rfl rfl rfl (by decide +kernel) ⟨Nat.le_of_ble_eq_true rfl, Nat.le_of_ble_eq_true rfl⟩) hP hD hS [9] [0, 1, 2, 3, 4, 5, 6, 7, 8, 10] rfl rfl rfl rfl rfl (by decide) rfl rfl hl.1 rfl rfl (Nat.le_of_ble_eq_true rfl) ⟨Nat.zero_le _, Nat.zero_le _⟩ dX9_guest_124 ?_
    intro H locs hP hD hS
    refine lv_pop hx hb dX9_guest_127 rfl ?_
    refine lv_sipush (v := (-1000 : Int32)) hx hb dX9_guest_128 (by decide) ?_
    cases hF
    exact ret_i C0 hP hD hS [10, 9, 0, 1, 2, 3, 4, 5, 6, 7, 8] rfl rfl rfl dX9_guest_131 rfl
  · have hF := it_p c_4 hF
    refine lv_sipush (v := (-1000 : Int32)) hx hb dX9_guest_8 (by decide) ?_
    cases hF
    exact ret_i C0 hP hD hS [9, 10, 0, 1, 2, 3, 4, 5, 6, 7, 8] rfl rfl rfl dX9_guest_11 rfl

theorem dAX9_twoAsked : ∀ q ∈ ([(0, (.aload_n 0, 1)), (1, (.iload_n 1, 1)), (2, (.invokevirtual 118, 3)), (5, (.ifCond .eq 20, 3)), (8, (.aload_n 0, 1)), (9, (.iload_n 2, 1)), (10, (.invokevirtual 118, 3)), (13, (.ifCond .eq 12, 3)), (16, (.iload_n 1, 1)), (17, (.iload_n 2, 1)), (18, (.if_icmp .eq 7, 3)), (21, (.iconst 1, 1)), (22, (.goto 4, 3)), (25, (.iconst 0, 1)), (26, (.istore_n 3, 1)), (27, (.aload_n 0, 1)), (28, (.iload_n 3, 1)), (29, (.ifCond .eq 7, 3)), (32, (.iconst 0, 1)), (33, (.goto 4, 3)), (36, (.iconst 1, 1)), (37, (.putfield 30, 3)), (40, (.iload_n 3, 1)), (41, (.ireturn, 1))] : List (Nat × (Instr × Nat))), decode cX9_twoAsked q.1 = .ok q.2 := by decide +kernel
theorem dX9_twoAsked_0 : decode cX9_twoAsked 0 = .ok (.aload_n 0, 1) := dAX9_twoAsked (0, (.aload_n 0, 1)) (List.mem_of_getElem? (i := 0) rfl)
theorem dX9_twoAsked_1 : decode cX9_twoAsked 1 = .ok (.iload_n 1, 1) := dAX9_twoAsked (1, (.iload_n 1, 1)) (List.mem_of_getElem? (i := 1) rfl)
theorem dX9_twoAsked_2 : decode cX9_twoAsked 2 = .ok (.invokevirtual 118, 3) := dAX9_twoAsked (2, (.invokevirtual 118, 3)) (List.mem_of_getElem? (i := 2) rfl)
theorem dX9_twoAsked_5 : decode cX9_twoAsked 5 = .ok (.ifCond .eq 20, 3) := dAX9_twoAsked (5, (.ifCond .eq 20, 3)) (List.mem_of_getElem? (i := 3) rfl)
theorem dX9_twoAsked_8 : decode cX9_twoAsked 8 = .ok (.aload_n 0, 1) := dAX9_twoAsked (8, (.aload_n 0, 1)) (List.mem_of_getElem? (i := 4) rfl)
theorem dX9_twoAsked_9 : decode cX9_twoAsked 9 = .ok (.iload_n 2, 1) := dAX9_twoAsked (9, (.iload_n 2, 1)) (List.mem_of_getElem? (i := 5) rfl)
theorem dX9_twoAsked_10 : decode cX9_twoAsked 10 = .ok (.invokevirtual 118, 3) := dAX9_twoAsked (10, (.invokevirtual 118, 3)) (List.mem_of_getElem? (i := 6) rfl)
theorem dX9_twoAsked_13 : decode cX9_twoAsked 13 = .ok (.ifCond .eq 12, 3) := dAX9_twoAsked (13, (.ifCond .eq 12, 3)) (List.mem_of_getElem? (i := 7) rfl)
theorem dX9_twoAsked_16 : decode cX9_twoAsked 16 = .ok (.iload_n 1, 1) := dAX9_twoAsked (16, (.iload_n 1, 1)) (List.mem_of_getElem? (i := 8) rfl)
theorem dX9_twoAsked_17 : decode cX9_twoAsked 17 = .ok (.iload_n 2, 1) := dAX9_twoAsked (17, (.iload_n 2, 1)) (List.mem_of_getElem? (i := 9) rfl)
theorem dX9_twoAsked_18 : decode cX9_twoAsked 18 = .ok (.if_icmp .eq 7, 3) := dAX9_twoAsked (18, (.if_icmp .eq 7, 3)) (List.mem_of_getElem? (i := 10) rfl)
theorem dX9_twoAsked_21 : decode cX9_twoAsked 21 = .ok (.iconst 1, 1) := dAX9_twoAsked (21, (.iconst 1, 1)) (List.mem_of_getElem? (i := 11) rfl)
theorem dX9_twoAsked_22 : decode cX9_twoAsked 22 = .ok (.goto 4, 3) := dAX9_twoAsked (22, (.goto 4, 3)) (List.mem_of_getElem? (i := 12) rfl)
theorem dX9_twoAsked_25 : decode cX9_twoAsked 25 = .ok (.iconst 0, 1) := dAX9_twoAsked (25, (.iconst 0, 1)) (List.mem_of_getElem? (i := 13) rfl)
theorem dX9_twoAsked_26 : decode cX9_twoAsked 26 = .ok (.istore_n 3, 1) := dAX9_twoAsked (26, (.istore_n 3, 1)) (List.mem_of_getElem? (i := 14) rfl)
theorem dX9_twoAsked_27 : decode cX9_twoAsked 27 = .ok (.aload_n 0, 1) := dAX9_twoAsked (27, (.aload_n 0, 1)) (List.mem_of_getElem? (i := 15) rfl)
theorem dX9_twoAsked_28 : decode cX9_twoAsked 28 = .ok (.iload_n 3, 1) := dAX9_twoAsked (28, (.iload_n 3, 1)) (List.mem_of_getElem? (i := 16) rfl)
theorem dX9_twoAsked_29 : decode cX9_twoAsked 29 = .ok (.ifCond .eq 7, 3) := dAX9_twoAsked (29, (.ifCond .eq 7, 3)) (List.mem_of_getElem? (i := 17) rfl)
theorem dX9_twoAsked_32 : decode cX9_twoAsked 32 = .ok (.iconst 0, 1) := dAX9_twoAsked (32, (.iconst 0, 1)) (List.mem_of_getElem? (i := 18) rfl)
theorem dX9_twoAsked_33 : decode cX9_twoAsked 33 = .ok (.goto 4, 3) := dAX9_twoAsked (33, (.goto 4, 3)) (List.mem_of_getElem? (i := 19) rfl)
theorem dX9_twoAsked_36 : decode cX9_twoAsked 36 = .ok (.iconst 1, 1) := dAX9_twoAsked (36, (.iconst 1, 1)) (List.mem_of_getElem? (i := 20) rfl)
theorem dX9_twoAsked_37 : decode cX9_twoAsked 37 = .ok (.putfield 30, 3) := dAX9_twoAsked (37, (.putfield 30, 3)) (List.mem_of_getElem? (i := 21) rfl)
theorem dX9_twoAsked_40 : decode cX9_twoAsked 40 = .ok (.iload_n 3, 1) := dAX9_twoAsked (40, (.iload_n 3, 1)) (List.mem_of_getElem? (i := 22) rfl)
theorem dX9_twoAsked_41 : decode cX9_twoAsked 41 = .ok (.ireturn, 1) := dAX9_twoAsked (41, (.ireturn, 1)) (List.mem_of_getElem? (i := 23) rfl)
set_option maxRecDepth 20000 in
theorem ggX9_twoAsked_X9_guestAsked : GoodIn wsX9_twoAsked wsX9_guestAsked := goodIn_r _ [6, 7, 8, 1, 9, 10, 11, 12, 13, 14, 15, 16, 17, 18, 19, 20, 21, 22, 23, 24, 25, 26, 27, 28, 29, 30, 31, 32, 33, 34, 35, 36, 37, 38, 39, 40] rfl (by decide +kernel)
set_option maxRecDepth 20000 in
theorem gX9_twoAsked_X9_guestAsked : GoodIn wsX9_twoAsked (wsV RX9 118 RX9 yX9_guestAsked wsX9_guestAsked) := goodIn_app (goodIn_of _ (by decide +kernel)) ggX9_twoAsked_X9_guestAsked
theorem kX9_twoAsked_30 : Cond.fieldLink RX9 30 "EveningVow" "refusal" "I" ∈ wsX9_twoAsked := List.mem_of_getElem? (i := 1) rfl
theorem iX9_twoAsked_X9 : ∀ w ∈ u_ws RX9 TX9 15, w ∈ wsX9_twoAsked := fun w h => (List.mem_cons_of_mem _ (List.mem_append_left _ (List.mem_append_right _ h)))
set_option maxHeartbeats 4000000 in
set_option maxRecDepth 100000 in
theorem mX9_twoAsked (l : Launch) (g : GG) (a_t : Nat) (p_t : Nat → Nat) (p_t_1 : Nat → Nat) (n : Nat) (x1 : Int32) (x2 : Int32) (o_t : Nat → Int32) (o_t_1 : Nat → Int32) (r : Int32) (o_t' : Nat → Int32) (hF : fX9_twoAsked n x1 x2 o_t o_t_1 = some (r, o_t')) : MI l g yX9_twoAsked wsX9_twoAsked ({ frames := 1, cells := 0, slots := 0, locals := 22 } : Room) [.ref a_t, .int x1, .int x2] [oX9 a_t p_t o_t, oX1 (p_t 1) p_t_1 o_t_1] r [oX9 a_t p_t o_t', oX1 (p_t 1) p_t_1 o_t_1] := by
  refine MI.of (cc := cX9_twoAsked) (maxL := 4) (rt := .boolean) (own := RX9) rfl rfl (by decide) (Nat.le_of_ble_eq_true rfl) ?_
  intro p e s m args below meth c A C0 hP hD hS ls hl
  obtain ⟨hx, hb, hml, hown, hts, hr, hlk, hK, hA, hSW⟩ := id C0
  have hl : lv_has ls 4 [(0, .ref a_t), (1, .int x1), (2, .int x2)] := hl
  rw [fX9_twoAsked] at hF
  refine lv_aload_n hx hb dX9_twoAsked_0 rfl (lv_at hl 0 rfl) ?_
  refine lv_iload_n hx hb dX9_twoAsked_1 rfl (lv_at hl 1 rfl) ?_
  obtain ⟨u_1, u_2, hu_3, hF⟩ := ob2_some hF
  refine call_i (wr := []) (As := [.int x1]) (rest := []) (ci := 9) (q0 := 0) C0 (mX9_guestAsked l g a_t p_t p_t_1 n x1 o_t o_t_1 u_1 u_2 hu_3) (cwV 1 hts gX9_twoAsked_X9_guestAsked rfl rfl rfl (by decide +kernel) ⟨Nat.le_of_ble_eq_true rfl, Nat.le_of_ble_eq_true rfl⟩) hP hD hS [0, 1] [] rfl rfl rfl rfl rfl (by decide) rfl rfl hl.1 rfl rfl (Nat.le_of_ble_eq_true rfl) ⟨Nat.zero_le _, Nat.zero_le _⟩ dX9_twoAsked_2 ?_
  intro H locs hP hD hS
  refine lv_if_eq (tgt := 25) hx hb dX9_twoAsked_5 (by decide) (fun c_4 => ?_) (fun c_4 => ?_)
  · have hF := it_p c_4 hF
    refine lv_iconst (v := (0 : Int32)) hx hb dX9_twoAsked_25 (by decide) ?_
    refine lv_istore_n (lv' := [(3, .int (0 : Int32)), (0, .ref a_t), (1, .int x1), (2, .int x2)]) hx hb dX9_twoAsked_26 rfl hl (by decide) rfl (fun ls hl => ?_)
    refine lv_aload_n hx hb dX9_twoAsked_27 rfl (lv_at hl 1 rfl) ?_
    refine lv_iload_n hx hb dX9_twoAsked_28 rfl (lv_at hl 0 rfl) ?_
    refine lv_if_eq (tgt := 36) hx hb dX9_twoAsked_29 (by decide) (fun c_5 => ?_) (fun c_5 => ?_)
    · skip
      refine lv_iconst (v := (1 : Int32)) hx hb dX9_twoAsked_36 (by decide) ?_
      refine va_put (D := g.1) (ci := 9) (v := .int (1 : Int32)) (ty := .int) (C := RX9) (T := TX9) (N := 15) hx hb hts iX9_twoAsked_X9 tyX9 tyX9_ok nmX9 hown hK.1 hP hD hS 0 rfl rfl 4 (by decide) (hts _ kX9_twoAsked_30) (fun _ h9 => h9) rfl (by decide +kernel) rfl rfl (Nat.le_of_ble_eq_true rfl) dX9_twoAsked_37 (fun H locs hP hD hS => ?_)
      have hP : va_P g.1 vwCl [oX9 a_t p_t (upd u_2 4 (1 : Int32)), oX1 (p_t 1) p_t_1 o_t_1] H := hP
      have hD : va_D A [oX9 a_t p_t (upd u_2 4 (1 : Int32)), oX1 (p_t 1) p_t_1 o_t_1] := hD
      refine lv_iload_n hx hb dX9_twoAsked_40 rfl (lv_at hl 0 rfl) ?_
      cases hF
      exact ret_z C0 hP hD hS [0, 1] rfl rfl rfl dX9_twoAsked_41 rfl rfl
    · exact absurd c_5 (by decide)
  · have hF := it_n c_4 hF
    refine lv_aload_n hx hb dX9_twoAsked_8 rfl (lv_at hl 0 rfl) ?_
    refine lv_iload_n hx hb dX9_twoAsked_9 rfl (lv_at hl 2 rfl) ?_
    obtain ⟨u_6, u_7, hu_8, hF⟩ := ob2_some hF
    refine call_i (wr := []) (As := [.int x2]) (rest := []) (ci := 9) (q0 := 0) C0 (mX9_guestAsked l g a_t p_t p_t_1 n x2 u_2 o_t_1 u_6 u_7 hu_8) (cwV 1 hts gX9_twoAsked_X9_guestAsked rfl rfl rfl (by decide +kernel) ⟨Nat.le_of_ble_eq_true rfl, Nat.le_of_ble_eq_true rfl⟩) hP hD hS [0, 1] [] rfl rfl rfl rfl rfl (by decide) rfl rfl hl.1 rfl rfl (Nat.le_of_ble_eq_true rfl) ⟨Nat.zero_le _, Nat.zero_le _⟩ dX9_twoAsked_10 ?_
    intro H locs hP hD hS
    refine lv_if_eq (tgt := 25) hx hb dX9_twoAsked_13 (by decide) (fun c_9 => ?_) (fun c_9 => ?_)
    · have hF := it_p c_9 hF
      refine lv_iconst (v := (0 : Int32)) hx hb dX9_twoAsked_25 (by decide) ?_
      refine lv_istore_n (lv' := [(3, .int (0 : Int32)), (0, .ref a_t), (1, .int x1), (2, .int x2)]) hx hb dX9_twoAsked_26 rfl hl (by decide) rfl (fun ls hl => ?_)
      refine lv_aload_n hx hb dX9_twoAsked_27 rfl (lv_at hl 1 rfl) ?_
      refine lv_iload_n hx hb dX9_twoAsked_28 rfl (lv_at hl 0 rfl) ?_
      refine lv_if_eq (tgt := 36) hx hb dX9_twoAsked_29 (by decide) (fun c_10 => ?_) (fun c_10 => ?_)
      · skip
        refine lv_iconst (v := (1 : Int32)) hx hb dX9_twoAsked_36 (by decide) ?_
        refine va_put (D := g.1) (ci := 9) (v := .int (1 : Int32)) (ty := .int) (C := RX9) (T := TX9) (N := 15) hx hb hts iX9_twoAsked_X9 tyX9 tyX9_ok nmX9 hown hK.1 hP hD hS 0 rfl rfl 4 (by decide) (hts _ kX9_twoAsked_30) (fun _ h9 => h9) rfl (by decide +kernel) rfl rfl (Nat.le_of_ble_eq_true rfl) dX9_twoAsked_37 (fun H locs hP hD hS => ?_)
        have hP : va_P g.1 vwCl [oX9 a_t p_t (upd u_7 4 (1 : Int32)), oX1 (p_t 1) p_t_1 o_t_1] H := hP
        have hD : va_D A [oX9 a_t p_t (upd u_7 4 (1 : Int32)), oX1 (p_t 1) p_t_1 o_t_1] := hD
        refine lv_iload_n hx hb dX9_twoAsked_40 rfl (lv_at hl 0 rfl) ?_
        cases hF
        exact ret_z C0 hP hD hS [0, 1] rfl rfl rfl dX9_twoAsked_41 rfl rfl
      · exact absurd c_10 (by decide)
    · have hF := it_n c_9 hF
      refine lv_iload_n hx hb dX9_twoAsked_16 rfl (lv_at hl 1 rfl) ?_
      refine lv_iload_n hx hb dX9_twoAsked_17 rfl (lv_at hl 2 rfl) ?_
      refine lv_icmp_eq (tgt := 25) hx hb dX9_twoAsked_18 (by decide) (fun c_11 => ?_) (fun c_11 => ?_)
      · have hF := it_p c_11 hF
        refine lv_iconst (v := (0 : Int32)) hx hb dX9_twoAsked_25 (by decide) ?_
        refine lv_istore_n (lv' := [(3, .int (0 : Int32)), (0, .ref a_t), (1, .int x1), (2, .int x2)]) hx hb dX9_twoAsked_26 rfl hl (by decide) rfl (fun ls hl => ?_)
        refine lv_aload_n hx hb dX9_twoAsked_27 rfl (lv_at hl 1 rfl) ?_
        refine lv_iload_n hx hb dX9_twoAsked_28 rfl (lv_at hl 0 rfl) ?_
        refine lv_if_eq (tgt := 36) hx hb dX9_twoAsked_29 (by decide) (fun c_12 => ?_) (fun c_12 => ?_)
        · skip
          refine lv_iconst (v := (1 : Int32)) hx hb dX9_twoAsked_36 (by decide) ?_
          refine va_put (D := g.1) (ci := 9) (v := .int (1 : Int32)) (ty := .int) (C := RX9) (T := TX9) (N := 15) hx hb hts iX9_twoAsked_X9 tyX9 tyX9_ok nmX9 hown hK.1 hP hD hS 0 rfl rfl 4 (by decide) (hts _ kX9_twoAsked_30) (fun _ h9 => h9) rfl (by decide +kernel) rfl rfl (Nat.le_of_ble_eq_true rfl) dX9_twoAsked_37 (fun H locs hP hD hS => ?_)
          have hP : va_P g.1 vwCl [oX9 a_t p_t (upd u_7 4 (1 : Int32)), oX1 (p_t 1) p_t_1 o_t_1] H := hP
          have hD : va_D A [oX9 a_t p_t (upd u_7 4 (1 : Int32)), oX1 (p_t 1) p_t_1 o_t_1] := hD
          refine lv_iload_n hx hb dX9_twoAsked_40 rfl (lv_at hl 0 rfl) ?_
          cases hF
          exact ret_z C0 hP hD hS [0, 1] rfl rfl rfl dX9_twoAsked_41 rfl rfl
        · exact absurd c_12 (by decide)
      · have hF := it_n c_11 hF
        refine lv_iconst (v := (1 : Int32)) hx hb dX9_twoAsked_21 (by decide) ?_
        refine lv_goto (tgt := 26) hx hb dX9_twoAsked_22 (by decide) ?_
        refine lv_istore_n (lv' := [(3, .int (1 : Int32)), (0, .ref a_t), (1, .int x1), (2, .int x2)]) hx hb dX9_twoAsked_26 rfl hl (by decide) rfl (fun ls hl => ?_)
        refine lv_aload_n hx hb dX9_twoAsked_27 rfl (lv_at hl 1 rfl) ?_
        refine lv_iload_n hx hb dX9_twoAsked_28 rfl (lv_at hl 0 rfl) ?_
        refine lv_if_eq (tgt := 36) hx hb dX9_twoAsked_29 (by decide) (fun c_13 => ?_) (fun c_13 => ?_)
        · exact absurd c_13 (by decide)
        · skip
          refine lv_iconst (v := (0 : Int32)) hx hb dX9_twoAsked_32 (by decide) ?_
          refine lv_goto (tgt := 37) hx hb dX9_twoAsked_33 (by decide) ?_
          refine va_put (D := g.1) (ci := 9) (v := .int (0 : Int32)) (ty := .int) (C := RX9) (T := TX9) (N := 15) hx hb hts iX9_twoAsked_X9 tyX9 tyX9_ok nmX9 hown hK.1 hP hD hS 0 rfl rfl 4 (by decide) (hts _ kX9_twoAsked_30) (fun _ h9 => h9) rfl (by decide +kernel) rfl rfl (Nat.le_of_ble_eq_true rfl) dX9_twoAsked_37 (fun H locs hP hD hS => ?_)
          have hP : va_P g.1 vwCl [oX9 a_t p_t (upd u_7 4 (0 : Int32)), oX1 (p_t 1) p_t_1 o_t_1] H := hP
          have hD : va_D A [oX9 a_t p_t (upd u_7 4 (0 : Int32)), oX1 (p_t 1) p_t_1 o_t_1] := hD
          refine lv_iload_n hx hb dX9_twoAsked_40 rfl (lv_at hl 0 rfl) ?_
          cases hF
          exact ret_z C0 hP hD hS [0, 1] rfl rfl rfl dX9_twoAsked_41 rfl rfl

theorem dAX9_drawn : ∀ q ∈ ([(0, (.aload_n 0, 1)), (1, (.iload_n 1, 1)), (2, (.iload_n 2, 1)), (3, (.invokevirtual 142, 3)), (6, (.ifCond .ne 5, 3)), (9, (.iconst (-1), 1)), (10, (.ireturn, 1)), (11, (.aload_n 0, 1)), (12, (.getfield 19, 3)), (15, (.iload_n 1, 1)), (16, (.iload_n 2, 1)), (17, (.invokevirtual 146, 3)), (20, (.istore_n 3, 1)), (21, (.iload_n 3, 1)), (22, (.ifCond .ge 7, 3)), (25, (.iconst 0, 1)), (26, (.goto 12, 3)), (29, (.aload_n 0, 1)), (30, (.getfield 19, 3)), (33, (.getfield 150, 3)), (36, (.iload_n 3, 1)), (37, (.iaload, 1)), (38, (.ireturn, 1))] : List (Nat × (Instr × Nat))), decode cX9_drawn q.1 = .ok q.2 := by decide +kernel
theorem dX9_drawn_0 : decode cX9_drawn 0 = .ok (.aload_n 0, 1) := dAX9_drawn (0, (.aload_n 0, 1)) (List.mem_of_getElem? (i := 0) rfl)
theorem dX9_drawn_1 : decode cX9_drawn 1 = .ok (.iload_n 1, 1) := dAX9_drawn (1, (.iload_n 1, 1)) (List.mem_of_getElem? (i := 1) rfl)
theorem dX9_drawn_2 : decode cX9_drawn 2 = .ok (.iload_n 2, 1) := dAX9_drawn (2, (.iload_n 2, 1)) (List.mem_of_getElem? (i := 2) rfl)
theorem dX9_drawn_3 : decode cX9_drawn 3 = .ok (.invokevirtual 142, 3) := dAX9_drawn (3, (.invokevirtual 142, 3)) (List.mem_of_getElem? (i := 3) rfl)
theorem dX9_drawn_6 : decode cX9_drawn 6 = .ok (.ifCond .ne 5, 3) := dAX9_drawn (6, (.ifCond .ne 5, 3)) (List.mem_of_getElem? (i := 4) rfl)
theorem dX9_drawn_9 : decode cX9_drawn 9 = .ok (.iconst (-1), 1) := dAX9_drawn (9, (.iconst (-1), 1)) (List.mem_of_getElem? (i := 5) rfl)
theorem dX9_drawn_10 : decode cX9_drawn 10 = .ok (.ireturn, 1) := dAX9_drawn (10, (.ireturn, 1)) (List.mem_of_getElem? (i := 6) rfl)
theorem dX9_drawn_11 : decode cX9_drawn 11 = .ok (.aload_n 0, 1) := dAX9_drawn (11, (.aload_n 0, 1)) (List.mem_of_getElem? (i := 7) rfl)
theorem dX9_drawn_12 : decode cX9_drawn 12 = .ok (.getfield 19, 3) := dAX9_drawn (12, (.getfield 19, 3)) (List.mem_of_getElem? (i := 8) rfl)
theorem dX9_drawn_15 : decode cX9_drawn 15 = .ok (.iload_n 1, 1) := dAX9_drawn (15, (.iload_n 1, 1)) (List.mem_of_getElem? (i := 9) rfl)
theorem dX9_drawn_16 : decode cX9_drawn 16 = .ok (.iload_n 2, 1) := dAX9_drawn (16, (.iload_n 2, 1)) (List.mem_of_getElem? (i := 10) rfl)
theorem dX9_drawn_17 : decode cX9_drawn 17 = .ok (.invokevirtual 146, 3) := dAX9_drawn (17, (.invokevirtual 146, 3)) (List.mem_of_getElem? (i := 11) rfl)
theorem dX9_drawn_20 : decode cX9_drawn 20 = .ok (.istore_n 3, 1) := dAX9_drawn (20, (.istore_n 3, 1)) (List.mem_of_getElem? (i := 12) rfl)
theorem dX9_drawn_21 : decode cX9_drawn 21 = .ok (.iload_n 3, 1) := dAX9_drawn (21, (.iload_n 3, 1)) (List.mem_of_getElem? (i := 13) rfl)
theorem dX9_drawn_22 : decode cX9_drawn 22 = .ok (.ifCond .ge 7, 3) := dAX9_drawn (22, (.ifCond .ge 7, 3)) (List.mem_of_getElem? (i := 14) rfl)
theorem dX9_drawn_25 : decode cX9_drawn 25 = .ok (.iconst 0, 1) := dAX9_drawn (25, (.iconst 0, 1)) (List.mem_of_getElem? (i := 15) rfl)
theorem dX9_drawn_26 : decode cX9_drawn 26 = .ok (.goto 12, 3) := dAX9_drawn (26, (.goto 12, 3)) (List.mem_of_getElem? (i := 16) rfl)
theorem dX9_drawn_29 : decode cX9_drawn 29 = .ok (.aload_n 0, 1) := dAX9_drawn (29, (.aload_n 0, 1)) (List.mem_of_getElem? (i := 17) rfl)
theorem dX9_drawn_30 : decode cX9_drawn 30 = .ok (.getfield 19, 3) := dAX9_drawn (30, (.getfield 19, 3)) (List.mem_of_getElem? (i := 18) rfl)
theorem dX9_drawn_33 : decode cX9_drawn 33 = .ok (.getfield 150, 3) := dAX9_drawn (33, (.getfield 150, 3)) (List.mem_of_getElem? (i := 19) rfl)
theorem dX9_drawn_36 : decode cX9_drawn 36 = .ok (.iload_n 3, 1) := dAX9_drawn (36, (.iload_n 3, 1)) (List.mem_of_getElem? (i := 20) rfl)
theorem dX9_drawn_37 : decode cX9_drawn 37 = .ok (.iaload, 1) := dAX9_drawn (37, (.iaload, 1)) (List.mem_of_getElem? (i := 21) rfl)
theorem dX9_drawn_38 : decode cX9_drawn 38 = .ok (.ireturn, 1) := dAX9_drawn (38, (.ireturn, 1)) (List.mem_of_getElem? (i := 22) rfl)
set_option maxRecDepth 20000 in
theorem ggX9_drawn_X9_twoAsked : GoodIn wsX9_drawn wsX9_twoAsked := goodIn_r _ [7, 8, 9, 10, 11, 6, 12, 1, 13, 22, 23, 24, 25, 26, 27, 28, 29, 30, 31, 32, 33, 34, 35, 36, 37, 38, 39, 40, 41, 42, 43, 44, 45, 46, 47, 48, 49, 50, 51, 52, 53] rfl (by decide +kernel)
set_option maxRecDepth 20000 in
theorem gX9_drawn_X9_twoAsked : GoodIn wsX9_drawn (wsV RX9 142 RX9 yX9_twoAsked wsX9_twoAsked) := goodIn_app (goodIn_of _ (by decide +kernel)) ggX9_drawn_X9_twoAsked
set_option maxRecDepth 20000 in
theorem ggX9_drawn_X1_drawLine : GoodIn wsX9_drawn wsX1_drawLine := goodIn_r _ [18, 19, 20, 21, 37, 38, 39, 40, 41, 42, 43, 44, 45, 46, 47, 48, 49, 50, 51, 52, 53] rfl (by decide +kernel)
set_option maxRecDepth 20000 in
theorem gX9_drawn_X1_drawLine : GoodIn wsX9_drawn (wsV RX9 146 RX1 yX1_drawLine wsX1_drawLine) := goodIn_app (goodIn_of _ (by decide +kernel)) ggX9_drawn_X1_drawLine
theorem kX9_drawn_19 : Cond.fieldLink RX9 19 "EveningVow" "told" "LEveningVow$House;" ∈ wsX9_drawn := List.mem_of_getElem? (i := 1) rfl
theorem iX9_drawn_X9 : ∀ w ∈ u_ws RX9 TX9 15, w ∈ wsX9_drawn := fun w h => (List.mem_cons_of_mem _ (List.mem_append_left _ (List.mem_append_right _ h)))
theorem kX9_drawn_150 : Cond.fieldLink RX9 150 "EveningVow$House" "drawnMuch" "[I" ∈ wsX9_drawn := List.mem_of_getElem? (i := 2) rfl
theorem iX9_drawn_X1 : ∀ w ∈ u_ws RX1 TX1 17, w ∈ wsX9_drawn := fun w h => (List.mem_cons_of_mem _ (List.mem_append_right _ h))
set_option maxHeartbeats 4000000 in
set_option maxRecDepth 100000 in
theorem mX9_drawn (l : Launch) (g : GG) (a_t : Nat) (p_t : Nat → Nat) (p_t_1 : Nat → Nat) (n : Nat) (x1 : Int32) (x2 : Int32) (o_t : Nat → Int32) (o_t_1 : Nat → Int32) (f_t_1_10 : Nat → Int32) (f_t_1_11 : Nat → Int32) (f_t_1_12 : Nat → Int32) (r : Int32) (o_t' : Nat → Int32) (hF : fX9_drawn n x1 x2 o_t o_t_1 f_t_1_10 f_t_1_11 f_t_1_12 = some (r, o_t')) : MI l g yX9_drawn wsX9_drawn ({ frames := 2, cells := 0, slots := 0, locals := 45 } : Room) [.ref a_t, .int x1, .int x2] [oX9 a_t p_t o_t, oX1 (p_t 1) p_t_1 o_t_1, aI g (p_t_1 10) 8 f_t_1_10, aI g (p_t_1 11) 8 f_t_1_11, aI g (p_t_1 12) 8 f_t_1_12] r [oX9 a_t p_t o_t', oX1 (p_t 1) p_t_1 o_t_1, aI g (p_t_1 10) 8 f_t_1_10, aI g (p_t_1 11) 8 f_t_1_11, aI g (p_t_1 12) 8 f_t_1_12] := by
  refine MI.of (cc := cX9_drawn) (maxL := 4) (rt := .int) (own := RX9) rfl rfl (by decide) (Nat.le_of_ble_eq_true rfl) ?_
  intro p e s m args below meth c A C0 hP hD hS ls hl
  obtain ⟨hx, hb, hml, hown, hts, hr, hlk, hK, hA, hSW⟩ := id C0
  have hl : lv_has ls 4 [(0, .ref a_t), (1, .int x1), (2, .int x2)] := hl
  rw [fX9_drawn] at hF
  refine lv_aload_n hx hb dX9_drawn_0 rfl (lv_at hl 0 rfl) ?_
  refine lv_iload_n hx hb dX9_drawn_1 rfl (lv_at hl 1 rfl) ?_
  refine lv_iload_n hx hb dX9_drawn_2 rfl (lv_at hl 2 rfl) ?_
  obtain ⟨u_1, u_2, hu_3, hF⟩ := ob2_some hF
  refine call_i (wr := [aI g (p_t_1 10) 8 f_t_1_10, aI g (p_t_1 11) 8 f_t_1_11, aI g (p_t_1 12) 8 f_t_1_12]) (As := [.int x1, .int x2]) (rest := []) (ci := 9) (q0 := 0) C0 (mX9_twoAsked l g a_t p_t p_t_1 n x1 x2 o_t o_t_1 u_1 u_2 hu_3) (cwV 2 hts gX9_drawn_X9_twoAsked rfl rfl rfl (by decide +kernel) ⟨Nat.le_of_ble_eq_true rfl, Nat.le_of_ble_eq_true rfl⟩) hP hD hS [0, 1] [2, 3, 4] rfl rfl rfl rfl rfl (by decide) rfl rfl hl.1 rfl rfl (Nat.le_of_ble_eq_true rfl) ⟨Nat.zero_le _, Nat.zero_le _⟩ dX9_drawn_3 ?_
  intro H locs hP hD hS
  refine lv_if_ne (tgt := 11) hx hb dX9_drawn_6 (by decide) (fun c_4 => ?_) (fun c_4 => ?_)
  · have hF := it_n c_4 hF
    refine lv_aload_n hx hb dX9_drawn_11 rfl (lv_at hl 0 rfl) ?_
    refine va_get (D := g.1) (ci := 9) (v := .ref (p_t 1)) (C := RX9) (T := TX9) (N := 15) hx hb hts iX9_drawn_X9 hown hK.1 hP 3 rfl rfl 1 (by decide) (hts _ kX9_drawn_19) (fun _ h9 => h9) rfl dX9_drawn_12 ?_
    refine lv_iload_n hx hb dX9_drawn_15 rfl (lv_at hl 1 rfl) ?_
    refine lv_iload_n hx hb dX9_drawn_16 rfl (lv_at hl 2 rfl) ?_
    obtain ⟨u_5, hu_6, hF⟩ := ob1_some hF
    refine call_i (wr := [aI g (p_t_1 12) 8 f_t_1_12, oX9 a_t p_t u_2]) (As := [.int x1, .int x2]) (rest := []) (ci := 1) (q0 := 0) C0 (mX1_drawLine l g (p_t 1) p_t_1 n x1 x2 o_t_1 f_t_1_10 f_t_1_11 u_5 hu_6) (cwV 2 hts gX9_drawn_X1_drawLine rfl rfl rfl (by decide +kernel) ⟨Nat.le_of_ble_eq_true rfl, Nat.le_of_ble_eq_true rfl⟩) hP hD hS [4, 0, 1] [2, 3] rfl rfl rfl rfl rfl (by decide) rfl rfl hl.1 rfl rfl (Nat.le_of_ble_eq_true rfl) ⟨Nat.zero_le _, Nat.zero_le _⟩ dX9_drawn_17 ?_
    intro H locs hP hD hS
    refine lv_istore_n (lv' := [(3, .int u_5), (0, .ref a_t), (1, .int x1), (2, .int x2)]) hx hb dX9_drawn_20 rfl hl (by decide) rfl (fun ls hl => ?_)
    refine lv_iload_n hx hb dX9_drawn_21 rfl (lv_at hl 0 rfl) ?_
    refine lv_if_ge (tgt := 29) hx hb dX9_drawn_22 (by decide) (fun c_7 => ?_) (fun c_7 => ?_)
    · have hF := it_p c_7 hF
      refine lv_aload_n hx hb dX9_drawn_29 rfl (lv_at hl 1 rfl) ?_
      refine va_get (D := g.1) (ci := 9) (v := .ref (p_t 1)) (C := RX9) (T := TX9) (N := 15) hx hb hts iX9_drawn_X9 hown hK.1 hP 1 rfl rfl 1 (by decide) (hts _ kX9_drawn_19) (fun _ h9 => h9) rfl dX9_drawn_30 ?_
      refine va_get (D := g.1) (ci := 1) (v := .ref (p_t_1 12)) (C := RX1) (T := TX1) (N := 17) hx hb hts iX9_drawn_X1 hown hK.1 hP 2 rfl rfl 12 (by decide) (hts _ kX9_drawn_150) (fun _ h9 => h9) rfl dX9_drawn_33 ?_
      refine lv_iload_n hx hb dX9_drawn_36 rfl (lv_at hl 0 rfl) ?_
      obtain ⟨h_8, hF⟩ := it_ck hF
      refine va_iald hx hb hK.1 hP 0 0 rfl rfl h_8 dX9_drawn_37 ?_
      cases hF
      exact ret_i C0 hP hD hS [1, 2, 3, 4, 0] rfl rfl rfl dX9_drawn_38 rfl
    · have hF := it_n c_7 hF
      refine lv_iconst (v := (0 : Int32)) hx hb dX9_drawn_25 (by decide) ?_
      refine lv_goto (tgt := 38) hx hb dX9_drawn_26 (by decide) ?_
      cases hF
      exact ret_i C0 hP hD hS [1, 2, 3, 4, 0] rfl rfl rfl dX9_drawn_38 rfl
  · have hF := it_p c_4 hF
    refine lv_iconst (v := (-1 : Int32)) hx hb dX9_drawn_9 (by decide) ?_
    cases hF
    exact ret_i C0 hP hD hS [3, 4, 0, 1, 2] rfl rfl rfl dX9_drawn_10 rfl

theorem dAX9_asked : ∀ q ∈ ([(0, (.aload_n 0, 1)), (1, (.aload_n 0, 1)), (2, (.getfield 26, 3)), (5, (.ifCond .eq 7, 3)), (8, (.iconst 0, 1)), (9, (.goto 4, 3)), (12, (.iconst 1, 1)), (13, (.putfield 30, 3)), (16, (.aload_n 0, 1)), (17, (.getfield 26, 3)), (20, (.ireturn, 1))] : List (Nat × (Instr × Nat))), decode cX9_asked q.1 = .ok q.2 := by decide +kernel
theorem dX9_asked_0 : decode cX9_asked 0 = .ok (.aload_n 0, 1) := dAX9_asked (0, (.aload_n 0, 1)) (List.mem_of_getElem? (i := 0) rfl)
theorem dX9_asked_1 : decode cX9_asked 1 = .ok (.aload_n 0, 1) := dAX9_asked (1, (.aload_n 0, 1)) (List.mem_of_getElem? (i := 1) rfl)
theorem dX9_asked_2 : decode cX9_asked 2 = .ok (.getfield 26, 3) := dAX9_asked (2, (.getfield 26, 3)) (List.mem_of_getElem? (i := 2) rfl)
theorem dX9_asked_5 : decode cX9_asked 5 = .ok (.ifCond .eq 7, 3) := dAX9_asked (5, (.ifCond .eq 7, 3)) (List.mem_of_getElem? (i := 3) rfl)
theorem dX9_asked_8 : decode cX9_asked 8 = .ok (.iconst 0, 1) := dAX9_asked (8, (.iconst 0, 1)) (List.mem_of_getElem? (i := 4) rfl)
theorem dX9_asked_9 : decode cX9_asked 9 = .ok (.goto 4, 3) := dAX9_asked (9, (.goto 4, 3)) (List.mem_of_getElem? (i := 5) rfl)
theorem dX9_asked_12 : decode cX9_asked 12 = .ok (.iconst 1, 1) := dAX9_asked (12, (.iconst 1, 1)) (List.mem_of_getElem? (i := 6) rfl)
theorem dX9_asked_13 : decode cX9_asked 13 = .ok (.putfield 30, 3) := dAX9_asked (13, (.putfield 30, 3)) (List.mem_of_getElem? (i := 7) rfl)
theorem dX9_asked_16 : decode cX9_asked 16 = .ok (.aload_n 0, 1) := dAX9_asked (16, (.aload_n 0, 1)) (List.mem_of_getElem? (i := 8) rfl)
theorem dX9_asked_17 : decode cX9_asked 17 = .ok (.getfield 26, 3) := dAX9_asked (17, (.getfield 26, 3)) (List.mem_of_getElem? (i := 9) rfl)
theorem dX9_asked_20 : decode cX9_asked 20 = .ok (.ireturn, 1) := dAX9_asked (20, (.ireturn, 1)) (List.mem_of_getElem? (i := 10) rfl)
theorem kX9_asked_26 : Cond.fieldLink RX9 26 "EveningVow" "begun" "Z" ∈ wsX9_asked := List.mem_of_getElem? (i := 1) rfl
theorem iX9_asked_X9 : ∀ w ∈ u_ws RX9 TX9 15, w ∈ wsX9_asked := fun w h => (List.mem_cons_of_mem _ (List.mem_append_right _ h))
theorem kX9_asked_30 : Cond.fieldLink RX9 30 "EveningVow" "refusal" "I" ∈ wsX9_asked := List.mem_of_getElem? (i := 2) rfl
set_option maxHeartbeats 4000000 in
set_option maxRecDepth 100000 in
theorem mX9_asked (l : Launch) (g : GG) (a_t : Nat) (p_t : Nat → Nat) (n : Nat) (o_t : Nat → Int32) (r : Int32) (o_t' : Nat → Int32) (hF : fX9_asked n o_t = some (r, o_t')) : MI l g yX9_asked wsX9_asked ({ frames := 0, cells := 0, slots := 0, locals := 0 } : Room) [.ref a_t] [oX9 a_t p_t o_t] r [oX9 a_t p_t o_t'] := by
  refine MI.of (cc := cX9_asked) (maxL := 1) (rt := .boolean) (own := RX9) rfl rfl (by decide) (Nat.le_of_ble_eq_true rfl) ?_
  intro p e s m args below meth c A C0 hP hD hS ls hl
  obtain ⟨hx, hb, hml, hown, hts, hr, hlk, hK, hA, hSW⟩ := id C0
  have hl : lv_has ls 1 [(0, .ref a_t)] := hl
  rw [fX9_asked] at hF
  refine lv_aload_n hx hb dX9_asked_0 rfl (lv_at hl 0 rfl) ?_
  refine lv_aload_n hx hb dX9_asked_1 rfl (lv_at hl 0 rfl) ?_
  refine va_get (D := g.1) (ci := 9) (v := .int (o_t 3)) (C := RX9) (T := TX9) (N := 15) hx hb hts iX9_asked_X9 hown hK.1 hP 0 rfl rfl 3 (by decide) (hts _ kX9_asked_26) (fun _ h9 => h9) rfl dX9_asked_2 ?_
  refine lv_if_eq (tgt := 12) hx hb dX9_asked_5 (by decide) (fun c_1 => ?_) (fun c_1 => ?_)
  · have hF := it_p c_1 hF
    refine lv_iconst (v := (1 : Int32)) hx hb dX9_asked_12 (by decide) ?_
    refine va_put (D := g.1) (ci := 9) (v := .int (1 : Int32)) (ty := .int) (C := RX9) (T := TX9) (N := 15) hx hb hts iX9_asked_X9 tyX9 tyX9_ok nmX9 hown hK.1 hP hD hS 0 rfl rfl 4 (by decide) (hts _ kX9_asked_30) (fun _ h9 => h9) rfl (by decide +kernel) rfl rfl (Nat.le_of_ble_eq_true rfl) dX9_asked_13 (fun H locs hP hD hS => ?_)
    have hP : va_P g.1 vwCl [oX9 a_t p_t (upd o_t 4 (1 : Int32))] H := hP
    have hD : va_D A [oX9 a_t p_t (upd o_t 4 (1 : Int32))] := hD
    refine lv_aload_n hx hb dX9_asked_16 rfl (lv_at hl 0 rfl) ?_
    refine va_get (D := g.1) (ci := 9) (v := .int (o_t 3)) (C := RX9) (T := TX9) (N := 15) hx hb hts iX9_asked_X9 hown hK.1 hP 0 rfl rfl 3 (by decide) (hts _ kX9_asked_26) (fun _ h9 => h9) rfl dX9_asked_17 ?_
    obtain ⟨h_2, hF⟩ := it_ck hF
    cases hF
    exact ret_z C0 hP hD hS [0] rfl rfl rfl dX9_asked_20 (nar01 h_2) rfl
  · have hF := it_n c_1 hF
    refine lv_iconst (v := (0 : Int32)) hx hb dX9_asked_8 (by decide) ?_
    refine lv_goto (tgt := 13) hx hb dX9_asked_9 (by decide) ?_
    refine va_put (D := g.1) (ci := 9) (v := .int (0 : Int32)) (ty := .int) (C := RX9) (T := TX9) (N := 15) hx hb hts iX9_asked_X9 tyX9 tyX9_ok nmX9 hown hK.1 hP hD hS 0 rfl rfl 4 (by decide) (hts _ kX9_asked_30) (fun _ h9 => h9) rfl (by decide +kernel) rfl rfl (Nat.le_of_ble_eq_true rfl) dX9_asked_13 (fun H locs hP hD hS => ?_)
    have hP : va_P g.1 vwCl [oX9 a_t p_t (upd o_t 4 (0 : Int32))] H := hP
    have hD : va_D A [oX9 a_t p_t (upd o_t 4 (0 : Int32))] := hD
    refine lv_aload_n hx hb dX9_asked_16 rfl (lv_at hl 0 rfl) ?_
    refine va_get (D := g.1) (ci := 9) (v := .int (o_t 3)) (C := RX9) (T := TX9) (N := 15) hx hb hts iX9_asked_X9 hown hK.1 hP 0 rfl rfl 3 (by decide) (hts _ kX9_asked_26) (fun _ h9 => h9) rfl dX9_asked_17 ?_
    obtain ⟨h_3, hF⟩ := it_ck hF
    cases hF
    exact ret_z C0 hP hD hS [0] rfl rfl rfl dX9_asked_20 (nar01 h_3) rfl

theorem dAX9_there : ∀ q ∈ ([(0, (.aload_n 0, 1)), (1, (.invokevirtual 153, 3)), (4, (.ifCond .eq 13, 3)), (7, (.aload_n 0, 1)), (8, (.getfield 37, 3)), (11, (.getfield 157, 3)), (14, (.goto 4, 3)), (17, (.iconst (-1), 1)), (18, (.ireturn, 1))] : List (Nat × (Instr × Nat))), decode cX9_there q.1 = .ok q.2 := by decide +kernel
theorem dX9_there_0 : decode cX9_there 0 = .ok (.aload_n 0, 1) := dAX9_there (0, (.aload_n 0, 1)) (List.mem_of_getElem? (i := 0) rfl)
theorem dX9_there_1 : decode cX9_there 1 = .ok (.invokevirtual 153, 3) := dAX9_there (1, (.invokevirtual 153, 3)) (List.mem_of_getElem? (i := 1) rfl)
theorem dX9_there_4 : decode cX9_there 4 = .ok (.ifCond .eq 13, 3) := dAX9_there (4, (.ifCond .eq 13, 3)) (List.mem_of_getElem? (i := 2) rfl)
theorem dX9_there_7 : decode cX9_there 7 = .ok (.aload_n 0, 1) := dAX9_there (7, (.aload_n 0, 1)) (List.mem_of_getElem? (i := 3) rfl)
theorem dX9_there_8 : decode cX9_there 8 = .ok (.getfield 37, 3) := dAX9_there (8, (.getfield 37, 3)) (List.mem_of_getElem? (i := 4) rfl)
theorem dX9_there_11 : decode cX9_there 11 = .ok (.getfield 157, 3) := dAX9_there (11, (.getfield 157, 3)) (List.mem_of_getElem? (i := 5) rfl)
theorem dX9_there_14 : decode cX9_there 14 = .ok (.goto 4, 3) := dAX9_there (14, (.goto 4, 3)) (List.mem_of_getElem? (i := 6) rfl)
theorem dX9_there_17 : decode cX9_there 17 = .ok (.iconst (-1), 1) := dAX9_there (17, (.iconst (-1), 1)) (List.mem_of_getElem? (i := 7) rfl)
theorem dX9_there_18 : decode cX9_there 18 = .ok (.ireturn, 1) := dAX9_there (18, (.ireturn, 1)) (List.mem_of_getElem? (i := 8) rfl)
set_option maxRecDepth 20000 in
theorem ggX9_there_X9_asked : GoodIn wsX9_there wsX9_asked := goodIn_r _ [7, 8, 9, 10, 11, 12, 13, 14, 15, 16, 17, 18, 19, 20, 21, 22, 23, 24] rfl (by decide +kernel)
set_option maxRecDepth 20000 in
theorem gX9_there_X9_asked : GoodIn wsX9_there (wsV RX9 153 RX9 yX9_asked wsX9_asked) := goodIn_app (goodIn_of _ (by decide +kernel)) ggX9_there_X9_asked
theorem kX9_there_37 : Cond.fieldLink RX9 37 "EveningVow" "now" "LEveningVow$Night;" ∈ wsX9_there := List.mem_of_getElem? (i := 1) rfl
theorem iX9_there_X9 : ∀ w ∈ u_ws RX9 TX9 15, w ∈ wsX9_there := fun w h => (List.mem_cons_of_mem _ (List.mem_append_left _ (List.mem_append_right _ h)))
theorem kX9_there_157 : Cond.fieldLink RX9 157 "EveningVow$Night" "there" "I" ∈ wsX9_there := List.mem_of_getElem? (i := 2) rfl
theorem iX9_there_X2 : ∀ w ∈ u_ws RX2 TX2 9, w ∈ wsX9_there := fun w h => (List.mem_cons_of_mem _ (List.mem_append_right _ h))
set_option maxHeartbeats 4000000 in
set_option maxRecDepth 100000 in
theorem mX9_there (l : Launch) (g : GG) (a_t : Nat) (p_t : Nat → Nat) (p_t_5 : Nat → Nat) (n : Nat) (o_t : Nat → Int32) (o_t_5 : Nat → Int32) (r : Int32) (o_t' : Nat → Int32) (hF : fX9_there n o_t o_t_5 = some (r, o_t')) : MI l g yX9_there wsX9_there ({ frames := 1, cells := 0, slots := 0, locals := 20 } : Room) [.ref a_t] [oX9 a_t p_t o_t, oX2 (p_t 5) p_t_5 o_t_5] r [oX9 a_t p_t o_t', oX2 (p_t 5) p_t_5 o_t_5] := by
  refine MI.of (cc := cX9_there) (maxL := 1) (rt := .int) (own := RX9) rfl rfl (by decide) (Nat.le_of_ble_eq_true rfl) ?_
  intro p e s m args below meth c A C0 hP hD hS ls hl
  obtain ⟨hx, hb, hml, hown, hts, hr, hlk, hK, hA, hSW⟩ := id C0
  have hl : lv_has ls 1 [(0, .ref a_t)] := hl
  rw [fX9_there] at hF
  refine lv_aload_n hx hb dX9_there_0 rfl (lv_at hl 0 rfl) ?_
  obtain ⟨u_1, u_2, hu_3, hF⟩ := ob2_some hF
  refine call_i (wr := [oX2 (p_t 5) p_t_5 o_t_5]) (As := []) (rest := []) (ci := 9) (q0 := 0) C0 (mX9_asked l g a_t p_t n o_t u_1 u_2 hu_3) (cwV 0 hts gX9_there_X9_asked rfl rfl rfl (by decide +kernel) ⟨Nat.le_of_ble_eq_true rfl, Nat.le_of_ble_eq_true rfl⟩) hP hD hS [0] [1] rfl rfl rfl rfl rfl (by decide) rfl rfl hl.1 rfl rfl (Nat.le_of_ble_eq_true rfl) ⟨Nat.zero_le _, Nat.zero_le _⟩ dX9_there_1 ?_
  intro H locs hP hD hS
  refine lv_if_eq (tgt := 17) hx hb dX9_there_4 (by decide) (fun c_4 => ?_) (fun c_4 => ?_)
  · have hF := it_p c_4 hF
    refine lv_iconst (v := (-1 : Int32)) hx hb dX9_there_17 (by decide) ?_
    cases hF
    exact ret_i C0 hP hD hS [1, 0] rfl rfl rfl dX9_there_18 rfl
  · have hF := it_n c_4 hF
    refine lv_aload_n hx hb dX9_there_7 rfl (lv_at hl 0 rfl) ?_
    refine va_get (D := g.1) (ci := 9) (v := .ref (p_t 5)) (C := RX9) (T := TX9) (N := 15) hx hb hts iX9_there_X9 hown hK.1 hP 1 rfl rfl 5 (by decide) (hts _ kX9_there_37) (fun _ h9 => h9) rfl dX9_there_8 ?_
    refine va_get (D := g.1) (ci := 2) (v := .int (o_t_5 1)) (C := RX2) (T := TX2) (N := 9) hx hb hts iX9_there_X2 hown hK.1 hP 0 rfl rfl 1 (by decide) (hts _ kX9_there_157) (fun _ h9 => h9) rfl dX9_there_11 ?_
    refine lv_goto (tgt := 18) hx hb dX9_there_14 (by decide) ?_
    cases hF
    exact ret_i C0 hP hD hS [1, 0] rfl rfl rfl dX9_there_18 rfl

theorem dAX9_leaving : ∀ q ∈ ([(0, (.aload_n 0, 1)), (1, (.invokevirtual 153, 3)), (4, (.ifCond .ne 5, 3)), (7, (.iconst (-1), 1)), (8, (.ireturn, 1)), (9, (.aload_n 0, 1)), (10, (.getfield 41, 3)), (13, (.aload_n 0, 1)), (14, (.getfield 37, 3)), (17, (.invokevirtual 160, 3)), (20, (.aload_n 0, 1)), (21, (.getfield 41, 3)), (24, (.aload_n 0, 1)), (25, (.getfield 19, 3)), (28, (.aload_n 0, 1)), (29, (.getfield 49, 3)), (32, (.invokevirtual 164, 3)), (35, (.ireturn, 1))] : List (Nat × (Instr × Nat))), decode cX9_leaving q.1 = .ok q.2 := by decide +kernel
theorem dX9_leaving_0 : decode cX9_leaving 0 = .ok (.aload_n 0, 1) := dAX9_leaving (0, (.aload_n 0, 1)) (List.mem_of_getElem? (i := 0) rfl)
theorem dX9_leaving_1 : decode cX9_leaving 1 = .ok (.invokevirtual 153, 3) := dAX9_leaving (1, (.invokevirtual 153, 3)) (List.mem_of_getElem? (i := 1) rfl)
theorem dX9_leaving_4 : decode cX9_leaving 4 = .ok (.ifCond .ne 5, 3) := dAX9_leaving (4, (.ifCond .ne 5, 3)) (List.mem_of_getElem? (i := 2) rfl)
theorem dX9_leaving_7 : decode cX9_leaving 7 = .ok (.iconst (-1), 1) := dAX9_leaving (7, (.iconst (-1), 1)) (List.mem_of_getElem? (i := 3) rfl)
theorem dX9_leaving_8 : decode cX9_leaving 8 = .ok (.ireturn, 1) := dAX9_leaving (8, (.ireturn, 1)) (List.mem_of_getElem? (i := 4) rfl)
theorem dX9_leaving_9 : decode cX9_leaving 9 = .ok (.aload_n 0, 1) := dAX9_leaving (9, (.aload_n 0, 1)) (List.mem_of_getElem? (i := 5) rfl)
theorem dX9_leaving_10 : decode cX9_leaving 10 = .ok (.getfield 41, 3) := dAX9_leaving (10, (.getfield 41, 3)) (List.mem_of_getElem? (i := 6) rfl)
theorem dX9_leaving_13 : decode cX9_leaving 13 = .ok (.aload_n 0, 1) := dAX9_leaving (13, (.aload_n 0, 1)) (List.mem_of_getElem? (i := 7) rfl)
theorem dX9_leaving_14 : decode cX9_leaving 14 = .ok (.getfield 37, 3) := dAX9_leaving (14, (.getfield 37, 3)) (List.mem_of_getElem? (i := 8) rfl)
theorem dX9_leaving_17 : decode cX9_leaving 17 = .ok (.invokevirtual 160, 3) := dAX9_leaving (17, (.invokevirtual 160, 3)) (List.mem_of_getElem? (i := 9) rfl)
theorem dX9_leaving_20 : decode cX9_leaving 20 = .ok (.aload_n 0, 1) := dAX9_leaving (20, (.aload_n 0, 1)) (List.mem_of_getElem? (i := 10) rfl)
theorem dX9_leaving_21 : decode cX9_leaving 21 = .ok (.getfield 41, 3) := dAX9_leaving (21, (.getfield 41, 3)) (List.mem_of_getElem? (i := 11) rfl)
theorem dX9_leaving_24 : decode cX9_leaving 24 = .ok (.aload_n 0, 1) := dAX9_leaving (24, (.aload_n 0, 1)) (List.mem_of_getElem? (i := 12) rfl)
theorem dX9_leaving_25 : decode cX9_leaving 25 = .ok (.getfield 19, 3) := dAX9_leaving (25, (.getfield 19, 3)) (List.mem_of_getElem? (i := 13) rfl)
theorem dX9_leaving_28 : decode cX9_leaving 28 = .ok (.aload_n 0, 1) := dAX9_leaving (28, (.aload_n 0, 1)) (List.mem_of_getElem? (i := 14) rfl)
theorem dX9_leaving_29 : decode cX9_leaving 29 = .ok (.getfield 49, 3) := dAX9_leaving (29, (.getfield 49, 3)) (List.mem_of_getElem? (i := 15) rfl)
theorem dX9_leaving_32 : decode cX9_leaving 32 = .ok (.invokevirtual 164, 3) := dAX9_leaving (32, (.invokevirtual 164, 3)) (List.mem_of_getElem? (i := 16) rfl)
theorem dX9_leaving_35 : decode cX9_leaving 35 = .ok (.ireturn, 1) := dAX9_leaving (35, (.ireturn, 1)) (List.mem_of_getElem? (i := 17) rfl)
set_option maxRecDepth 20000 in
theorem ggX9_leaving_X9_asked : GoodIn wsX9_leaving wsX9_asked := goodIn_r _ [9, 10, 11, 70, 71, 72, 73, 74, 75, 76, 77, 78, 79, 80, 81, 82, 83, 84] rfl (by decide +kernel)
set_option maxRecDepth 20000 in
theorem gX9_leaving_X9_asked : GoodIn wsX9_leaving (wsV RX9 153 RX9 yX9_asked wsX9_asked) := goodIn_app (goodIn_of _ (by decide +kernel)) ggX9_leaving_X9_asked
set_option maxRecDepth 20000 in
theorem ggX9_leaving_X2_become : GoodIn wsX9_leaving wsX2_become := goodIn_r _ [16, 17, 18, 19, 20, 21, 22, 23, 24, 25, 26, 85, 86, 87, 88, 89, 90, 91, 92, 93] rfl (by decide +kernel)
set_option maxRecDepth 20000 in
theorem gX9_leaving_X2_become : GoodIn wsX9_leaving (wsV RX9 160 RX2 yX2_become wsX2_become) := goodIn_app (goodIn_of _ (by decide +kernel)) ggX9_leaving_X2_become
set_option maxRecDepth 20000 in
theorem ggX9_leaving_X2_pass : GoodIn wsX9_leaving wsX2_pass := goodIn_r _ [30, 17, 31, 32, 33, 15, 34, 35, 36, 18, 21, 37, 38, 39, 40, 41, 42, 43, 44, 45, 46, 47, 48, 49, 50, 51, 52, 53, 54, 55, 56, 57, 58, 59, 60, 61, 62, 63, 64, 65, 66, 67, 26, 68, 69, 85, 86, 87, 88, 89, 90, 91, 92, 93, 94, 95, 96, 97, 98, 99, 100, 101, 102, 103, 104, 105, 106, 107, 108, 109, 110, 111, 112] rfl (by decide +kernel)
set_option maxRecDepth 20000 in
theorem gX9_leaving_X2_pass : GoodIn wsX9_leaving (wsV RX9 164 RX2 yX2_pass wsX2_pass) := goodIn_app (goodIn_of _ (by decide +kernel)) ggX9_leaving_X2_pass
theorem kX9_leaving_41 : Cond.fieldLink RX9 41 "EveningVow" "trial" "LEveningVow$Night;" ∈ wsX9_leaving := List.mem_of_getElem? (i := 1) rfl
theorem iX9_leaving_X9 : ∀ w ∈ u_ws RX9 TX9 15, w ∈ wsX9_leaving := fun w h => (List.mem_cons_of_mem _ (List.mem_append_left _ (List.mem_append_left _ (List.mem_append_left _ (List.mem_append_right _ h)))))
theorem kX9_leaving_37 : Cond.fieldLink RX9 37 "EveningVow" "now" "LEveningVow$Night;" ∈ wsX9_leaving := List.mem_of_getElem? (i := 2) rfl
theorem kX9_leaving_19 : Cond.fieldLink RX9 19 "EveningVow" "told" "LEveningVow$House;" ∈ wsX9_leaving := List.mem_of_getElem? (i := 3) rfl
theorem kX9_leaving_49 : Cond.fieldLink RX9 49 "EveningVow" "asTold" "LEveningVow$Pace;" ∈ wsX9_leaving := List.mem_of_getElem? (i := 4) rfl
set_option maxHeartbeats 4000000 in
set_option maxRecDepth 100000 in
theorem mX9_leaving (l : Launch) (g : GG) (a_t : Nat) (p_t : Nat → Nat) (p_t_1 : Nat → Nat) (p_t_5 : Nat → Nat) (p_t_6 : Nat → Nat) (p_t_7 : Nat → Nat) (n : Nat) (o_t : Nat → Int32) (o_t_1 : Nat → Int32) (f_t_1_4 : Nat → Int32) (f_t_1_6 : Nat → Int32) (f_t_1_7 : Nat → Int32) (f_t_1_10 : Nat → Int32) (f_t_1_11 : Nat → Int32) (f_t_1_12 : Nat → Int32) (o_t_5 : Nat → Int32) (f_t_5_6 : Nat → Int32) (f_t_5_7 : Nat → Int32) (o_t_6 : Nat → Int32) (f_t_6_6 : Nat → Int32) (f_t_6_7 : Nat → Int32) (f_t_6_8 : Nat → Int32) (o_t_7 : Nat → Int32) (r : Int32) (o_t' : Nat → Int32) (o_t_6' : Nat → Int32) (f_t_6_6' : Nat → Int32) (f_t_6_7' : Nat → Int32) (f_t_6_8' : Nat → Int32) (o_t_7' : Nat → Int32) (hF : fX9_leaving n o_t o_t_1 f_t_1_4 f_t_1_6 f_t_1_7 f_t_1_10 f_t_1_11 f_t_1_12 o_t_5 f_t_5_6 f_t_5_7 o_t_6 f_t_6_6 f_t_6_7 f_t_6_8 o_t_7 = some (r, o_t', o_t_6', f_t_6_6', f_t_6_7', f_t_6_8', o_t_7')) : MI l g yX9_leaving wsX9_leaving ({ frames := 3, cells := 0, slots := 0, locals := 81 } : Room) [.ref a_t] [oX9 a_t p_t o_t, oX1 (p_t 1) p_t_1 o_t_1, aI g (p_t_1 4) 7 f_t_1_4, aI g (p_t_1 6) 7 f_t_1_6, aI g (p_t_1 7) 7 f_t_1_7, aI g (p_t_1 10) 8 f_t_1_10, aI g (p_t_1 11) 8 f_t_1_11, aI g (p_t_1 12) 8 f_t_1_12, oX2 (p_t 5) p_t_5 o_t_5, aI g (p_t_5 6) 7 f_t_5_6, aI g (p_t_5 7) 7 f_t_5_7, oX2 (p_t 6) p_t_6 o_t_6, aI g (p_t_6 6) 7 f_t_6_6, aI g (p_t_6 7) 7 f_t_6_7, aI g (p_t_6 8) 7 f_t_6_8, oX3 (p_t 7) p_t_7 o_t_7] r [oX9 a_t p_t o_t', oX1 (p_t 1) p_t_1 o_t_1, aI g (p_t_1 4) 7 f_t_1_4, aI g (p_t_1 6) 7 f_t_1_6, aI g (p_t_1 7) 7 f_t_1_7, aI g (p_t_1 10) 8 f_t_1_10, aI g (p_t_1 11) 8 f_t_1_11, aI g (p_t_1 12) 8 f_t_1_12, oX2 (p_t 5) p_t_5 o_t_5, aI g (p_t_5 6) 7 f_t_5_6, aI g (p_t_5 7) 7 f_t_5_7, oX2 (p_t 6) p_t_6 o_t_6', aI g (p_t_6 6) 7 f_t_6_6', aI g (p_t_6 7) 7 f_t_6_7', aI g (p_t_6 8) 7 f_t_6_8', oX3 (p_t 7) p_t_7 o_t_7'] := by
  refine MI.of (cc := cX9_leaving) (maxL := 1) (rt := .int) (own := RX9) rfl rfl (by decide) (Nat.le_of_ble_eq_true rfl) ?_
  intro p e s m args below meth c A C0 hP hD hS ls hl
  obtain ⟨hx, hb, hml, hown, hts, hr, hlk, hK, hA, hSW⟩ := id C0
  have hl : lv_has ls 1 [(0, .ref a_t)] := hl
  rw [fX9_leaving] at hF
  refine lv_aload_n hx hb dX9_leaving_0 rfl (lv_at hl 0 rfl) ?_
  obtain ⟨u_1, u_2, hu_3, hF⟩ := ob2_some hF
  refine call_i (wr := [oX1 (p_t 1) p_t_1 o_t_1, aI g (p_t_1 4) 7 f_t_1_4, aI g (p_t_1 6) 7 f_t_1_6, aI g (p_t_1 7) 7 f_t_1_7, aI g (p_t_1 10) 8 f_t_1_10, aI g (p_t_1 11) 8 f_t_1_11, aI g (p_t_1 12) 8 f_t_1_12, oX2 (p_t 5) p_t_5 o_t_5, aI g (p_t_5 6) 7 f_t_5_6, aI g (p_t_5 7) 7 f_t_5_7, oX2 (p_t 6) p_t_6 o_t_6, aI g (p_t_6 6) 7 f_t_6_6, aI g (p_t_6 7) 7 f_t_6_7, aI g (p_t_6 8) 7 f_t_6_8, oX3 (p_t 7) p_t_7 o_t_7]) (As := []) (rest := []) (ci := 9) (q0 := 0) C0 (mX9_asked l g a_t p_t n o_t u_1 u_2 hu_3) (cwV 0 hts gX9_leaving_X9_asked rfl rfl rfl (by decide +kernel) ⟨Nat.le_of_ble_eq_true rfl, Nat.le_of_ble_eq_true rfl⟩) hP hD hS [0] [1, 2, 3, 4, 5, 6, 7, 8, 9, 10, 11, 12, 13, 14, 15] rfl rfl rfl rfl rfl (by decide) rfl rfl hl.1 rfl rfl (Nat.le_of_ble_eq_true rfl) ⟨Nat.zero_le _, Nat.zero_le _⟩ dX9_leaving_1 ?_
  intro H locs hP hD hS
  refine lv_if_ne (tgt := 9) hx hb dX9_leaving_4 (by decide) (fun c_4 => ?_) (fun c_4 => ?_)
  · have hF := it_n c_4 hF
    refine lv_aload_n hx hb dX9_leaving_9 rfl (lv_at hl 0 rfl) ?_
    refine va_get (D := g.1) (ci := 9) (v := .ref (p_t 6)) (C := RX9) (T := TX9) (N := 15) hx hb hts iX9_leaving_X9 hown hK.1 hP 15 rfl rfl 6 (by decide) (hts _ kX9_leaving_41) (fun _ h9 => h9) rfl dX9_leaving_10 ?_
    refine lv_aload_n hx hb dX9_leaving_13 rfl (lv_at hl 0 rfl) ?_
    refine va_get (D := g.1) (ci := 9) (v := .ref (p_t 5)) (C := RX9) (T := TX9) (N := 15) hx hb hts iX9_leaving_X9 hown hK.1 hP 15 rfl rfl 5 (by decide) (hts _ kX9_leaving_37) (fun _ h9 => h9) rfl dX9_leaving_14 ?_
    obtain ⟨u_5, u_6, u_7, hu_8, hF⟩ := ob3_some hF
    refine call_v (wr := [oX1 (p_t 1) p_t_1 o_t_1, aI g (p_t_1 4) 7 f_t_1_4, aI g (p_t_1 6) 7 f_t_1_6, aI g (p_t_1 7) 7 f_t_1_7, aI g (p_t_1 10) 8 f_t_1_10, aI g (p_t_1 11) 8 f_t_1_11, aI g (p_t_1 12) 8 f_t_1_12, aI g (p_t_6 8) 7 f_t_6_8, oX3 (p_t 7) p_t_7 o_t_7, oX9 a_t p_t u_2]) (As := [.ref (p_t 5)]) (rest := []) (ci := 2) (q0 := 0) C0 (mX2_become l g (p_t 6) (p_t 5) p_t_6 p_t_5 n o_t_6 f_t_6_6 f_t_6_7 o_t_5 f_t_5_6 f_t_5_7 u_5 u_6 u_7 hu_8) (cwV 1 hts gX9_leaving_X2_become rfl rfl rfl (by decide +kernel) ⟨Nat.le_of_ble_eq_true rfl, Nat.le_of_ble_eq_true rfl⟩) hP hD hS [10, 11, 12, 7, 8, 9] [0, 1, 2, 3, 4, 5, 6, 13, 14, 15] rfl rfl rfl rfl rfl (by decide) rfl rfl hl.1 rfl rfl (Nat.le_of_ble_eq_true rfl) ⟨Nat.zero_le _, Nat.zero_le _⟩ dX9_leaving_17 ?_
    intro H locs hP hD hS
    refine lv_aload_n hx hb dX9_leaving_20 rfl (lv_at hl 0 rfl) ?_
    refine va_get (D := g.1) (ci := 9) (v := .ref (p_t 6)) (C := RX9) (T := TX9) (N := 15) hx hb hts iX9_leaving_X9 hown hK.1 hP 9 rfl rfl 6 (by decide) (hts _ kX9_leaving_41) (fun _ h9 => h9) rfl dX9_leaving_21 ?_
    refine lv_aload_n hx hb dX9_leaving_24 rfl (lv_at hl 0 rfl) ?_
    refine va_get (D := g.1) (ci := 9) (v := .ref (p_t 1)) (C := RX9) (T := TX9) (N := 15) hx hb hts iX9_leaving_X9 hown hK.1 hP 9 rfl rfl 1 (by decide) (hts _ kX9_leaving_19) (fun _ h9 => h9) rfl dX9_leaving_25 ?_
    refine lv_aload_n hx hb dX9_leaving_28 rfl (lv_at hl 0 rfl) ?_
    refine va_get (D := g.1) (ci := 9) (v := .ref (p_t 7)) (C := RX9) (T := TX9) (N := 15) hx hb hts iX9_leaving_X9 hown hK.1 hP 9 rfl rfl 7 (by decide) (hts _ kX9_leaving_49) (fun _ h9 => h9) rfl dX9_leaving_29 ?_
    obtain ⟨u_9, u_10, u_11, u_12, u_13, u_14, hu_15, hF⟩ := ob6_some hF
    refine call_i (wr := [oX9 a_t p_t u_2, oX2 (p_t 5) p_t_5 o_t_5, aI g (p_t_5 6) 7 f_t_5_6, aI g (p_t_5 7) 7 f_t_5_7]) (As := [.ref (p_t 1), .ref (p_t 7)]) (rest := []) (ci := 2) (q0 := 0) C0 (mX2_pass l g (p_t 6) (p_t 1) (p_t 7) p_t_6 p_t_1 p_t_7 n u_5 u_6 u_7 f_t_6_8 o_t_1 f_t_1_4 f_t_1_6 f_t_1_7 f_t_1_10 f_t_1_11 f_t_1_12 o_t_7 u_9 u_10 u_11 u_12 u_13 u_14 hu_15) (cwV 2 hts gX9_leaving_X2_pass rfl rfl rfl (by decide +kernel) ⟨Nat.le_of_ble_eq_true rfl, Nat.le_of_ble_eq_true rfl⟩) hP hD hS [10, 11, 12, 7, 0, 1, 2, 3, 4, 5, 6, 8] [9, 13, 14, 15] rfl rfl rfl rfl rfl (by decide) rfl rfl hl.1 rfl rfl (Nat.le_of_ble_eq_true rfl) ⟨Nat.zero_le _, Nat.zero_le _⟩ dX9_leaving_32 ?_
    intro H locs hP hD hS
    cases hF
    exact ret_i C0 hP hD hS [0, 8, 9, 10, 11, 12, 13, 14, 1, 2, 3, 4, 5, 6, 7, 15] rfl rfl rfl dX9_leaving_35 rfl
  · have hF := it_p c_4 hF
    refine lv_iconst (v := (-1 : Int32)) hx hb dX9_leaving_7 (by decide) ?_
    cases hF
    exact ret_i C0 hP hD hS [15, 0, 1, 2, 3, 4, 5, 6, 7, 8, 9, 10, 11, 12, 13, 14] rfl rfl rfl dX9_leaving_8 rfl

theorem dAX9_within : ∀ q ∈ ([(0, (.iload_n 1, 1)), (1, (.iload_n 2, 1)), (2, (.if_icmp .lt 12, 3)), (5, (.iload_n 1, 1)), (6, (.iload_n 3, 1)), (7, (.if_icmp .gt 7, 3)), (10, (.iconst 1, 1)), (11, (.goto 4, 3)), (14, (.iconst 0, 1)), (15, (.istore 4, 2)), (17, (.aload_n 0, 1)), (18, (.iload 4, 2)), (20, (.ifCond .eq 7, 3)), (23, (.iconst 0, 1)), (24, (.goto 4, 3)), (27, (.iconst 2, 1)), (28, (.putfield 30, 3)), (31, (.iload 4, 2)), (33, (.ireturn, 1))] : List (Nat × (Instr × Nat))), decode cX9_within q.1 = .ok q.2 := by decide +kernel
theorem dX9_within_0 : decode cX9_within 0 = .ok (.iload_n 1, 1) := dAX9_within (0, (.iload_n 1, 1)) (List.mem_of_getElem? (i := 0) rfl)
theorem dX9_within_1 : decode cX9_within 1 = .ok (.iload_n 2, 1) := dAX9_within (1, (.iload_n 2, 1)) (List.mem_of_getElem? (i := 1) rfl)
theorem dX9_within_2 : decode cX9_within 2 = .ok (.if_icmp .lt 12, 3) := dAX9_within (2, (.if_icmp .lt 12, 3)) (List.mem_of_getElem? (i := 2) rfl)
theorem dX9_within_5 : decode cX9_within 5 = .ok (.iload_n 1, 1) := dAX9_within (5, (.iload_n 1, 1)) (List.mem_of_getElem? (i := 3) rfl)
theorem dX9_within_6 : decode cX9_within 6 = .ok (.iload_n 3, 1) := dAX9_within (6, (.iload_n 3, 1)) (List.mem_of_getElem? (i := 4) rfl)
theorem dX9_within_7 : decode cX9_within 7 = .ok (.if_icmp .gt 7, 3) := dAX9_within (7, (.if_icmp .gt 7, 3)) (List.mem_of_getElem? (i := 5) rfl)
theorem dX9_within_10 : decode cX9_within 10 = .ok (.iconst 1, 1) := dAX9_within (10, (.iconst 1, 1)) (List.mem_of_getElem? (i := 6) rfl)
theorem dX9_within_11 : decode cX9_within 11 = .ok (.goto 4, 3) := dAX9_within (11, (.goto 4, 3)) (List.mem_of_getElem? (i := 7) rfl)
theorem dX9_within_14 : decode cX9_within 14 = .ok (.iconst 0, 1) := dAX9_within (14, (.iconst 0, 1)) (List.mem_of_getElem? (i := 8) rfl)
theorem dX9_within_15 : decode cX9_within 15 = .ok (.istore 4, 2) := dAX9_within (15, (.istore 4, 2)) (List.mem_of_getElem? (i := 9) rfl)
theorem dX9_within_17 : decode cX9_within 17 = .ok (.aload_n 0, 1) := dAX9_within (17, (.aload_n 0, 1)) (List.mem_of_getElem? (i := 10) rfl)
theorem dX9_within_18 : decode cX9_within 18 = .ok (.iload 4, 2) := dAX9_within (18, (.iload 4, 2)) (List.mem_of_getElem? (i := 11) rfl)
theorem dX9_within_20 : decode cX9_within 20 = .ok (.ifCond .eq 7, 3) := dAX9_within (20, (.ifCond .eq 7, 3)) (List.mem_of_getElem? (i := 12) rfl)
theorem dX9_within_23 : decode cX9_within 23 = .ok (.iconst 0, 1) := dAX9_within (23, (.iconst 0, 1)) (List.mem_of_getElem? (i := 13) rfl)
theorem dX9_within_24 : decode cX9_within 24 = .ok (.goto 4, 3) := dAX9_within (24, (.goto 4, 3)) (List.mem_of_getElem? (i := 14) rfl)
theorem dX9_within_27 : decode cX9_within 27 = .ok (.iconst 2, 1) := dAX9_within (27, (.iconst 2, 1)) (List.mem_of_getElem? (i := 15) rfl)
theorem dX9_within_28 : decode cX9_within 28 = .ok (.putfield 30, 3) := dAX9_within (28, (.putfield 30, 3)) (List.mem_of_getElem? (i := 16) rfl)
theorem dX9_within_31 : decode cX9_within 31 = .ok (.iload 4, 2) := dAX9_within (31, (.iload 4, 2)) (List.mem_of_getElem? (i := 17) rfl)
theorem dX9_within_33 : decode cX9_within 33 = .ok (.ireturn, 1) := dAX9_within (33, (.ireturn, 1)) (List.mem_of_getElem? (i := 18) rfl)
theorem kX9_within_30 : Cond.fieldLink RX9 30 "EveningVow" "refusal" "I" ∈ wsX9_within := List.mem_of_getElem? (i := 1) rfl
theorem iX9_within_X9 : ∀ w ∈ u_ws RX9 TX9 15, w ∈ wsX9_within := fun w h => (List.mem_cons_of_mem _ (List.mem_append_right _ h))
set_option maxHeartbeats 4000000 in
set_option maxRecDepth 100000 in
theorem mX9_within (l : Launch) (g : GG) (a_t : Nat) (p_t : Nat → Nat) (n : Nat) (x1 : Int32) (x2 : Int32) (x3 : Int32) (o_t : Nat → Int32) (r : Int32) (o_t' : Nat → Int32) (hF : fX9_within n x1 x2 x3 o_t = some (r, o_t')) : MI l g yX9_within wsX9_within ({ frames := 0, cells := 0, slots := 0, locals := 0 } : Room) [.ref a_t, .int x1, .int x2, .int x3] [oX9 a_t p_t o_t] r [oX9 a_t p_t o_t'] := by
  refine MI.of (cc := cX9_within) (maxL := 5) (rt := .boolean) (own := RX9) rfl rfl (by decide) (Nat.le_of_ble_eq_true rfl) ?_
  intro p e s m args below meth c A C0 hP hD hS ls hl
  obtain ⟨hx, hb, hml, hown, hts, hr, hlk, hK, hA, hSW⟩ := id C0
  have hl : lv_has ls 5 [(0, .ref a_t), (1, .int x1), (2, .int x2), (3, .int x3)] := hl
  rw [fX9_within] at hF
  refine lv_iload_n hx hb dX9_within_0 rfl (lv_at hl 1 rfl) ?_
  refine lv_iload_n hx hb dX9_within_1 rfl (lv_at hl 2 rfl) ?_
  refine lv_icmp_lt (tgt := 14) hx hb dX9_within_2 (by decide) (fun c_1 => ?_) (fun c_1 => ?_)
  · have hF := it_p c_1 hF
    refine lv_iconst (v := (0 : Int32)) hx hb dX9_within_14 (by decide) ?_
    refine lv_istore (lv' := [(4, .int (0 : Int32)), (0, .ref a_t), (1, .int x1), (2, .int x2), (3, .int x3)]) hx hb dX9_within_15 hl (by decide) rfl (fun ls hl => ?_)
    refine lv_aload_n hx hb dX9_within_17 rfl (lv_at hl 1 rfl) ?_
    refine lv_iload hx hb dX9_within_18 (lv_at hl 0 rfl) ?_
    refine lv_if_eq (tgt := 27) hx hb dX9_within_20 (by decide) (fun c_2 => ?_) (fun c_2 => ?_)
    · skip
      refine lv_iconst (v := (2 : Int32)) hx hb dX9_within_27 (by decide) ?_
      refine va_put (D := g.1) (ci := 9) (v := .int (2 : Int32)) (ty := .int) (C := RX9) (T := TX9) (N := 15) hx hb hts iX9_within_X9 tyX9 tyX9_ok nmX9 hown hK.1 hP hD hS 0 rfl rfl 4 (by decide) (hts _ kX9_within_30) (fun _ h9 => h9) rfl (by decide +kernel) rfl rfl (Nat.le_of_ble_eq_true rfl) dX9_within_28 (fun H locs hP hD hS => ?_)
      have hP : va_P g.1 vwCl [oX9 a_t p_t (upd o_t 4 (2 : Int32))] H := hP
      have hD : va_D A [oX9 a_t p_t (upd o_t 4 (2 : Int32))] := hD
      refine lv_iload hx hb dX9_within_31 (lv_at hl 0 rfl) ?_
      cases hF
      exact ret_z C0 hP hD hS [0] rfl rfl rfl dX9_within_33 rfl rfl
    · exact absurd c_2 (by decide)
  · have hF := it_n c_1 hF
    refine lv_iload_n hx hb dX9_within_5 rfl (lv_at hl 1 rfl) ?_
    refine lv_iload_n hx hb dX9_within_6 rfl (lv_at hl 3 rfl) ?_
    refine lv_icmp_gt (tgt := 14) hx hb dX9_within_7 (by decide) (fun c_3 => ?_) (fun c_3 => ?_)
    · have hF := it_p c_3 hF
      refine lv_iconst (v := (0 : Int32)) hx hb dX9_within_14 (by decide) ?_
      refine lv_istore (lv' := [(4, .int (0 : Int32)), (0, .ref a_t), (1, .int x1), (2, .int x2), (3, .int x3)]) hx hb dX9_within_15 hl (by decide) rfl (fun ls hl => ?_)
      refine lv_aload_n hx hb dX9_within_17 rfl (lv_at hl 1 rfl) ?_
      refine lv_iload hx hb dX9_within_18 (lv_at hl 0 rfl) ?_
      refine lv_if_eq (tgt := 27) hx hb dX9_within_20 (by decide) (fun c_4 => ?_) (fun c_4 => ?_)
      · skip
        refine lv_iconst (v := (2 : Int32)) hx hb dX9_within_27 (by decide) ?_
        refine va_put (D := g.1) (ci := 9) (v := .int (2 : Int32)) (ty := .int) (C := RX9) (T := TX9) (N := 15) hx hb hts iX9_within_X9 tyX9 tyX9_ok nmX9 hown hK.1 hP hD hS 0 rfl rfl 4 (by decide) (hts _ kX9_within_30) (fun _ h9 => h9) rfl (by decide +kernel) rfl rfl (Nat.le_of_ble_eq_true rfl) dX9_within_28 (fun H locs hP hD hS => ?_)
        have hP : va_P g.1 vwCl [oX9 a_t p_t (upd o_t 4 (2 : Int32))] H := hP
        have hD : va_D A [oX9 a_t p_t (upd o_t 4 (2 : Int32))] := hD
        refine lv_iload hx hb dX9_within_31 (lv_at hl 0 rfl) ?_
        cases hF
        exact ret_z C0 hP hD hS [0] rfl rfl rfl dX9_within_33 rfl rfl
      · exact absurd c_4 (by decide)
    · have hF := it_n c_3 hF
      refine lv_iconst (v := (1 : Int32)) hx hb dX9_within_10 (by decide) ?_
      refine lv_goto (tgt := 15) hx hb dX9_within_11 (by decide) ?_
      refine lv_istore (lv' := [(4, .int (1 : Int32)), (0, .ref a_t), (1, .int x1), (2, .int x2), (3, .int x3)]) hx hb dX9_within_15 hl (by decide) rfl (fun ls hl => ?_)
      refine lv_aload_n hx hb dX9_within_17 rfl (lv_at hl 1 rfl) ?_
      refine lv_iload hx hb dX9_within_18 (lv_at hl 0 rfl) ?_
      refine lv_if_eq (tgt := 27) hx hb dX9_within_20 (by decide) (fun c_5 => ?_) (fun c_5 => ?_)
      · exact absurd c_5 (by decide)
      · skip
        refine lv_iconst (v := (0 : Int32)) hx hb dX9_within_23 (by decide) ?_
        refine lv_goto (tgt := 28) hx hb dX9_within_24 (by decide) ?_
        refine va_put (D := g.1) (ci := 9) (v := .int (0 : Int32)) (ty := .int) (C := RX9) (T := TX9) (N := 15) hx hb hts iX9_within_X9 tyX9 tyX9_ok nmX9 hown hK.1 hP hD hS 0 rfl rfl 4 (by decide) (hts _ kX9_within_30) (fun _ h9 => h9) rfl (by decide +kernel) rfl rfl (Nat.le_of_ble_eq_true rfl) dX9_within_28 (fun H locs hP hD hS => ?_)
        have hP : va_P g.1 vwCl [oX9 a_t p_t (upd o_t 4 (0 : Int32))] H := hP
        have hD : va_D A [oX9 a_t p_t (upd o_t 4 (0 : Int32))] := hD
        refine lv_iload hx hb dX9_within_31 (lv_at hl 0 rfl) ?_
        cases hF
        exact ret_z C0 hP hD hS [0] rfl rfl rfl dX9_within_33 rfl rfl

theorem dAX9_thereIn : ∀ q ∈ ([(0, (.aload_n 0, 1)), (1, (.invokevirtual 153, 3)), (4, (.ifCond .eq 14, 3)), (7, (.aload_n 0, 1)), (8, (.iload_n 1, 1)), (9, (.iconst 0, 1)), (10, (.bipush 60, 2)), (12, (.invokevirtual 168, 3)), (15, (.ifCond .ne 5, 3)), (18, (.iconst (-1), 1)), (19, (.ireturn, 1)), (20, (.aload_n 0, 1)), (21, (.getfield 41, 3)), (24, (.aload_n 0, 1)), (25, (.getfield 37, 3)), (28, (.invokevirtual 160, 3)), (31, (.aload_n 0, 1)), (32, (.getfield 41, 3)), (35, (.aload_n 0, 1)), (36, (.getfield 19, 3)), (39, (.aload_n 0, 1)), (40, (.getfield 49, 3)), (43, (.iload_n 1, 1)), (44, (.invokevirtual 172, 3)), (47, (.pop, 1)), (48, (.aload_n 0, 1)), (49, (.getfield 41, 3)), (52, (.getfield 157, 3)), (55, (.ireturn, 1))] : List (Nat × (Instr × Nat))), decode cX9_thereIn q.1 = .ok q.2 := by decide +kernel
theorem dX9_thereIn_0 : decode cX9_thereIn 0 = .ok (.aload_n 0, 1) := dAX9_thereIn (0, (.aload_n 0, 1)) (List.mem_of_getElem? (i := 0) rfl)
theorem dX9_thereIn_1 : decode cX9_thereIn 1 = .ok (.invokevirtual 153, 3) := dAX9_thereIn (1, (.invokevirtual 153, 3)) (List.mem_of_getElem? (i := 1) rfl)
theorem dX9_thereIn_4 : decode cX9_thereIn 4 = .ok (.ifCond .eq 14, 3) := dAX9_thereIn (4, (.ifCond .eq 14, 3)) (List.mem_of_getElem? (i := 2) rfl)
theorem dX9_thereIn_7 : decode cX9_thereIn 7 = .ok (.aload_n 0, 1) := dAX9_thereIn (7, (.aload_n 0, 1)) (List.mem_of_getElem? (i := 3) rfl)
theorem dX9_thereIn_8 : decode cX9_thereIn 8 = .ok (.iload_n 1, 1) := dAX9_thereIn (8, (.iload_n 1, 1)) (List.mem_of_getElem? (i := 4) rfl)
theorem dX9_thereIn_9 : decode cX9_thereIn 9 = .ok (.iconst 0, 1) := dAX9_thereIn (9, (.iconst 0, 1)) (List.mem_of_getElem? (i := 5) rfl)
theorem dX9_thereIn_10 : decode cX9_thereIn 10 = .ok (.bipush 60, 2) := dAX9_thereIn (10, (.bipush 60, 2)) (List.mem_of_getElem? (i := 6) rfl)
theorem dX9_thereIn_12 : decode cX9_thereIn 12 = .ok (.invokevirtual 168, 3) := dAX9_thereIn (12, (.invokevirtual 168, 3)) (List.mem_of_getElem? (i := 7) rfl)
theorem dX9_thereIn_15 : decode cX9_thereIn 15 = .ok (.ifCond .ne 5, 3) := dAX9_thereIn (15, (.ifCond .ne 5, 3)) (List.mem_of_getElem? (i := 8) rfl)
theorem dX9_thereIn_18 : decode cX9_thereIn 18 = .ok (.iconst (-1), 1) := dAX9_thereIn (18, (.iconst (-1), 1)) (List.mem_of_getElem? (i := 9) rfl)
theorem dX9_thereIn_19 : decode cX9_thereIn 19 = .ok (.ireturn, 1) := dAX9_thereIn (19, (.ireturn, 1)) (List.mem_of_getElem? (i := 10) rfl)
theorem dX9_thereIn_20 : decode cX9_thereIn 20 = .ok (.aload_n 0, 1) := dAX9_thereIn (20, (.aload_n 0, 1)) (List.mem_of_getElem? (i := 11) rfl)
theorem dX9_thereIn_21 : decode cX9_thereIn 21 = .ok (.getfield 41, 3) := dAX9_thereIn (21, (.getfield 41, 3)) (List.mem_of_getElem? (i := 12) rfl)
theorem dX9_thereIn_24 : decode cX9_thereIn 24 = .ok (.aload_n 0, 1) := dAX9_thereIn (24, (.aload_n 0, 1)) (List.mem_of_getElem? (i := 13) rfl)
theorem dX9_thereIn_25 : decode cX9_thereIn 25 = .ok (.getfield 37, 3) := dAX9_thereIn (25, (.getfield 37, 3)) (List.mem_of_getElem? (i := 14) rfl)
theorem dX9_thereIn_28 : decode cX9_thereIn 28 = .ok (.invokevirtual 160, 3) := dAX9_thereIn (28, (.invokevirtual 160, 3)) (List.mem_of_getElem? (i := 15) rfl)
theorem dX9_thereIn_31 : decode cX9_thereIn 31 = .ok (.aload_n 0, 1) := dAX9_thereIn (31, (.aload_n 0, 1)) (List.mem_of_getElem? (i := 16) rfl)
theorem dX9_thereIn_32 : decode cX9_thereIn 32 = .ok (.getfield 41, 3) := dAX9_thereIn (32, (.getfield 41, 3)) (List.mem_of_getElem? (i := 17) rfl)
theorem dX9_thereIn_35 : decode cX9_thereIn 35 = .ok (.aload_n 0, 1) := dAX9_thereIn (35, (.aload_n 0, 1)) (List.mem_of_getElem? (i := 18) rfl)
theorem dX9_thereIn_36 : decode cX9_thereIn 36 = .ok (.getfield 19, 3) := dAX9_thereIn (36, (.getfield 19, 3)) (List.mem_of_getElem? (i := 19) rfl)
theorem dX9_thereIn_39 : decode cX9_thereIn 39 = .ok (.aload_n 0, 1) := dAX9_thereIn (39, (.aload_n 0, 1)) (List.mem_of_getElem? (i := 20) rfl)
theorem dX9_thereIn_40 : decode cX9_thereIn 40 = .ok (.getfield 49, 3) := dAX9_thereIn (40, (.getfield 49, 3)) (List.mem_of_getElem? (i := 21) rfl)
theorem dX9_thereIn_43 : decode cX9_thereIn 43 = .ok (.iload_n 1, 1) := dAX9_thereIn (43, (.iload_n 1, 1)) (List.mem_of_getElem? (i := 22) rfl)
theorem dX9_thereIn_44 : decode cX9_thereIn 44 = .ok (.invokevirtual 172, 3) := dAX9_thereIn (44, (.invokevirtual 172, 3)) (List.mem_of_getElem? (i := 23) rfl)
theorem dX9_thereIn_47 : decode cX9_thereIn 47 = .ok (.pop, 1) := dAX9_thereIn (47, (.pop, 1)) (List.mem_of_getElem? (i := 24) rfl)
theorem dX9_thereIn_48 : decode cX9_thereIn 48 = .ok (.aload_n 0, 1) := dAX9_thereIn (48, (.aload_n 0, 1)) (List.mem_of_getElem? (i := 25) rfl)
theorem dX9_thereIn_49 : decode cX9_thereIn 49 = .ok (.getfield 41, 3) := dAX9_thereIn (49, (.getfield 41, 3)) (List.mem_of_getElem? (i := 26) rfl)
theorem dX9_thereIn_52 : decode cX9_thereIn 52 = .ok (.getfield 157, 3) := dAX9_thereIn (52, (.getfield 157, 3)) (List.mem_of_getElem? (i := 27) rfl)
theorem dX9_thereIn_55 : decode cX9_thereIn 55 = .ok (.ireturn, 1) := dAX9_thereIn (55, (.ireturn, 1)) (List.mem_of_getElem? (i := 28) rfl)
set_option maxRecDepth 20000 in
theorem ggX9_thereIn_X9_asked : GoodIn wsX9_thereIn wsX9_asked := goodIn_r _ [10, 11, 12, 79, 80, 81, 82, 83, 84, 85, 86, 87, 88, 89, 90, 91, 92, 93] rfl (by decide +kernel)
set_option maxRecDepth 20000 in
theorem gX9_thereIn_X9_asked : GoodIn wsX9_thereIn (wsV RX9 153 RX9 yX9_asked wsX9_asked) := goodIn_app (goodIn_of _ (by decide +kernel)) ggX9_thereIn_X9_asked
set_option maxRecDepth 20000 in
theorem ggX9_thereIn_X9_within : GoodIn wsX9_thereIn wsX9_within := goodIn_r _ [16, 12, 79, 80, 81, 82, 83, 84, 85, 86, 87, 88, 89, 90, 91, 92, 93] rfl (by decide +kernel)
set_option maxRecDepth 20000 in
theorem gX9_thereIn_X9_within : GoodIn wsX9_thereIn (wsV RX9 168 RX9 yX9_within wsX9_within) := goodIn_app (goodIn_of _ (by decide +kernel)) ggX9_thereIn_X9_within
set_option maxRecDepth 20000 in
theorem ggX9_thereIn_X2_become : GoodIn wsX9_thereIn wsX2_become := goodIn_r _ [21, 22, 23, 24, 25, 26, 27, 28, 29, 30, 31, 94, 95, 96, 97, 98, 99, 100, 101, 102] rfl (by decide +kernel)
set_option maxRecDepth 20000 in
theorem gX9_thereIn_X2_become : GoodIn wsX9_thereIn (wsV RX9 160 RX2 yX2_become wsX2_become) := goodIn_app (goodIn_of _ (by decide +kernel)) ggX9_thereIn_X2_become
set_option maxRecDepth 20000 in
theorem ggX9_thereIn_X2_passAll : GoodIn wsX9_thereIn wsX2_passAll := goodIn_r _ [35, 36, 37, 38, 20, 39, 22, 40, 41, 42, 43, 44, 45, 23, 26, 46, 47, 48, 49, 50, 51, 52, 53, 54, 55, 56, 57, 58, 59, 60, 61, 62, 63, 64, 65, 66, 67, 68, 69, 70, 71, 72, 73, 74, 75, 76, 31, 77, 78, 94, 95, 96, 97, 98, 99, 100, 101, 102, 103, 104, 105, 106, 107, 108, 109, 110, 111, 112, 113, 114, 115, 116, 117, 118, 119, 120, 121] rfl (by decide +kernel)
set_option maxRecDepth 20000 in
theorem gX9_thereIn_X2_passAll : GoodIn wsX9_thereIn (wsV RX9 172 RX2 yX2_passAll wsX2_passAll) := goodIn_app (goodIn_of _ (by decide +kernel)) ggX9_thereIn_X2_passAll
theorem kX9_thereIn_41 : Cond.fieldLink RX9 41 "EveningVow" "trial" "LEveningVow$Night;" ∈ wsX9_thereIn := List.mem_of_getElem? (i := 1) rfl
theorem iX9_thereIn_X9 : ∀ w ∈ u_ws RX9 TX9 15, w ∈ wsX9_thereIn := fun w h => (List.mem_cons_of_mem _ (List.mem_append_left _ (List.mem_append_left _ (List.mem_append_left _ (List.mem_append_right _ h)))))
theorem kX9_thereIn_37 : Cond.fieldLink RX9 37 "EveningVow" "now" "LEveningVow$Night;" ∈ wsX9_thereIn := List.mem_of_getElem? (i := 2) rfl
theorem kX9_thereIn_19 : Cond.fieldLink RX9 19 "EveningVow" "told" "LEveningVow$House;" ∈ wsX9_thereIn := List.mem_of_getElem? (i := 3) rfl
theorem kX9_thereIn_49 : Cond.fieldLink RX9 49 "EveningVow" "asTold" "LEveningVow$Pace;" ∈ wsX9_thereIn := List.mem_of_getElem? (i := 4) rfl
theorem kX9_thereIn_157 : Cond.fieldLink RX9 157 "EveningVow$Night" "there" "I" ∈ wsX9_thereIn := List.mem_of_getElem? (i := 5) rfl
theorem iX9_thereIn_X2 : ∀ w ∈ u_ws RX2 TX2 9, w ∈ wsX9_thereIn := fun w h => (List.mem_cons_of_mem _ (List.mem_append_left _ (List.mem_append_left _ (List.mem_append_right _ h))))
set_option maxHeartbeats 4000000 in
set_option maxRecDepth 100000 in
theorem mX9_thereIn (l : Launch) (g : GG) (a_t : Nat) (p_t : Nat → Nat) (p_t_1 : Nat → Nat) (p_t_5 : Nat → Nat) (p_t_6 : Nat → Nat) (p_t_7 : Nat → Nat) (n : Nat) (x1 : Int32) (o_t : Nat → Int32) (o_t_1 : Nat → Int32) (f_t_1_4 : Nat → Int32) (f_t_1_6 : Nat → Int32) (f_t_1_7 : Nat → Int32) (f_t_1_10 : Nat → Int32) (f_t_1_11 : Nat → Int32) (f_t_1_12 : Nat → Int32) (o_t_5 : Nat → Int32) (f_t_5_6 : Nat → Int32) (f_t_5_7 : Nat → Int32) (o_t_6 : Nat → Int32) (f_t_6_6 : Nat → Int32) (f_t_6_7 : Nat → Int32) (f_t_6_8 : Nat → Int32) (o_t_7 : Nat → Int32) (r : Int32) (o_t' : Nat → Int32) (o_t_6' : Nat → Int32) (f_t_6_6' : Nat → Int32) (f_t_6_7' : Nat → Int32) (f_t_6_8' : Nat → Int32) (o_t_7' : Nat → Int32) (hF : fX9_thereIn n x1 o_t o_t_1 f_t_1_4 f_t_1_6 f_t_1_7 f_t_1_10 f_t_1_11 f_t_1_12 o_t_5 f_t_5_6 f_t_5_7 o_t_6 f_t_6_6 f_t_6_7 f_t_6_8 o_t_7 = some (r, o_t', o_t_6', f_t_6_6', f_t_6_7', f_t_6_8', o_t_7')) : MI l g yX9_thereIn wsX9_thereIn ({ frames := 4, cells := 0, slots := 0, locals := 96 } : Room) [.ref a_t, .int x1] [oX9 a_t p_t o_t, oX1 (p_t 1) p_t_1 o_t_1, aI g (p_t_1 4) 7 f_t_1_4, aI g (p_t_1 6) 7 f_t_1_6, aI g (p_t_1 7) 7 f_t_1_7, aI g (p_t_1 10) 8 f_t_1_10, aI g (p_t_1 11) 8 f_t_1_11, aI g (p_t_1 12) 8 f_t_1_12, oX2 (p_t 5) p_t_5 o_t_5, aI g (p_t_5 6) 7 f_t_5_6, aI g (p_t_5 7) 7 f_t_5_7, oX2 (p_t 6) p_t_6 o_t_6, aI g (p_t_6 6) 7 f_t_6_6, aI g (p_t_6 7) 7 f_t_6_7, aI g (p_t_6 8) 7 f_t_6_8, oX3 (p_t 7) p_t_7 o_t_7] r [oX9 a_t p_t o_t', oX1 (p_t 1) p_t_1 o_t_1, aI g (p_t_1 4) 7 f_t_1_4, aI g (p_t_1 6) 7 f_t_1_6, aI g (p_t_1 7) 7 f_t_1_7, aI g (p_t_1 10) 8 f_t_1_10, aI g (p_t_1 11) 8 f_t_1_11, aI g (p_t_1 12) 8 f_t_1_12, oX2 (p_t 5) p_t_5 o_t_5, aI g (p_t_5 6) 7 f_t_5_6, aI g (p_t_5 7) 7 f_t_5_7, oX2 (p_t 6) p_t_6 o_t_6', aI g (p_t_6 6) 7 f_t_6_6', aI g (p_t_6 7) 7 f_t_6_7', aI g (p_t_6 8) 7 f_t_6_8', oX3 (p_t 7) p_t_7 o_t_7'] := by
  refine MI.of (cc := cX9_thereIn) (maxL := 2) (rt := .int) (own := RX9) rfl rfl (by decide) (Nat.le_of_ble_eq_true rfl) ?_
  intro p e s m args below meth c A C0 hP hD hS ls hl
  obtain ⟨hx, hb, hml, hown, hts, hr, hlk, hK, hA, hSW⟩ := id C0
  have hl : lv_has ls 2 [(0, .ref a_t), (1, .int x1)] := hl
  rw [fX9_thereIn] at hF
  refine lv_aload_n hx hb dX9_thereIn_0 rfl (lv_at hl 0 rfl) ?_
  obtain ⟨u_1, u_2, hu_3, hF⟩ := ob2_some hF
  refine call_i (wr := [oX1 (p_t 1) p_t_1 o_t_1, aI g (p_t_1 4) 7 f_t_1_4, aI g (p_t_1 6) 7 f_t_1_6, aI g (p_t_1 7) 7 f_t_1_7, aI g (p_t_1 10) 8 f_t_1_10, aI g (p_t_1 11) 8 f_t_1_11, aI g (p_t_1 12) 8 f_t_1_12, oX2 (p_t 5) p_t_5 o_t_5, aI g (p_t_5 6) 7 f_t_5_6, aI g (p_t_5 7) 7 f_t_5_7, oX2 (p_t 6) p_t_6 o_t_6, aI g (p_t_6 6) 7 f_t_6_6, aI g (p_t_6 7) 7 f_t_6_7, aI g (p_t_6 8) 7 f_t_6_8, oX3 (p_t 7) p_t_7 o_t_7]) (As := []) (rest := []) (ci := 9) (q0 := 0) C0 (mX9_asked l g a_t p_t n o_t u_1 u_2 hu_3) (cwV 0 hts gX9_thereIn_X9_asked rfl rfl rfl (by decide +kernel) ⟨Nat.le_of_ble_eq_true rfl, Nat.le_of_ble_eq_true rfl⟩) hP hD hS [0] [1, 2, 3, 4, 5, 6, 7, 8, 9, 10, 11, 12, 13, 14, 15] rfl rfl rfl rfl rfl (by decide) rfl rfl hl.1 rfl rfl (Nat.le_of_ble_eq_true rfl) ⟨Nat.zero_le _, Nat.zero_le _⟩ dX9_thereIn_1 ?_
  intro H locs hP hD hS
  refine lv_if_eq (tgt := 18) hx hb dX9_thereIn_4 (by decide) (fun c_4 => ?_) (fun c_4 => ?_)
  · have hF := it_p c_4 hF
    refine lv_iconst (v := (-1 : Int32)) hx hb dX9_thereIn_18 (by decide) ?_
    cases hF
    exact ret_i C0 hP hD hS [15, 0, 1, 2, 3, 4, 5, 6, 7, 8, 9, 10, 11, 12, 13, 14] rfl rfl rfl dX9_thereIn_19 rfl
  · have hF := it_n c_4 hF
    refine lv_aload_n hx hb dX9_thereIn_7 rfl (lv_at hl 0 rfl) ?_
    refine lv_iload_n hx hb dX9_thereIn_8 rfl (lv_at hl 1 rfl) ?_
    refine lv_iconst (v := (0 : Int32)) hx hb dX9_thereIn_9 (by decide) ?_
    refine lv_bipush (v := (60 : Int32)) hx hb dX9_thereIn_10 (by decide) ?_
    obtain ⟨u_5, u_6, hu_7, hF⟩ := ob2_some hF
    refine call_i (wr := [oX1 (p_t 1) p_t_1 o_t_1, aI g (p_t_1 4) 7 f_t_1_4, aI g (p_t_1 6) 7 f_t_1_6, aI g (p_t_1 7) 7 f_t_1_7, aI g (p_t_1 10) 8 f_t_1_10, aI g (p_t_1 11) 8 f_t_1_11, aI g (p_t_1 12) 8 f_t_1_12, oX2 (p_t 5) p_t_5 o_t_5, aI g (p_t_5 6) 7 f_t_5_6, aI g (p_t_5 7) 7 f_t_5_7, oX2 (p_t 6) p_t_6 o_t_6, aI g (p_t_6 6) 7 f_t_6_6, aI g (p_t_6 7) 7 f_t_6_7, aI g (p_t_6 8) 7 f_t_6_8, oX3 (p_t 7) p_t_7 o_t_7]) (As := [.int x1, .int (0 : Int32), .int (60 : Int32)]) (rest := []) (ci := 9) (q0 := 0) C0 (mX9_within l g a_t p_t n x1 (0 : Int32) (60 : Int32) u_2 u_5 u_6 hu_7) (cwV 3 hts gX9_thereIn_X9_within rfl rfl rfl (by decide +kernel) ⟨Nat.le_of_ble_eq_true rfl, Nat.le_of_ble_eq_true rfl⟩) hP hD hS [15] [0, 1, 2, 3, 4, 5, 6, 7, 8, 9, 10, 11, 12, 13, 14] rfl rfl rfl rfl rfl (by decide) rfl rfl hl.1 rfl rfl (Nat.le_of_ble_eq_true rfl) ⟨Nat.zero_le _, Nat.zero_le _⟩ dX9_thereIn_12 ?_
    intro H locs hP hD hS
    refine lv_if_ne (tgt := 20) hx hb dX9_thereIn_15 (by decide) (fun c_8 => ?_) (fun c_8 => ?_)
    · have hF := it_n c_8 hF
      refine lv_aload_n hx hb dX9_thereIn_20 rfl (lv_at hl 0 rfl) ?_
      refine va_get (D := g.1) (ci := 9) (v := .ref (p_t 6)) (C := RX9) (T := TX9) (N := 15) hx hb hts iX9_thereIn_X9 hown hK.1 hP 15 rfl rfl 6 (by decide) (hts _ kX9_thereIn_41) (fun _ h9 => h9) rfl dX9_thereIn_21 ?_
      refine lv_aload_n hx hb dX9_thereIn_24 rfl (lv_at hl 0 rfl) ?_
      refine va_get (D := g.1) (ci := 9) (v := .ref (p_t 5)) (C := RX9) (T := TX9) (N := 15) hx hb hts iX9_thereIn_X9 hown hK.1 hP 15 rfl rfl 5 (by decide) (hts _ kX9_thereIn_37) (fun _ h9 => h9) rfl dX9_thereIn_25 ?_
      obtain ⟨u_9, u_10, u_11, hu_12, hF⟩ := ob3_some hF
      refine call_v (wr := [oX1 (p_t 1) p_t_1 o_t_1, aI g (p_t_1 4) 7 f_t_1_4, aI g (p_t_1 6) 7 f_t_1_6, aI g (p_t_1 7) 7 f_t_1_7, aI g (p_t_1 10) 8 f_t_1_10, aI g (p_t_1 11) 8 f_t_1_11, aI g (p_t_1 12) 8 f_t_1_12, aI g (p_t_6 8) 7 f_t_6_8, oX3 (p_t 7) p_t_7 o_t_7, oX9 a_t p_t u_6]) (As := [.ref (p_t 5)]) (rest := []) (ci := 2) (q0 := 0) C0 (mX2_become l g (p_t 6) (p_t 5) p_t_6 p_t_5 n o_t_6 f_t_6_6 f_t_6_7 o_t_5 f_t_5_6 f_t_5_7 u_9 u_10 u_11 hu_12) (cwV 1 hts gX9_thereIn_X2_become rfl rfl rfl (by decide +kernel) ⟨Nat.le_of_ble_eq_true rfl, Nat.le_of_ble_eq_true rfl⟩) hP hD hS [10, 11, 12, 7, 8, 9] [0, 1, 2, 3, 4, 5, 6, 13, 14, 15] rfl rfl rfl rfl rfl (by decide) rfl rfl hl.1 rfl rfl (Nat.le_of_ble_eq_true rfl) ⟨Nat.zero_le _, Nat.zero_le _⟩ dX9_thereIn_28 ?_
      intro H locs hP hD hS
      refine lv_aload_n hx hb dX9_thereIn_31 rfl (lv_at hl 0 rfl) ?_
      refine va_get (D := g.1) (ci := 9) (v := .ref (p_t 6)) (C := RX9) (T := TX9) (N := 15) hx hb hts iX9_thereIn_X9 hown hK.1 hP 9 rfl rfl 6 (by decide) (hts _ kX9_thereIn_41) (fun _ h9 => h9) rfl dX9_thereIn_32 ?_
      refine lv_aload_n hx hb dX9_thereIn_35 rfl (lv_at hl 0 rfl) ?_
      refine va_get (D := g.1) (ci := 9) (v := .ref (p_t 1)) (C := RX9) (T := TX9) (N := 15) hx hb hts iX9_thereIn_X9 hown hK.1 hP 9 rfl rfl 1 (by decide) (hts _ kX9_thereIn_19) (fun _ h9 => h9) rfl dX9_thereIn_36 ?_
      refine lv_aload_n hx hb dX9_thereIn_39 rfl (lv_at hl 0 rfl) ?_
      refine va_get (D := g.1) (ci := 9) (v := .ref (p_t 7)) (C := RX9) (T := TX9) (N := 15) hx hb hts iX9_thereIn_X9 hown hK.1 hP 9 rfl rfl 7 (by decide) (hts _ kX9_thereIn_49) (fun _ h9 => h9) rfl dX9_thereIn_40 ?_
      refine lv_iload_n hx hb dX9_thereIn_43 rfl (lv_at hl 1 rfl) ?_
      obtain ⟨u_13, u_14, u_15, u_16, u_17, u_18, hu_19, hF⟩ := ob6_some hF
      refine call_i (wr := [oX9 a_t p_t u_6, oX2 (p_t 5) p_t_5 o_t_5, aI g (p_t_5 6) 7 f_t_5_6, aI g (p_t_5 7) 7 f_t_5_7]) (As := [.ref (p_t 1), .ref (p_t 7), .int x1]) (rest := []) (ci := 2) (q0 := 0) C0 (mX2_passAll l g (p_t 6) (p_t 1) (p_t 7) p_t_6 p_t_1 p_t_7 n x1 u_9 u_10 u_11 f_t_6_8 o_t_1 f_t_1_4 f_t_1_6 f_t_1_7 f_t_1_10 f_t_1_11 f_t_1_12 o_t_7 u_13 u_14 u_15 u_16 u_17 u_18 hu_19) (cwV 3 hts gX9_thereIn_X2_passAll rfl rfl rfl (by decide +kernel) ⟨Nat.le_of_ble_eq_true rfl, Nat.le_of_ble_eq_true rfl⟩) hP hD hS [10, 11, 12, 7, 0, 1, 2, 3, 4, 5, 6, 8] [9, 13, 14, 15] rfl rfl rfl rfl rfl (by decide) rfl rfl hl.1 rfl rfl (Nat.le_of_ble_eq_true rfl) ⟨Nat.zero_le _, Nat.zero_le _⟩ dX9_thereIn_44 ?_
      intro H locs hP hD hS
      refine lv_pop hx hb dX9_thereIn_47 rfl ?_
      refine lv_aload_n hx hb dX9_thereIn_48 rfl (lv_at hl 0 rfl) ?_
      refine va_get (D := g.1) (ci := 9) (v := .ref (p_t 6)) (C := RX9) (T := TX9) (N := 15) hx hb hts iX9_thereIn_X9 hown hK.1 hP 0 rfl rfl 6 (by decide) (hts _ kX9_thereIn_41) (fun _ h9 => h9) rfl dX9_thereIn_49 ?_
      refine va_get (D := g.1) (ci := 2) (v := .int (u_14 1)) (C := RX2) (T := TX2) (N := 9) hx hb hts iX9_thereIn_X2 hown hK.1 hP 4 rfl rfl 1 (by decide) (hts _ kX9_thereIn_157) (fun _ h9 => h9) rfl dX9_thereIn_52 ?_
      cases hF
      exact ret_i C0 hP hD hS [0, 8, 9, 10, 11, 12, 13, 14, 1, 2, 3, 4, 5, 6, 7, 15] rfl rfl rfl dX9_thereIn_55 rfl
    · have hF := it_p c_8 hF
      refine lv_iconst (v := (-1 : Int32)) hx hb dX9_thereIn_18 (by decide) ?_
      cases hF
      exact ret_i C0 hP hD hS [15, 0, 1, 2, 3, 4, 5, 6, 7, 8, 9, 10, 11, 12, 13, 14] rfl rfl rfl dX9_thereIn_19 rfl

theorem dAX9_wantIn : ∀ q ∈ ([(0, (.aload_n 0, 1)), (1, (.iload_n 1, 1)), (2, (.invokevirtual 118, 3)), (5, (.ifCond .eq 14, 3)), (8, (.aload_n 0, 1)), (9, (.iload_n 2, 1)), (10, (.iconst 0, 1)), (11, (.bipush 60, 2)), (13, (.invokevirtual 168, 3)), (16, (.ifCond .ne 7, 3)), (19, (.sipush (-1000), 3)), (22, (.ireturn, 1)), (23, (.aload_n 0, 1)), (24, (.getfield 41, 3)), (27, (.aload_n 0, 1)), (28, (.getfield 37, 3)), (31, (.invokevirtual 160, 3)), (34, (.aload_n 0, 1)), (35, (.getfield 41, 3)), (38, (.aload_n 0, 1)), (39, (.getfield 19, 3)), (42, (.aload_n 0, 1)), (43, (.getfield 49, 3)), (46, (.iload_n 2, 1)), (47, (.invokevirtual 172, 3)), (50, (.pop, 1)), (51, (.aload_n 0, 1)), (52, (.getfield 41, 3)), (55, (.getfield 126, 3)), (58, (.iload_n 1, 1)), (59, (.iaload, 1)), (60, (.ireturn, 1))] : List (Nat × (Instr × Nat))), decode cX9_wantIn q.1 = .ok q.2 := by decide +kernel
theorem dX9_wantIn_0 : decode cX9_wantIn 0 = .ok (.aload_n 0, 1) := dAX9_wantIn (0, (.aload_n 0, 1)) (List.mem_of_getElem? (i := 0) rfl)
theorem dX9_wantIn_1 : decode cX9_wantIn 1 = .ok (.iload_n 1, 1) := dAX9_wantIn (1, (.iload_n 1, 1)) (List.mem_of_getElem? (i := 1) rfl)
theorem dX9_wantIn_2 : decode cX9_wantIn 2 = .ok (.invokevirtual 118, 3) := dAX9_wantIn (2, (.invokevirtual 118, 3)) (List.mem_of_getElem? (i := 2) rfl)
theorem dX9_wantIn_5 : decode cX9_wantIn 5 = .ok (.ifCond .eq 14, 3) := dAX9_wantIn (5, (.ifCond .eq 14, 3)) (List.mem_of_getElem? (i := 3) rfl)
theorem dX9_wantIn_8 : decode cX9_wantIn 8 = .ok (.aload_n 0, 1) := dAX9_wantIn (8, (.aload_n 0, 1)) (List.mem_of_getElem? (i := 4) rfl)
theorem dX9_wantIn_9 : decode cX9_wantIn 9 = .ok (.iload_n 2, 1) := dAX9_wantIn (9, (.iload_n 2, 1)) (List.mem_of_getElem? (i := 5) rfl)
theorem dX9_wantIn_10 : decode cX9_wantIn 10 = .ok (.iconst 0, 1) := dAX9_wantIn (10, (.iconst 0, 1)) (List.mem_of_getElem? (i := 6) rfl)
theorem dX9_wantIn_11 : decode cX9_wantIn 11 = .ok (.bipush 60, 2) := dAX9_wantIn (11, (.bipush 60, 2)) (List.mem_of_getElem? (i := 7) rfl)
theorem dX9_wantIn_13 : decode cX9_wantIn 13 = .ok (.invokevirtual 168, 3) := dAX9_wantIn (13, (.invokevirtual 168, 3)) (List.mem_of_getElem? (i := 8) rfl)
theorem dX9_wantIn_16 : decode cX9_wantIn 16 = .ok (.ifCond .ne 7, 3) := dAX9_wantIn (16, (.ifCond .ne 7, 3)) (List.mem_of_getElem? (i := 9) rfl)
theorem dX9_wantIn_19 : decode cX9_wantIn 19 = .ok (.sipush (-1000), 3) := dAX9_wantIn (19, (.sipush (-1000), 3)) (List.mem_of_getElem? (i := 10) rfl)
theorem dX9_wantIn_22 : decode cX9_wantIn 22 = .ok (.ireturn, 1) := dAX9_wantIn (22, (.ireturn, 1)) (List.mem_of_getElem? (i := 11) rfl)
theorem dX9_wantIn_23 : decode cX9_wantIn 23 = .ok (.aload_n 0, 1) := dAX9_wantIn (23, (.aload_n 0, 1)) (List.mem_of_getElem? (i := 12) rfl)
theorem dX9_wantIn_24 : decode cX9_wantIn 24 = .ok (.getfield 41, 3) := dAX9_wantIn (24, (.getfield 41, 3)) (List.mem_of_getElem? (i := 13) rfl)
theorem dX9_wantIn_27 : decode cX9_wantIn 27 = .ok (.aload_n 0, 1) := dAX9_wantIn (27, (.aload_n 0, 1)) (List.mem_of_getElem? (i := 14) rfl)
theorem dX9_wantIn_28 : decode cX9_wantIn 28 = .ok (.getfield 37, 3) := dAX9_wantIn (28, (.getfield 37, 3)) (List.mem_of_getElem? (i := 15) rfl)
theorem dX9_wantIn_31 : decode cX9_wantIn 31 = .ok (.invokevirtual 160, 3) := dAX9_wantIn (31, (.invokevirtual 160, 3)) (List.mem_of_getElem? (i := 16) rfl)
theorem dX9_wantIn_34 : decode cX9_wantIn 34 = .ok (.aload_n 0, 1) := dAX9_wantIn (34, (.aload_n 0, 1)) (List.mem_of_getElem? (i := 17) rfl)
theorem dX9_wantIn_35 : decode cX9_wantIn 35 = .ok (.getfield 41, 3) := dAX9_wantIn (35, (.getfield 41, 3)) (List.mem_of_getElem? (i := 18) rfl)
theorem dX9_wantIn_38 : decode cX9_wantIn 38 = .ok (.aload_n 0, 1) := dAX9_wantIn (38, (.aload_n 0, 1)) (List.mem_of_getElem? (i := 19) rfl)
theorem dX9_wantIn_39 : decode cX9_wantIn 39 = .ok (.getfield 19, 3) := dAX9_wantIn (39, (.getfield 19, 3)) (List.mem_of_getElem? (i := 20) rfl)
theorem dX9_wantIn_42 : decode cX9_wantIn 42 = .ok (.aload_n 0, 1) := dAX9_wantIn (42, (.aload_n 0, 1)) (List.mem_of_getElem? (i := 21) rfl)
theorem dX9_wantIn_43 : decode cX9_wantIn 43 = .ok (.getfield 49, 3) := dAX9_wantIn (43, (.getfield 49, 3)) (List.mem_of_getElem? (i := 22) rfl)
theorem dX9_wantIn_46 : decode cX9_wantIn 46 = .ok (.iload_n 2, 1) := dAX9_wantIn (46, (.iload_n 2, 1)) (List.mem_of_getElem? (i := 23) rfl)
theorem dX9_wantIn_47 : decode cX9_wantIn 47 = .ok (.invokevirtual 172, 3) := dAX9_wantIn (47, (.invokevirtual 172, 3)) (List.mem_of_getElem? (i := 24) rfl)
theorem dX9_wantIn_50 : decode cX9_wantIn 50 = .ok (.pop, 1) := dAX9_wantIn (50, (.pop, 1)) (List.mem_of_getElem? (i := 25) rfl)
theorem dX9_wantIn_51 : decode cX9_wantIn 51 = .ok (.aload_n 0, 1) := dAX9_wantIn (51, (.aload_n 0, 1)) (List.mem_of_getElem? (i := 26) rfl)
theorem dX9_wantIn_52 : decode cX9_wantIn 52 = .ok (.getfield 41, 3) := dAX9_wantIn (52, (.getfield 41, 3)) (List.mem_of_getElem? (i := 27) rfl)
theorem dX9_wantIn_55 : decode cX9_wantIn 55 = .ok (.getfield 126, 3) := dAX9_wantIn (55, (.getfield 126, 3)) (List.mem_of_getElem? (i := 28) rfl)
theorem dX9_wantIn_58 : decode cX9_wantIn 58 = .ok (.iload_n 1, 1) := dAX9_wantIn (58, (.iload_n 1, 1)) (List.mem_of_getElem? (i := 29) rfl)
theorem dX9_wantIn_59 : decode cX9_wantIn 59 = .ok (.iaload, 1) := dAX9_wantIn (59, (.iaload, 1)) (List.mem_of_getElem? (i := 30) rfl)
theorem dX9_wantIn_60 : decode cX9_wantIn 60 = .ok (.ireturn, 1) := dAX9_wantIn (60, (.ireturn, 1)) (List.mem_of_getElem? (i := 31) rfl)
set_option maxRecDepth 20000 in
theorem ggX9_wantIn_X9_guestAsked : GoodIn wsX9_wantIn wsX9_guestAsked := goodIn_r _ [10, 3, 11, 12, 79, 80, 81, 82, 83, 84, 85, 86, 87, 88, 89, 90, 91, 92, 93, 103, 104, 105, 106, 107, 108, 109, 110, 111, 112, 113, 114, 115, 116, 117, 118, 119] rfl (by decide +kernel)
set_option maxRecDepth 20000 in
theorem gX9_wantIn_X9_guestAsked : GoodIn wsX9_wantIn (wsV RX9 118 RX9 yX9_guestAsked wsX9_guestAsked) := goodIn_app (goodIn_of _ (by decide +kernel)) ggX9_wantIn_X9_guestAsked
set_option maxRecDepth 20000 in
theorem ggX9_wantIn_X9_within : GoodIn wsX9_wantIn wsX9_within := goodIn_r _ [16, 12, 79, 80, 81, 82, 83, 84, 85, 86, 87, 88, 89, 90, 91, 92, 93] rfl (by decide +kernel)
set_option maxRecDepth 20000 in
theorem gX9_wantIn_X9_within : GoodIn wsX9_wantIn (wsV RX9 168 RX9 yX9_within wsX9_within) := goodIn_app (goodIn_of _ (by decide +kernel)) ggX9_wantIn_X9_within
set_option maxRecDepth 20000 in
theorem ggX9_wantIn_X2_become : GoodIn wsX9_wantIn wsX2_become := goodIn_r _ [21, 22, 23, 24, 25, 26, 27, 28, 29, 30, 31, 94, 95, 96, 97, 98, 99, 100, 101, 102] rfl (by decide +kernel)
set_option maxRecDepth 20000 in
theorem gX9_wantIn_X2_become : GoodIn wsX9_wantIn (wsV RX9 160 RX2 yX2_become wsX2_become) := goodIn_app (goodIn_of _ (by decide +kernel)) ggX9_wantIn_X2_become
set_option maxRecDepth 20000 in
theorem ggX9_wantIn_X2_passAll : GoodIn wsX9_wantIn wsX2_passAll := goodIn_r _ [35, 36, 37, 38, 20, 39, 22, 40, 41, 42, 43, 44, 45, 23, 26, 46, 47, 48, 49, 50, 51, 52, 53, 54, 55, 56, 57, 58, 59, 60, 61, 62, 63, 64, 65, 66, 67, 68, 69, 70, 71, 72, 73, 74, 75, 76, 31, 77, 78, 94, 95, 96, 97, 98, 99, 100, 101, 102, 103, 104, 105, 106, 107, 108, 109, 110, 111, 112, 113, 114, 115, 116, 117, 118, 119, 120, 121] rfl (by decide +kernel)
set_option maxRecDepth 20000 in
theorem gX9_wantIn_X2_passAll : GoodIn wsX9_wantIn (wsV RX9 172 RX2 yX2_passAll wsX2_passAll) := goodIn_app (goodIn_of _ (by decide +kernel)) ggX9_wantIn_X2_passAll
theorem kX9_wantIn_41 : Cond.fieldLink RX9 41 "EveningVow" "trial" "LEveningVow$Night;" ∈ wsX9_wantIn := List.mem_of_getElem? (i := 1) rfl
theorem iX9_wantIn_X9 : ∀ w ∈ u_ws RX9 TX9 15, w ∈ wsX9_wantIn := fun w h => (List.mem_cons_of_mem _ (List.mem_append_left _ (List.mem_append_left _ (List.mem_append_left _ (List.mem_append_right _ h)))))
theorem kX9_wantIn_37 : Cond.fieldLink RX9 37 "EveningVow" "now" "LEveningVow$Night;" ∈ wsX9_wantIn := List.mem_of_getElem? (i := 2) rfl
theorem kX9_wantIn_19 : Cond.fieldLink RX9 19 "EveningVow" "told" "LEveningVow$House;" ∈ wsX9_wantIn := List.mem_of_getElem? (i := 3) rfl
theorem kX9_wantIn_49 : Cond.fieldLink RX9 49 "EveningVow" "asTold" "LEveningVow$Pace;" ∈ wsX9_wantIn := List.mem_of_getElem? (i := 4) rfl
theorem kX9_wantIn_126 : Cond.fieldLink RX9 126 "EveningVow$Night" "want" "[I" ∈ wsX9_wantIn := List.mem_of_getElem? (i := 5) rfl
theorem iX9_wantIn_X2 : ∀ w ∈ u_ws RX2 TX2 9, w ∈ wsX9_wantIn := fun w h => (List.mem_cons_of_mem _ (List.mem_append_left _ (List.mem_append_left _ (List.mem_append_right _ h))))
set_option maxHeartbeats 4000000 in
set_option maxRecDepth 100000 in
theorem mX9_wantIn (l : Launch) (g : GG) (a_t : Nat) (p_t : Nat → Nat) (p_t_1 : Nat → Nat) (p_t_5 : Nat → Nat) (p_t_6 : Nat → Nat) (p_t_7 : Nat → Nat) (n : Nat) (x1 : Int32) (x2 : Int32) (o_t : Nat → Int32) (o_t_1 : Nat → Int32) (f_t_1_4 : Nat → Int32) (f_t_1_6 : Nat → Int32) (f_t_1_7 : Nat → Int32) (f_t_1_10 : Nat → Int32) (f_t_1_11 : Nat → Int32) (f_t_1_12 : Nat → Int32) (o_t_5 : Nat → Int32) (f_t_5_6 : Nat → Int32) (f_t_5_7 : Nat → Int32) (o_t_6 : Nat → Int32) (f_t_6_6 : Nat → Int32) (f_t_6_7 : Nat → Int32) (f_t_6_8 : Nat → Int32) (o_t_7 : Nat → Int32) (r : Int32) (o_t' : Nat → Int32) (o_t_6' : Nat → Int32) (f_t_6_6' : Nat → Int32) (f_t_6_7' : Nat → Int32) (f_t_6_8' : Nat → Int32) (o_t_7' : Nat → Int32) (hF : fX9_wantIn n x1 x2 o_t o_t_1 f_t_1_4 f_t_1_6 f_t_1_7 f_t_1_10 f_t_1_11 f_t_1_12 o_t_5 f_t_5_6 f_t_5_7 o_t_6 f_t_6_6 f_t_6_7 f_t_6_8 o_t_7 = some (r, o_t', o_t_6', f_t_6_6', f_t_6_7', f_t_6_8', o_t_7')) : MI l g yX9_wantIn wsX9_wantIn ({ frames := 4, cells := 0, slots := 0, locals := 96 } : Room) [.ref a_t, .int x1, .int x2] [oX9 a_t p_t o_t, oX1 (p_t 1) p_t_1 o_t_1, aI g (p_t_1 4) 7 f_t_1_4, aI g (p_t_1 6) 7 f_t_1_6, aI g (p_t_1 7) 7 f_t_1_7, aI g (p_t_1 10) 8 f_t_1_10, aI g (p_t_1 11) 8 f_t_1_11, aI g (p_t_1 12) 8 f_t_1_12, oX2 (p_t 5) p_t_5 o_t_5, aI g (p_t_5 6) 7 f_t_5_6, aI g (p_t_5 7) 7 f_t_5_7, oX2 (p_t 6) p_t_6 o_t_6, aI g (p_t_6 6) 7 f_t_6_6, aI g (p_t_6 7) 7 f_t_6_7, aI g (p_t_6 8) 7 f_t_6_8, oX3 (p_t 7) p_t_7 o_t_7] r [oX9 a_t p_t o_t', oX1 (p_t 1) p_t_1 o_t_1, aI g (p_t_1 4) 7 f_t_1_4, aI g (p_t_1 6) 7 f_t_1_6, aI g (p_t_1 7) 7 f_t_1_7, aI g (p_t_1 10) 8 f_t_1_10, aI g (p_t_1 11) 8 f_t_1_11, aI g (p_t_1 12) 8 f_t_1_12, oX2 (p_t 5) p_t_5 o_t_5, aI g (p_t_5 6) 7 f_t_5_6, aI g (p_t_5 7) 7 f_t_5_7, oX2 (p_t 6) p_t_6 o_t_6', aI g (p_t_6 6) 7 f_t_6_6', aI g (p_t_6 7) 7 f_t_6_7', aI g (p_t_6 8) 7 f_t_6_8', oX3 (p_t 7) p_t_7 o_t_7'] := by
  refine MI.of (cc := cX9_wantIn) (maxL := 3) (rt := .int) (own := RX9) rfl rfl (by decide) (Nat.le_of_ble_eq_true rfl) ?_
  intro p e s m args below meth c A C0 hP hD hS ls hl
  obtain ⟨hx, hb, hml, hown, hts, hr, hlk, hK, hA, hSW⟩ := id C0
  have hl : lv_has ls 3 [(0, .ref a_t), (1, .int x1), (2, .int x2)] := hl
  rw [fX9_wantIn] at hF
  refine lv_aload_n hx hb dX9_wantIn_0 rfl (lv_at hl 0 rfl) ?_
  refine lv_iload_n hx hb dX9_wantIn_1 rfl (lv_at hl 1 rfl) ?_
  obtain ⟨u_1, u_2, hu_3, hF⟩ := ob2_some hF
  refine call_i (wr := [aI g (p_t_1 4) 7 f_t_1_4, aI g (p_t_1 6) 7 f_t_1_6, aI g (p_t_1 7) 7 f_t_1_7, aI g (p_t_1 10) 8 f_t_1_10, aI g (p_t_1 11) 8 f_t_1_11, aI g (p_t_1 12) 8 f_t_1_12, oX2 (p_t 5) p_t_5 o_t_5, aI g (p_t_5 6) 7 f_t_5_6, aI g (p_t_5 7) 7 f_t_5_7, oX2 (p_t 6) p_t_6 o_t_6, aI g (p_t_6 6) 7 f_t_6_6, aI g (p_t_6 7) 7 f_t_6_7, aI g (p_t_6 8) 7 f_t_6_8, oX3 (p_t 7) p_t_7 o_t_7]) (As := [.int x1]) (rest := []) (ci := 9) (q0 := 0) C0 (mX9_guestAsked l g a_t p_t p_t_1 n x1 o_t o_t_1 u_1 u_2 hu_3) (cwV 1 hts gX9_wantIn_X9_guestAsked rfl rfl rfl (by decide +kernel) ⟨Nat.le_of_ble_eq_true rfl, Nat.le_of_ble_eq_true rfl⟩) hP hD hS [0, 1] [2, 3, 4, 5, 6, 7, 8, 9, 10, 11, 12, 13, 14, 15] rfl rfl rfl rfl rfl (by decide) rfl rfl hl.1 rfl rfl (Nat.le_of_ble_eq_true rfl) ⟨Nat.zero_le _, Nat.zero_le _⟩ dX9_wantIn_2 ?_
  intro H locs hP hD hS
  refine lv_if_eq (tgt := 19) hx hb dX9_wantIn_5 (by decide) (fun c_4 => ?_) (fun c_4 => ?_)
  · have hF := it_p c_4 hF
    refine lv_sipush (v := (-1000 : Int32)) hx hb dX9_wantIn_19 (by decide) ?_
    cases hF
    exact ret_i C0 hP hD hS [14, 15, 0, 1, 2, 3, 4, 5, 6, 7, 8, 9, 10, 11, 12, 13] rfl rfl rfl dX9_wantIn_22 rfl
  · have hF := it_n c_4 hF
    refine lv_aload_n hx hb dX9_wantIn_8 rfl (lv_at hl 0 rfl) ?_
    refine lv_iload_n hx hb dX9_wantIn_9 rfl (lv_at hl 2 rfl) ?_
    refine lv_iconst (v := (0 : Int32)) hx hb dX9_wantIn_10 (by decide) ?_
    refine lv_bipush (v := (60 : Int32)) hx hb dX9_wantIn_11 (by decide) ?_
    obtain ⟨u_5, u_6, hu_7, hF⟩ := ob2_some hF
    refine call_i (wr := [aI g (p_t_1 4) 7 f_t_1_4, aI g (p_t_1 6) 7 f_t_1_6, aI g (p_t_1 7) 7 f_t_1_7, aI g (p_t_1 10) 8 f_t_1_10, aI g (p_t_1 11) 8 f_t_1_11, aI g (p_t_1 12) 8 f_t_1_12, oX2 (p_t 5) p_t_5 o_t_5, aI g (p_t_5 6) 7 f_t_5_6, aI g (p_t_5 7) 7 f_t_5_7, oX2 (p_t 6) p_t_6 o_t_6, aI g (p_t_6 6) 7 f_t_6_6, aI g (p_t_6 7) 7 f_t_6_7, aI g (p_t_6 8) 7 f_t_6_8, oX3 (p_t 7) p_t_7 o_t_7, oX1 (p_t 1) p_t_1 o_t_1]) (As := [.int x2, .int (0 : Int32), .int (60 : Int32)]) (rest := []) (ci := 9) (q0 := 0) C0 (mX9_within l g a_t p_t n x2 (0 : Int32) (60 : Int32) u_2 u_5 u_6 hu_7) (cwV 3 hts gX9_wantIn_X9_within rfl rfl rfl (by decide +kernel) ⟨Nat.le_of_ble_eq_true rfl, Nat.le_of_ble_eq_true rfl⟩) hP hD hS [14] [0, 1, 2, 3, 4, 5, 6, 7, 8, 9, 10, 11, 12, 13, 15] rfl rfl rfl rfl rfl (by decide) rfl rfl hl.1 rfl rfl (Nat.le_of_ble_eq_true rfl) ⟨Nat.zero_le _, Nat.zero_le _⟩ dX9_wantIn_13 ?_
    intro H locs hP hD hS
    refine lv_if_ne (tgt := 23) hx hb dX9_wantIn_16 (by decide) (fun c_8 => ?_) (fun c_8 => ?_)
    · have hF := it_n c_8 hF
      refine lv_aload_n hx hb dX9_wantIn_23 rfl (lv_at hl 0 rfl) ?_
      refine va_get (D := g.1) (ci := 9) (v := .ref (p_t 6)) (C := RX9) (T := TX9) (N := 15) hx hb hts iX9_wantIn_X9 hown hK.1 hP 15 rfl rfl 6 (by decide) (hts _ kX9_wantIn_41) (fun _ h9 => h9) rfl dX9_wantIn_24 ?_
      refine lv_aload_n hx hb dX9_wantIn_27 rfl (lv_at hl 0 rfl) ?_
      refine va_get (D := g.1) (ci := 9) (v := .ref (p_t 5)) (C := RX9) (T := TX9) (N := 15) hx hb hts iX9_wantIn_X9 hown hK.1 hP 15 rfl rfl 5 (by decide) (hts _ kX9_wantIn_37) (fun _ h9 => h9) rfl dX9_wantIn_28 ?_
      obtain ⟨u_9, u_10, u_11, hu_12, hF⟩ := ob3_some hF
      refine call_v (wr := [aI g (p_t_1 4) 7 f_t_1_4, aI g (p_t_1 6) 7 f_t_1_6, aI g (p_t_1 7) 7 f_t_1_7, aI g (p_t_1 10) 8 f_t_1_10, aI g (p_t_1 11) 8 f_t_1_11, aI g (p_t_1 12) 8 f_t_1_12, aI g (p_t_6 8) 7 f_t_6_8, oX3 (p_t 7) p_t_7 o_t_7, oX1 (p_t 1) p_t_1 o_t_1, oX9 a_t p_t u_6]) (As := [.ref (p_t 5)]) (rest := []) (ci := 2) (q0 := 0) C0 (mX2_become l g (p_t 6) (p_t 5) p_t_6 p_t_5 n o_t_6 f_t_6_6 f_t_6_7 o_t_5 f_t_5_6 f_t_5_7 u_9 u_10 u_11 hu_12) (cwV 1 hts gX9_wantIn_X2_become rfl rfl rfl (by decide +kernel) ⟨Nat.le_of_ble_eq_true rfl, Nat.le_of_ble_eq_true rfl⟩) hP hD hS [9, 10, 11, 6, 7, 8] [0, 1, 2, 3, 4, 5, 12, 13, 14, 15] rfl rfl rfl rfl rfl (by decide) rfl rfl hl.1 rfl rfl (Nat.le_of_ble_eq_true rfl) ⟨Nat.zero_le _, Nat.zero_le _⟩ dX9_wantIn_31 ?_
      intro H locs hP hD hS
      refine lv_aload_n hx hb dX9_wantIn_34 rfl (lv_at hl 0 rfl) ?_
      refine va_get (D := g.1) (ci := 9) (v := .ref (p_t 6)) (C := RX9) (T := TX9) (N := 15) hx hb hts iX9_wantIn_X9 hown hK.1 hP 9 rfl rfl 6 (by decide) (hts _ kX9_wantIn_41) (fun _ h9 => h9) rfl dX9_wantIn_35 ?_
      refine lv_aload_n hx hb dX9_wantIn_38 rfl (lv_at hl 0 rfl) ?_
      refine va_get (D := g.1) (ci := 9) (v := .ref (p_t 1)) (C := RX9) (T := TX9) (N := 15) hx hb hts iX9_wantIn_X9 hown hK.1 hP 9 rfl rfl 1 (by decide) (hts _ kX9_wantIn_19) (fun _ h9 => h9) rfl dX9_wantIn_39 ?_
      refine lv_aload_n hx hb dX9_wantIn_42 rfl (lv_at hl 0 rfl) ?_
      refine va_get (D := g.1) (ci := 9) (v := .ref (p_t 7)) (C := RX9) (T := TX9) (N := 15) hx hb hts iX9_wantIn_X9 hown hK.1 hP 9 rfl rfl 7 (by decide) (hts _ kX9_wantIn_49) (fun _ h9 => h9) rfl dX9_wantIn_43 ?_
      refine lv_iload_n hx hb dX9_wantIn_46 rfl (lv_at hl 2 rfl) ?_
      obtain ⟨u_13, u_14, u_15, u_16, u_17, u_18, hu_19, hF⟩ := ob6_some hF
      refine call_i (wr := [oX9 a_t p_t u_6, oX2 (p_t 5) p_t_5 o_t_5, aI g (p_t_5 6) 7 f_t_5_6, aI g (p_t_5 7) 7 f_t_5_7]) (As := [.ref (p_t 1), .ref (p_t 7), .int x2]) (rest := []) (ci := 2) (q0 := 0) C0 (mX2_passAll l g (p_t 6) (p_t 1) (p_t 7) p_t_6 p_t_1 p_t_7 n x2 u_9 u_10 u_11 f_t_6_8 o_t_1 f_t_1_4 f_t_1_6 f_t_1_7 f_t_1_10 f_t_1_11 f_t_1_12 o_t_7 u_13 u_14 u_15 u_16 u_17 u_18 hu_19) (cwV 3 hts gX9_wantIn_X2_passAll rfl rfl rfl (by decide +kernel) ⟨Nat.le_of_ble_eq_true rfl, Nat.le_of_ble_eq_true rfl⟩) hP hD hS [10, 11, 12, 6, 8, 0, 1, 2, 3, 4, 5, 7] [9, 13, 14, 15] rfl rfl rfl rfl rfl (by decide) rfl rfl hl.1 rfl rfl (Nat.le_of_ble_eq_true rfl) ⟨Nat.zero_le _, Nat.zero_le _⟩ dX9_wantIn_47 ?_
      intro H locs hP hD hS
      refine lv_pop hx hb dX9_wantIn_50 rfl ?_
      refine lv_aload_n hx hb dX9_wantIn_51 rfl (lv_at hl 0 rfl) ?_
      refine va_get (D := g.1) (ci := 9) (v := .ref (p_t 6)) (C := RX9) (T := TX9) (N := 15) hx hb hts iX9_wantIn_X9 hown hK.1 hP 0 rfl rfl 6 (by decide) (hts _ kX9_wantIn_41) (fun _ h9 => h9) rfl dX9_wantIn_52 ?_
      refine va_get (D := g.1) (ci := 2) (v := .ref (p_t_6 6)) (C := RX2) (T := TX2) (N := 9) hx hb hts iX9_wantIn_X2 hown hK.1 hP 4 rfl rfl 6 (by decide) (hts _ kX9_wantIn_126) (fun _ h9 => h9) rfl dX9_wantIn_55 ?_
      refine lv_iload_n hx hb dX9_wantIn_58 rfl (lv_at hl 1 rfl) ?_
      obtain ⟨h_20, hF⟩ := it_ck hF
      refine va_iald hx hb hK.1 hP 5 0 rfl rfl h_20 dX9_wantIn_59 ?_
      cases hF
      exact ret_i C0 hP hD hS [0, 8, 9, 10, 11, 12, 13, 14, 1, 2, 3, 4, 5, 6, 7, 15] rfl rfl rfl dX9_wantIn_60 rfl
    · have hF := it_p c_8 hF
      refine lv_sipush (v := (-1000 : Int32)) hx hb dX9_wantIn_19 (by decide) ?_
      cases hF
      exact ret_i C0 hP hD hS [15, 14, 0, 1, 2, 3, 4, 5, 6, 7, 8, 9, 10, 11, 12, 13] rfl rfl rfl dX9_wantIn_22 rfl

theorem dAJ6_bitCount_0f7a4 : ∀ q ∈ ([(0, (.iload_n 0, 1)), (1, (.iload_n 0, 1)), (2, (.iconst 1, 1)), (3, (.iushr, 1)), (4, (.ldc_w 265, 3)), (7, (.iand, 1)), (8, (.isub, 1)), (9, (.istore_n 0, 1)), (10, (.iload_n 0, 1)), (11, (.ldc_w 266, 3)), (14, (.iand, 1)), (15, (.iload_n 0, 1)), (16, (.iconst 2, 1)), (17, (.iushr, 1)), (18, (.ldc_w 266, 3)), (21, (.iand, 1)), (22, (.iadd, 1)), (23, (.istore_n 0, 1)), (24, (.iload_n 0, 1)), (25, (.iload_n 0, 1)), (26, (.iconst 4, 1)), (27, (.iushr, 1)), (28, (.iadd, 1)), (29, (.ldc_w 267, 3)), (32, (.iand, 1)), (33, (.istore_n 0, 1)), (34, (.iload_n 0, 1)), (35, (.iload_n 0, 1)), (36, (.bipush 8, 2)), (38, (.iushr, 1)), (39, (.iadd, 1)), (40, (.istore_n 0, 1)), (41, (.iload_n 0, 1)), (42, (.iload_n 0, 1)), (43, (.bipush 16, 2)), (45, (.iushr, 1)), (46, (.iadd, 1)), (47, (.istore_n 0, 1)), (48, (.iload_n 0, 1)), (49, (.bipush 63, 2)), (51, (.iand, 1)), (52, (.ireturn, 1))] : List (Nat × (Instr × Nat))), decode cJ6_bitCount_0f7a4 q.1 = .ok q.2 := by decide +kernel
theorem dJ6_bitCount_0f7a4_0 : decode cJ6_bitCount_0f7a4 0 = .ok (.iload_n 0, 1) := dAJ6_bitCount_0f7a4 (0, (.iload_n 0, 1)) (List.mem_of_getElem? (i := 0) rfl)
theorem dJ6_bitCount_0f7a4_1 : decode cJ6_bitCount_0f7a4 1 = .ok (.iload_n 0, 1) := dAJ6_bitCount_0f7a4 (1, (.iload_n 0, 1)) (List.mem_of_getElem? (i := 1) rfl)
theorem dJ6_bitCount_0f7a4_2 : decode cJ6_bitCount_0f7a4 2 = .ok (.iconst 1, 1) := dAJ6_bitCount_0f7a4 (2, (.iconst 1, 1)) (List.mem_of_getElem? (i := 2) rfl)
theorem dJ6_bitCount_0f7a4_3 : decode cJ6_bitCount_0f7a4 3 = .ok (.iushr, 1) := dAJ6_bitCount_0f7a4 (3, (.iushr, 1)) (List.mem_of_getElem? (i := 3) rfl)
theorem dJ6_bitCount_0f7a4_4 : decode cJ6_bitCount_0f7a4 4 = .ok (.ldc_w 265, 3) := dAJ6_bitCount_0f7a4 (4, (.ldc_w 265, 3)) (List.mem_of_getElem? (i := 4) rfl)
theorem dJ6_bitCount_0f7a4_7 : decode cJ6_bitCount_0f7a4 7 = .ok (.iand, 1) := dAJ6_bitCount_0f7a4 (7, (.iand, 1)) (List.mem_of_getElem? (i := 5) rfl)
theorem dJ6_bitCount_0f7a4_8 : decode cJ6_bitCount_0f7a4 8 = .ok (.isub, 1) := dAJ6_bitCount_0f7a4 (8, (.isub, 1)) (List.mem_of_getElem? (i := 6) rfl)
theorem dJ6_bitCount_0f7a4_9 : decode cJ6_bitCount_0f7a4 9 = .ok (.istore_n 0, 1) := dAJ6_bitCount_0f7a4 (9, (.istore_n 0, 1)) (List.mem_of_getElem? (i := 7) rfl)
theorem dJ6_bitCount_0f7a4_10 : decode cJ6_bitCount_0f7a4 10 = .ok (.iload_n 0, 1) := dAJ6_bitCount_0f7a4 (10, (.iload_n 0, 1)) (List.mem_of_getElem? (i := 8) rfl)
theorem dJ6_bitCount_0f7a4_11 : decode cJ6_bitCount_0f7a4 11 = .ok (.ldc_w 266, 3) := dAJ6_bitCount_0f7a4 (11, (.ldc_w 266, 3)) (List.mem_of_getElem? (i := 9) rfl)
theorem dJ6_bitCount_0f7a4_14 : decode cJ6_bitCount_0f7a4 14 = .ok (.iand, 1) := dAJ6_bitCount_0f7a4 (14, (.iand, 1)) (List.mem_of_getElem? (i := 10) rfl)
theorem dJ6_bitCount_0f7a4_15 : decode cJ6_bitCount_0f7a4 15 = .ok (.iload_n 0, 1) := dAJ6_bitCount_0f7a4 (15, (.iload_n 0, 1)) (List.mem_of_getElem? (i := 11) rfl)
theorem dJ6_bitCount_0f7a4_16 : decode cJ6_bitCount_0f7a4 16 = .ok (.iconst 2, 1) := dAJ6_bitCount_0f7a4 (16, (.iconst 2, 1)) (List.mem_of_getElem? (i := 12) rfl)
theorem dJ6_bitCount_0f7a4_17 : decode cJ6_bitCount_0f7a4 17 = .ok (.iushr, 1) := dAJ6_bitCount_0f7a4 (17, (.iushr, 1)) (List.mem_of_getElem? (i := 13) rfl)
theorem dJ6_bitCount_0f7a4_18 : decode cJ6_bitCount_0f7a4 18 = .ok (.ldc_w 266, 3) := dAJ6_bitCount_0f7a4 (18, (.ldc_w 266, 3)) (List.mem_of_getElem? (i := 14) rfl)
theorem dJ6_bitCount_0f7a4_21 : decode cJ6_bitCount_0f7a4 21 = .ok (.iand, 1) := dAJ6_bitCount_0f7a4 (21, (.iand, 1)) (List.mem_of_getElem? (i := 15) rfl)
theorem dJ6_bitCount_0f7a4_22 : decode cJ6_bitCount_0f7a4 22 = .ok (.iadd, 1) := dAJ6_bitCount_0f7a4 (22, (.iadd, 1)) (List.mem_of_getElem? (i := 16) rfl)
theorem dJ6_bitCount_0f7a4_23 : decode cJ6_bitCount_0f7a4 23 = .ok (.istore_n 0, 1) := dAJ6_bitCount_0f7a4 (23, (.istore_n 0, 1)) (List.mem_of_getElem? (i := 17) rfl)
theorem dJ6_bitCount_0f7a4_24 : decode cJ6_bitCount_0f7a4 24 = .ok (.iload_n 0, 1) := dAJ6_bitCount_0f7a4 (24, (.iload_n 0, 1)) (List.mem_of_getElem? (i := 18) rfl)
theorem dJ6_bitCount_0f7a4_25 : decode cJ6_bitCount_0f7a4 25 = .ok (.iload_n 0, 1) := dAJ6_bitCount_0f7a4 (25, (.iload_n 0, 1)) (List.mem_of_getElem? (i := 19) rfl)
theorem dJ6_bitCount_0f7a4_26 : decode cJ6_bitCount_0f7a4 26 = .ok (.iconst 4, 1) := dAJ6_bitCount_0f7a4 (26, (.iconst 4, 1)) (List.mem_of_getElem? (i := 20) rfl)
theorem dJ6_bitCount_0f7a4_27 : decode cJ6_bitCount_0f7a4 27 = .ok (.iushr, 1) := dAJ6_bitCount_0f7a4 (27, (.iushr, 1)) (List.mem_of_getElem? (i := 21) rfl)
theorem dJ6_bitCount_0f7a4_28 : decode cJ6_bitCount_0f7a4 28 = .ok (.iadd, 1) := dAJ6_bitCount_0f7a4 (28, (.iadd, 1)) (List.mem_of_getElem? (i := 22) rfl)
theorem dJ6_bitCount_0f7a4_29 : decode cJ6_bitCount_0f7a4 29 = .ok (.ldc_w 267, 3) := dAJ6_bitCount_0f7a4 (29, (.ldc_w 267, 3)) (List.mem_of_getElem? (i := 23) rfl)
theorem dJ6_bitCount_0f7a4_32 : decode cJ6_bitCount_0f7a4 32 = .ok (.iand, 1) := dAJ6_bitCount_0f7a4 (32, (.iand, 1)) (List.mem_of_getElem? (i := 24) rfl)
theorem dJ6_bitCount_0f7a4_33 : decode cJ6_bitCount_0f7a4 33 = .ok (.istore_n 0, 1) := dAJ6_bitCount_0f7a4 (33, (.istore_n 0, 1)) (List.mem_of_getElem? (i := 25) rfl)
theorem dJ6_bitCount_0f7a4_34 : decode cJ6_bitCount_0f7a4 34 = .ok (.iload_n 0, 1) := dAJ6_bitCount_0f7a4 (34, (.iload_n 0, 1)) (List.mem_of_getElem? (i := 26) rfl)
theorem dJ6_bitCount_0f7a4_35 : decode cJ6_bitCount_0f7a4 35 = .ok (.iload_n 0, 1) := dAJ6_bitCount_0f7a4 (35, (.iload_n 0, 1)) (List.mem_of_getElem? (i := 27) rfl)
theorem dJ6_bitCount_0f7a4_36 : decode cJ6_bitCount_0f7a4 36 = .ok (.bipush 8, 2) := dAJ6_bitCount_0f7a4 (36, (.bipush 8, 2)) (List.mem_of_getElem? (i := 28) rfl)
theorem dJ6_bitCount_0f7a4_38 : decode cJ6_bitCount_0f7a4 38 = .ok (.iushr, 1) := dAJ6_bitCount_0f7a4 (38, (.iushr, 1)) (List.mem_of_getElem? (i := 29) rfl)
theorem dJ6_bitCount_0f7a4_39 : decode cJ6_bitCount_0f7a4 39 = .ok (.iadd, 1) := dAJ6_bitCount_0f7a4 (39, (.iadd, 1)) (List.mem_of_getElem? (i := 30) rfl)
theorem dJ6_bitCount_0f7a4_40 : decode cJ6_bitCount_0f7a4 40 = .ok (.istore_n 0, 1) := dAJ6_bitCount_0f7a4 (40, (.istore_n 0, 1)) (List.mem_of_getElem? (i := 31) rfl)
theorem dJ6_bitCount_0f7a4_41 : decode cJ6_bitCount_0f7a4 41 = .ok (.iload_n 0, 1) := dAJ6_bitCount_0f7a4 (41, (.iload_n 0, 1)) (List.mem_of_getElem? (i := 32) rfl)
theorem dJ6_bitCount_0f7a4_42 : decode cJ6_bitCount_0f7a4 42 = .ok (.iload_n 0, 1) := dAJ6_bitCount_0f7a4 (42, (.iload_n 0, 1)) (List.mem_of_getElem? (i := 33) rfl)
theorem dJ6_bitCount_0f7a4_43 : decode cJ6_bitCount_0f7a4 43 = .ok (.bipush 16, 2) := dAJ6_bitCount_0f7a4 (43, (.bipush 16, 2)) (List.mem_of_getElem? (i := 34) rfl)
theorem dJ6_bitCount_0f7a4_45 : decode cJ6_bitCount_0f7a4 45 = .ok (.iushr, 1) := dAJ6_bitCount_0f7a4 (45, (.iushr, 1)) (List.mem_of_getElem? (i := 35) rfl)
theorem dJ6_bitCount_0f7a4_46 : decode cJ6_bitCount_0f7a4 46 = .ok (.iadd, 1) := dAJ6_bitCount_0f7a4 (46, (.iadd, 1)) (List.mem_of_getElem? (i := 36) rfl)
theorem dJ6_bitCount_0f7a4_47 : decode cJ6_bitCount_0f7a4 47 = .ok (.istore_n 0, 1) := dAJ6_bitCount_0f7a4 (47, (.istore_n 0, 1)) (List.mem_of_getElem? (i := 37) rfl)
theorem dJ6_bitCount_0f7a4_48 : decode cJ6_bitCount_0f7a4 48 = .ok (.iload_n 0, 1) := dAJ6_bitCount_0f7a4 (48, (.iload_n 0, 1)) (List.mem_of_getElem? (i := 38) rfl)
theorem dJ6_bitCount_0f7a4_49 : decode cJ6_bitCount_0f7a4 49 = .ok (.bipush 63, 2) := dAJ6_bitCount_0f7a4 (49, (.bipush 63, 2)) (List.mem_of_getElem? (i := 39) rfl)
theorem dJ6_bitCount_0f7a4_51 : decode cJ6_bitCount_0f7a4 51 = .ok (.iand, 1) := dAJ6_bitCount_0f7a4 (51, (.iand, 1)) (List.mem_of_getElem? (i := 40) rfl)
theorem dJ6_bitCount_0f7a4_52 : decode cJ6_bitCount_0f7a4 52 = .ok (.ireturn, 1) := dAJ6_bitCount_0f7a4 (52, (.ireturn, 1)) (List.mem_of_getElem? (i := 41) rfl)
theorem kJ6_bitCount_0f7a4_265 : Cond.constant RJ6 265 (1431655765 : Int32) ∈ wsJ6_bitCount_0f7a4 := by decide +kernel
theorem kJ6_bitCount_0f7a4_266 : Cond.constant RJ6 266 (858993459 : Int32) ∈ wsJ6_bitCount_0f7a4 := by decide +kernel
theorem kJ6_bitCount_0f7a4_267 : Cond.constant RJ6 267 (252645135 : Int32) ∈ wsJ6_bitCount_0f7a4 := by decide +kernel
set_option maxHeartbeats 4000000 in
set_option maxRecDepth 100000 in
theorem mJ6_bitCount_0f7a4 (l : Launch) (g : GG)   (n : Nat) (x0 : Int32) (r : Int32) (hF : fJ6_bitCount_0f7a4 n x0 = some (r)) : MI l g yJ6_bitCount_0f7a4 wsJ6_bitCount_0f7a4 ({ frames := 0, cells := 0, slots := 0, locals := 0 } : Room) [.int x0] [] r [] := by
  refine MI.of (cc := cJ6_bitCount_0f7a4) (maxL := 1) (rt := .int) (own := RJ6) rfl rfl (by decide) (Nat.le_of_ble_eq_true rfl) ?_
  intro p e s m args below meth c A C0 hP hD hS ls hl
  obtain ⟨hx, hb, hml, hown, hts, hr, hlk, hK, hA, hSW⟩ := id C0
  have hl : lv_has ls 1 [(0, .int x0)] := hl
  rw [fJ6_bitCount_0f7a4] at hF
  refine lv_iload_n hx hb dJ6_bitCount_0f7a4_0 rfl (lv_at hl 0 rfl) ?_
  refine lv_iload_n hx hb dJ6_bitCount_0f7a4_1 rfl (lv_at hl 0 rfl) ?_
  refine lv_iconst (v := (1 : Int32)) hx hb dJ6_bitCount_0f7a4_2 (by decide) ?_
  refine lv_iushr (v := (((x0).toUInt32 >>> (((1 : Int32)).toUInt32 &&& Int32.toUInt32 31)).toInt32)) hx hb dJ6_bitCount_0f7a4_3 rfl ?_
  refine lv_ldcw (v := (1431655765 : Int32)) hx hb hown (hts _ kJ6_bitCount_0f7a4_265) dJ6_bitCount_0f7a4_4 ?_
  refine lv_iand hx hb dJ6_bitCount_0f7a4_7 ?_
  refine lv_isub hx hb dJ6_bitCount_0f7a4_8 ?_
  refine lv_istore_n (lv' := [(0, .int (x0 - ((((x0).toUInt32 >>> (((1 : Int32)).toUInt32 &&& Int32.toUInt32 31)).toInt32) &&& (1431655765 : Int32))))]) hx hb dJ6_bitCount_0f7a4_9 rfl hl (by decide) rfl (fun ls hl => ?_)
  refine lv_iload_n hx hb dJ6_bitCount_0f7a4_10 rfl (lv_at hl 0 rfl) ?_
  refine lv_ldcw (v := (858993459 : Int32)) hx hb hown (hts _ kJ6_bitCount_0f7a4_266) dJ6_bitCount_0f7a4_11 ?_
  refine lv_iand hx hb dJ6_bitCount_0f7a4_14 ?_
  refine lv_iload_n hx hb dJ6_bitCount_0f7a4_15 rfl (lv_at hl 0 rfl) ?_
  refine lv_iconst (v := (2 : Int32)) hx hb dJ6_bitCount_0f7a4_16 (by decide) ?_
  refine lv_iushr (v := ((((x0 - ((((x0).toUInt32 >>> (((1 : Int32)).toUInt32 &&& Int32.toUInt32 31)).toInt32) &&& (1431655765 : Int32)))).toUInt32 >>> (((2 : Int32)).toUInt32 &&& Int32.toUInt32 31)).toInt32)) hx hb dJ6_bitCount_0f7a4_17 rfl ?_
  refine lv_ldcw (v := (858993459 : Int32)) hx hb hown (hts _ kJ6_bitCount_0f7a4_266) dJ6_bitCount_0f7a4_18 ?_
  refine lv_iand hx hb dJ6_bitCount_0f7a4_21 ?_
  refine lv_iadd hx hb dJ6_bitCount_0f7a4_22 ?_
  refine lv_istore_n (lv' := [(0, .int (((x0 - ((((x0).toUInt32 >>> (((1 : Int32)).toUInt32 &&& Int32.toUInt32 31)).toInt32) &&& (1431655765 : Int32))) &&& (858993459 : Int32)) + (((((x0 - ((((x0).toUInt32 >>> (((1 : Int32)).toUInt32 &&& Int32.toUInt32 31)).toInt32) &&& (1431655765 : Int32)))).toUInt32 >>> (((2 : Int32)).toUInt32 &&& Int32.toUInt32 31)).toInt32) &&& (858993459 : Int32))))]) hx hb dJ6_bitCount_0f7a4_23 rfl hl (by decide) rfl (fun ls hl => ?_)
  refine lv_iload_n hx hb dJ6_bitCount_0f7a4_24 rfl (lv_at hl 0 rfl) ?_
  refine lv_iload_n hx hb dJ6_bitCount_0f7a4_25 rfl (lv_at hl 0 rfl) ?_
  refine lv_iconst (v := (4 : Int32)) hx hb dJ6_bitCount_0f7a4_26 (by decide) ?_
  refine lv_iushr (v := ((((((x0 - ((((x0).toUInt32 >>> (((1 : Int32)).toUInt32 &&& Int32.toUInt32 31)).toInt32) &&& (1431655765 : Int32))) &&& (858993459 : Int32)) + (((((x0 - ((((x0).toUInt32 >>> (((1 : Int32)).toUInt32 &&& Int32.toUInt32 31)).toInt32) &&& (1431655765 : Int32)))).toUInt32 >>> (((2 : Int32)).toUInt32 &&& Int32.toUInt32 31)).toInt32) &&& (858993459 : Int32)))).toUInt32 >>> (((4 : Int32)).toUInt32 &&& Int32.toUInt32 31)).toInt32)) hx hb dJ6_bitCount_0f7a4_27 rfl ?_
  refine lv_iadd hx hb dJ6_bitCount_0f7a4_28 ?_
  refine lv_ldcw (v := (252645135 : Int32)) hx hb hown (hts _ kJ6_bitCount_0f7a4_267) dJ6_bitCount_0f7a4_29 ?_
  refine lv_iand hx hb dJ6_bitCount_0f7a4_32 ?_
  refine lv_istore_n (lv' := [(0, .int (((((x0 - ((((x0).toUInt32 >>> (((1 : Int32)).toUInt32 &&& Int32.toUInt32 31)).toInt32) &&& (1431655765 : Int32))) &&& (858993459 : Int32)) + (((((x0 - ((((x0).toUInt32 >>> (((1 : Int32)).toUInt32 &&& Int32.toUInt32 31)).toInt32) &&& (1431655765 : Int32)))).toUInt32 >>> (((2 : Int32)).toUInt32 &&& Int32.toUInt32 31)).toInt32) &&& (858993459 : Int32))) + ((((((x0 - ((((x0).toUInt32 >>> (((1 : Int32)).toUInt32 &&& Int32.toUInt32 31)).toInt32) &&& (1431655765 : Int32))) &&& (858993459 : Int32)) + (((((x0 - ((((x0).toUInt32 >>> (((1 : Int32)).toUInt32 &&& Int32.toUInt32 31)).toInt32) &&& (1431655765 : Int32)))).toUInt32 >>> (((2 : Int32)).toUInt32 &&& Int32.toUInt32 31)).toInt32) &&& (858993459 : Int32)))).toUInt32 >>> (((4 : Int32)).toUInt32 &&& Int32.toUInt32 31)).toInt32)) &&& (252645135 : Int32)))]) hx hb dJ6_bitCount_0f7a4_33 rfl hl (by decide) rfl (fun ls hl => ?_)
  refine lv_iload_n hx hb dJ6_bitCount_0f7a4_34 rfl (lv_at hl 0 rfl) ?_
  refine lv_iload_n hx hb dJ6_bitCount_0f7a4_35 rfl (lv_at hl 0 rfl) ?_
  refine lv_bipush (v := (8 : Int32)) hx hb dJ6_bitCount_0f7a4_36 (by decide) ?_
  refine lv_iushr (v := ((((((((x0 - ((((x0).toUInt32 >>> (((1 : Int32)).toUInt32 &&& Int32.toUInt32 31)).toInt32) &&& (1431655765 : Int32))) &&& (858993459 : Int32)) + (((((x0 - ((((x0).toUInt32 >>> (((1 : Int32)).toUInt32 &&& Int32.toUInt32 31)).toInt32) &&& (1431655765 : Int32)))).toUInt32 >>> (((2 : Int32)).toUInt32 &&& Int32.toUInt32 31)).toInt32) &&& (858993459 : Int32))) + ((((((x0 - ((((x0).toUInt32 >>> (((1 : Int32)).toUInt32 &&& Int32.toUInt32 31)).toInt32) &&& (1431655765 : Int32))) &&& (858993459 : Int32)) + (((((x0 - ((((x0).toUInt32 >>> (((1 : Int32)).toUInt32 &&& Int32.toUInt32 31)).toInt32) &&& (1431655765 : Int32)))).toUInt32 >>> (((2 : Int32)).toUInt32 &&& Int32.toUInt32 31)).toInt32) &&& (858993459 : Int32)))).toUInt32 >>> (((4 : Int32)).toUInt32 &&& Int32.toUInt32 31)).toInt32)) &&& (252645135 : Int32))).toUInt32 >>> (((8 : Int32)).toUInt32 &&& Int32.toUInt32 31)).toInt32)) hx hb dJ6_bitCount_0f7a4_38 rfl ?_
  refine lv_iadd hx hb dJ6_bitCount_0f7a4_39 ?_
  refine lv_istore_n (lv' := [(0, .int ((((((x0 - ((((x0).toUInt32 >>> (((1 : Int32)).toUInt32 &&& Int32.toUInt32 31)).toInt32) &&& (1431655765 : Int32))) &&& (858993459 : Int32)) + (((((x0 - ((((x0).toUInt32 >>> (((1 : Int32)).toUInt32 &&& Int32.toUInt32 31)).toInt32) &&& (1431655765 : Int32)))).toUInt32 >>> (((2 : Int32)).toUInt32 &&& Int32.toUInt32 31)).toInt32) &&& (858993459 : Int32))) + ((((((x0 - ((((x0).toUInt32 >>> (((1 : Int32)).toUInt32 &&& Int32.toUInt32 31)).toInt32) &&& (1431655765 : Int32))) &&& (858993459 : Int32)) + (((((x0 - ((((x0).toUInt32 >>> (((1 : Int32)).toUInt32 &&& Int32.toUInt32 31)).toInt32) &&& (1431655765 : Int32)))).toUInt32 >>> (((2 : Int32)).toUInt32 &&& Int32.toUInt32 31)).toInt32) &&& (858993459 : Int32)))).toUInt32 >>> (((4 : Int32)).toUInt32 &&& Int32.toUInt32 31)).toInt32)) &&& (252645135 : Int32)) + ((((((((x0 - ((((x0).toUInt32 >>> (((1 : Int32)).toUInt32 &&& Int32.toUInt32 31)).toInt32) &&& (1431655765 : Int32))) &&& (858993459 : Int32)) + (((((x0 - ((((x0).toUInt32 >>> (((1 : Int32)).toUInt32 &&& Int32.toUInt32 31)).toInt32) &&& (1431655765 : Int32)))).toUInt32 >>> (((2 : Int32)).toUInt32 &&& Int32.toUInt32 31)).toInt32) &&& (858993459 : Int32))) + ((((((x0 - ((((x0).toUInt32 >>> (((1 : Int32)).toUInt32 &&& Int32.toUInt32 31)).toInt32) &&& (1431655765 : Int32))) &&& (858993459 : Int32)) + (((((x0 - ((((x0).toUInt32 >>> (((1 : Int32)).toUInt32 &&& Int32.toUInt32 31)).toInt32) &&& (1431655765 : Int32)))).toUInt32 >>> (((2 : Int32)).toUInt32 &&& Int32.toUInt32 31)).toInt32) &&& (858993459 : Int32)))).toUInt32 >>> (((4 : Int32)).toUInt32 &&& Int32.toUInt32 31)).toInt32)) &&& (252645135 : Int32))).toUInt32 >>> (((8 : Int32)).toUInt32 &&& Int32.toUInt32 31)).toInt32)))]) hx hb dJ6_bitCount_0f7a4_40 rfl hl (by decide) rfl (fun ls hl => ?_)
  refine lv_iload_n hx hb dJ6_bitCount_0f7a4_41 rfl (lv_at hl 0 rfl) ?_
  refine lv_iload_n hx hb dJ6_bitCount_0f7a4_42 rfl (lv_at hl 0 rfl) ?_
  refine lv_bipush (v := (16 : Int32)) hx hb dJ6_bitCount_0f7a4_43 (by decide) ?_
  refine lv_iushr (v := (((((((((x0 - ((((x0).toUInt32 >>> (((1 : Int32)).toUInt32 &&& Int32.toUInt32 31)).toInt32) &&& (1431655765 : Int32))) &&& (858993459 : Int32)) + (((((x0 - ((((x0).toUInt32 >>> (((1 : Int32)).toUInt32 &&& Int32.toUInt32 31)).toInt32) &&& (1431655765 : Int32)))).toUInt32 >>> (((2 : Int32)).toUInt32 &&& Int32.toUInt32 31)).toInt32) &&& (858993459 : Int32))) + ((((((x0 - ((((x0).toUInt32 >>> (((1 : Int32)).toUInt32 &&& Int32.toUInt32 31)).toInt32) &&& (1431655765 : Int32))) &&& (858993459 : Int32)) + (((((x0 - ((((x0).toUInt32 >>> (((1 : Int32)).toUInt32 &&& Int32.toUInt32 31)).toInt32) &&& (1431655765 : Int32)))).toUInt32 >>> (((2 : Int32)).toUInt32 &&& Int32.toUInt32 31)).toInt32) &&& (858993459 : Int32)))).toUInt32 >>> (((4 : Int32)).toUInt32 &&& Int32.toUInt32 31)).toInt32)) &&& (252645135 : Int32)) + ((((((((x0 - ((((x0).toUInt32 >>> (((1 : Int32)).toUInt32 &&& Int32.toUInt32 31)).toInt32) &&& (1431655765 : Int32))) &&& (858993459 : Int32)) + (((((x0 - ((((x0).toUInt32 >>> (((1 : Int32)).toUInt32 &&& Int32.toUInt32 31)).toInt32) &&& (1431655765 : Int32)))).toUInt32 >>> (((2 : Int32)).toUInt32 &&& Int32.toUInt32 31)).toInt32) &&& (858993459 : Int32))) + ((((((x0 - ((((x0).toUInt32 >>> (((1 : Int32)).toUInt32 &&& Int32.toUInt32 31)).toInt32) &&& (1431655765 : Int32))) &&& (858993459 : Int32)) + (((((x0 - ((((x0).toUInt32 >>> (((1 : Int32)).toUInt32 &&& Int32.toUInt32 31)).toInt32) &&& (1431655765 : Int32)))).toUInt32 >>> (((2 : Int32)).toUInt32 &&& Int32.toUInt32 31)).toInt32) &&& (858993459 : Int32)))).toUInt32 >>> (((4 : Int32)).toUInt32 &&& Int32.toUInt32 31)).toInt32)) &&& (252645135 : Int32))).toUInt32 >>> (((8 : Int32)).toUInt32 &&& Int32.toUInt32 31)).toInt32))).toUInt32 >>> (((16 : Int32)).toUInt32 &&& Int32.toUInt32 31)).toInt32)) hx hb dJ6_bitCount_0f7a4_45 rfl ?_
  refine lv_iadd hx hb dJ6_bitCount_0f7a4_46 ?_
  refine lv_istore_n (lv' := [(0, .int (((((((x0 - ((((x0).toUInt32 >>> (((1 : Int32)).toUInt32 &&& Int32.toUInt32 31)).toInt32) &&& (1431655765 : Int32))) &&& (858993459 : Int32)) + (((((x0 - ((((x0).toUInt32 >>> (((1 : Int32)).toUInt32 &&& Int32.toUInt32 31)).toInt32) &&& (1431655765 : Int32)))).toUInt32 >>> (((2 : Int32)).toUInt32 &&& Int32.toUInt32 31)).toInt32) &&& (858993459 : Int32))) + ((((((x0 - ((((x0).toUInt32 >>> (((1 : Int32)).toUInt32 &&& Int32.toUInt32 31)).toInt32) &&& (1431655765 : Int32))) &&& (858993459 : Int32)) + (((((x0 - ((((x0).toUInt32 >>> (((1 : Int32)).toUInt32 &&& Int32.toUInt32 31)).toInt32) &&& (1431655765 : Int32)))).toUInt32 >>> (((2 : Int32)).toUInt32 &&& Int32.toUInt32 31)).toInt32) &&& (858993459 : Int32)))).toUInt32 >>> (((4 : Int32)).toUInt32 &&& Int32.toUInt32 31)).toInt32)) &&& (252645135 : Int32)) + ((((((((x0 - ((((x0).toUInt32 >>> (((1 : Int32)).toUInt32 &&& Int32.toUInt32 31)).toInt32) &&& (1431655765 : Int32))) &&& (858993459 : Int32)) + (((((x0 - ((((x0).toUInt32 >>> (((1 : Int32)).toUInt32 &&& Int32.toUInt32 31)).toInt32) &&& (1431655765 : Int32)))).toUInt32 >>> (((2 : Int32)).toUInt32 &&& Int32.toUInt32 31)).toInt32) &&& (858993459 : Int32))) + ((((((x0 - ((((x0).toUInt32 >>> (((1 : Int32)).toUInt32 &&& Int32.toUInt32 31)).toInt32) &&& (1431655765 : Int32))) &&& (858993459 : Int32)) + (((((x0 - ((((x0).toUInt32 >>> (((1 : Int32)).toUInt32 &&& Int32.toUInt32 31)).toInt32) &&& (1431655765 : Int32)))).toUInt32 >>> (((2 : Int32)).toUInt32 &&& Int32.toUInt32 31)).toInt32) &&& (858993459 : Int32)))).toUInt32 >>> (((4 : Int32)).toUInt32 &&& Int32.toUInt32 31)).toInt32)) &&& (252645135 : Int32))).toUInt32 >>> (((8 : Int32)).toUInt32 &&& Int32.toUInt32 31)).toInt32)) + (((((((((x0 - ((((x0).toUInt32 >>> (((1 : Int32)).toUInt32 &&& Int32.toUInt32 31)).toInt32) &&& (1431655765 : Int32))) &&& (858993459 : Int32)) + (((((x0 - ((((x0).toUInt32 >>> (((1 : Int32)).toUInt32 &&& Int32.toUInt32 31)).toInt32) &&& (1431655765 : Int32)))).toUInt32 >>> (((2 : Int32)).toUInt32 &&& Int32.toUInt32 31)).toInt32) &&& (858993459 : Int32))) + ((((((x0 - ((((x0).toUInt32 >>> (((1 : Int32)).toUInt32 &&& Int32.toUInt32 31)).toInt32) &&& (1431655765 : Int32))) &&& (858993459 : Int32)) + (((((x0 - ((((x0).toUInt32 >>> (((1 : Int32)).toUInt32 &&& Int32.toUInt32 31)).toInt32) &&& (1431655765 : Int32)))).toUInt32 >>> (((2 : Int32)).toUInt32 &&& Int32.toUInt32 31)).toInt32) &&& (858993459 : Int32)))).toUInt32 >>> (((4 : Int32)).toUInt32 &&& Int32.toUInt32 31)).toInt32)) &&& (252645135 : Int32)) + ((((((((x0 - ((((x0).toUInt32 >>> (((1 : Int32)).toUInt32 &&& Int32.toUInt32 31)).toInt32) &&& (1431655765 : Int32))) &&& (858993459 : Int32)) + (((((x0 - ((((x0).toUInt32 >>> (((1 : Int32)).toUInt32 &&& Int32.toUInt32 31)).toInt32) &&& (1431655765 : Int32)))).toUInt32 >>> (((2 : Int32)).toUInt32 &&& Int32.toUInt32 31)).toInt32) &&& (858993459 : Int32))) + ((((((x0 - ((((x0).toUInt32 >>> (((1 : Int32)).toUInt32 &&& Int32.toUInt32 31)).toInt32) &&& (1431655765 : Int32))) &&& (858993459 : Int32)) + (((((x0 - ((((x0).toUInt32 >>> (((1 : Int32)).toUInt32 &&& Int32.toUInt32 31)).toInt32) &&& (1431655765 : Int32)))).toUInt32 >>> (((2 : Int32)).toUInt32 &&& Int32.toUInt32 31)).toInt32) &&& (858993459 : Int32)))).toUInt32 >>> (((4 : Int32)).toUInt32 &&& Int32.toUInt32 31)).toInt32)) &&& (252645135 : Int32))).toUInt32 >>> (((8 : Int32)).toUInt32 &&& Int32.toUInt32 31)).toInt32))).toUInt32 >>> (((16 : Int32)).toUInt32 &&& Int32.toUInt32 31)).toInt32)))]) hx hb dJ6_bitCount_0f7a4_47 rfl hl (by decide) rfl (fun ls hl => ?_)
  refine lv_iload_n hx hb dJ6_bitCount_0f7a4_48 rfl (lv_at hl 0 rfl) ?_
  refine lv_bipush (v := (63 : Int32)) hx hb dJ6_bitCount_0f7a4_49 (by decide) ?_
  refine lv_iand hx hb dJ6_bitCount_0f7a4_51 ?_
  cases hF
  exact ret_i C0 hP hD hS [] rfl rfl rfl dJ6_bitCount_0f7a4_52 rfl

theorem dAX9_busiest : ∀ q ∈ ([(0, (.aload_n 0, 1)), (1, (.invokevirtual 153, 3)), (4, (.ifCond .ne 5, 3)), (7, (.iconst (-1), 1)), (8, (.ireturn, 1)), (9, (.aload_n 0, 1)), (10, (.getfield 41, 3)), (13, (.aload_n 0, 1)), (14, (.getfield 37, 3)), (17, (.invokevirtual 160, 3)), (20, (.iconst 0, 1)), (21, (.istore_n 2, 1)), (22, (.bipush (-2), 2)), (24, (.istore_n 3, 1)), (25, (.iconst 1, 1)), (26, (.istore 4, 2)), (28, (.iload 4, 2)), (30, (.bipush 60, 2)), (32, (.if_icmp .gt 58, 3)), (35, (.aload_n 0, 1)), (36, (.getfield 41, 3)), (39, (.aload_n 0, 1)), (40, (.getfield 19, 3)), (43, (.aload_n 0, 1)), (44, (.getfield 49, 3)), (47, (.invokevirtual 164, 3)), (50, (.invokestatic 176, 3)), (53, (.istore 5, 2)), (55, (.iload 5, 2)), (57, (.iload_n 2, 1)), (58, (.if_icmp .le 26, 3)), (61, (.iload 5, 2)), (63, (.istore_n 2, 1)), (64, (.iload_n 1, 1)), (65, (.ifCond .eq 8, 3)), (68, (.iload 4, 2)), (70, (.goto 13, 3)), (73, (.aload_n 0, 1)), (74, (.getfield 41, 3)), (77, (.getfield 157, 3)), (80, (.invokestatic 176, 3)), (83, (.istore_n 3, 1)), (84, (.iinc 4 1, 3)), (87, (.goto (-59), 3)), (90, (.iload_n 3, 1)), (91, (.ireturn, 1))] : List (Nat × (Instr × Nat))), decode cX9_busiest q.1 = .ok q.2 := by decide +kernel
theorem dX9_busiest_0 : decode cX9_busiest 0 = .ok (.aload_n 0, 1) := dAX9_busiest (0, (.aload_n 0, 1)) (List.mem_of_getElem? (i := 0) rfl)
theorem dX9_busiest_1 : decode cX9_busiest 1 = .ok (.invokevirtual 153, 3) := dAX9_busiest (1, (.invokevirtual 153, 3)) (List.mem_of_getElem? (i := 1) rfl)
theorem dX9_busiest_4 : decode cX9_busiest 4 = .ok (.ifCond .ne 5, 3) := dAX9_busiest (4, (.ifCond .ne 5, 3)) (List.mem_of_getElem? (i := 2) rfl)
theorem dX9_busiest_7 : decode cX9_busiest 7 = .ok (.iconst (-1), 1) := dAX9_busiest (7, (.iconst (-1), 1)) (List.mem_of_getElem? (i := 3) rfl)
theorem dX9_busiest_8 : decode cX9_busiest 8 = .ok (.ireturn, 1) := dAX9_busiest (8, (.ireturn, 1)) (List.mem_of_getElem? (i := 4) rfl)
theorem dX9_busiest_9 : decode cX9_busiest 9 = .ok (.aload_n 0, 1) := dAX9_busiest (9, (.aload_n 0, 1)) (List.mem_of_getElem? (i := 5) rfl)
theorem dX9_busiest_10 : decode cX9_busiest 10 = .ok (.getfield 41, 3) := dAX9_busiest (10, (.getfield 41, 3)) (List.mem_of_getElem? (i := 6) rfl)
theorem dX9_busiest_13 : decode cX9_busiest 13 = .ok (.aload_n 0, 1) := dAX9_busiest (13, (.aload_n 0, 1)) (List.mem_of_getElem? (i := 7) rfl)
theorem dX9_busiest_14 : decode cX9_busiest 14 = .ok (.getfield 37, 3) := dAX9_busiest (14, (.getfield 37, 3)) (List.mem_of_getElem? (i := 8) rfl)
theorem dX9_busiest_17 : decode cX9_busiest 17 = .ok (.invokevirtual 160, 3) := dAX9_busiest (17, (.invokevirtual 160, 3)) (List.mem_of_getElem? (i := 9) rfl)
theorem dX9_busiest_20 : decode cX9_busiest 20 = .ok (.iconst 0, 1) := dAX9_busiest (20, (.iconst 0, 1)) (List.mem_of_getElem? (i := 10) rfl)
theorem dX9_busiest_21 : decode cX9_busiest 21 = .ok (.istore_n 2, 1) := dAX9_busiest (21, (.istore_n 2, 1)) (List.mem_of_getElem? (i := 11) rfl)
theorem dX9_busiest_22 : decode cX9_busiest 22 = .ok (.bipush (-2), 2) := dAX9_busiest (22, (.bipush (-2), 2)) (List.mem_of_getElem? (i := 12) rfl)
theorem dX9_busiest_24 : decode cX9_busiest 24 = .ok (.istore_n 3, 1) := dAX9_busiest (24, (.istore_n 3, 1)) (List.mem_of_getElem? (i := 13) rfl)
theorem dX9_busiest_25 : decode cX9_busiest 25 = .ok (.iconst 1, 1) := dAX9_busiest (25, (.iconst 1, 1)) (List.mem_of_getElem? (i := 14) rfl)
theorem dX9_busiest_26 : decode cX9_busiest 26 = .ok (.istore 4, 2) := dAX9_busiest (26, (.istore 4, 2)) (List.mem_of_getElem? (i := 15) rfl)
theorem dX9_busiest_28 : decode cX9_busiest 28 = .ok (.iload 4, 2) := dAX9_busiest (28, (.iload 4, 2)) (List.mem_of_getElem? (i := 16) rfl)
theorem dX9_busiest_30 : decode cX9_busiest 30 = .ok (.bipush 60, 2) := dAX9_busiest (30, (.bipush 60, 2)) (List.mem_of_getElem? (i := 17) rfl)
theorem dX9_busiest_32 : decode cX9_busiest 32 = .ok (.if_icmp .gt 58, 3) := dAX9_busiest (32, (.if_icmp .gt 58, 3)) (List.mem_of_getElem? (i := 18) rfl)
theorem dX9_busiest_35 : decode cX9_busiest 35 = .ok (.aload_n 0, 1) := dAX9_busiest (35, (.aload_n 0, 1)) (List.mem_of_getElem? (i := 19) rfl)
theorem dX9_busiest_36 : decode cX9_busiest 36 = .ok (.getfield 41, 3) := dAX9_busiest (36, (.getfield 41, 3)) (List.mem_of_getElem? (i := 20) rfl)
theorem dX9_busiest_39 : decode cX9_busiest 39 = .ok (.aload_n 0, 1) := dAX9_busiest (39, (.aload_n 0, 1)) (List.mem_of_getElem? (i := 21) rfl)
theorem dX9_busiest_40 : decode cX9_busiest 40 = .ok (.getfield 19, 3) := dAX9_busiest (40, (.getfield 19, 3)) (List.mem_of_getElem? (i := 22) rfl)
theorem dX9_busiest_43 : decode cX9_busiest 43 = .ok (.aload_n 0, 1) := dAX9_busiest (43, (.aload_n 0, 1)) (List.mem_of_getElem? (i := 23) rfl)
theorem dX9_busiest_44 : decode cX9_busiest 44 = .ok (.getfield 49, 3) := dAX9_busiest (44, (.getfield 49, 3)) (List.mem_of_getElem? (i := 24) rfl)
theorem dX9_busiest_47 : decode cX9_busiest 47 = .ok (.invokevirtual 164, 3) := dAX9_busiest (47, (.invokevirtual 164, 3)) (List.mem_of_getElem? (i := 25) rfl)
theorem dX9_busiest_50 : decode cX9_busiest 50 = .ok (.invokestatic 176, 3) := dAX9_busiest (50, (.invokestatic 176, 3)) (List.mem_of_getElem? (i := 26) rfl)
theorem dX9_busiest_53 : decode cX9_busiest 53 = .ok (.istore 5, 2) := dAX9_busiest (53, (.istore 5, 2)) (List.mem_of_getElem? (i := 27) rfl)
theorem dX9_busiest_55 : decode cX9_busiest 55 = .ok (.iload 5, 2) := dAX9_busiest (55, (.iload 5, 2)) (List.mem_of_getElem? (i := 28) rfl)
theorem dX9_busiest_57 : decode cX9_busiest 57 = .ok (.iload_n 2, 1) := dAX9_busiest (57, (.iload_n 2, 1)) (List.mem_of_getElem? (i := 29) rfl)
theorem dX9_busiest_58 : decode cX9_busiest 58 = .ok (.if_icmp .le 26, 3) := dAX9_busiest (58, (.if_icmp .le 26, 3)) (List.mem_of_getElem? (i := 30) rfl)
theorem dX9_busiest_61 : decode cX9_busiest 61 = .ok (.iload 5, 2) := dAX9_busiest (61, (.iload 5, 2)) (List.mem_of_getElem? (i := 31) rfl)
theorem dX9_busiest_63 : decode cX9_busiest 63 = .ok (.istore_n 2, 1) := dAX9_busiest (63, (.istore_n 2, 1)) (List.mem_of_getElem? (i := 32) rfl)
theorem dX9_busiest_64 : decode cX9_busiest 64 = .ok (.iload_n 1, 1) := dAX9_busiest (64, (.iload_n 1, 1)) (List.mem_of_getElem? (i := 33) rfl)
theorem dX9_busiest_65 : decode cX9_busiest 65 = .ok (.ifCond .eq 8, 3) := dAX9_busiest (65, (.ifCond .eq 8, 3)) (List.mem_of_getElem? (i := 34) rfl)
theorem dX9_busiest_68 : decode cX9_busiest 68 = .ok (.iload 4, 2) := dAX9_busiest (68, (.iload 4, 2)) (List.mem_of_getElem? (i := 35) rfl)
theorem dX9_busiest_70 : decode cX9_busiest 70 = .ok (.goto 13, 3) := dAX9_busiest (70, (.goto 13, 3)) (List.mem_of_getElem? (i := 36) rfl)
theorem dX9_busiest_73 : decode cX9_busiest 73 = .ok (.aload_n 0, 1) := dAX9_busiest (73, (.aload_n 0, 1)) (List.mem_of_getElem? (i := 37) rfl)
theorem dX9_busiest_74 : decode cX9_busiest 74 = .ok (.getfield 41, 3) := dAX9_busiest (74, (.getfield 41, 3)) (List.mem_of_getElem? (i := 38) rfl)
theorem dX9_busiest_77 : decode cX9_busiest 77 = .ok (.getfield 157, 3) := dAX9_busiest (77, (.getfield 157, 3)) (List.mem_of_getElem? (i := 39) rfl)
theorem dX9_busiest_80 : decode cX9_busiest 80 = .ok (.invokestatic 176, 3) := dAX9_busiest (80, (.invokestatic 176, 3)) (List.mem_of_getElem? (i := 40) rfl)
theorem dX9_busiest_83 : decode cX9_busiest 83 = .ok (.istore_n 3, 1) := dAX9_busiest (83, (.istore_n 3, 1)) (List.mem_of_getElem? (i := 41) rfl)
theorem dX9_busiest_84 : decode cX9_busiest 84 = .ok (.iinc 4 1, 3) := dAX9_busiest (84, (.iinc 4 1, 3)) (List.mem_of_getElem? (i := 42) rfl)
theorem dX9_busiest_87 : decode cX9_busiest 87 = .ok (.goto (-59), 3) := dAX9_busiest (87, (.goto (-59), 3)) (List.mem_of_getElem? (i := 43) rfl)
theorem dX9_busiest_90 : decode cX9_busiest 90 = .ok (.iload_n 3, 1) := dAX9_busiest (90, (.iload_n 3, 1)) (List.mem_of_getElem? (i := 44) rfl)
theorem dX9_busiest_91 : decode cX9_busiest 91 = .ok (.ireturn, 1) := dAX9_busiest (91, (.ireturn, 1)) (List.mem_of_getElem? (i := 45) rfl)
set_option maxRecDepth 20000 in
theorem ggX9_busiest_X9_asked : GoodIn wsX9_busiest wsX9_asked := goodIn_r _ [10, 11, 12, 78, 79, 80, 81, 82, 83, 84, 85, 86, 87, 88, 89, 90, 91, 92] rfl (by decide +kernel)
set_option maxRecDepth 20000 in
theorem gX9_busiest_X9_asked : GoodIn wsX9_busiest (wsV RX9 153 RX9 yX9_asked wsX9_asked) := goodIn_app (goodIn_of _ (by decide +kernel)) ggX9_busiest_X9_asked
set_option maxRecDepth 20000 in
theorem ggX9_busiest_X2_become : GoodIn wsX9_busiest wsX2_become := goodIn_r _ [17, 18, 19, 20, 21, 22, 23, 24, 25, 26, 27, 93, 94, 95, 96, 97, 98, 99, 100, 101] rfl (by decide +kernel)
set_option maxRecDepth 20000 in
theorem gX9_busiest_X2_become : GoodIn wsX9_busiest (wsV RX9 160 RX2 yX2_become wsX2_become) := goodIn_app (goodIn_of _ (by decide +kernel)) ggX9_busiest_X2_become
set_option maxRecDepth 20000 in
theorem ggX9_busiest_X2_pass : GoodIn wsX9_busiest wsX2_pass := goodIn_r _ [31, 18, 32, 33, 34, 16, 35, 36, 37, 19, 22, 38, 39, 40, 41, 42, 43, 44, 45, 46, 47, 48, 49, 50, 51, 52, 53, 54, 55, 56, 57, 58, 59, 60, 61, 62, 63, 64, 65, 66, 67, 68, 27, 69, 70, 93, 94, 95, 96, 97, 98, 99, 100, 101, 102, 103, 104, 105, 106, 107, 108, 109, 110, 111, 112, 113, 114, 115, 116, 117, 118, 119, 120] rfl (by decide +kernel)
set_option maxRecDepth 20000 in
theorem gX9_busiest_X2_pass : GoodIn wsX9_busiest (wsV RX9 164 RX2 yX2_pass wsX2_pass) := goodIn_app (goodIn_of _ (by decide +kernel)) ggX9_busiest_X2_pass
set_option maxRecDepth 20000 in
theorem ggX9_busiest_J6_bitCount_0f7a4 : GoodIn wsX9_busiest wsJ6_bitCount_0f7a4 := goodIn_r _ [74, 75, 76, 77] rfl (by decide +kernel)
set_option maxRecDepth 20000 in
theorem gX9_busiest_J6_bitCount_0f7a4 : GoodIn wsX9_busiest (va_wsS RX9 176 yJ6_bitCount_0f7a4 wsJ6_bitCount_0f7a4) := goodIn_app (goodIn_of _ (by decide +kernel)) ggX9_busiest_J6_bitCount_0f7a4
theorem kX9_busiest_41 : Cond.fieldLink RX9 41 "EveningVow" "trial" "LEveningVow$Night;" ∈ wsX9_busiest := List.mem_of_getElem? (i := 1) rfl
theorem iX9_busiest_X9 : ∀ w ∈ u_ws RX9 TX9 15, w ∈ wsX9_busiest := fun w h => (List.mem_cons_of_mem _ (List.mem_append_left _ (List.mem_append_left _ (List.mem_append_left _ (List.mem_append_right _ h)))))
theorem kX9_busiest_37 : Cond.fieldLink RX9 37 "EveningVow" "now" "LEveningVow$Night;" ∈ wsX9_busiest := List.mem_of_getElem? (i := 2) rfl
theorem kX9_busiest_19 : Cond.fieldLink RX9 19 "EveningVow" "told" "LEveningVow$House;" ∈ wsX9_busiest := List.mem_of_getElem? (i := 3) rfl
theorem kX9_busiest_49 : Cond.fieldLink RX9 49 "EveningVow" "asTold" "LEveningVow$Pace;" ∈ wsX9_busiest := List.mem_of_getElem? (i := 4) rfl
theorem kX9_busiest_157 : Cond.fieldLink RX9 157 "EveningVow$Night" "there" "I" ∈ wsX9_busiest := List.mem_of_getElem? (i := 5) rfl
theorem iX9_busiest_X2 : ∀ w ∈ u_ws RX2 TX2 9, w ∈ wsX9_busiest := fun w h => (List.mem_cons_of_mem _ (List.mem_append_left _ (List.mem_append_left _ (List.mem_append_right _ h))))
set_option maxHeartbeats 4000000 in
set_option maxRecDepth 100000 in
theorem wX9_busiest_L28 {p : Program} {l : Launch} {e : Env} {s : State} {m : MethodId} {args : Array Value} {below : List Frame} {meth : Method} {c : Code} {g : GG} {A : Nat → Prop} (C0 : Cx p s m args meth c cX9_busiest 6 (some .int) RX9 wsX9_busiest g A) (a_t : Nat) (p_t : Nat → Nat) (p_t_1 : Nat → Nat) (p_t_5 : Nat → Nat) (p_t_6 : Nat → Nat) (p_t_7 : Nat → Nat) (n : Nat) (x1 : Int32) (o_t : Nat → Int32) (o_t_1 : Nat → Int32) (f_t_1_4 : Nat → Int32) (f_t_1_6 : Nat → Int32) (f_t_1_7 : Nat → Int32) (f_t_1_10 : Nat → Int32) (f_t_1_11 : Nat → Int32) (f_t_1_12 : Nat → Int32) (o_t_5 : Nat → Int32) (f_t_5_6 : Nat → Int32) (f_t_5_7 : Nat → Int32) (r : Int32) (o_t' : Nat → Int32) (o_t_6' : Nat → Int32) (f_t_6_6' : Nat → Int32) (f_t_6_7' : Nat → Int32) (f_t_6_8' : Nat → Int32) (o_t_7' : Nat → Int32) (K : Int32 → (Nat → Int32) → (Nat → Int32) → (Nat → Int32) → (Nat → Int32) → (Nat → Int32) → Option (Int32 × (Nat → Int32) × (Nat → Int32) × (Nat → Int32) × (Nat → Int32) × (Nat → Int32) × (Nat → Int32))) (hKx : ∀ (x3 : Int32) (o_t_6 : Nat → Int32) (f_t_6_6 : Nat → Int32) (f_t_6_7 : Nat → Int32) (f_t_6_8 : Nat → Int32) (o_t_7 : Nat → Int32) (H : Heap) (locs : List Loc) (ls : Array Slot), K x3 o_t_6 f_t_6_6 f_t_6_7 f_t_6_8 o_t_7 = some (r, o_t', o_t_6', f_t_6_6', f_t_6_7', f_t_6_8', o_t_7') → va_P g.1 vwCl [oX9 a_t p_t o_t, oX1 (p_t 1) p_t_1 o_t_1, aI g (p_t_1 4) 7 f_t_1_4, aI g (p_t_1 6) 7 f_t_1_6, aI g (p_t_1 7) 7 f_t_1_7, aI g (p_t_1 10) 8 f_t_1_10, aI g (p_t_1 11) 8 f_t_1_11, aI g (p_t_1 12) 8 f_t_1_12, oX2 (p_t 5) p_t_5 o_t_5, aI g (p_t_5 6) 7 f_t_5_6, aI g (p_t_5 7) 7 f_t_5_7, oX2 (p_t 6) p_t_6 o_t_6, aI g (p_t_6 6) 7 f_t_6_6, aI g (p_t_6 7) 7 f_t_6_7, aI g (p_t_6 8) 7 f_t_6_8, oX3 (p_t 7) p_t_7 o_t_7] H → va_D A [oX9 a_t p_t o_t, oX1 (p_t 1) p_t_1 o_t_1, aI g (p_t_1 4) 7 f_t_1_4, aI g (p_t_1 6) 7 f_t_1_6, aI g (p_t_1 7) 7 f_t_1_7, aI g (p_t_1 10) 8 f_t_1_10, aI g (p_t_1 11) 8 f_t_1_11, aI g (p_t_1 12) 8 f_t_1_12, oX2 (p_t 5) p_t_5 o_t_5, aI g (p_t_5 6) 7 f_t_5_6, aI g (p_t_5 7) 7 f_t_5_7, oX2 (p_t 6) p_t_6 o_t_6, aI g (p_t_6 6) 7 f_t_6_6, aI g (p_t_6 7) 7 f_t_6_7, aI g (p_t_6 8) 7 f_t_6_8, oX3 (p_t 7) p_t_7 o_t_7] → va_S A s.heap H locs → lv_has ls 6 [(3, .int x3)] → W p l e ({ frames := 3, cells := 0, slots := 0, locals := 81 } : Room) s m args below meth c H locs 0 0 (MQ below (EndI g r [oX9 a_t p_t o_t', oX1 (p_t 1) p_t_1 o_t_1, aI g (p_t_1 4) 7 f_t_1_4, aI g (p_t_1 6) 7 f_t_1_6, aI g (p_t_1 7) 7 f_t_1_7, aI g (p_t_1 10) 8 f_t_1_10, aI g (p_t_1 11) 8 f_t_1_11, aI g (p_t_1 12) 8 f_t_1_12, oX2 (p_t 5) p_t_5 o_t_5, aI g (p_t_5 6) 7 f_t_5_6, aI g (p_t_5 7) 7 f_t_5_7, oX2 (p_t 6) p_t_6 o_t_6', aI g (p_t_6 6) 7 f_t_6_6', aI g (p_t_6 7) 7 f_t_6_7', aI g (p_t_6 8) 7 f_t_6_8', oX3 (p_t 7) p_t_7 o_t_7'] A) args s 0 0 A) (F0 m 90 ls [])) : ∀ (k : Nat) (x2 : Int32) (x3 : Int32) (x4 : Int32) (o_t_6 : Nat → Int32) (f_t_6_6 : Nat → Int32) (f_t_6_7 : Nat → Int32) (f_t_6_8 : Nat → Int32) (o_t_7 : Nat → Int32), fX9_busiest_L28 n x1 o_t o_t_1 f_t_1_4 f_t_1_6 f_t_1_7 f_t_1_10 f_t_1_11 f_t_1_12 K k x2 x3 x4 o_t_6 f_t_6_6 f_t_6_7 f_t_6_8 o_t_7 = some (r, o_t', o_t_6', f_t_6_6', f_t_6_7', f_t_6_8', o_t_7') → ∀ (H : Heap) (locs : List Loc) (ls : Array Slot), va_P g.1 vwCl [oX9 a_t p_t o_t, oX1 (p_t 1) p_t_1 o_t_1, aI g (p_t_1 4) 7 f_t_1_4, aI g (p_t_1 6) 7 f_t_1_6, aI g (p_t_1 7) 7 f_t_1_7, aI g (p_t_1 10) 8 f_t_1_10, aI g (p_t_1 11) 8 f_t_1_11, aI g (p_t_1 12) 8 f_t_1_12, oX2 (p_t 5) p_t_5 o_t_5, aI g (p_t_5 6) 7 f_t_5_6, aI g (p_t_5 7) 7 f_t_5_7, oX2 (p_t 6) p_t_6 o_t_6, aI g (p_t_6 6) 7 f_t_6_6, aI g (p_t_6 7) 7 f_t_6_7, aI g (p_t_6 8) 7 f_t_6_8, oX3 (p_t 7) p_t_7 o_t_7] H → va_D A [oX9 a_t p_t o_t, oX1 (p_t 1) p_t_1 o_t_1, aI g (p_t_1 4) 7 f_t_1_4, aI g (p_t_1 6) 7 f_t_1_6, aI g (p_t_1 7) 7 f_t_1_7, aI g (p_t_1 10) 8 f_t_1_10, aI g (p_t_1 11) 8 f_t_1_11, aI g (p_t_1 12) 8 f_t_1_12, oX2 (p_t 5) p_t_5 o_t_5, aI g (p_t_5 6) 7 f_t_5_6, aI g (p_t_5 7) 7 f_t_5_7, oX2 (p_t 6) p_t_6 o_t_6, aI g (p_t_6 6) 7 f_t_6_6, aI g (p_t_6 7) 7 f_t_6_7, aI g (p_t_6 8) 7 f_t_6_8, oX3 (p_t 7) p_t_7 o_t_7] → va_S A s.heap H locs → lv_has ls 6 [(0, .ref a_t), (1, .int x1), (2, .int x2), (3, .int x3), (4, .int x4)] → W p l e ({ frames := 3, cells := 0, slots := 0, locals := 81 } : Room) s m args below meth c H locs 0 0 (MQ below (EndI g r [oX9 a_t p_t o_t', oX1 (p_t 1) p_t_1 o_t_1, aI g (p_t_1 4) 7 f_t_1_4, aI g (p_t_1 6) 7 f_t_1_6, aI g (p_t_1 7) 7 f_t_1_7, aI g (p_t_1 10) 8 f_t_1_10, aI g (p_t_1 11) 8 f_t_1_11, aI g (p_t_1 12) 8 f_t_1_12, oX2 (p_t 5) p_t_5 o_t_5, aI g (p_t_5 6) 7 f_t_5_6, aI g (p_t_5 7) 7 f_t_5_7, oX2 (p_t 6) p_t_6 o_t_6', aI g (p_t_6 6) 7 f_t_6_6', aI g (p_t_6 7) 7 f_t_6_7', aI g (p_t_6 8) 7 f_t_6_8', oX3 (p_t 7) p_t_7 o_t_7'] A) args s 0 0 A) (F0 m 28 ls []) := by
  obtain ⟨hx, hb, hml, hown, hts, hr, hlk, hK, hA, hSW⟩ := id C0
  intro k
  induction k with
  | zero =>
    intro x2 x3 x4 o_t_6 f_t_6_6 f_t_6_7 f_t_6_8 o_t_7 hF
    exact absurd hF (by simp [fX9_busiest_L28])
  | succ k ih =>
    intro x2 x3 x4 o_t_6 f_t_6_6 f_t_6_7 f_t_6_8 o_t_7 hF H locs ls hP hD hS hl
    rw [fX9_busiest_L28] at hF
    refine lv_iload hx hb dX9_busiest_28 (lv_at hl 4 rfl) ?_
    refine lv_bipush (v := (60 : Int32)) hx hb dX9_busiest_30 (by decide) ?_
    refine lv_icmp_gt (tgt := 90) hx hb dX9_busiest_32 (by decide) (fun c_9 => ?_) (fun c_9 => ?_)
    · have hF := it_p c_9 hF
      exact hKx x3 o_t_6 f_t_6_6 f_t_6_7 f_t_6_8 o_t_7 _ _ _ hF (hP.sub [0, 1, 2, 3, 4, 5, 6, 7, 8, 9, 10, 11, 12, 13, 14, 15] rfl) (hD.sub [0, 1, 2, 3, 4, 5, 6, 7, 8, 9, 10, 11, 12, 13, 14, 15] rfl rfl) hS (lv_sub hl [3] rfl)
    · have hF := it_n c_9 hF
      refine lv_aload_n hx hb dX9_busiest_35 rfl (lv_at hl 0 rfl) ?_
      refine va_get (D := g.1) (ci := 9) (v := .ref (p_t 6)) (C := RX9) (T := TX9) (N := 15) hx hb hts iX9_busiest_X9 hown hK.1 hP 0 rfl rfl 6 (by decide) (hts _ kX9_busiest_41) (fun _ h9 => h9) rfl dX9_busiest_36 ?_
      refine lv_aload_n hx hb dX9_busiest_39 rfl (lv_at hl 0 rfl) ?_
      refine va_get (D := g.1) (ci := 9) (v := .ref (p_t 1)) (C := RX9) (T := TX9) (N := 15) hx hb hts iX9_busiest_X9 hown hK.1 hP 0 rfl rfl 1 (by decide) (hts _ kX9_busiest_19) (fun _ h9 => h9) rfl dX9_busiest_40 ?_
      refine lv_aload_n hx hb dX9_busiest_43 rfl (lv_at hl 0 rfl) ?_
      refine va_get (D := g.1) (ci := 9) (v := .ref (p_t 7)) (C := RX9) (T := TX9) (N := 15) hx hb hts iX9_busiest_X9 hown hK.1 hP 0 rfl rfl 7 (by decide) (hts _ kX9_busiest_49) (fun _ h9 => h9) rfl dX9_busiest_44 ?_
      obtain ⟨u_10, u_11, u_12, u_13, u_14, u_15, hu_16, hF⟩ := ob6_some hF
      refine call_i (wr := [oX9 a_t p_t o_t, oX2 (p_t 5) p_t_5 o_t_5, aI g (p_t_5 6) 7 f_t_5_6, aI g (p_t_5 7) 7 f_t_5_7]) (As := [.ref (p_t 1), .ref (p_t 7)]) (rest := []) (ci := 2) (q0 := 0) C0 (mX2_pass l g (p_t 6) (p_t 1) (p_t 7) p_t_6 p_t_1 p_t_7 n o_t_6 f_t_6_6 f_t_6_7 f_t_6_8 o_t_1 f_t_1_4 f_t_1_6 f_t_1_7 f_t_1_10 f_t_1_11 f_t_1_12 o_t_7 u_10 u_11 u_12 u_13 u_14 u_15 hu_16) (cwV 2 hts gX9_busiest_X2_pass rfl rfl rfl (by decide +kernel) ⟨Nat.le_of_ble_eq_true rfl, Nat.le_of_ble_eq_true rfl⟩) hP hD hS [11, 12, 13, 14, 1, 2, 3, 4, 5, 6, 7, 15] [0, 8, 9, 10] rfl rfl rfl rfl rfl (by decide) rfl rfl hl.1 rfl rfl (Nat.le_of_ble_eq_true rfl) ⟨Nat.zero_le _, Nat.zero_le _⟩ dX9_busiest_47 ?_
      intro H locs hP hD hS
      obtain ⟨u_17, hu_18, hF⟩ := ob1_some hF
      refine call_si (wr := [oX9 a_t p_t o_t, oX2 (p_t 5) p_t_5 o_t_5, aI g (p_t_5 6) 7 f_t_5_6, aI g (p_t_5 7) 7 f_t_5_7, oX2 (p_t 6) p_t_6 u_11, aI g (p_t_6 6) 7 u_12, aI g (p_t_6 7) 7 u_13, aI g (p_t_6 8) 7 u_14, oX1 (p_t 1) p_t_1 o_t_1, aI g (p_t_1 4) 7 f_t_1_4, aI g (p_t_1 6) 7 f_t_1_6, aI g (p_t_1 7) 7 f_t_1_7, aI g (p_t_1 10) 8 f_t_1_10, aI g (p_t_1 11) 8 f_t_1_11, aI g (p_t_1 12) 8 f_t_1_12, oX3 (p_t 7) p_t_7 u_15]) (As := [.int u_10]) (rest := []) C0 (mJ6_bitCount_0f7a4 l g n u_10 u_17 hu_18) (va_cwS 1 hts gX9_busiest_J6_bitCount_0f7a4 rfl rfl rfl (by decide +kernel) ⟨Nat.le_of_ble_eq_true rfl, Nat.le_of_ble_eq_true rfl⟩) hP hD hS [] [0, 1, 2, 3, 4, 5, 6, 7, 8, 9, 10, 11, 12, 13, 14, 15] rfl rfl rfl rfl rfl (by decide) hl.1 rfl rfl (Nat.le_of_ble_eq_true rfl) ⟨Nat.zero_le _, Nat.zero_le _⟩ dX9_busiest_50 ?_
      intro H locs hP hD hS
      refine lv_istore (lv' := [(5, .int u_17), (0, .ref a_t), (1, .int x1), (2, .int x2), (3, .int x3), (4, .int x4)]) hx hb dX9_busiest_53 hl (by decide) rfl (fun ls hl => ?_)
      refine lv_iload hx hb dX9_busiest_55 (lv_at hl 0 rfl) ?_
      refine lv_iload_n hx hb dX9_busiest_57 rfl (lv_at hl 3 rfl) ?_
      refine lv_icmp_le (tgt := 84) hx hb dX9_busiest_58 (by decide) (fun c_19 => ?_) (fun c_19 => ?_)
      · have hF := it_p c_19 hF
        refine lv_iinc (v := (x4 + (1 : Int32))) (lv' := [(4, .int (x4 + (1 : Int32))), (5, .int u_17), (0, .ref a_t), (1, .int x1), (2, .int x2), (3, .int x3)]) hx hb dX9_busiest_84 hl (k := 5) rfl rfl (by decide) rfl (fun ls hl => ?_)
        refine lv_goto (tgt := 28) hx hb dX9_busiest_87 (by decide) ?_
        exact ih x2 x3 (x4 + (1 : Int32)) u_11 u_12 u_13 u_14 u_15 hF _ _ _ (hP.sub [0, 8, 9, 10, 11, 12, 13, 14, 1, 2, 3, 4, 5, 6, 7, 15] rfl) (hD.sub [0, 8, 9, 10, 11, 12, 13, 14, 1, 2, 3, 4, 5, 6, 7, 15] rfl rfl) hS (lv_sub hl [2, 3, 4, 5, 0] rfl)
      · have hF := it_n c_19 hF
        refine lv_iload hx hb dX9_busiest_61 (lv_at hl 0 rfl) ?_
        refine lv_istore_n (lv' := [(2, .int u_17), (5, .int u_17), (0, .ref a_t), (1, .int x1), (3, .int x3), (4, .int x4)]) hx hb dX9_busiest_63 rfl hl (by decide) rfl (fun ls hl => ?_)
        refine lv_iload_n hx hb dX9_busiest_64 rfl (lv_at hl 3 rfl) ?_
        refine lv_if_eq (tgt := 73) hx hb dX9_busiest_65 (by decide) (fun c_20 => ?_) (fun c_20 => ?_)
        · have hF := it_p c_20 hF
          refine lv_aload_n hx hb dX9_busiest_73 rfl (lv_at hl 2 rfl) ?_
          refine va_get (D := g.1) (ci := 9) (v := .ref (p_t 6)) (C := RX9) (T := TX9) (N := 15) hx hb hts iX9_busiest_X9 hown hK.1 hP 0 rfl rfl 6 (by decide) (hts _ kX9_busiest_41) (fun _ h9 => h9) rfl dX9_busiest_74 ?_
          refine va_get (D := g.1) (ci := 2) (v := .int (u_11 1)) (C := RX2) (T := TX2) (N := 9) hx hb hts iX9_busiest_X2 hown hK.1 hP 4 rfl rfl 1 (by decide) (hts _ kX9_busiest_157) (fun _ h9 => h9) rfl dX9_busiest_77 ?_
          obtain ⟨u_21, hu_22, hF⟩ := ob1_some hF
          refine call_si (wr := [oX9 a_t p_t o_t, oX2 (p_t 5) p_t_5 o_t_5, aI g (p_t_5 6) 7 f_t_5_6, aI g (p_t_5 7) 7 f_t_5_7, oX2 (p_t 6) p_t_6 u_11, aI g (p_t_6 6) 7 u_12, aI g (p_t_6 7) 7 u_13, aI g (p_t_6 8) 7 u_14, oX1 (p_t 1) p_t_1 o_t_1, aI g (p_t_1 4) 7 f_t_1_4, aI g (p_t_1 6) 7 f_t_1_6, aI g (p_t_1 7) 7 f_t_1_7, aI g (p_t_1 10) 8 f_t_1_10, aI g (p_t_1 11) 8 f_t_1_11, aI g (p_t_1 12) 8 f_t_1_12, oX3 (p_t 7) p_t_7 u_15]) (As := [.int (u_11 1)]) (rest := []) C0 (mJ6_bitCount_0f7a4 l g n (u_11 1) u_21 hu_22) (va_cwS 1 hts gX9_busiest_J6_bitCount_0f7a4 rfl rfl rfl (by decide +kernel) ⟨Nat.le_of_ble_eq_true rfl, Nat.le_of_ble_eq_true rfl⟩) hP hD hS [] [0, 1, 2, 3, 4, 5, 6, 7, 8, 9, 10, 11, 12, 13, 14, 15] rfl rfl rfl rfl rfl (by decide) hl.1 rfl rfl (Nat.le_of_ble_eq_true rfl) ⟨Nat.zero_le _, Nat.zero_le _⟩ dX9_busiest_80 ?_
          intro H locs hP hD hS
          refine lv_istore_n (lv' := [(3, .int u_21), (2, .int u_17), (5, .int u_17), (0, .ref a_t), (1, .int x1), (4, .int x4)]) hx hb dX9_busiest_83 rfl hl (by decide) rfl (fun ls hl => ?_)
          refine lv_iinc (v := (x4 + (1 : Int32))) (lv' := [(4, .int (x4 + (1 : Int32))), (3, .int u_21), (2, .int u_17), (5, .int u_17), (0, .ref a_t), (1, .int x1)]) hx hb dX9_busiest_84 hl (k := 5) rfl rfl (by decide) rfl (fun ls hl => ?_)
          refine lv_goto (tgt := 28) hx hb dX9_busiest_87 (by decide) ?_
          exact ih u_17 u_21 (x4 + (1 : Int32)) u_11 u_12 u_13 u_14 u_15 hF _ _ _ (hP.sub [0, 8, 9, 10, 11, 12, 13, 14, 1, 2, 3, 4, 5, 6, 7, 15] rfl) (hD.sub [0, 8, 9, 10, 11, 12, 13, 14, 1, 2, 3, 4, 5, 6, 7, 15] rfl rfl) hS (lv_sub hl [4, 5, 2, 1, 0] rfl)
        · have hF := it_n c_20 hF
          refine lv_iload hx hb dX9_busiest_68 (lv_at hl 5 rfl) ?_
          refine lv_goto (tgt := 83) hx hb dX9_busiest_70 (by decide) ?_
          refine lv_istore_n (lv' := [(3, .int x4), (2, .int u_17), (5, .int u_17), (0, .ref a_t), (1, .int x1), (4, .int x4)]) hx hb dX9_busiest_83 rfl hl (by decide) rfl (fun ls hl => ?_)
          refine lv_iinc (v := (x4 + (1 : Int32))) (lv' := [(4, .int (x4 + (1 : Int32))), (3, .int x4), (2, .int u_17), (5, .int u_17), (0, .ref a_t), (1, .int x1)]) hx hb dX9_busiest_84 hl (k := 5) rfl rfl (by decide) rfl (fun ls hl => ?_)
          refine lv_goto (tgt := 28) hx hb dX9_busiest_87 (by decide) ?_
          exact ih u_17 x4 (x4 + (1 : Int32)) u_11 u_12 u_13 u_14 u_15 hF _ _ _ (hP.sub [0, 8, 9, 10, 11, 12, 13, 14, 1, 2, 3, 4, 5, 6, 7, 15] rfl) (hD.sub [0, 8, 9, 10, 11, 12, 13, 14, 1, 2, 3, 4, 5, 6, 7, 15] rfl rfl) hS (lv_sub hl [4, 5, 2, 1, 0] rfl)
set_option maxHeartbeats 4000000 in
set_option maxRecDepth 100000 in
theorem mX9_busiest (l : Launch) (g : GG) (a_t : Nat) (p_t : Nat → Nat) (p_t_1 : Nat → Nat) (p_t_5 : Nat → Nat) (p_t_6 : Nat → Nat) (p_t_7 : Nat → Nat) (n : Nat) (x1 : Int32) (o_t : Nat → Int32) (o_t_1 : Nat → Int32) (f_t_1_4 : Nat → Int32) (f_t_1_6 : Nat → Int32) (f_t_1_7 : Nat → Int32) (f_t_1_10 : Nat → Int32) (f_t_1_11 : Nat → Int32) (f_t_1_12 : Nat → Int32) (o_t_5 : Nat → Int32) (f_t_5_6 : Nat → Int32) (f_t_5_7 : Nat → Int32) (o_t_6 : Nat → Int32) (f_t_6_6 : Nat → Int32) (f_t_6_7 : Nat → Int32) (f_t_6_8 : Nat → Int32) (o_t_7 : Nat → Int32) (r : Int32) (o_t' : Nat → Int32) (o_t_6' : Nat → Int32) (f_t_6_6' : Nat → Int32) (f_t_6_7' : Nat → Int32) (f_t_6_8' : Nat → Int32) (o_t_7' : Nat → Int32) (hF : fX9_busiest n x1 o_t o_t_1 f_t_1_4 f_t_1_6 f_t_1_7 f_t_1_10 f_t_1_11 f_t_1_12 o_t_5 f_t_5_6 f_t_5_7 o_t_6 f_t_6_6 f_t_6_7 f_t_6_8 o_t_7 = some (r, o_t', o_t_6', f_t_6_6', f_t_6_7', f_t_6_8', o_t_7')) : MI l g yX9_busiest wsX9_busiest ({ frames := 3, cells := 0, slots := 0, locals := 81 } : Room) [.ref a_t, .int x1] [oX9 a_t p_t o_t, oX1 (p_t 1) p_t_1 o_t_1, aI g (p_t_1 4) 7 f_t_1_4, aI g (p_t_1 6) 7 f_t_1_6, aI g (p_t_1 7) 7 f_t_1_7, aI g (p_t_1 10) 8 f_t_1_10, aI g (p_t_1 11) 8 f_t_1_11, aI g (p_t_1 12) 8 f_t_1_12, oX2 (p_t 5) p_t_5 o_t_5, aI g (p_t_5 6) 7 f_t_5_6, aI g (p_t_5 7) 7 f_t_5_7, oX2 (p_t 6) p_t_6 o_t_6, aI g (p_t_6 6) 7 f_t_6_6, aI g (p_t_6 7) 7 f_t_6_7, aI g (p_t_6 8) 7 f_t_6_8, oX3 (p_t 7) p_t_7 o_t_7] r [oX9 a_t p_t o_t', oX1 (p_t 1) p_t_1 o_t_1, aI g (p_t_1 4) 7 f_t_1_4, aI g (p_t_1 6) 7 f_t_1_6, aI g (p_t_1 7) 7 f_t_1_7, aI g (p_t_1 10) 8 f_t_1_10, aI g (p_t_1 11) 8 f_t_1_11, aI g (p_t_1 12) 8 f_t_1_12, oX2 (p_t 5) p_t_5 o_t_5, aI g (p_t_5 6) 7 f_t_5_6, aI g (p_t_5 7) 7 f_t_5_7, oX2 (p_t 6) p_t_6 o_t_6', aI g (p_t_6 6) 7 f_t_6_6', aI g (p_t_6 7) 7 f_t_6_7', aI g (p_t_6 8) 7 f_t_6_8', oX3 (p_t 7) p_t_7 o_t_7'] := by
  refine MI.of (cc := cX9_busiest) (maxL := 6) (rt := .int) (own := RX9) rfl rfl (by decide) (Nat.le_of_ble_eq_true rfl) ?_
  intro p e s m args below meth c A C0 hP hD hS ls hl
  obtain ⟨hx, hb, hml, hown, hts, hr, hlk, hK, hA, hSW⟩ := id C0
  have hl : lv_has ls 6 [(0, .ref a_t), (1, .int x1)] := hl
  rw [fX9_busiest] at hF
  refine lv_aload_n hx hb dX9_busiest_0 rfl (lv_at hl 0 rfl) ?_
  obtain ⟨u_1, u_2, hu_3, hF⟩ := ob2_some hF
  refine call_i (wr := [oX1 (p_t 1) p_t_1 o_t_1, aI g (p_t_1 4) 7 f_t_1_4, aI g (p_t_1 6) 7 f_t_1_6, aI g (p_t_1 7) 7 f_t_1_7, aI g (p_t_1 10) 8 f_t_1_10, aI g (p_t_1 11) 8 f_t_1_11, aI g (p_t_1 12) 8 f_t_1_12, oX2 (p_t 5) p_t_5 o_t_5, aI g (p_t_5 6) 7 f_t_5_6, aI g (p_t_5 7) 7 f_t_5_7, oX2 (p_t 6) p_t_6 o_t_6, aI g (p_t_6 6) 7 f_t_6_6, aI g (p_t_6 7) 7 f_t_6_7, aI g (p_t_6 8) 7 f_t_6_8, oX3 (p_t 7) p_t_7 o_t_7]) (As := []) (rest := []) (ci := 9) (q0 := 0) C0 (mX9_asked l g a_t p_t n o_t u_1 u_2 hu_3) (cwV 0 hts gX9_busiest_X9_asked rfl rfl rfl (by decide +kernel) ⟨Nat.le_of_ble_eq_true rfl, Nat.le_of_ble_eq_true rfl⟩) hP hD hS [0] [1, 2, 3, 4, 5, 6, 7, 8, 9, 10, 11, 12, 13, 14, 15] rfl rfl rfl rfl rfl (by decide) rfl rfl hl.1 rfl rfl (Nat.le_of_ble_eq_true rfl) ⟨Nat.zero_le _, Nat.zero_le _⟩ dX9_busiest_1 ?_
  intro H locs hP hD hS
  refine lv_if_ne (tgt := 9) hx hb dX9_busiest_4 (by decide) (fun c_4 => ?_) (fun c_4 => ?_)
  · have hF := it_n c_4 hF
    refine lv_aload_n hx hb dX9_busiest_9 rfl (lv_at hl 0 rfl) ?_
    refine va_get (D := g.1) (ci := 9) (v := .ref (p_t 6)) (C := RX9) (T := TX9) (N := 15) hx hb hts iX9_busiest_X9 hown hK.1 hP 15 rfl rfl 6 (by decide) (hts _ kX9_busiest_41) (fun _ h9 => h9) rfl dX9_busiest_10 ?_
    refine lv_aload_n hx hb dX9_busiest_13 rfl (lv_at hl 0 rfl) ?_
    refine va_get (D := g.1) (ci := 9) (v := .ref (p_t 5)) (C := RX9) (T := TX9) (N := 15) hx hb hts iX9_busiest_X9 hown hK.1 hP 15 rfl rfl 5 (by decide) (hts _ kX9_busiest_37) (fun _ h9 => h9) rfl dX9_busiest_14 ?_
    obtain ⟨u_5, u_6, u_7, hu_8, hF⟩ := ob3_some hF
    refine call_v (wr := [oX1 (p_t 1) p_t_1 o_t_1, aI g (p_t_1 4) 7 f_t_1_4, aI g (p_t_1 6) 7 f_t_1_6, aI g (p_t_1 7) 7 f_t_1_7, aI g (p_t_1 10) 8 f_t_1_10, aI g (p_t_1 11) 8 f_t_1_11, aI g (p_t_1 12) 8 f_t_1_12, aI g (p_t_6 8) 7 f_t_6_8, oX3 (p_t 7) p_t_7 o_t_7, oX9 a_t p_t u_2]) (As := [.ref (p_t 5)]) (rest := []) (ci := 2) (q0 := 0) C0 (mX2_become l g (p_t 6) (p_t 5) p_t_6 p_t_5 n o_t_6 f_t_6_6 f_t_6_7 o_t_5 f_t_5_6 f_t_5_7 u_5 u_6 u_7 hu_8) (cwV 1 hts gX9_busiest_X2_become rfl rfl rfl (by decide +kernel) ⟨Nat.le_of_ble_eq_true rfl, Nat.le_of_ble_eq_true rfl⟩) hP hD hS [10, 11, 12, 7, 8, 9] [0, 1, 2, 3, 4, 5, 6, 13, 14, 15] rfl rfl rfl rfl rfl (by decide) rfl rfl hl.1 rfl rfl (Nat.le_of_ble_eq_true rfl) ⟨Nat.zero_le _, Nat.zero_le _⟩ dX9_busiest_17 ?_
    intro H locs hP hD hS
    refine lv_iconst (v := (0 : Int32)) hx hb dX9_busiest_20 (by decide) ?_
    refine lv_istore_n (lv' := [(2, .int (0 : Int32)), (0, .ref a_t), (1, .int x1)]) hx hb dX9_busiest_21 rfl hl (by decide) rfl (fun ls hl => ?_)
    refine lv_bipush (v := (-2 : Int32)) hx hb dX9_busiest_22 (by decide) ?_
    refine lv_istore_n (lv' := [(3, .int (-2 : Int32)), (2, .int (0 : Int32)), (0, .ref a_t), (1, .int x1)]) hx hb dX9_busiest_24 rfl hl (by decide) rfl (fun ls hl => ?_)
    refine lv_iconst (v := (1 : Int32)) hx hb dX9_busiest_25 (by decide) ?_
    refine lv_istore (lv' := [(4, .int (1 : Int32)), (3, .int (-2 : Int32)), (2, .int (0 : Int32)), (0, .ref a_t), (1, .int x1)]) hx hb dX9_busiest_26 hl (by decide) rfl (fun ls hl => ?_)
    refine wX9_busiest_L28 C0 a_t p_t p_t_1 p_t_5 p_t_6 p_t_7 n x1 u_2 o_t_1 f_t_1_4 f_t_1_6 f_t_1_7 f_t_1_10 f_t_1_11 f_t_1_12 o_t_5 f_t_5_6 f_t_5_7 r o_t' o_t_6' f_t_6_6' f_t_6_7' f_t_6_8' o_t_7' _ ?_ n (0 : Int32) (-2 : Int32) (1 : Int32) u_5 u_6 u_7 f_t_6_8 o_t_7 hF _ _ _ (hP.sub [9, 0, 1, 2, 3, 4, 5, 6, 13, 14, 15, 10, 11, 12, 7, 8] rfl) (hD.sub [9, 0, 1, 2, 3, 4, 5, 6, 13, 14, 15, 10, 11, 12, 7, 8] rfl rfl) hS (lv_sub hl [3, 4, 2, 1, 0] rfl)
    · intro x3_x28 o_t_6_x28 f_t_6_6_x28 f_t_6_7_x28 f_t_6_8_x28 o_t_7_x28 H locs ls hF hP hD hS hl
      refine lv_iload_n hx hb dX9_busiest_90 rfl (lv_at hl 0 rfl) ?_
      cases hF
      exact ret_i C0 hP hD hS [0, 1, 2, 3, 4, 5, 6, 7, 8, 9, 10, 11, 12, 13, 14, 15] rfl rfl rfl dX9_busiest_91 rfl
  · have hF := it_p c_4 hF
    refine lv_iconst (v := (-1 : Int32)) hx hb dX9_busiest_7 (by decide) ?_
    cases hF
    exact ret_i C0 hP hD hS [15, 0, 1, 2, 3, 4, 5, 6, 7, 8, 9, 10, 11, 12, 13, 14] rfl rfl rfl dX9_busiest_8 rfl

theorem dAX9_order : ∀ q ∈ ([(0, (.aload_n 0, 1)), (1, (.invokevirtual 153, 3)), (4, (.ifCond .ne 5, 3)), (7, (.iconst (-1), 1)), (8, (.ireturn, 1)), (9, (.iload_n 1, 1)), (10, (.ifCond .ge 9, 3)), (13, (.aload_n 0, 1)), (14, (.iconst 1, 1)), (15, (.invokevirtual 98, 3)), (18, (.ireturn, 1)), (19, (.aload_n 0, 1)), (20, (.getfield 41, 3)), (23, (.aload_n 0, 1)), (24, (.getfield 37, 3)), (27, (.invokevirtual 160, 3)), (30, (.iconst 0, 1)), (31, (.istore_n 2, 1)), (32, (.iconst 0, 1)), (33, (.istore_n 3, 1)), (34, (.iload_n 3, 1)), (35, (.bipush 60, 2)), (37, (.if_icmp .ge 68, 3)), (40, (.aload_n 0, 1)), (41, (.getfield 41, 3)), (44, (.aload_n 0, 1)), (45, (.getfield 19, 3)), (48, (.aload_n 0, 1)), (49, (.getfield 49, 3)), (52, (.invokevirtual 164, 3)), (55, (.istore 4, 2)), (57, (.iconst 0, 1)), (58, (.istore 5, 2)), (60, (.iload 5, 2)), (62, (.aload_n 0, 1)), (63, (.getfield 19, 3)), (66, (.getfield 109, 3)), (69, (.if_icmp .ge 30, 3)), (72, (.iload 4, 2)), (74, (.iload 5, 2)), (76, (.invokestatic 181, 3)), (79, (.ifCond .eq 14, 3)), (82, (.iload_n 2, 1)), (83, (.iload_n 1, 1)), (84, (.if_icmp .ne 6, 3)), (87, (.iload 5, 2)), (89, (.ireturn, 1)), (90, (.iinc 2 1, 3)), (93, (.iinc 5 1, 3)), (96, (.goto (-36), 3)), (99, (.iinc 3 1, 3)), (102, (.goto (-68), 3)), (105, (.bipush (-2), 2)), (107, (.ireturn, 1))] : List (Nat × (Instr × Nat))), decode cX9_order q.1 = .ok q.2 := by decide +kernel
theorem dX9_order_0 : decode cX9_order 0 = .ok (.aload_n 0, 1) := dAX9_order (0, (.aload_n 0, 1)) (List.mem_of_getElem? (i := 0) rfl)
theorem dX9_order_1 : decode cX9_order 1 = .ok (.invokevirtual 153, 3) := dAX9_order (1, (.invokevirtual 153, 3)) (List.mem_of_getElem? (i := 1) rfl)
theorem dX9_order_4 : decode cX9_order 4 = .ok (.ifCond .ne 5, 3) := dAX9_order (4, (.ifCond .ne 5, 3)) (List.mem_of_getElem? (i := 2) rfl)
theorem dX9_order_7 : decode cX9_order 7 = .ok (.iconst (-1), 1) := dAX9_order (7, (.iconst (-1), 1)) (List.mem_of_getElem? (i := 3) rfl)
theorem dX9_order_8 : decode cX9_order 8 = .ok (.ireturn, 1) := dAX9_order (8, (.ireturn, 1)) (List.mem_of_getElem? (i := 4) rfl)
theorem dX9_order_9 : decode cX9_order 9 = .ok (.iload_n 1, 1) := dAX9_order (9, (.iload_n 1, 1)) (List.mem_of_getElem? (i := 5) rfl)
theorem dX9_order_10 : decode cX9_order 10 = .ok (.ifCond .ge 9, 3) := dAX9_order (10, (.ifCond .ge 9, 3)) (List.mem_of_getElem? (i := 6) rfl)
theorem dX9_order_13 : decode cX9_order 13 = .ok (.aload_n 0, 1) := dAX9_order (13, (.aload_n 0, 1)) (List.mem_of_getElem? (i := 7) rfl)
theorem dX9_order_14 : decode cX9_order 14 = .ok (.iconst 1, 1) := dAX9_order (14, (.iconst 1, 1)) (List.mem_of_getElem? (i := 8) rfl)
theorem dX9_order_15 : decode cX9_order 15 = .ok (.invokevirtual 98, 3) := dAX9_order (15, (.invokevirtual 98, 3)) (List.mem_of_getElem? (i := 9) rfl)
theorem dX9_order_18 : decode cX9_order 18 = .ok (.ireturn, 1) := dAX9_order (18, (.ireturn, 1)) (List.mem_of_getElem? (i := 10) rfl)
theorem dX9_order_19 : decode cX9_order 19 = .ok (.aload_n 0, 1) := dAX9_order (19, (.aload_n 0, 1)) (List.mem_of_getElem? (i := 11) rfl)
theorem dX9_order_20 : decode cX9_order 20 = .ok (.getfield 41, 3) := dAX9_order (20, (.getfield 41, 3)) (List.mem_of_getElem? (i := 12) rfl)
theorem dX9_order_23 : decode cX9_order 23 = .ok (.aload_n 0, 1) := dAX9_order (23, (.aload_n 0, 1)) (List.mem_of_getElem? (i := 13) rfl)
theorem dX9_order_24 : decode cX9_order 24 = .ok (.getfield 37, 3) := dAX9_order (24, (.getfield 37, 3)) (List.mem_of_getElem? (i := 14) rfl)
theorem dX9_order_27 : decode cX9_order 27 = .ok (.invokevirtual 160, 3) := dAX9_order (27, (.invokevirtual 160, 3)) (List.mem_of_getElem? (i := 15) rfl)
theorem dX9_order_30 : decode cX9_order 30 = .ok (.iconst 0, 1) := dAX9_order (30, (.iconst 0, 1)) (List.mem_of_getElem? (i := 16) rfl)
theorem dX9_order_31 : decode cX9_order 31 = .ok (.istore_n 2, 1) := dAX9_order (31, (.istore_n 2, 1)) (List.mem_of_getElem? (i := 17) rfl)
theorem dX9_order_32 : decode cX9_order 32 = .ok (.iconst 0, 1) := dAX9_order (32, (.iconst 0, 1)) (List.mem_of_getElem? (i := 18) rfl)
theorem dX9_order_33 : decode cX9_order 33 = .ok (.istore_n 3, 1) := dAX9_order (33, (.istore_n 3, 1)) (List.mem_of_getElem? (i := 19) rfl)
theorem dX9_order_34 : decode cX9_order 34 = .ok (.iload_n 3, 1) := dAX9_order (34, (.iload_n 3, 1)) (List.mem_of_getElem? (i := 20) rfl)
theorem dX9_order_35 : decode cX9_order 35 = .ok (.bipush 60, 2) := dAX9_order (35, (.bipush 60, 2)) (List.mem_of_getElem? (i := 21) rfl)
theorem dX9_order_37 : decode cX9_order 37 = .ok (.if_icmp .ge 68, 3) := dAX9_order (37, (.if_icmp .ge 68, 3)) (List.mem_of_getElem? (i := 22) rfl)
theorem dX9_order_40 : decode cX9_order 40 = .ok (.aload_n 0, 1) := dAX9_order (40, (.aload_n 0, 1)) (List.mem_of_getElem? (i := 23) rfl)
theorem dX9_order_41 : decode cX9_order 41 = .ok (.getfield 41, 3) := dAX9_order (41, (.getfield 41, 3)) (List.mem_of_getElem? (i := 24) rfl)
theorem dX9_order_44 : decode cX9_order 44 = .ok (.aload_n 0, 1) := dAX9_order (44, (.aload_n 0, 1)) (List.mem_of_getElem? (i := 25) rfl)
theorem dX9_order_45 : decode cX9_order 45 = .ok (.getfield 19, 3) := dAX9_order (45, (.getfield 19, 3)) (List.mem_of_getElem? (i := 26) rfl)
theorem dX9_order_48 : decode cX9_order 48 = .ok (.aload_n 0, 1) := dAX9_order (48, (.aload_n 0, 1)) (List.mem_of_getElem? (i := 27) rfl)
theorem dX9_order_49 : decode cX9_order 49 = .ok (.getfield 49, 3) := dAX9_order (49, (.getfield 49, 3)) (List.mem_of_getElem? (i := 28) rfl)
theorem dX9_order_52 : decode cX9_order 52 = .ok (.invokevirtual 164, 3) := dAX9_order (52, (.invokevirtual 164, 3)) (List.mem_of_getElem? (i := 29) rfl)
theorem dX9_order_55 : decode cX9_order 55 = .ok (.istore 4, 2) := dAX9_order (55, (.istore 4, 2)) (List.mem_of_getElem? (i := 30) rfl)
theorem dX9_order_57 : decode cX9_order 57 = .ok (.iconst 0, 1) := dAX9_order (57, (.iconst 0, 1)) (List.mem_of_getElem? (i := 31) rfl)
theorem dX9_order_58 : decode cX9_order 58 = .ok (.istore 5, 2) := dAX9_order (58, (.istore 5, 2)) (List.mem_of_getElem? (i := 32) rfl)
theorem dX9_order_60 : decode cX9_order 60 = .ok (.iload 5, 2) := dAX9_order (60, (.iload 5, 2)) (List.mem_of_getElem? (i := 33) rfl)
theorem dX9_order_62 : decode cX9_order 62 = .ok (.aload_n 0, 1) := dAX9_order (62, (.aload_n 0, 1)) (List.mem_of_getElem? (i := 34) rfl)
theorem dX9_order_63 : decode cX9_order 63 = .ok (.getfield 19, 3) := dAX9_order (63, (.getfield 19, 3)) (List.mem_of_getElem? (i := 35) rfl)
theorem dX9_order_66 : decode cX9_order 66 = .ok (.getfield 109, 3) := dAX9_order (66, (.getfield 109, 3)) (List.mem_of_getElem? (i := 36) rfl)
theorem dX9_order_69 : decode cX9_order 69 = .ok (.if_icmp .ge 30, 3) := dAX9_order (69, (.if_icmp .ge 30, 3)) (List.mem_of_getElem? (i := 37) rfl)
theorem dX9_order_72 : decode cX9_order 72 = .ok (.iload 4, 2) := dAX9_order (72, (.iload 4, 2)) (List.mem_of_getElem? (i := 38) rfl)
theorem dX9_order_74 : decode cX9_order 74 = .ok (.iload 5, 2) := dAX9_order (74, (.iload 5, 2)) (List.mem_of_getElem? (i := 39) rfl)
theorem dX9_order_76 : decode cX9_order 76 = .ok (.invokestatic 181, 3) := dAX9_order (76, (.invokestatic 181, 3)) (List.mem_of_getElem? (i := 40) rfl)
theorem dX9_order_79 : decode cX9_order 79 = .ok (.ifCond .eq 14, 3) := dAX9_order (79, (.ifCond .eq 14, 3)) (List.mem_of_getElem? (i := 41) rfl)
theorem dX9_order_82 : decode cX9_order 82 = .ok (.iload_n 2, 1) := dAX9_order (82, (.iload_n 2, 1)) (List.mem_of_getElem? (i := 42) rfl)
theorem dX9_order_83 : decode cX9_order 83 = .ok (.iload_n 1, 1) := dAX9_order (83, (.iload_n 1, 1)) (List.mem_of_getElem? (i := 43) rfl)
theorem dX9_order_84 : decode cX9_order 84 = .ok (.if_icmp .ne 6, 3) := dAX9_order (84, (.if_icmp .ne 6, 3)) (List.mem_of_getElem? (i := 44) rfl)
theorem dX9_order_87 : decode cX9_order 87 = .ok (.iload 5, 2) := dAX9_order (87, (.iload 5, 2)) (List.mem_of_getElem? (i := 45) rfl)
theorem dX9_order_89 : decode cX9_order 89 = .ok (.ireturn, 1) := dAX9_order (89, (.ireturn, 1)) (List.mem_of_getElem? (i := 46) rfl)
theorem dX9_order_90 : decode cX9_order 90 = .ok (.iinc 2 1, 3) := dAX9_order (90, (.iinc 2 1, 3)) (List.mem_of_getElem? (i := 47) rfl)
theorem dX9_order_93 : decode cX9_order 93 = .ok (.iinc 5 1, 3) := dAX9_order (93, (.iinc 5 1, 3)) (List.mem_of_getElem? (i := 48) rfl)
theorem dX9_order_96 : decode cX9_order 96 = .ok (.goto (-36), 3) := dAX9_order (96, (.goto (-36), 3)) (List.mem_of_getElem? (i := 49) rfl)
theorem dX9_order_99 : decode cX9_order 99 = .ok (.iinc 3 1, 3) := dAX9_order (99, (.iinc 3 1, 3)) (List.mem_of_getElem? (i := 50) rfl)
theorem dX9_order_102 : decode cX9_order 102 = .ok (.goto (-68), 3) := dAX9_order (102, (.goto (-68), 3)) (List.mem_of_getElem? (i := 51) rfl)
theorem dX9_order_105 : decode cX9_order 105 = .ok (.bipush (-2), 2) := dAX9_order (105, (.bipush (-2), 2)) (List.mem_of_getElem? (i := 52) rfl)
theorem dX9_order_107 : decode cX9_order 107 = .ok (.ireturn, 1) := dAX9_order (107, (.ireturn, 1)) (List.mem_of_getElem? (i := 53) rfl)
set_option maxRecDepth 20000 in
theorem ggX9_order_X9_asked : GoodIn wsX9_order wsX9_asked := goodIn_r _ [10, 11, 12, 78, 79, 80, 81, 82, 83, 84, 85, 86, 87, 88, 89, 90, 91, 92] rfl (by decide +kernel)
set_option maxRecDepth 20000 in
theorem gX9_order_X9_asked : GoodIn wsX9_order (wsV RX9 153 RX9 yX9_asked wsX9_asked) := goodIn_app (goodIn_of _ (by decide +kernel)) ggX9_order_X9_asked
set_option maxRecDepth 20000 in
theorem ggX9_order_X9_refuse : GoodIn wsX9_order wsX9_refuse := goodIn_r _ [16, 12, 78, 79, 80, 81, 82, 83, 84, 85, 86, 87, 88, 89, 90, 91, 92] rfl (by decide +kernel)
set_option maxRecDepth 20000 in
theorem gX9_order_X9_refuse : GoodIn wsX9_order (wsV RX9 98 RX9 yX9_refuse wsX9_refuse) := goodIn_app (goodIn_of _ (by decide +kernel)) ggX9_order_X9_refuse
set_option maxRecDepth 20000 in
theorem ggX9_order_X2_become : GoodIn wsX9_order wsX2_become := goodIn_r _ [21, 22, 23, 24, 25, 26, 27, 28, 29, 30, 31, 110, 111, 112, 113, 114, 115, 116, 117, 118] rfl (by decide +kernel)
set_option maxRecDepth 20000 in
theorem gX9_order_X2_become : GoodIn wsX9_order (wsV RX9 160 RX2 yX2_become wsX2_become) := goodIn_app (goodIn_of _ (by decide +kernel)) ggX9_order_X2_become
set_option maxRecDepth 20000 in
theorem ggX9_order_X2_pass : GoodIn wsX9_order wsX2_pass := goodIn_r _ [35, 22, 36, 37, 38, 20, 39, 40, 41, 23, 26, 42, 43, 44, 45, 46, 47, 48, 49, 50, 51, 52, 53, 54, 55, 56, 57, 58, 59, 60, 61, 62, 63, 64, 65, 66, 67, 68, 69, 70, 71, 72, 31, 73, 74, 110, 111, 112, 113, 114, 115, 116, 117, 118, 93, 94, 95, 96, 97, 98, 99, 100, 101, 102, 103, 104, 105, 106, 107, 108, 109, 119, 120] rfl (by decide +kernel)
set_option maxRecDepth 20000 in
theorem gX9_order_X2_pass : GoodIn wsX9_order (wsV RX9 164 RX2 yX2_pass wsX2_pass) := goodIn_app (goodIn_of _ (by decide +kernel)) ggX9_order_X2_pass
set_option maxRecDepth 20000 in
theorem ggX9_order_X9_inBits : GoodIn wsX9_order wsX9_inBits := goodIn_r _ [77] rfl (by decide +kernel)
set_option maxRecDepth 20000 in
theorem gX9_order_X9_inBits : GoodIn wsX9_order (va_wsS RX9 181 yX9_inBits wsX9_inBits) := goodIn_app (goodIn_of _ (by decide +kernel)) ggX9_order_X9_inBits
theorem kX9_order_41 : Cond.fieldLink RX9 41 "EveningVow" "trial" "LEveningVow$Night;" ∈ wsX9_order := List.mem_of_getElem? (i := 1) rfl
theorem iX9_order_X9 : ∀ w ∈ u_ws RX9 TX9 15, w ∈ wsX9_order := fun w h => (List.mem_cons_of_mem _ (List.mem_append_left _ (List.mem_append_left _ (List.mem_append_left _ (List.mem_append_right _ h)))))
theorem kX9_order_37 : Cond.fieldLink RX9 37 "EveningVow" "now" "LEveningVow$Night;" ∈ wsX9_order := List.mem_of_getElem? (i := 2) rfl
theorem kX9_order_19 : Cond.fieldLink RX9 19 "EveningVow" "told" "LEveningVow$House;" ∈ wsX9_order := List.mem_of_getElem? (i := 3) rfl
theorem kX9_order_49 : Cond.fieldLink RX9 49 "EveningVow" "asTold" "LEveningVow$Pace;" ∈ wsX9_order := List.mem_of_getElem? (i := 4) rfl
theorem kX9_order_109 : Cond.fieldLink RX9 109 "EveningVow$House" "guests" "I" ∈ wsX9_order := List.mem_of_getElem? (i := 5) rfl
theorem iX9_order_X1 : ∀ w ∈ u_ws RX1 TX1 17, w ∈ wsX9_order := fun w h => (List.mem_cons_of_mem _ (List.mem_append_left _ (List.mem_append_left _ (List.mem_append_right _ h))))
set_option maxHeartbeats 4000000 in
set_option maxRecDepth 100000 in
theorem wX9_order_L60 {p : Program} {l : Launch} {e : Env} {s : State} {m : MethodId} {args : Array Value} {below : List Frame} {meth : Method} {c : Code} {g : GG} {A : Nat → Prop} (C0 : Cx p s m args meth c cX9_order 6 (some .int) RX9 wsX9_order g A) (a_t : Nat) (p_t : Nat → Nat) (p_t_1 : Nat → Nat) (p_t_5 : Nat → Nat) (p_t_6 : Nat → Nat) (p_t_7 : Nat → Nat) (n : Nat) (x1 : Int32) (x3 : Int32) (x4 : Int32) (o_t : Nat → Int32) (o_t_1 : Nat → Int32) (o_t_6 : Nat → Int32) (f_t_6_6 : Nat → Int32) (f_t_6_7 : Nat → Int32) (f_t_6_8 : Nat → Int32) (o_t_7 : Nat → Int32) (f_t_1_4 : Nat → Int32) (f_t_1_6 : Nat → Int32) (f_t_1_7 : Nat → Int32) (f_t_1_10 : Nat → Int32) (f_t_1_11 : Nat → Int32) (f_t_1_12 : Nat → Int32) (o_t_5 : Nat → Int32) (f_t_5_6 : Nat → Int32) (f_t_5_7 : Nat → Int32) (r : Int32) (o_t' : Nat → Int32) (o_t_6' : Nat → Int32) (f_t_6_6' : Nat → Int32) (f_t_6_7' : Nat → Int32) (f_t_6_8' : Nat → Int32) (o_t_7' : Nat → Int32) (K : Int32 → Option (Int32 × (Nat → Int32) × (Nat → Int32) × (Nat → Int32) × (Nat → Int32) × (Nat → Int32) × (Nat → Int32))) (hKx : ∀ (x2 : Int32) (H : Heap) (locs : List Loc) (ls : Array Slot), K x2 = some (r, o_t', o_t_6', f_t_6_6', f_t_6_7', f_t_6_8', o_t_7') → va_P g.1 vwCl [oX9 a_t p_t o_t, oX1 (p_t 1) p_t_1 o_t_1, aI g (p_t_1 4) 7 f_t_1_4, aI g (p_t_1 6) 7 f_t_1_6, aI g (p_t_1 7) 7 f_t_1_7, aI g (p_t_1 10) 8 f_t_1_10, aI g (p_t_1 11) 8 f_t_1_11, aI g (p_t_1 12) 8 f_t_1_12, oX2 (p_t 5) p_t_5 o_t_5, aI g (p_t_5 6) 7 f_t_5_6, aI g (p_t_5 7) 7 f_t_5_7, oX2 (p_t 6) p_t_6 o_t_6, aI g (p_t_6 6) 7 f_t_6_6, aI g (p_t_6 7) 7 f_t_6_7, aI g (p_t_6 8) 7 f_t_6_8, oX3 (p_t 7) p_t_7 o_t_7] H → va_D A [oX9 a_t p_t o_t, oX1 (p_t 1) p_t_1 o_t_1, aI g (p_t_1 4) 7 f_t_1_4, aI g (p_t_1 6) 7 f_t_1_6, aI g (p_t_1 7) 7 f_t_1_7, aI g (p_t_1 10) 8 f_t_1_10, aI g (p_t_1 11) 8 f_t_1_11, aI g (p_t_1 12) 8 f_t_1_12, oX2 (p_t 5) p_t_5 o_t_5, aI g (p_t_5 6) 7 f_t_5_6, aI g (p_t_5 7) 7 f_t_5_7, oX2 (p_t 6) p_t_6 o_t_6, aI g (p_t_6 6) 7 f_t_6_6, aI g (p_t_6 7) 7 f_t_6_7, aI g (p_t_6 8) 7 f_t_6_8, oX3 (p_t 7) p_t_7 o_t_7] → va_S A s.heap H locs → lv_has ls 6 [(0, .ref a_t), (1, .int x1), (2, .int x2), (3, .int x3)] → W p l e ({ frames := 3, cells := 0, slots := 0, locals := 81 } : Room) s m args below meth c H locs 0 0 (MQ below (EndI g r [oX9 a_t p_t o_t', oX1 (p_t 1) p_t_1 o_t_1, aI g (p_t_1 4) 7 f_t_1_4, aI g (p_t_1 6) 7 f_t_1_6, aI g (p_t_1 7) 7 f_t_1_7, aI g (p_t_1 10) 8 f_t_1_10, aI g (p_t_1 11) 8 f_t_1_11, aI g (p_t_1 12) 8 f_t_1_12, oX2 (p_t 5) p_t_5 o_t_5, aI g (p_t_5 6) 7 f_t_5_6, aI g (p_t_5 7) 7 f_t_5_7, oX2 (p_t 6) p_t_6 o_t_6', aI g (p_t_6 6) 7 f_t_6_6', aI g (p_t_6 7) 7 f_t_6_7', aI g (p_t_6 8) 7 f_t_6_8', oX3 (p_t 7) p_t_7 o_t_7'] A) args s 0 0 A) (F0 m 99 ls [])) : ∀ (k : Nat) (x2 : Int32) (x5 : Int32), fX9_order_L60 n x1 x3 x4 o_t o_t_1 o_t_6 f_t_6_6 f_t_6_7 f_t_6_8 o_t_7 K k x2 x5 = some (r, o_t', o_t_6', f_t_6_6', f_t_6_7', f_t_6_8', o_t_7') → ∀ (H : Heap) (locs : List Loc) (ls : Array Slot), va_P g.1 vwCl [oX9 a_t p_t o_t, oX1 (p_t 1) p_t_1 o_t_1, aI g (p_t_1 4) 7 f_t_1_4, aI g (p_t_1 6) 7 f_t_1_6, aI g (p_t_1 7) 7 f_t_1_7, aI g (p_t_1 10) 8 f_t_1_10, aI g (p_t_1 11) 8 f_t_1_11, aI g (p_t_1 12) 8 f_t_1_12, oX2 (p_t 5) p_t_5 o_t_5, aI g (p_t_5 6) 7 f_t_5_6, aI g (p_t_5 7) 7 f_t_5_7, oX2 (p_t 6) p_t_6 o_t_6, aI g (p_t_6 6) 7 f_t_6_6, aI g (p_t_6 7) 7 f_t_6_7, aI g (p_t_6 8) 7 f_t_6_8, oX3 (p_t 7) p_t_7 o_t_7] H → va_D A [oX9 a_t p_t o_t, oX1 (p_t 1) p_t_1 o_t_1, aI g (p_t_1 4) 7 f_t_1_4, aI g (p_t_1 6) 7 f_t_1_6, aI g (p_t_1 7) 7 f_t_1_7, aI g (p_t_1 10) 8 f_t_1_10, aI g (p_t_1 11) 8 f_t_1_11, aI g (p_t_1 12) 8 f_t_1_12, oX2 (p_t 5) p_t_5 o_t_5, aI g (p_t_5 6) 7 f_t_5_6, aI g (p_t_5 7) 7 f_t_5_7, oX2 (p_t 6) p_t_6 o_t_6, aI g (p_t_6 6) 7 f_t_6_6, aI g (p_t_6 7) 7 f_t_6_7, aI g (p_t_6 8) 7 f_t_6_8, oX3 (p_t 7) p_t_7 o_t_7] → va_S A s.heap H locs → lv_has ls 6 [(0, .ref a_t), (1, .int x1), (2, .int x2), (3, .int x3), (4, .int x4), (5, .int x5)] → W p l e ({ frames := 3, cells := 0, slots := 0, locals := 81 } : Room) s m args below meth c H locs 0 0 (MQ below (EndI g r [oX9 a_t p_t o_t', oX1 (p_t 1) p_t_1 o_t_1, aI g (p_t_1 4) 7 f_t_1_4, aI g (p_t_1 6) 7 f_t_1_6, aI g (p_t_1 7) 7 f_t_1_7, aI g (p_t_1 10) 8 f_t_1_10, aI g (p_t_1 11) 8 f_t_1_11, aI g (p_t_1 12) 8 f_t_1_12, oX2 (p_t 5) p_t_5 o_t_5, aI g (p_t_5 6) 7 f_t_5_6, aI g (p_t_5 7) 7 f_t_5_7, oX2 (p_t 6) p_t_6 o_t_6', aI g (p_t_6 6) 7 f_t_6_6', aI g (p_t_6 7) 7 f_t_6_7', aI g (p_t_6 8) 7 f_t_6_8', oX3 (p_t 7) p_t_7 o_t_7'] A) args s 0 0 A) (F0 m 60 ls []) := by
  obtain ⟨hx, hb, hml, hown, hts, hr, hlk, hK, hA, hSW⟩ := id C0
  intro k
  induction k with
  | zero =>
    intro x2 x5 hF
    exact absurd hF (by simp [fX9_order_L60])
  | succ k ih =>
    intro x2 x5 hF H locs ls hP hD hS hl
    rw [fX9_order_L60] at hF
    refine lv_iload hx hb dX9_order_60 (lv_at hl 5 rfl) ?_
    refine lv_aload_n hx hb dX9_order_62 rfl (lv_at hl 0 rfl) ?_
    refine va_get (D := g.1) (ci := 9) (v := .ref (p_t 1)) (C := RX9) (T := TX9) (N := 15) hx hb hts iX9_order_X9 hown hK.1 hP 0 rfl rfl 1 (by decide) (hts _ kX9_order_19) (fun _ h9 => h9) rfl dX9_order_63 ?_
    refine va_get (D := g.1) (ci := 1) (v := .int (o_t_1 3)) (C := RX1) (T := TX1) (N := 17) hx hb hts iX9_order_X1 hown hK.1 hP 1 rfl rfl 3 (by decide) (hts _ kX9_order_109) (fun _ h9 => h9) rfl dX9_order_66 ?_
    refine lv_icmp_ge (tgt := 99) hx hb dX9_order_69 (by decide) (fun c_18 => ?_) (fun c_18 => ?_)
    · have hF := it_p c_18 hF
      exact hKx x2 _ _ _ hF (hP.sub [0, 1, 2, 3, 4, 5, 6, 7, 8, 9, 10, 11, 12, 13, 14, 15] rfl) (hD.sub [0, 1, 2, 3, 4, 5, 6, 7, 8, 9, 10, 11, 12, 13, 14, 15] rfl rfl) hS (lv_sub hl [0, 1, 2, 3] rfl)
    · have hF := it_n c_18 hF
      refine lv_iload hx hb dX9_order_72 (lv_at hl 4 rfl) ?_
      refine lv_iload hx hb dX9_order_74 (lv_at hl 5 rfl) ?_
      obtain ⟨u_19, hu_20, hF⟩ := ob1_some hF
      refine call_si (wr := [oX9 a_t p_t o_t, oX1 (p_t 1) p_t_1 o_t_1, aI g (p_t_1 4) 7 f_t_1_4, aI g (p_t_1 6) 7 f_t_1_6, aI g (p_t_1 7) 7 f_t_1_7, aI g (p_t_1 10) 8 f_t_1_10, aI g (p_t_1 11) 8 f_t_1_11, aI g (p_t_1 12) 8 f_t_1_12, oX2 (p_t 5) p_t_5 o_t_5, aI g (p_t_5 6) 7 f_t_5_6, aI g (p_t_5 7) 7 f_t_5_7, oX2 (p_t 6) p_t_6 o_t_6, aI g (p_t_6 6) 7 f_t_6_6, aI g (p_t_6 7) 7 f_t_6_7, aI g (p_t_6 8) 7 f_t_6_8, oX3 (p_t 7) p_t_7 o_t_7]) (As := [.int x4, .int x5]) (rest := []) C0 (mX9_inBits l g n x4 x5 u_19 hu_20) (va_cwS 2 hts gX9_order_X9_inBits rfl rfl rfl (by decide +kernel) ⟨Nat.le_of_ble_eq_true rfl, Nat.le_of_ble_eq_true rfl⟩) hP hD hS [] [0, 1, 2, 3, 4, 5, 6, 7, 8, 9, 10, 11, 12, 13, 14, 15] rfl rfl rfl rfl rfl (by decide) hl.1 rfl rfl (Nat.le_of_ble_eq_true rfl) ⟨Nat.zero_le _, Nat.zero_le _⟩ dX9_order_76 ?_
      intro H locs hP hD hS
      refine lv_if_eq (tgt := 93) hx hb dX9_order_79 (by decide) (fun c_21 => ?_) (fun c_21 => ?_)
      · have hF := it_p c_21 hF
        refine lv_iinc (v := (x5 + (1 : Int32))) (lv' := [(5, .int (x5 + (1 : Int32))), (0, .ref a_t), (1, .int x1), (2, .int x2), (3, .int x3), (4, .int x4)]) hx hb dX9_order_93 hl (k := 5) rfl rfl (by decide) rfl (fun ls hl => ?_)
        refine lv_goto (tgt := 60) hx hb dX9_order_96 (by decide) ?_
        exact ih x2 (x5 + (1 : Int32)) hF _ _ _ (hP.sub [0, 1, 2, 3, 4, 5, 6, 7, 8, 9, 10, 11, 12, 13, 14, 15] rfl) (hD.sub [0, 1, 2, 3, 4, 5, 6, 7, 8, 9, 10, 11, 12, 13, 14, 15] rfl rfl) hS (lv_sub hl [1, 2, 3, 4, 5, 0] rfl)
      · have hF := it_n c_21 hF
        refine lv_iload_n hx hb dX9_order_82 rfl (lv_at hl 2 rfl) ?_
        refine lv_iload_n hx hb dX9_order_83 rfl (lv_at hl 1 rfl) ?_
        refine lv_icmp_ne (tgt := 90) hx hb dX9_order_84 (by decide) (fun c_22 => ?_) (fun c_22 => ?_)
        · have hF := it_n c_22 hF
          refine lv_iinc (v := (x2 + (1 : Int32))) (lv' := [(2, .int (x2 + (1 : Int32))), (0, .ref a_t), (1, .int x1), (3, .int x3), (4, .int x4), (5, .int x5)]) hx hb dX9_order_90 hl (k := 2) rfl rfl (by decide) rfl (fun ls hl => ?_)
          refine lv_iinc (v := (x5 + (1 : Int32))) (lv' := [(5, .int (x5 + (1 : Int32))), (2, .int (x2 + (1 : Int32))), (0, .ref a_t), (1, .int x1), (3, .int x3), (4, .int x4)]) hx hb dX9_order_93 hl (k := 5) rfl rfl (by decide) rfl (fun ls hl => ?_)
          refine lv_goto (tgt := 60) hx hb dX9_order_96 (by decide) ?_
          exact ih (x2 + (1 : Int32)) (x5 + (1 : Int32)) hF _ _ _ (hP.sub [0, 1, 2, 3, 4, 5, 6, 7, 8, 9, 10, 11, 12, 13, 14, 15] rfl) (hD.sub [0, 1, 2, 3, 4, 5, 6, 7, 8, 9, 10, 11, 12, 13, 14, 15] rfl rfl) hS (lv_sub hl [2, 3, 1, 4, 5, 0] rfl)
        · have hF := it_p c_22 hF
          refine lv_iload hx hb dX9_order_87 (lv_at hl 5 rfl) ?_
          cases hF
          exact ret_i C0 hP hD hS [0, 1, 2, 3, 4, 5, 6, 7, 8, 9, 10, 11, 12, 13, 14, 15] rfl rfl rfl dX9_order_89 rfl
set_option maxHeartbeats 4000000 in
set_option maxRecDepth 100000 in
theorem wX9_order_L34 {p : Program} {l : Launch} {e : Env} {s : State} {m : MethodId} {args : Array Value} {below : List Frame} {meth : Method} {c : Code} {g : GG} {A : Nat → Prop} (C0 : Cx p s m args meth c cX9_order 6 (some .int) RX9 wsX9_order g A) (a_t : Nat) (p_t : Nat → Nat) (p_t_1 : Nat → Nat) (p_t_5 : Nat → Nat) (p_t_6 : Nat → Nat) (p_t_7 : Nat → Nat) (n : Nat) (x1 : Int32) (o_t : Nat → Int32) (o_t_1 : Nat → Int32) (f_t_1_4 : Nat → Int32) (f_t_1_6 : Nat → Int32) (f_t_1_7 : Nat → Int32) (f_t_1_10 : Nat → Int32) (f_t_1_11 : Nat → Int32) (f_t_1_12 : Nat → Int32) (o_t_5 : Nat → Int32) (f_t_5_6 : Nat → Int32) (f_t_5_7 : Nat → Int32) (r : Int32) (o_t' : Nat → Int32) (o_t_6' : Nat → Int32) (f_t_6_6' : Nat → Int32) (f_t_6_7' : Nat → Int32) (f_t_6_8' : Nat → Int32) (o_t_7' : Nat → Int32) (K : (Nat → Int32) → (Nat → Int32) → (Nat → Int32) → (Nat → Int32) → (Nat → Int32) → Option (Int32 × (Nat → Int32) × (Nat → Int32) × (Nat → Int32) × (Nat → Int32) × (Nat → Int32) × (Nat → Int32))) (hKx : ∀ (o_t_6 : Nat → Int32) (f_t_6_6 : Nat → Int32) (f_t_6_7 : Nat → Int32) (f_t_6_8 : Nat → Int32) (o_t_7 : Nat → Int32) (H : Heap) (locs : List Loc) (ls : Array Slot), K o_t_6 f_t_6_6 f_t_6_7 f_t_6_8 o_t_7 = some (r, o_t', o_t_6', f_t_6_6', f_t_6_7', f_t_6_8', o_t_7') → va_P g.1 vwCl [oX9 a_t p_t o_t, oX1 (p_t 1) p_t_1 o_t_1, aI g (p_t_1 4) 7 f_t_1_4, aI g (p_t_1 6) 7 f_t_1_6, aI g (p_t_1 7) 7 f_t_1_7, aI g (p_t_1 10) 8 f_t_1_10, aI g (p_t_1 11) 8 f_t_1_11, aI g (p_t_1 12) 8 f_t_1_12, oX2 (p_t 5) p_t_5 o_t_5, aI g (p_t_5 6) 7 f_t_5_6, aI g (p_t_5 7) 7 f_t_5_7, oX2 (p_t 6) p_t_6 o_t_6, aI g (p_t_6 6) 7 f_t_6_6, aI g (p_t_6 7) 7 f_t_6_7, aI g (p_t_6 8) 7 f_t_6_8, oX3 (p_t 7) p_t_7 o_t_7] H → va_D A [oX9 a_t p_t o_t, oX1 (p_t 1) p_t_1 o_t_1, aI g (p_t_1 4) 7 f_t_1_4, aI g (p_t_1 6) 7 f_t_1_6, aI g (p_t_1 7) 7 f_t_1_7, aI g (p_t_1 10) 8 f_t_1_10, aI g (p_t_1 11) 8 f_t_1_11, aI g (p_t_1 12) 8 f_t_1_12, oX2 (p_t 5) p_t_5 o_t_5, aI g (p_t_5 6) 7 f_t_5_6, aI g (p_t_5 7) 7 f_t_5_7, oX2 (p_t 6) p_t_6 o_t_6, aI g (p_t_6 6) 7 f_t_6_6, aI g (p_t_6 7) 7 f_t_6_7, aI g (p_t_6 8) 7 f_t_6_8, oX3 (p_t 7) p_t_7 o_t_7] → va_S A s.heap H locs → lv_has ls 6 [] → W p l e ({ frames := 3, cells := 0, slots := 0, locals := 81 } : Room) s m args below meth c H locs 0 0 (MQ below (EndI g r [oX9 a_t p_t o_t', oX1 (p_t 1) p_t_1 o_t_1, aI g (p_t_1 4) 7 f_t_1_4, aI g (p_t_1 6) 7 f_t_1_6, aI g (p_t_1 7) 7 f_t_1_7, aI g (p_t_1 10) 8 f_t_1_10, aI g (p_t_1 11) 8 f_t_1_11, aI g (p_t_1 12) 8 f_t_1_12, oX2 (p_t 5) p_t_5 o_t_5, aI g (p_t_5 6) 7 f_t_5_6, aI g (p_t_5 7) 7 f_t_5_7, oX2 (p_t 6) p_t_6 o_t_6', aI g (p_t_6 6) 7 f_t_6_6', aI g (p_t_6 7) 7 f_t_6_7', aI g (p_t_6 8) 7 f_t_6_8', oX3 (p_t 7) p_t_7 o_t_7'] A) args s 0 0 A) (F0 m 105 ls [])) : ∀ (k : Nat) (x2 : Int32) (x3 : Int32) (o_t_6 : Nat → Int32) (f_t_6_6 : Nat → Int32) (f_t_6_7 : Nat → Int32) (f_t_6_8 : Nat → Int32) (o_t_7 : Nat → Int32), fX9_order_L34 n x1 o_t o_t_1 f_t_1_4 f_t_1_6 f_t_1_7 f_t_1_10 f_t_1_11 f_t_1_12 K k x2 x3 o_t_6 f_t_6_6 f_t_6_7 f_t_6_8 o_t_7 = some (r, o_t', o_t_6', f_t_6_6', f_t_6_7', f_t_6_8', o_t_7') → ∀ (H : Heap) (locs : List Loc) (ls : Array Slot), va_P g.1 vwCl [oX9 a_t p_t o_t, oX1 (p_t 1) p_t_1 o_t_1, aI g (p_t_1 4) 7 f_t_1_4, aI g (p_t_1 6) 7 f_t_1_6, aI g (p_t_1 7) 7 f_t_1_7, aI g (p_t_1 10) 8 f_t_1_10, aI g (p_t_1 11) 8 f_t_1_11, aI g (p_t_1 12) 8 f_t_1_12, oX2 (p_t 5) p_t_5 o_t_5, aI g (p_t_5 6) 7 f_t_5_6, aI g (p_t_5 7) 7 f_t_5_7, oX2 (p_t 6) p_t_6 o_t_6, aI g (p_t_6 6) 7 f_t_6_6, aI g (p_t_6 7) 7 f_t_6_7, aI g (p_t_6 8) 7 f_t_6_8, oX3 (p_t 7) p_t_7 o_t_7] H → va_D A [oX9 a_t p_t o_t, oX1 (p_t 1) p_t_1 o_t_1, aI g (p_t_1 4) 7 f_t_1_4, aI g (p_t_1 6) 7 f_t_1_6, aI g (p_t_1 7) 7 f_t_1_7, aI g (p_t_1 10) 8 f_t_1_10, aI g (p_t_1 11) 8 f_t_1_11, aI g (p_t_1 12) 8 f_t_1_12, oX2 (p_t 5) p_t_5 o_t_5, aI g (p_t_5 6) 7 f_t_5_6, aI g (p_t_5 7) 7 f_t_5_7, oX2 (p_t 6) p_t_6 o_t_6, aI g (p_t_6 6) 7 f_t_6_6, aI g (p_t_6 7) 7 f_t_6_7, aI g (p_t_6 8) 7 f_t_6_8, oX3 (p_t 7) p_t_7 o_t_7] → va_S A s.heap H locs → lv_has ls 6 [(0, .ref a_t), (1, .int x1), (2, .int x2), (3, .int x3)] → W p l e ({ frames := 3, cells := 0, slots := 0, locals := 81 } : Room) s m args below meth c H locs 0 0 (MQ below (EndI g r [oX9 a_t p_t o_t', oX1 (p_t 1) p_t_1 o_t_1, aI g (p_t_1 4) 7 f_t_1_4, aI g (p_t_1 6) 7 f_t_1_6, aI g (p_t_1 7) 7 f_t_1_7, aI g (p_t_1 10) 8 f_t_1_10, aI g (p_t_1 11) 8 f_t_1_11, aI g (p_t_1 12) 8 f_t_1_12, oX2 (p_t 5) p_t_5 o_t_5, aI g (p_t_5 6) 7 f_t_5_6, aI g (p_t_5 7) 7 f_t_5_7, oX2 (p_t 6) p_t_6 o_t_6', aI g (p_t_6 6) 7 f_t_6_6', aI g (p_t_6 7) 7 f_t_6_7', aI g (p_t_6 8) 7 f_t_6_8', oX3 (p_t 7) p_t_7 o_t_7'] A) args s 0 0 A) (F0 m 34 ls []) := by
  obtain ⟨hx, hb, hml, hown, hts, hr, hlk, hK, hA, hSW⟩ := id C0
  intro k
  induction k with
  | zero =>
    intro x2 x3 o_t_6 f_t_6_6 f_t_6_7 f_t_6_8 o_t_7 hF
    exact absurd hF (by simp [fX9_order_L34])
  | succ k ih =>
    intro x2 x3 o_t_6 f_t_6_6 f_t_6_7 f_t_6_8 o_t_7 hF H locs ls hP hD hS hl
    rw [fX9_order_L34] at hF
    refine lv_iload_n hx hb dX9_order_34 rfl (lv_at hl 3 rfl) ?_
    refine lv_bipush (v := (60 : Int32)) hx hb dX9_order_35 (by decide) ?_
    refine lv_icmp_ge (tgt := 105) hx hb dX9_order_37 (by decide) (fun c_10 => ?_) (fun c_10 => ?_)
    · have hF := it_p c_10 hF
      exact hKx o_t_6 f_t_6_6 f_t_6_7 f_t_6_8 o_t_7 _ _ _ hF (hP.sub [0, 1, 2, 3, 4, 5, 6, 7, 8, 9, 10, 11, 12, 13, 14, 15] rfl) (hD.sub [0, 1, 2, 3, 4, 5, 6, 7, 8, 9, 10, 11, 12, 13, 14, 15] rfl rfl) hS (lv_sub hl [] rfl)
    · have hF := it_n c_10 hF
      refine lv_aload_n hx hb dX9_order_40 rfl (lv_at hl 0 rfl) ?_
      refine va_get (D := g.1) (ci := 9) (v := .ref (p_t 6)) (C := RX9) (T := TX9) (N := 15) hx hb hts iX9_order_X9 hown hK.1 hP 0 rfl rfl 6 (by decide) (hts _ kX9_order_41) (fun _ h9 => h9) rfl dX9_order_41 ?_
      refine lv_aload_n hx hb dX9_order_44 rfl (lv_at hl 0 rfl) ?_
      refine va_get (D := g.1) (ci := 9) (v := .ref (p_t 1)) (C := RX9) (T := TX9) (N := 15) hx hb hts iX9_order_X9 hown hK.1 hP 0 rfl rfl 1 (by decide) (hts _ kX9_order_19) (fun _ h9 => h9) rfl dX9_order_45 ?_
      refine lv_aload_n hx hb dX9_order_48 rfl (lv_at hl 0 rfl) ?_
      refine va_get (D := g.1) (ci := 9) (v := .ref (p_t 7)) (C := RX9) (T := TX9) (N := 15) hx hb hts iX9_order_X9 hown hK.1 hP 0 rfl rfl 7 (by decide) (hts _ kX9_order_49) (fun _ h9 => h9) rfl dX9_order_49 ?_
      obtain ⟨u_11, u_12, u_13, u_14, u_15, u_16, hu_17, hF⟩ := ob6_some hF
      refine call_i (wr := [oX9 a_t p_t o_t, oX2 (p_t 5) p_t_5 o_t_5, aI g (p_t_5 6) 7 f_t_5_6, aI g (p_t_5 7) 7 f_t_5_7]) (As := [.ref (p_t 1), .ref (p_t 7)]) (rest := []) (ci := 2) (q0 := 0) C0 (mX2_pass l g (p_t 6) (p_t 1) (p_t 7) p_t_6 p_t_1 p_t_7 n o_t_6 f_t_6_6 f_t_6_7 f_t_6_8 o_t_1 f_t_1_4 f_t_1_6 f_t_1_7 f_t_1_10 f_t_1_11 f_t_1_12 o_t_7 u_11 u_12 u_13 u_14 u_15 u_16 hu_17) (cwV 2 hts gX9_order_X2_pass rfl rfl rfl (by decide +kernel) ⟨Nat.le_of_ble_eq_true rfl, Nat.le_of_ble_eq_true rfl⟩) hP hD hS [11, 12, 13, 14, 1, 2, 3, 4, 5, 6, 7, 15] [0, 8, 9, 10] rfl rfl rfl rfl rfl (by decide) rfl rfl hl.1 rfl rfl (Nat.le_of_ble_eq_true rfl) ⟨Nat.zero_le _, Nat.zero_le _⟩ dX9_order_52 ?_
      intro H locs hP hD hS
      refine lv_istore (lv' := [(4, .int u_11), (0, .ref a_t), (1, .int x1), (2, .int x2), (3, .int x3)]) hx hb dX9_order_55 hl (by decide) rfl (fun ls hl => ?_)
      refine lv_iconst (v := (0 : Int32)) hx hb dX9_order_57 (by decide) ?_
      refine lv_istore (lv' := [(5, .int (0 : Int32)), (4, .int u_11), (0, .ref a_t), (1, .int x1), (2, .int x2), (3, .int x3)]) hx hb dX9_order_58 hl (by decide) rfl (fun ls hl => ?_)
      refine wX9_order_L60 C0 a_t p_t p_t_1 p_t_5 p_t_6 p_t_7 n x1 x3 u_11 o_t o_t_1 u_12 u_13 u_14 u_15 u_16 f_t_1_4 f_t_1_6 f_t_1_7 f_t_1_10 f_t_1_11 f_t_1_12 o_t_5 f_t_5_6 f_t_5_7 r o_t' o_t_6' f_t_6_6' f_t_6_7' f_t_6_8' o_t_7' _ ?_ n x2 (0 : Int32) hF _ _ _ (hP.sub [0, 8, 9, 10, 11, 12, 13, 14, 1, 2, 3, 4, 5, 6, 7, 15] rfl) (hD.sub [0, 8, 9, 10, 11, 12, 13, 14, 1, 2, 3, 4, 5, 6, 7, 15] rfl rfl) hS (lv_sub hl [2, 3, 4, 5, 1, 0] rfl)
      · intro x2_x60 H locs ls hF hP hD hS hl
        refine lv_iinc (v := (x3 + (1 : Int32))) (lv' := [(3, .int (x3 + (1 : Int32))), (0, .ref a_t), (1, .int x1), (2, .int x2_x60)]) hx hb dX9_order_99 hl (k := 3) rfl rfl (by decide) rfl (fun ls hl => ?_)
        refine lv_goto (tgt := 34) hx hb dX9_order_102 (by decide) ?_
        exact ih x2_x60 (x3 + (1 : Int32)) u_12 u_13 u_14 u_15 u_16 hF _ _ _ (hP.sub [0, 1, 2, 3, 4, 5, 6, 7, 8, 9, 10, 11, 12, 13, 14, 15] rfl) (hD.sub [0, 1, 2, 3, 4, 5, 6, 7, 8, 9, 10, 11, 12, 13, 14, 15] rfl rfl) hS (lv_sub hl [1, 2, 3, 0] rfl)
set_option maxHeartbeats 4000000 in
set_option maxRecDepth 100000 in
theorem mX9_order (l : Launch) (g : GG) (a_t : Nat) (p_t : Nat → Nat) (p_t_1 : Nat → Nat) (p_t_5 : Nat → Nat) (p_t_6 : Nat → Nat) (p_t_7 : Nat → Nat) (n : Nat) (x1 : Int32) (o_t : Nat → Int32) (o_t_1 : Nat → Int32) (f_t_1_4 : Nat → Int32) (f_t_1_6 : Nat → Int32) (f_t_1_7 : Nat → Int32) (f_t_1_10 : Nat → Int32) (f_t_1_11 : Nat → Int32) (f_t_1_12 : Nat → Int32) (o_t_5 : Nat → Int32) (f_t_5_6 : Nat → Int32) (f_t_5_7 : Nat → Int32) (o_t_6 : Nat → Int32) (f_t_6_6 : Nat → Int32) (f_t_6_7 : Nat → Int32) (f_t_6_8 : Nat → Int32) (o_t_7 : Nat → Int32) (r : Int32) (o_t' : Nat → Int32) (o_t_6' : Nat → Int32) (f_t_6_6' : Nat → Int32) (f_t_6_7' : Nat → Int32) (f_t_6_8' : Nat → Int32) (o_t_7' : Nat → Int32) (hF : fX9_order n x1 o_t o_t_1 f_t_1_4 f_t_1_6 f_t_1_7 f_t_1_10 f_t_1_11 f_t_1_12 o_t_5 f_t_5_6 f_t_5_7 o_t_6 f_t_6_6 f_t_6_7 f_t_6_8 o_t_7 = some (r, o_t', o_t_6', f_t_6_6', f_t_6_7', f_t_6_8', o_t_7')) : MI l g yX9_order wsX9_order ({ frames := 3, cells := 0, slots := 0, locals := 81 } : Room) [.ref a_t, .int x1] [oX9 a_t p_t o_t, oX1 (p_t 1) p_t_1 o_t_1, aI g (p_t_1 4) 7 f_t_1_4, aI g (p_t_1 6) 7 f_t_1_6, aI g (p_t_1 7) 7 f_t_1_7, aI g (p_t_1 10) 8 f_t_1_10, aI g (p_t_1 11) 8 f_t_1_11, aI g (p_t_1 12) 8 f_t_1_12, oX2 (p_t 5) p_t_5 o_t_5, aI g (p_t_5 6) 7 f_t_5_6, aI g (p_t_5 7) 7 f_t_5_7, oX2 (p_t 6) p_t_6 o_t_6, aI g (p_t_6 6) 7 f_t_6_6, aI g (p_t_6 7) 7 f_t_6_7, aI g (p_t_6 8) 7 f_t_6_8, oX3 (p_t 7) p_t_7 o_t_7] r [oX9 a_t p_t o_t', oX1 (p_t 1) p_t_1 o_t_1, aI g (p_t_1 4) 7 f_t_1_4, aI g (p_t_1 6) 7 f_t_1_6, aI g (p_t_1 7) 7 f_t_1_7, aI g (p_t_1 10) 8 f_t_1_10, aI g (p_t_1 11) 8 f_t_1_11, aI g (p_t_1 12) 8 f_t_1_12, oX2 (p_t 5) p_t_5 o_t_5, aI g (p_t_5 6) 7 f_t_5_6, aI g (p_t_5 7) 7 f_t_5_7, oX2 (p_t 6) p_t_6 o_t_6', aI g (p_t_6 6) 7 f_t_6_6', aI g (p_t_6 7) 7 f_t_6_7', aI g (p_t_6 8) 7 f_t_6_8', oX3 (p_t 7) p_t_7 o_t_7'] := by
  refine MI.of (cc := cX9_order) (maxL := 6) (rt := .int) (own := RX9) rfl rfl (by decide) (Nat.le_of_ble_eq_true rfl) ?_
  intro p e s m args below meth c A C0 hP hD hS ls hl
  obtain ⟨hx, hb, hml, hown, hts, hr, hlk, hK, hA, hSW⟩ := id C0
  have hl : lv_has ls 6 [(0, .ref a_t), (1, .int x1)] := hl
  rw [fX9_order] at hF
  refine lv_aload_n hx hb dX9_order_0 rfl (lv_at hl 0 rfl) ?_
  obtain ⟨u_1, u_2, hu_3, hF⟩ := ob2_some hF
  refine call_i (wr := [oX1 (p_t 1) p_t_1 o_t_1, aI g (p_t_1 4) 7 f_t_1_4, aI g (p_t_1 6) 7 f_t_1_6, aI g (p_t_1 7) 7 f_t_1_7, aI g (p_t_1 10) 8 f_t_1_10, aI g (p_t_1 11) 8 f_t_1_11, aI g (p_t_1 12) 8 f_t_1_12, oX2 (p_t 5) p_t_5 o_t_5, aI g (p_t_5 6) 7 f_t_5_6, aI g (p_t_5 7) 7 f_t_5_7, oX2 (p_t 6) p_t_6 o_t_6, aI g (p_t_6 6) 7 f_t_6_6, aI g (p_t_6 7) 7 f_t_6_7, aI g (p_t_6 8) 7 f_t_6_8, oX3 (p_t 7) p_t_7 o_t_7]) (As := []) (rest := []) (ci := 9) (q0 := 0) C0 (mX9_asked l g a_t p_t n o_t u_1 u_2 hu_3) (cwV 0 hts gX9_order_X9_asked rfl rfl rfl (by decide +kernel) ⟨Nat.le_of_ble_eq_true rfl, Nat.le_of_ble_eq_true rfl⟩) hP hD hS [0] [1, 2, 3, 4, 5, 6, 7, 8, 9, 10, 11, 12, 13, 14, 15] rfl rfl rfl rfl rfl (by decide) rfl rfl hl.1 rfl rfl (Nat.le_of_ble_eq_true rfl) ⟨Nat.zero_le _, Nat.zero_le _⟩ dX9_order_1 ?_
  intro H locs hP hD hS
  refine lv_if_ne (tgt := 9) hx hb dX9_order_4 (by decide) (fun c_4 => ?_) (fun c_4 => ?_)
  · have hF := it_n c_4 hF
    refine lv_iload_n hx hb dX9_order_9 rfl (lv_at hl 1 rfl) ?_
    refine lv_if_ge (tgt := 19) hx hb dX9_order_10 (by decide) (fun c_5 => ?_) (fun c_5 => ?_)
    · have hF := it_p c_5 hF
      refine lv_aload_n hx hb dX9_order_19 rfl (lv_at hl 0 rfl) ?_
      refine va_get (D := g.1) (ci := 9) (v := .ref (p_t 6)) (C := RX9) (T := TX9) (N := 15) hx hb hts iX9_order_X9 hown hK.1 hP 15 rfl rfl 6 (by decide) (hts _ kX9_order_41) (fun _ h9 => h9) rfl dX9_order_20 ?_
      refine lv_aload_n hx hb dX9_order_23 rfl (lv_at hl 0 rfl) ?_
      refine va_get (D := g.1) (ci := 9) (v := .ref (p_t 5)) (C := RX9) (T := TX9) (N := 15) hx hb hts iX9_order_X9 hown hK.1 hP 15 rfl rfl 5 (by decide) (hts _ kX9_order_37) (fun _ h9 => h9) rfl dX9_order_24 ?_
      obtain ⟨u_6, u_7, u_8, hu_9, hF⟩ := ob3_some hF
      refine call_v (wr := [oX1 (p_t 1) p_t_1 o_t_1, aI g (p_t_1 4) 7 f_t_1_4, aI g (p_t_1 6) 7 f_t_1_6, aI g (p_t_1 7) 7 f_t_1_7, aI g (p_t_1 10) 8 f_t_1_10, aI g (p_t_1 11) 8 f_t_1_11, aI g (p_t_1 12) 8 f_t_1_12, aI g (p_t_6 8) 7 f_t_6_8, oX3 (p_t 7) p_t_7 o_t_7, oX9 a_t p_t u_2]) (As := [.ref (p_t 5)]) (rest := []) (ci := 2) (q0 := 0) C0 (mX2_become l g (p_t 6) (p_t 5) p_t_6 p_t_5 n o_t_6 f_t_6_6 f_t_6_7 o_t_5 f_t_5_6 f_t_5_7 u_6 u_7 u_8 hu_9) (cwV 1 hts gX9_order_X2_become rfl rfl rfl (by decide +kernel) ⟨Nat.le_of_ble_eq_true rfl, Nat.le_of_ble_eq_true rfl⟩) hP hD hS [10, 11, 12, 7, 8, 9] [0, 1, 2, 3, 4, 5, 6, 13, 14, 15] rfl rfl rfl rfl rfl (by decide) rfl rfl hl.1 rfl rfl (Nat.le_of_ble_eq_true rfl) ⟨Nat.zero_le _, Nat.zero_le _⟩ dX9_order_27 ?_
      intro H locs hP hD hS
      refine lv_iconst (v := (0 : Int32)) hx hb dX9_order_30 (by decide) ?_
      refine lv_istore_n (lv' := [(2, .int (0 : Int32)), (0, .ref a_t), (1, .int x1)]) hx hb dX9_order_31 rfl hl (by decide) rfl (fun ls hl => ?_)
      refine lv_iconst (v := (0 : Int32)) hx hb dX9_order_32 (by decide) ?_
      refine lv_istore_n (lv' := [(3, .int (0 : Int32)), (2, .int (0 : Int32)), (0, .ref a_t), (1, .int x1)]) hx hb dX9_order_33 rfl hl (by decide) rfl (fun ls hl => ?_)
      refine wX9_order_L34 C0 a_t p_t p_t_1 p_t_5 p_t_6 p_t_7 n x1 u_2 o_t_1 f_t_1_4 f_t_1_6 f_t_1_7 f_t_1_10 f_t_1_11 f_t_1_12 o_t_5 f_t_5_6 f_t_5_7 r o_t' o_t_6' f_t_6_6' f_t_6_7' f_t_6_8' o_t_7' _ ?_ n (0 : Int32) (0 : Int32) u_6 u_7 u_8 f_t_6_8 o_t_7 hF _ _ _ (hP.sub [9, 0, 1, 2, 3, 4, 5, 6, 13, 14, 15, 10, 11, 12, 7, 8] rfl) (hD.sub [9, 0, 1, 2, 3, 4, 5, 6, 13, 14, 15, 10, 11, 12, 7, 8] rfl rfl) hS (lv_sub hl [2, 3, 1, 0] rfl)
      · intro o_t_6_x34 f_t_6_6_x34 f_t_6_7_x34 f_t_6_8_x34 o_t_7_x34 H locs ls hF hP hD hS hl
        refine lv_bipush (v := (-2 : Int32)) hx hb dX9_order_105 (by decide) ?_
        cases hF
        exact ret_i C0 hP hD hS [0, 1, 2, 3, 4, 5, 6, 7, 8, 9, 10, 11, 12, 13, 14, 15] rfl rfl rfl dX9_order_107 rfl
    · have hF := it_n c_5 hF
      refine lv_aload_n hx hb dX9_order_13 rfl (lv_at hl 0 rfl) ?_
      refine lv_iconst (v := (1 : Int32)) hx hb dX9_order_14 (by decide) ?_
      obtain ⟨u_23, u_24, hu_25, hF⟩ := ob2_some hF
      refine call_i (wr := [oX1 (p_t 1) p_t_1 o_t_1, aI g (p_t_1 4) 7 f_t_1_4, aI g (p_t_1 6) 7 f_t_1_6, aI g (p_t_1 7) 7 f_t_1_7, aI g (p_t_1 10) 8 f_t_1_10, aI g (p_t_1 11) 8 f_t_1_11, aI g (p_t_1 12) 8 f_t_1_12, oX2 (p_t 5) p_t_5 o_t_5, aI g (p_t_5 6) 7 f_t_5_6, aI g (p_t_5 7) 7 f_t_5_7, oX2 (p_t 6) p_t_6 o_t_6, aI g (p_t_6 6) 7 f_t_6_6, aI g (p_t_6 7) 7 f_t_6_7, aI g (p_t_6 8) 7 f_t_6_8, oX3 (p_t 7) p_t_7 o_t_7]) (As := [.int (1 : Int32)]) (rest := []) (ci := 9) (q0 := 0) C0 (mX9_refuse l g a_t p_t n (1 : Int32) u_2 u_23 u_24 hu_25) (cwV 1 hts gX9_order_X9_refuse rfl rfl rfl (by decide +kernel) ⟨Nat.le_of_ble_eq_true rfl, Nat.le_of_ble_eq_true rfl⟩) hP hD hS [15] [0, 1, 2, 3, 4, 5, 6, 7, 8, 9, 10, 11, 12, 13, 14] rfl rfl rfl rfl rfl (by decide) rfl rfl hl.1 rfl rfl (Nat.le_of_ble_eq_true rfl) ⟨Nat.zero_le _, Nat.zero_le _⟩ dX9_order_15 ?_
      intro H locs hP hD hS
      cases hF
      exact ret_i C0 hP hD hS [15, 0, 1, 2, 3, 4, 5, 6, 7, 8, 9, 10, 11, 12, 13, 14] rfl rfl rfl dX9_order_18 rfl
  · have hF := it_p c_4 hF
    refine lv_iconst (v := (-1 : Int32)) hx hb dX9_order_7 (by decide) ?_
    cases hF
    exact ret_i C0 hP hD hS [15, 0, 1, 2, 3, 4, 5, 6, 7, 8, 9, 10, 11, 12, 13, 14] rfl rfl rfl dX9_order_8 rfl

theorem dAX9_pull : ∀ q ∈ ([(0, (.aload_n 0, 1)), (1, (.iload_n 1, 1)), (2, (.invokevirtual 118, 3)), (5, (.ifCond .ne 5, 3)), (8, (.iconst (-1), 1)), (9, (.ireturn, 1)), (10, (.iconst 0, 1)), (11, (.istore_n 2, 1)), (12, (.iconst 0, 1)), (13, (.istore_n 3, 1)), (14, (.iload_n 3, 1)), (15, (.aload_n 0, 1)), (16, (.getfield 19, 3)), (19, (.getfield 184, 3)), (22, (.if_icmp .ge 53, 3)), (25, (.aload_n 0, 1)), (26, (.getfield 19, 3)), (29, (.getfield 187, 3)), (32, (.iload_n 3, 1)), (33, (.iaload, 1)), (34, (.iload_n 1, 1)), (35, (.if_icmp .ne 34, 3)), (38, (.aload_n 0, 1)), (39, (.getfield 37, 3)), (42, (.aload_n 0, 1)), (43, (.getfield 19, 3)), (46, (.getfield 190, 3)), (49, (.iload_n 3, 1)), (50, (.iaload, 1)), (51, (.invokevirtual 133, 3)), (54, (.ifCond .eq 15, 3)), (57, (.iload_n 2, 1)), (58, (.aload_n 0, 1)), (59, (.getfield 19, 3)), (62, (.getfield 150, 3)), (65, (.iload_n 3, 1)), (66, (.iaload, 1)), (67, (.iadd, 1)), (68, (.istore_n 2, 1)), (69, (.iinc 3 1, 3)), (72, (.goto (-58), 3)), (75, (.iload_n 2, 1)), (76, (.ireturn, 1))] : List (Nat × (Instr × Nat))), decode cX9_pull q.1 = .ok q.2 := by decide +kernel
theorem dX9_pull_0 : decode cX9_pull 0 = .ok (.aload_n 0, 1) := dAX9_pull (0, (.aload_n 0, 1)) (List.mem_of_getElem? (i := 0) rfl)
theorem dX9_pull_1 : decode cX9_pull 1 = .ok (.iload_n 1, 1) := dAX9_pull (1, (.iload_n 1, 1)) (List.mem_of_getElem? (i := 1) rfl)
theorem dX9_pull_2 : decode cX9_pull 2 = .ok (.invokevirtual 118, 3) := dAX9_pull (2, (.invokevirtual 118, 3)) (List.mem_of_getElem? (i := 2) rfl)
theorem dX9_pull_5 : decode cX9_pull 5 = .ok (.ifCond .ne 5, 3) := dAX9_pull (5, (.ifCond .ne 5, 3)) (List.mem_of_getElem? (i := 3) rfl)
theorem dX9_pull_8 : decode cX9_pull 8 = .ok (.iconst (-1), 1) := dAX9_pull (8, (.iconst (-1), 1)) (List.mem_of_getElem? (i := 4) rfl)
theorem dX9_pull_9 : decode cX9_pull 9 = .ok (.ireturn, 1) := dAX9_pull (9, (.ireturn, 1)) (List.mem_of_getElem? (i := 5) rfl)
theorem dX9_pull_10 : decode cX9_pull 10 = .ok (.iconst 0, 1) := dAX9_pull (10, (.iconst 0, 1)) (List.mem_of_getElem? (i := 6) rfl)
theorem dX9_pull_11 : decode cX9_pull 11 = .ok (.istore_n 2, 1) := dAX9_pull (11, (.istore_n 2, 1)) (List.mem_of_getElem? (i := 7) rfl)
theorem dX9_pull_12 : decode cX9_pull 12 = .ok (.iconst 0, 1) := dAX9_pull (12, (.iconst 0, 1)) (List.mem_of_getElem? (i := 8) rfl)
theorem dX9_pull_13 : decode cX9_pull 13 = .ok (.istore_n 3, 1) := dAX9_pull (13, (.istore_n 3, 1)) (List.mem_of_getElem? (i := 9) rfl)
theorem dX9_pull_14 : decode cX9_pull 14 = .ok (.iload_n 3, 1) := dAX9_pull (14, (.iload_n 3, 1)) (List.mem_of_getElem? (i := 10) rfl)
theorem dX9_pull_15 : decode cX9_pull 15 = .ok (.aload_n 0, 1) := dAX9_pull (15, (.aload_n 0, 1)) (List.mem_of_getElem? (i := 11) rfl)
theorem dX9_pull_16 : decode cX9_pull 16 = .ok (.getfield 19, 3) := dAX9_pull (16, (.getfield 19, 3)) (List.mem_of_getElem? (i := 12) rfl)
theorem dX9_pull_19 : decode cX9_pull 19 = .ok (.getfield 184, 3) := dAX9_pull (19, (.getfield 184, 3)) (List.mem_of_getElem? (i := 13) rfl)
theorem dX9_pull_22 : decode cX9_pull 22 = .ok (.if_icmp .ge 53, 3) := dAX9_pull (22, (.if_icmp .ge 53, 3)) (List.mem_of_getElem? (i := 14) rfl)
theorem dX9_pull_25 : decode cX9_pull 25 = .ok (.aload_n 0, 1) := dAX9_pull (25, (.aload_n 0, 1)) (List.mem_of_getElem? (i := 15) rfl)
theorem dX9_pull_26 : decode cX9_pull 26 = .ok (.getfield 19, 3) := dAX9_pull (26, (.getfield 19, 3)) (List.mem_of_getElem? (i := 16) rfl)
theorem dX9_pull_29 : decode cX9_pull 29 = .ok (.getfield 187, 3) := dAX9_pull (29, (.getfield 187, 3)) (List.mem_of_getElem? (i := 17) rfl)
theorem dX9_pull_32 : decode cX9_pull 32 = .ok (.iload_n 3, 1) := dAX9_pull (32, (.iload_n 3, 1)) (List.mem_of_getElem? (i := 18) rfl)
theorem dX9_pull_33 : decode cX9_pull 33 = .ok (.iaload, 1) := dAX9_pull (33, (.iaload, 1)) (List.mem_of_getElem? (i := 19) rfl)
theorem dX9_pull_34 : decode cX9_pull 34 = .ok (.iload_n 1, 1) := dAX9_pull (34, (.iload_n 1, 1)) (List.mem_of_getElem? (i := 20) rfl)
theorem dX9_pull_35 : decode cX9_pull 35 = .ok (.if_icmp .ne 34, 3) := dAX9_pull (35, (.if_icmp .ne 34, 3)) (List.mem_of_getElem? (i := 21) rfl)
theorem dX9_pull_38 : decode cX9_pull 38 = .ok (.aload_n 0, 1) := dAX9_pull (38, (.aload_n 0, 1)) (List.mem_of_getElem? (i := 22) rfl)
theorem dX9_pull_39 : decode cX9_pull 39 = .ok (.getfield 37, 3) := dAX9_pull (39, (.getfield 37, 3)) (List.mem_of_getElem? (i := 23) rfl)
theorem dX9_pull_42 : decode cX9_pull 42 = .ok (.aload_n 0, 1) := dAX9_pull (42, (.aload_n 0, 1)) (List.mem_of_getElem? (i := 24) rfl)
theorem dX9_pull_43 : decode cX9_pull 43 = .ok (.getfield 19, 3) := dAX9_pull (43, (.getfield 19, 3)) (List.mem_of_getElem? (i := 25) rfl)
theorem dX9_pull_46 : decode cX9_pull 46 = .ok (.getfield 190, 3) := dAX9_pull (46, (.getfield 190, 3)) (List.mem_of_getElem? (i := 26) rfl)
theorem dX9_pull_49 : decode cX9_pull 49 = .ok (.iload_n 3, 1) := dAX9_pull (49, (.iload_n 3, 1)) (List.mem_of_getElem? (i := 27) rfl)
theorem dX9_pull_50 : decode cX9_pull 50 = .ok (.iaload, 1) := dAX9_pull (50, (.iaload, 1)) (List.mem_of_getElem? (i := 28) rfl)
theorem dX9_pull_51 : decode cX9_pull 51 = .ok (.invokevirtual 133, 3) := dAX9_pull (51, (.invokevirtual 133, 3)) (List.mem_of_getElem? (i := 29) rfl)
theorem dX9_pull_54 : decode cX9_pull 54 = .ok (.ifCond .eq 15, 3) := dAX9_pull (54, (.ifCond .eq 15, 3)) (List.mem_of_getElem? (i := 30) rfl)
theorem dX9_pull_57 : decode cX9_pull 57 = .ok (.iload_n 2, 1) := dAX9_pull (57, (.iload_n 2, 1)) (List.mem_of_getElem? (i := 31) rfl)
theorem dX9_pull_58 : decode cX9_pull 58 = .ok (.aload_n 0, 1) := dAX9_pull (58, (.aload_n 0, 1)) (List.mem_of_getElem? (i := 32) rfl)
theorem dX9_pull_59 : decode cX9_pull 59 = .ok (.getfield 19, 3) := dAX9_pull (59, (.getfield 19, 3)) (List.mem_of_getElem? (i := 33) rfl)
theorem dX9_pull_62 : decode cX9_pull 62 = .ok (.getfield 150, 3) := dAX9_pull (62, (.getfield 150, 3)) (List.mem_of_getElem? (i := 34) rfl)
theorem dX9_pull_65 : decode cX9_pull 65 = .ok (.iload_n 3, 1) := dAX9_pull (65, (.iload_n 3, 1)) (List.mem_of_getElem? (i := 35) rfl)
theorem dX9_pull_66 : decode cX9_pull 66 = .ok (.iaload, 1) := dAX9_pull (66, (.iaload, 1)) (List.mem_of_getElem? (i := 36) rfl)
theorem dX9_pull_67 : decode cX9_pull 67 = .ok (.iadd, 1) := dAX9_pull (67, (.iadd, 1)) (List.mem_of_getElem? (i := 37) rfl)
theorem dX9_pull_68 : decode cX9_pull 68 = .ok (.istore_n 2, 1) := dAX9_pull (68, (.istore_n 2, 1)) (List.mem_of_getElem? (i := 38) rfl)
theorem dX9_pull_69 : decode cX9_pull 69 = .ok (.iinc 3 1, 3) := dAX9_pull (69, (.iinc 3 1, 3)) (List.mem_of_getElem? (i := 39) rfl)
theorem dX9_pull_72 : decode cX9_pull 72 = .ok (.goto (-58), 3) := dAX9_pull (72, (.goto (-58), 3)) (List.mem_of_getElem? (i := 40) rfl)
theorem dX9_pull_75 : decode cX9_pull 75 = .ok (.iload_n 2, 1) := dAX9_pull (75, (.iload_n 2, 1)) (List.mem_of_getElem? (i := 41) rfl)
theorem dX9_pull_76 : decode cX9_pull 76 = .ok (.ireturn, 1) := dAX9_pull (76, (.ireturn, 1)) (List.mem_of_getElem? (i := 42) rfl)
set_option maxRecDepth 20000 in
theorem ggX9_pull_X9_guestAsked : GoodIn wsX9_pull wsX9_guestAsked := goodIn_r _ [11, 1, 12, 13, 22, 23, 24, 25, 26, 27, 28, 29, 30, 31, 32, 33, 34, 35, 36, 37, 38, 39, 40, 41, 42, 43, 44, 45, 46, 47, 48, 49, 50, 51, 52, 53] rfl (by decide +kernel)
set_option maxRecDepth 20000 in
theorem gX9_pull_X9_guestAsked : GoodIn wsX9_pull (wsV RX9 118 RX9 yX9_guestAsked wsX9_guestAsked) := goodIn_app (goodIn_of _ (by decide +kernel)) ggX9_pull_X9_guestAsked
set_option maxRecDepth 20000 in
theorem ggX9_pull_X2_has : GoodIn wsX9_pull wsX2_has := goodIn_r _ [18, 19, 20, 10, 21, 54, 55, 56, 57, 58, 59, 60, 61, 62] rfl (by decide +kernel)
set_option maxRecDepth 20000 in
theorem gX9_pull_X2_has : GoodIn wsX9_pull (wsV RX9 133 RX2 yX2_has wsX2_has) := goodIn_app (goodIn_of _ (by decide +kernel)) ggX9_pull_X2_has
theorem kX9_pull_19 : Cond.fieldLink RX9 19 "EveningVow" "told" "LEveningVow$House;" ∈ wsX9_pull := List.mem_of_getElem? (i := 1) rfl
theorem iX9_pull_X9 : ∀ w ∈ u_ws RX9 TX9 15, w ∈ wsX9_pull := fun w h => (List.mem_cons_of_mem _ (List.mem_append_left _ (List.mem_append_left _ (List.mem_append_right _ h))))
theorem kX9_pull_184 : Cond.fieldLink RX9 184 "EveningVow$House" "draws" "I" ∈ wsX9_pull := List.mem_of_getElem? (i := 2) rfl
theorem iX9_pull_X1 : ∀ w ∈ u_ws RX1 TX1 17, w ∈ wsX9_pull := fun w h => (List.mem_cons_of_mem _ (List.mem_append_left _ (List.mem_append_right _ h)))
theorem kX9_pull_187 : Cond.fieldLink RX9 187 "EveningVow$House" "drawer" "[I" ∈ wsX9_pull := List.mem_of_getElem? (i := 3) rfl
theorem kX9_pull_37 : Cond.fieldLink RX9 37 "EveningVow" "now" "LEveningVow$Night;" ∈ wsX9_pull := List.mem_of_getElem? (i := 4) rfl
theorem kX9_pull_190 : Cond.fieldLink RX9 190 "EveningVow$House" "drawnGuest" "[I" ∈ wsX9_pull := List.mem_of_getElem? (i := 5) rfl
theorem kX9_pull_150 : Cond.fieldLink RX9 150 "EveningVow$House" "drawnMuch" "[I" ∈ wsX9_pull := List.mem_of_getElem? (i := 6) rfl
set_option maxHeartbeats 4000000 in
set_option maxRecDepth 100000 in
theorem wX9_pull_L14 {p : Program} {l : Launch} {e : Env} {s : State} {m : MethodId} {args : Array Value} {below : List Frame} {meth : Method} {c : Code} {g : GG} {A : Nat → Prop} (C0 : Cx p s m args meth c cX9_pull 4 (some .int) RX9 wsX9_pull g A) (a_t : Nat) (p_t : Nat → Nat) (p_t_1 : Nat → Nat) (p_t_5 : Nat → Nat) (n : Nat) (x1 : Int32) (o_t : Nat → Int32) (o_t_1 : Nat → Int32) (f_t_1_10 : Nat → Int32) (f_t_1_11 : Nat → Int32) (f_t_1_12 : Nat → Int32) (o_t_5 : Nat → Int32)  (r : Int32) (o_t' : Nat → Int32) (K : Int32 → Option (Int32 × (Nat → Int32))) (hKx : ∀ (x2 : Int32) (H : Heap) (locs : List Loc) (ls : Array Slot), K x2 = some (r, o_t') → va_P g.1 vwCl [oX9 a_t p_t o_t, oX1 (p_t 1) p_t_1 o_t_1, aI g (p_t_1 10) 8 f_t_1_10, aI g (p_t_1 11) 8 f_t_1_11, aI g (p_t_1 12) 8 f_t_1_12, oX2 (p_t 5) p_t_5 o_t_5] H → va_D A [oX9 a_t p_t o_t, oX1 (p_t 1) p_t_1 o_t_1, aI g (p_t_1 10) 8 f_t_1_10, aI g (p_t_1 11) 8 f_t_1_11, aI g (p_t_1 12) 8 f_t_1_12, oX2 (p_t 5) p_t_5 o_t_5] → va_S A s.heap H locs → lv_has ls 4 [(2, .int x2)] → W p l e ({ frames := 2, cells := 0, slots := 0, locals := 42 } : Room) s m args below meth c H locs 0 0 (MQ below (EndI g r [oX9 a_t p_t o_t', oX1 (p_t 1) p_t_1 o_t_1, aI g (p_t_1 10) 8 f_t_1_10, aI g (p_t_1 11) 8 f_t_1_11, aI g (p_t_1 12) 8 f_t_1_12, oX2 (p_t 5) p_t_5 o_t_5] A) args s 0 0 A) (F0 m 75 ls [])) : ∀ (k : Nat) (x2 : Int32) (x3 : Int32), fX9_pull_L14 n x1 o_t o_t_1 f_t_1_10 f_t_1_11 f_t_1_12 o_t_5 K k x2 x3 = some (r, o_t') → ∀ (H : Heap) (locs : List Loc) (ls : Array Slot), va_P g.1 vwCl [oX9 a_t p_t o_t, oX1 (p_t 1) p_t_1 o_t_1, aI g (p_t_1 10) 8 f_t_1_10, aI g (p_t_1 11) 8 f_t_1_11, aI g (p_t_1 12) 8 f_t_1_12, oX2 (p_t 5) p_t_5 o_t_5] H → va_D A [oX9 a_t p_t o_t, oX1 (p_t 1) p_t_1 o_t_1, aI g (p_t_1 10) 8 f_t_1_10, aI g (p_t_1 11) 8 f_t_1_11, aI g (p_t_1 12) 8 f_t_1_12, oX2 (p_t 5) p_t_5 o_t_5] → va_S A s.heap H locs → lv_has ls 4 [(0, .ref a_t), (1, .int x1), (2, .int x2), (3, .int x3)] → W p l e ({ frames := 2, cells := 0, slots := 0, locals := 42 } : Room) s m args below meth c H locs 0 0 (MQ below (EndI g r [oX9 a_t p_t o_t', oX1 (p_t 1) p_t_1 o_t_1, aI g (p_t_1 10) 8 f_t_1_10, aI g (p_t_1 11) 8 f_t_1_11, aI g (p_t_1 12) 8 f_t_1_12, oX2 (p_t 5) p_t_5 o_t_5] A) args s 0 0 A) (F0 m 14 ls []) := by
  obtain ⟨hx, hb, hml, hown, hts, hr, hlk, hK, hA, hSW⟩ := id C0
  intro k
  induction k with
  | zero =>
    intro x2 x3 hF
    exact absurd hF (by simp [fX9_pull_L14])
  | succ k ih =>
    intro x2 x3 hF H locs ls hP hD hS hl
    rw [fX9_pull_L14] at hF
    refine lv_iload_n hx hb dX9_pull_14 rfl (lv_at hl 3 rfl) ?_
    refine lv_aload_n hx hb dX9_pull_15 rfl (lv_at hl 0 rfl) ?_
    refine va_get (D := g.1) (ci := 9) (v := .ref (p_t 1)) (C := RX9) (T := TX9) (N := 15) hx hb hts iX9_pull_X9 hown hK.1 hP 0 rfl rfl 1 (by decide) (hts _ kX9_pull_19) (fun _ h9 => h9) rfl dX9_pull_16 ?_
    refine va_get (D := g.1) (ci := 1) (v := .int (o_t_1 9)) (C := RX1) (T := TX1) (N := 17) hx hb hts iX9_pull_X1 hown hK.1 hP 1 rfl rfl 9 (by decide) (hts _ kX9_pull_184) (fun _ h9 => h9) rfl dX9_pull_19 ?_
    refine lv_icmp_ge (tgt := 75) hx hb dX9_pull_22 (by decide) (fun c_5 => ?_) (fun c_5 => ?_)
    · have hF := it_p c_5 hF
      exact hKx x2 _ _ _ hF (hP.sub [0, 1, 2, 3, 4, 5] rfl) (hD.sub [0, 1, 2, 3, 4, 5] rfl rfl) hS (lv_sub hl [2] rfl)
    · have hF := it_n c_5 hF
      refine lv_aload_n hx hb dX9_pull_25 rfl (lv_at hl 0 rfl) ?_
      refine va_get (D := g.1) (ci := 9) (v := .ref (p_t 1)) (C := RX9) (T := TX9) (N := 15) hx hb hts iX9_pull_X9 hown hK.1 hP 0 rfl rfl 1 (by decide) (hts _ kX9_pull_19) (fun _ h9 => h9) rfl dX9_pull_26 ?_
      refine va_get (D := g.1) (ci := 1) (v := .ref (p_t_1 11)) (C := RX1) (T := TX1) (N := 17) hx hb hts iX9_pull_X1 hown hK.1 hP 1 rfl rfl 11 (by decide) (hts _ kX9_pull_187) (fun _ h9 => h9) rfl dX9_pull_29 ?_
      refine lv_iload_n hx hb dX9_pull_32 rfl (lv_at hl 3 rfl) ?_
      obtain ⟨h_6, hF⟩ := it_ck hF
      refine va_iald hx hb hK.1 hP 3 0 rfl rfl h_6 dX9_pull_33 ?_
      refine lv_iload_n hx hb dX9_pull_34 rfl (lv_at hl 1 rfl) ?_
      refine lv_icmp_ne (tgt := 69) hx hb dX9_pull_35 (by decide) (fun c_7 => ?_) (fun c_7 => ?_)
      · have hF := it_n c_7 hF
        refine lv_iinc (v := (x3 + (1 : Int32))) (lv' := [(3, .int (x3 + (1 : Int32))), (0, .ref a_t), (1, .int x1), (2, .int x2)]) hx hb dX9_pull_69 hl (k := 3) rfl rfl (by decide) rfl (fun ls hl => ?_)
        refine lv_goto (tgt := 14) hx hb dX9_pull_72 (by decide) ?_
        exact ih x2 (x3 + (1 : Int32)) hF _ _ _ (hP.sub [0, 1, 2, 3, 4, 5] rfl) (hD.sub [0, 1, 2, 3, 4, 5] rfl rfl) hS (lv_sub hl [1, 2, 3, 0] rfl)
      · have hF := it_p c_7 hF
        refine lv_aload_n hx hb dX9_pull_38 rfl (lv_at hl 0 rfl) ?_
        refine va_get (D := g.1) (ci := 9) (v := .ref (p_t 5)) (C := RX9) (T := TX9) (N := 15) hx hb hts iX9_pull_X9 hown hK.1 hP 0 rfl rfl 5 (by decide) (hts _ kX9_pull_37) (fun _ h9 => h9) rfl dX9_pull_39 ?_
        refine lv_aload_n hx hb dX9_pull_42 rfl (lv_at hl 0 rfl) ?_
        refine va_get (D := g.1) (ci := 9) (v := .ref (p_t 1)) (C := RX9) (T := TX9) (N := 15) hx hb hts iX9_pull_X9 hown hK.1 hP 0 rfl rfl 1 (by decide) (hts _ kX9_pull_19) (fun _ h9 => h9) rfl dX9_pull_43 ?_
        refine va_get (D := g.1) (ci := 1) (v := .ref (p_t_1 10)) (C := RX1) (T := TX1) (N := 17) hx hb hts iX9_pull_X1 hown hK.1 hP 1 rfl rfl 10 (by decide) (hts _ kX9_pull_190) (fun _ h9 => h9) rfl dX9_pull_46 ?_
        refine lv_iload_n hx hb dX9_pull_49 rfl (lv_at hl 3 rfl) ?_
        obtain ⟨h_8, hF⟩ := it_ck hF
        refine va_iald hx hb hK.1 hP 2 0 rfl rfl h_8 dX9_pull_50 ?_
        obtain ⟨u_9, hu_10, hF⟩ := ob1_some hF
        refine call_i (wr := [oX9 a_t p_t o_t, oX1 (p_t 1) p_t_1 o_t_1, aI g (p_t_1 10) 8 f_t_1_10, aI g (p_t_1 11) 8 f_t_1_11, aI g (p_t_1 12) 8 f_t_1_12]) (As := [.int (f_t_1_10 (x3).toNatClampNeg)]) (rest := []) (ci := 2) (q0 := 0) C0 (mX2_has l g (p_t 5) p_t_5 n (f_t_1_10 (x3).toNatClampNeg) o_t_5 u_9 hu_10) (cwV 1 hts gX9_pull_X2_has rfl rfl rfl (by decide +kernel) ⟨Nat.le_of_ble_eq_true rfl, Nat.le_of_ble_eq_true rfl⟩) hP hD hS [5] [0, 1, 2, 3, 4] rfl rfl rfl rfl rfl (by decide) rfl rfl hl.1 rfl rfl (Nat.le_of_ble_eq_true rfl) ⟨Nat.zero_le _, Nat.zero_le _⟩ dX9_pull_51 ?_
        intro H locs hP hD hS
        refine lv_if_eq (tgt := 69) hx hb dX9_pull_54 (by decide) (fun c_11 => ?_) (fun c_11 => ?_)
        · have hF := it_p c_11 hF
          refine lv_iinc (v := (x3 + (1 : Int32))) (lv' := [(3, .int (x3 + (1 : Int32))), (0, .ref a_t), (1, .int x1), (2, .int x2)]) hx hb dX9_pull_69 hl (k := 3) rfl rfl (by decide) rfl (fun ls hl => ?_)
          refine lv_goto (tgt := 14) hx hb dX9_pull_72 (by decide) ?_
          exact ih x2 (x3 + (1 : Int32)) hF _ _ _ (hP.sub [0, 1, 2, 3, 4, 5] rfl) (hD.sub [0, 1, 2, 3, 4, 5] rfl rfl) hS (lv_sub hl [1, 2, 3, 0] rfl)
        · have hF := it_n c_11 hF
          refine lv_iload_n hx hb dX9_pull_57 rfl (lv_at hl 2 rfl) ?_
          refine lv_aload_n hx hb dX9_pull_58 rfl (lv_at hl 0 rfl) ?_
          refine va_get (D := g.1) (ci := 9) (v := .ref (p_t 1)) (C := RX9) (T := TX9) (N := 15) hx hb hts iX9_pull_X9 hown hK.1 hP 0 rfl rfl 1 (by decide) (hts _ kX9_pull_19) (fun _ h9 => h9) rfl dX9_pull_59 ?_
          refine va_get (D := g.1) (ci := 1) (v := .ref (p_t_1 12)) (C := RX1) (T := TX1) (N := 17) hx hb hts iX9_pull_X1 hown hK.1 hP 1 rfl rfl 12 (by decide) (hts _ kX9_pull_150) (fun _ h9 => h9) rfl dX9_pull_62 ?_
          refine lv_iload_n hx hb dX9_pull_65 rfl (lv_at hl 3 rfl) ?_
          obtain ⟨h_12, hF⟩ := it_ck hF
          refine va_iald hx hb hK.1 hP 4 0 rfl rfl h_12 dX9_pull_66 ?_
          refine lv_iadd hx hb dX9_pull_67 ?_
          refine lv_istore_n (lv' := [(2, .int (x2 + (f_t_1_12 (x3).toNatClampNeg))), (0, .ref a_t), (1, .int x1), (3, .int x3)]) hx hb dX9_pull_68 rfl hl (by decide) rfl (fun ls hl => ?_)
          refine lv_iinc (v := (x3 + (1 : Int32))) (lv' := [(3, .int (x3 + (1 : Int32))), (2, .int (x2 + (f_t_1_12 (x3).toNatClampNeg))), (0, .ref a_t), (1, .int x1)]) hx hb dX9_pull_69 hl (k := 3) rfl rfl (by decide) rfl (fun ls hl => ?_)
          refine lv_goto (tgt := 14) hx hb dX9_pull_72 (by decide) ?_
          exact ih (x2 + (f_t_1_12 (x3).toNatClampNeg)) (x3 + (1 : Int32)) hF _ _ _ (hP.sub [0, 1, 2, 3, 4, 5] rfl) (hD.sub [0, 1, 2, 3, 4, 5] rfl rfl) hS (lv_sub hl [2, 3, 1, 0] rfl)
set_option maxHeartbeats 4000000 in
set_option maxRecDepth 100000 in
theorem mX9_pull (l : Launch) (g : GG) (a_t : Nat) (p_t : Nat → Nat) (p_t_1 : Nat → Nat) (p_t_5 : Nat → Nat) (n : Nat) (x1 : Int32) (o_t : Nat → Int32) (o_t_1 : Nat → Int32) (f_t_1_10 : Nat → Int32) (f_t_1_11 : Nat → Int32) (f_t_1_12 : Nat → Int32) (o_t_5 : Nat → Int32) (r : Int32) (o_t' : Nat → Int32) (hF : fX9_pull n x1 o_t o_t_1 f_t_1_10 f_t_1_11 f_t_1_12 o_t_5 = some (r, o_t')) : MI l g yX9_pull wsX9_pull ({ frames := 2, cells := 0, slots := 0, locals := 42 } : Room) [.ref a_t, .int x1] [oX9 a_t p_t o_t, oX1 (p_t 1) p_t_1 o_t_1, aI g (p_t_1 10) 8 f_t_1_10, aI g (p_t_1 11) 8 f_t_1_11, aI g (p_t_1 12) 8 f_t_1_12, oX2 (p_t 5) p_t_5 o_t_5] r [oX9 a_t p_t o_t', oX1 (p_t 1) p_t_1 o_t_1, aI g (p_t_1 10) 8 f_t_1_10, aI g (p_t_1 11) 8 f_t_1_11, aI g (p_t_1 12) 8 f_t_1_12, oX2 (p_t 5) p_t_5 o_t_5] := by
  refine MI.of (cc := cX9_pull) (maxL := 4) (rt := .int) (own := RX9) rfl rfl (by decide) (Nat.le_of_ble_eq_true rfl) ?_
  intro p e s m args below meth c A C0 hP hD hS ls hl
  obtain ⟨hx, hb, hml, hown, hts, hr, hlk, hK, hA, hSW⟩ := id C0
  have hl : lv_has ls 4 [(0, .ref a_t), (1, .int x1)] := hl
  rw [fX9_pull] at hF
  refine lv_aload_n hx hb dX9_pull_0 rfl (lv_at hl 0 rfl) ?_
  refine lv_iload_n hx hb dX9_pull_1 rfl (lv_at hl 1 rfl) ?_
  obtain ⟨u_1, u_2, hu_3, hF⟩ := ob2_some hF
  refine call_i (wr := [aI g (p_t_1 10) 8 f_t_1_10, aI g (p_t_1 11) 8 f_t_1_11, aI g (p_t_1 12) 8 f_t_1_12, oX2 (p_t 5) p_t_5 o_t_5]) (As := [.int x1]) (rest := []) (ci := 9) (q0 := 0) C0 (mX9_guestAsked l g a_t p_t p_t_1 n x1 o_t o_t_1 u_1 u_2 hu_3) (cwV 1 hts gX9_pull_X9_guestAsked rfl rfl rfl (by decide +kernel) ⟨Nat.le_of_ble_eq_true rfl, Nat.le_of_ble_eq_true rfl⟩) hP hD hS [0, 1] [2, 3, 4, 5] rfl rfl rfl rfl rfl (by decide) rfl rfl hl.1 rfl rfl (Nat.le_of_ble_eq_true rfl) ⟨Nat.zero_le _, Nat.zero_le _⟩ dX9_pull_2 ?_
  intro H locs hP hD hS
  refine lv_if_ne (tgt := 10) hx hb dX9_pull_5 (by decide) (fun c_4 => ?_) (fun c_4 => ?_)
  · have hF := it_n c_4 hF
    refine lv_iconst (v := (0 : Int32)) hx hb dX9_pull_10 (by decide) ?_
    refine lv_istore_n (lv' := [(2, .int (0 : Int32)), (0, .ref a_t), (1, .int x1)]) hx hb dX9_pull_11 rfl hl (by decide) rfl (fun ls hl => ?_)
    refine lv_iconst (v := (0 : Int32)) hx hb dX9_pull_12 (by decide) ?_
    refine lv_istore_n (lv' := [(3, .int (0 : Int32)), (2, .int (0 : Int32)), (0, .ref a_t), (1, .int x1)]) hx hb dX9_pull_13 rfl hl (by decide) rfl (fun ls hl => ?_)
    refine wX9_pull_L14 C0 a_t p_t p_t_1 p_t_5 n x1 u_2 o_t_1 f_t_1_10 f_t_1_11 f_t_1_12 o_t_5 r o_t' _ ?_ n (0 : Int32) (0 : Int32) hF _ _ _ (hP.sub [4, 5, 0, 1, 2, 3] rfl) (hD.sub [4, 5, 0, 1, 2, 3] rfl rfl) hS (lv_sub hl [2, 3, 1, 0] rfl)
    · intro x2_x14 H locs ls hF hP hD hS hl
      refine lv_iload_n hx hb dX9_pull_75 rfl (lv_at hl 0 rfl) ?_
      cases hF
      exact ret_i C0 hP hD hS [0, 1, 2, 3, 4, 5] rfl rfl rfl dX9_pull_76 rfl
  · have hF := it_p c_4 hF
    refine lv_iconst (v := (-1 : Int32)) hx hb dX9_pull_8 (by decide) ?_
    cases hF
    exact ret_i C0 hP hD hS [4, 5, 0, 1, 2, 3] rfl rfl rfl dX9_pull_9 rfl

theorem dAX9_leavesIn : ∀ q ∈ ([(0, (.aload_n 0, 1)), (1, (.iload_n 1, 1)), (2, (.invokevirtual 118, 3)), (5, (.ifCond .ne 5, 3)), (8, (.iconst (-1), 1)), (9, (.ireturn, 1)), (10, (.aload_n 0, 1)), (11, (.getfield 41, 3)), (14, (.aload_n 0, 1)), (15, (.getfield 37, 3)), (18, (.invokevirtual 160, 3)), (21, (.iconst 0, 1)), (22, (.istore_n 2, 1)), (23, (.aload_n 0, 1)), (24, (.getfield 41, 3)), (27, (.iload_n 1, 1)), (28, (.invokevirtual 133, 3)), (31, (.ifCond .eq 31, 3)), (34, (.iload_n 2, 1)), (35, (.bipush 60, 2)), (37, (.if_icmp .ge 25, 3)), (40, (.aload_n 0, 1)), (41, (.getfield 41, 3)), (44, (.aload_n 0, 1)), (45, (.getfield 19, 3)), (48, (.aload_n 0, 1)), (49, (.getfield 49, 3)), (52, (.invokevirtual 164, 3)), (55, (.pop, 1)), (56, (.iinc 2 1, 3)), (59, (.goto (-36), 3)), (62, (.aload_n 0, 1)), (63, (.getfield 41, 3)), (66, (.iload_n 1, 1)), (67, (.invokevirtual 133, 3)), (70, (.ifCond .eq 8, 3)), (73, (.bipush (-2), 2)), (75, (.goto 4, 3)), (78, (.iload_n 2, 1)), (79, (.ireturn, 1))] : List (Nat × (Instr × Nat))), decode cX9_leavesIn q.1 = .ok q.2 := by decide +kernel
theorem dX9_leavesIn_0 : decode cX9_leavesIn 0 = .ok (.aload_n 0, 1) := dAX9_leavesIn (0, (.aload_n 0, 1)) (List.mem_of_getElem? (i := 0) rfl)
theorem dX9_leavesIn_1 : decode cX9_leavesIn 1 = .ok (.iload_n 1, 1) := dAX9_leavesIn (1, (.iload_n 1, 1)) (List.mem_of_getElem? (i := 1) rfl)
theorem dX9_leavesIn_2 : decode cX9_leavesIn 2 = .ok (.invokevirtual 118, 3) := dAX9_leavesIn (2, (.invokevirtual 118, 3)) (List.mem_of_getElem? (i := 2) rfl)
theorem dX9_leavesIn_5 : decode cX9_leavesIn 5 = .ok (.ifCond .ne 5, 3) := dAX9_leavesIn (5, (.ifCond .ne 5, 3)) (List.mem_of_getElem? (i := 3) rfl)
theorem dX9_leavesIn_8 : decode cX9_leavesIn 8 = .ok (.iconst (-1), 1) := dAX9_leavesIn (8, (.iconst (-1), 1)) (List.mem_of_getElem? (i := 4) rfl)
theorem dX9_leavesIn_9 : decode cX9_leavesIn 9 = .ok (.ireturn, 1) := dAX9_leavesIn (9, (.ireturn, 1)) (List.mem_of_getElem? (i := 5) rfl)
theorem dX9_leavesIn_10 : decode cX9_leavesIn 10 = .ok (.aload_n 0, 1) := dAX9_leavesIn (10, (.aload_n 0, 1)) (List.mem_of_getElem? (i := 6) rfl)
theorem dX9_leavesIn_11 : decode cX9_leavesIn 11 = .ok (.getfield 41, 3) := dAX9_leavesIn (11, (.getfield 41, 3)) (List.mem_of_getElem? (i := 7) rfl)
theorem dX9_leavesIn_14 : decode cX9_leavesIn 14 = .ok (.aload_n 0, 1) := dAX9_leavesIn (14, (.aload_n 0, 1)) (List.mem_of_getElem? (i := 8) rfl)
theorem dX9_leavesIn_15 : decode cX9_leavesIn 15 = .ok (.getfield 37, 3) := dAX9_leavesIn (15, (.getfield 37, 3)) (List.mem_of_getElem? (i := 9) rfl)
theorem dX9_leavesIn_18 : decode cX9_leavesIn 18 = .ok (.invokevirtual 160, 3) := dAX9_leavesIn (18, (.invokevirtual 160, 3)) (List.mem_of_getElem? (i := 10) rfl)
theorem dX9_leavesIn_21 : decode cX9_leavesIn 21 = .ok (.iconst 0, 1) := dAX9_leavesIn (21, (.iconst 0, 1)) (List.mem_of_getElem? (i := 11) rfl)
theorem dX9_leavesIn_22 : decode cX9_leavesIn 22 = .ok (.istore_n 2, 1) := dAX9_leavesIn (22, (.istore_n 2, 1)) (List.mem_of_getElem? (i := 12) rfl)
theorem dX9_leavesIn_23 : decode cX9_leavesIn 23 = .ok (.aload_n 0, 1) := dAX9_leavesIn (23, (.aload_n 0, 1)) (List.mem_of_getElem? (i := 13) rfl)
theorem dX9_leavesIn_24 : decode cX9_leavesIn 24 = .ok (.getfield 41, 3) := dAX9_leavesIn (24, (.getfield 41, 3)) (List.mem_of_getElem? (i := 14) rfl)
theorem dX9_leavesIn_27 : decode cX9_leavesIn 27 = .ok (.iload_n 1, 1) := dAX9_leavesIn (27, (.iload_n 1, 1)) (List.mem_of_getElem? (i := 15) rfl)
theorem dX9_leavesIn_28 : decode cX9_leavesIn 28 = .ok (.invokevirtual 133, 3) := dAX9_leavesIn (28, (.invokevirtual 133, 3)) (List.mem_of_getElem? (i := 16) rfl)
theorem dX9_leavesIn_31 : decode cX9_leavesIn 31 = .ok (.ifCond .eq 31, 3) := dAX9_leavesIn (31, (.ifCond .eq 31, 3)) (List.mem_of_getElem? (i := 17) rfl)
theorem dX9_leavesIn_34 : decode cX9_leavesIn 34 = .ok (.iload_n 2, 1) := dAX9_leavesIn (34, (.iload_n 2, 1)) (List.mem_of_getElem? (i := 18) rfl)
theorem dX9_leavesIn_35 : decode cX9_leavesIn 35 = .ok (.bipush 60, 2) := dAX9_leavesIn (35, (.bipush 60, 2)) (List.mem_of_getElem? (i := 19) rfl)
theorem dX9_leavesIn_37 : decode cX9_leavesIn 37 = .ok (.if_icmp .ge 25, 3) := dAX9_leavesIn (37, (.if_icmp .ge 25, 3)) (List.mem_of_getElem? (i := 20) rfl)
theorem dX9_leavesIn_40 : decode cX9_leavesIn 40 = .ok (.aload_n 0, 1) := dAX9_leavesIn (40, (.aload_n 0, 1)) (List.mem_of_getElem? (i := 21) rfl)
theorem dX9_leavesIn_41 : decode cX9_leavesIn 41 = .ok (.getfield 41, 3) := dAX9_leavesIn (41, (.getfield 41, 3)) (List.mem_of_getElem? (i := 22) rfl)
theorem dX9_leavesIn_44 : decode cX9_leavesIn 44 = .ok (.aload_n 0, 1) := dAX9_leavesIn (44, (.aload_n 0, 1)) (List.mem_of_getElem? (i := 23) rfl)
theorem dX9_leavesIn_45 : decode cX9_leavesIn 45 = .ok (.getfield 19, 3) := dAX9_leavesIn (45, (.getfield 19, 3)) (List.mem_of_getElem? (i := 24) rfl)
theorem dX9_leavesIn_48 : decode cX9_leavesIn 48 = .ok (.aload_n 0, 1) := dAX9_leavesIn (48, (.aload_n 0, 1)) (List.mem_of_getElem? (i := 25) rfl)
theorem dX9_leavesIn_49 : decode cX9_leavesIn 49 = .ok (.getfield 49, 3) := dAX9_leavesIn (49, (.getfield 49, 3)) (List.mem_of_getElem? (i := 26) rfl)
theorem dX9_leavesIn_52 : decode cX9_leavesIn 52 = .ok (.invokevirtual 164, 3) := dAX9_leavesIn (52, (.invokevirtual 164, 3)) (List.mem_of_getElem? (i := 27) rfl)
theorem dX9_leavesIn_55 : decode cX9_leavesIn 55 = .ok (.pop, 1) := dAX9_leavesIn (55, (.pop, 1)) (List.mem_of_getElem? (i := 28) rfl)
theorem dX9_leavesIn_56 : decode cX9_leavesIn 56 = .ok (.iinc 2 1, 3) := dAX9_leavesIn (56, (.iinc 2 1, 3)) (List.mem_of_getElem? (i := 29) rfl)
theorem dX9_leavesIn_59 : decode cX9_leavesIn 59 = .ok (.goto (-36), 3) := dAX9_leavesIn (59, (.goto (-36), 3)) (List.mem_of_getElem? (i := 30) rfl)
theorem dX9_leavesIn_62 : decode cX9_leavesIn 62 = .ok (.aload_n 0, 1) := dAX9_leavesIn (62, (.aload_n 0, 1)) (List.mem_of_getElem? (i := 31) rfl)
theorem dX9_leavesIn_63 : decode cX9_leavesIn 63 = .ok (.getfield 41, 3) := dAX9_leavesIn (63, (.getfield 41, 3)) (List.mem_of_getElem? (i := 32) rfl)
theorem dX9_leavesIn_66 : decode cX9_leavesIn 66 = .ok (.iload_n 1, 1) := dAX9_leavesIn (66, (.iload_n 1, 1)) (List.mem_of_getElem? (i := 33) rfl)
theorem dX9_leavesIn_67 : decode cX9_leavesIn 67 = .ok (.invokevirtual 133, 3) := dAX9_leavesIn (67, (.invokevirtual 133, 3)) (List.mem_of_getElem? (i := 34) rfl)
theorem dX9_leavesIn_70 : decode cX9_leavesIn 70 = .ok (.ifCond .eq 8, 3) := dAX9_leavesIn (70, (.ifCond .eq 8, 3)) (List.mem_of_getElem? (i := 35) rfl)
theorem dX9_leavesIn_73 : decode cX9_leavesIn 73 = .ok (.bipush (-2), 2) := dAX9_leavesIn (73, (.bipush (-2), 2)) (List.mem_of_getElem? (i := 36) rfl)
theorem dX9_leavesIn_75 : decode cX9_leavesIn 75 = .ok (.goto 4, 3) := dAX9_leavesIn (75, (.goto 4, 3)) (List.mem_of_getElem? (i := 37) rfl)
theorem dX9_leavesIn_78 : decode cX9_leavesIn 78 = .ok (.iload_n 2, 1) := dAX9_leavesIn (78, (.iload_n 2, 1)) (List.mem_of_getElem? (i := 38) rfl)
theorem dX9_leavesIn_79 : decode cX9_leavesIn 79 = .ok (.ireturn, 1) := dAX9_leavesIn (79, (.ireturn, 1)) (List.mem_of_getElem? (i := 39) rfl)
set_option maxRecDepth 20000 in
theorem ggX9_leavesIn_X9_guestAsked : GoodIn wsX9_leavesIn wsX9_guestAsked := goodIn_r _ [9, 3, 10, 11, 76, 77, 78, 79, 80, 81, 82, 83, 84, 85, 86, 87, 88, 89, 90, 91, 92, 93, 94, 95, 96, 97, 98, 99, 100, 101, 102, 103, 104, 105, 106, 107] rfl (by decide +kernel)
set_option maxRecDepth 20000 in
theorem gX9_leavesIn_X9_guestAsked : GoodIn wsX9_leavesIn (wsV RX9 118 RX9 yX9_guestAsked wsX9_guestAsked) := goodIn_app (goodIn_of _ (by decide +kernel)) ggX9_leavesIn_X9_guestAsked
set_option maxRecDepth 20000 in
theorem ggX9_leavesIn_X2_become : GoodIn wsX9_leavesIn wsX2_become := goodIn_r _ [16, 17, 18, 19, 20, 21, 22, 23, 24, 25, 26, 108, 109, 110, 111, 112, 113, 114, 115, 116] rfl (by decide +kernel)
set_option maxRecDepth 20000 in
theorem gX9_leavesIn_X2_become : GoodIn wsX9_leavesIn (wsV RX9 160 RX2 yX2_become wsX2_become) := goodIn_app (goodIn_of _ (by decide +kernel)) ggX9_leavesIn_X2_become
set_option maxRecDepth 20000 in
theorem ggX9_leavesIn_X2_has : GoodIn wsX9_leavesIn wsX2_has := goodIn_r _ [30, 18, 31, 8, 32, 108, 109, 110, 111, 112, 113, 114, 115, 116] rfl (by decide +kernel)
set_option maxRecDepth 20000 in
theorem gX9_leavesIn_X2_has : GoodIn wsX9_leavesIn (wsV RX9 133 RX2 yX2_has wsX2_has) := goodIn_app (goodIn_of _ (by decide +kernel)) ggX9_leavesIn_X2_has
set_option maxRecDepth 20000 in
theorem ggX9_leavesIn_X2_pass : GoodIn wsX9_leavesIn wsX2_pass := goodIn_r _ [36, 17, 37, 38, 39, 15, 40, 41, 42, 18, 21, 43, 44, 45, 46, 47, 48, 49, 50, 51, 52, 53, 54, 55, 56, 57, 58, 59, 60, 61, 62, 63, 64, 65, 66, 67, 68, 69, 70, 71, 72, 73, 26, 74, 75, 108, 109, 110, 111, 112, 113, 114, 115, 116, 91, 92, 93, 94, 95, 96, 97, 98, 99, 100, 101, 102, 103, 104, 105, 106, 107, 117, 118] rfl (by decide +kernel)
set_option maxRecDepth 20000 in
theorem gX9_leavesIn_X2_pass : GoodIn wsX9_leavesIn (wsV RX9 164 RX2 yX2_pass wsX2_pass) := goodIn_app (goodIn_of _ (by decide +kernel)) ggX9_leavesIn_X2_pass
theorem kX9_leavesIn_41 : Cond.fieldLink RX9 41 "EveningVow" "trial" "LEveningVow$Night;" ∈ wsX9_leavesIn := List.mem_of_getElem? (i := 1) rfl
theorem iX9_leavesIn_X9 : ∀ w ∈ u_ws RX9 TX9 15, w ∈ wsX9_leavesIn := fun w h => (List.mem_cons_of_mem _ (List.mem_append_left _ (List.mem_append_left _ (List.mem_append_left _ (List.mem_append_right _ h)))))
theorem kX9_leavesIn_37 : Cond.fieldLink RX9 37 "EveningVow" "now" "LEveningVow$Night;" ∈ wsX9_leavesIn := List.mem_of_getElem? (i := 2) rfl
theorem kX9_leavesIn_19 : Cond.fieldLink RX9 19 "EveningVow" "told" "LEveningVow$House;" ∈ wsX9_leavesIn := List.mem_of_getElem? (i := 3) rfl
theorem kX9_leavesIn_49 : Cond.fieldLink RX9 49 "EveningVow" "asTold" "LEveningVow$Pace;" ∈ wsX9_leavesIn := List.mem_of_getElem? (i := 4) rfl
set_option maxHeartbeats 4000000 in
set_option maxRecDepth 100000 in
theorem wX9_leavesIn_L23 {p : Program} {l : Launch} {e : Env} {s : State} {m : MethodId} {args : Array Value} {below : List Frame} {meth : Method} {c : Code} {g : GG} {A : Nat → Prop} (C0 : Cx p s m args meth c cX9_leavesIn 3 (some .int) RX9 wsX9_leavesIn g A) (a_t : Nat) (p_t : Nat → Nat) (p_t_1 : Nat → Nat) (p_t_5 : Nat → Nat) (p_t_6 : Nat → Nat) (p_t_7 : Nat → Nat) (n : Nat) (x1 : Int32) (o_t : Nat → Int32) (o_t_1 : Nat → Int32) (f_t_1_4 : Nat → Int32) (f_t_1_6 : Nat → Int32) (f_t_1_7 : Nat → Int32) (f_t_1_10 : Nat → Int32) (f_t_1_11 : Nat → Int32) (f_t_1_12 : Nat → Int32) (o_t_5 : Nat → Int32) (f_t_5_6 : Nat → Int32) (f_t_5_7 : Nat → Int32) (r : Int32) (o_t' : Nat → Int32) (o_t_6' : Nat → Int32) (f_t_6_6' : Nat → Int32) (f_t_6_7' : Nat → Int32) (f_t_6_8' : Nat → Int32) (o_t_7' : Nat → Int32) (K : Int32 → (Nat → Int32) → (Nat → Int32) → (Nat → Int32) → (Nat → Int32) → (Nat → Int32) → Option (Int32 × (Nat → Int32) × (Nat → Int32) × (Nat → Int32) × (Nat → Int32) × (Nat → Int32) × (Nat → Int32))) (hKx : ∀ (x2 : Int32) (o_t_6 : Nat → Int32) (f_t_6_6 : Nat → Int32) (f_t_6_7 : Nat → Int32) (f_t_6_8 : Nat → Int32) (o_t_7 : Nat → Int32) (H : Heap) (locs : List Loc) (ls : Array Slot), K x2 o_t_6 f_t_6_6 f_t_6_7 f_t_6_8 o_t_7 = some (r, o_t', o_t_6', f_t_6_6', f_t_6_7', f_t_6_8', o_t_7') → va_P g.1 vwCl [oX9 a_t p_t o_t, oX1 (p_t 1) p_t_1 o_t_1, aI g (p_t_1 4) 7 f_t_1_4, aI g (p_t_1 6) 7 f_t_1_6, aI g (p_t_1 7) 7 f_t_1_7, aI g (p_t_1 10) 8 f_t_1_10, aI g (p_t_1 11) 8 f_t_1_11, aI g (p_t_1 12) 8 f_t_1_12, oX2 (p_t 5) p_t_5 o_t_5, aI g (p_t_5 6) 7 f_t_5_6, aI g (p_t_5 7) 7 f_t_5_7, oX2 (p_t 6) p_t_6 o_t_6, aI g (p_t_6 6) 7 f_t_6_6, aI g (p_t_6 7) 7 f_t_6_7, aI g (p_t_6 8) 7 f_t_6_8, oX3 (p_t 7) p_t_7 o_t_7] H → va_D A [oX9 a_t p_t o_t, oX1 (p_t 1) p_t_1 o_t_1, aI g (p_t_1 4) 7 f_t_1_4, aI g (p_t_1 6) 7 f_t_1_6, aI g (p_t_1 7) 7 f_t_1_7, aI g (p_t_1 10) 8 f_t_1_10, aI g (p_t_1 11) 8 f_t_1_11, aI g (p_t_1 12) 8 f_t_1_12, oX2 (p_t 5) p_t_5 o_t_5, aI g (p_t_5 6) 7 f_t_5_6, aI g (p_t_5 7) 7 f_t_5_7, oX2 (p_t 6) p_t_6 o_t_6, aI g (p_t_6 6) 7 f_t_6_6, aI g (p_t_6 7) 7 f_t_6_7, aI g (p_t_6 8) 7 f_t_6_8, oX3 (p_t 7) p_t_7 o_t_7] → va_S A s.heap H locs → lv_has ls 3 [(0, .ref a_t), (1, .int x1), (2, .int x2)] → W p l e ({ frames := 3, cells := 0, slots := 0, locals := 81 } : Room) s m args below meth c H locs 0 0 (MQ below (EndI g r [oX9 a_t p_t o_t', oX1 (p_t 1) p_t_1 o_t_1, aI g (p_t_1 4) 7 f_t_1_4, aI g (p_t_1 6) 7 f_t_1_6, aI g (p_t_1 7) 7 f_t_1_7, aI g (p_t_1 10) 8 f_t_1_10, aI g (p_t_1 11) 8 f_t_1_11, aI g (p_t_1 12) 8 f_t_1_12, oX2 (p_t 5) p_t_5 o_t_5, aI g (p_t_5 6) 7 f_t_5_6, aI g (p_t_5 7) 7 f_t_5_7, oX2 (p_t 6) p_t_6 o_t_6', aI g (p_t_6 6) 7 f_t_6_6', aI g (p_t_6 7) 7 f_t_6_7', aI g (p_t_6 8) 7 f_t_6_8', oX3 (p_t 7) p_t_7 o_t_7'] A) args s 0 0 A) (F0 m 62 ls [])) : ∀ (k : Nat) (x2 : Int32) (o_t_6 : Nat → Int32) (f_t_6_6 : Nat → Int32) (f_t_6_7 : Nat → Int32) (f_t_6_8 : Nat → Int32) (o_t_7 : Nat → Int32), fX9_leavesIn_L23 n x1 o_t o_t_1 f_t_1_4 f_t_1_6 f_t_1_7 f_t_1_10 f_t_1_11 f_t_1_12 K k x2 o_t_6 f_t_6_6 f_t_6_7 f_t_6_8 o_t_7 = some (r, o_t', o_t_6', f_t_6_6', f_t_6_7', f_t_6_8', o_t_7') → ∀ (H : Heap) (locs : List Loc) (ls : Array Slot), va_P g.1 vwCl [oX9 a_t p_t o_t, oX1 (p_t 1) p_t_1 o_t_1, aI g (p_t_1 4) 7 f_t_1_4, aI g (p_t_1 6) 7 f_t_1_6, aI g (p_t_1 7) 7 f_t_1_7, aI g (p_t_1 10) 8 f_t_1_10, aI g (p_t_1 11) 8 f_t_1_11, aI g (p_t_1 12) 8 f_t_1_12, oX2 (p_t 5) p_t_5 o_t_5, aI g (p_t_5 6) 7 f_t_5_6, aI g (p_t_5 7) 7 f_t_5_7, oX2 (p_t 6) p_t_6 o_t_6, aI g (p_t_6 6) 7 f_t_6_6, aI g (p_t_6 7) 7 f_t_6_7, aI g (p_t_6 8) 7 f_t_6_8, oX3 (p_t 7) p_t_7 o_t_7] H → va_D A [oX9 a_t p_t o_t, oX1 (p_t 1) p_t_1 o_t_1, aI g (p_t_1 4) 7 f_t_1_4, aI g (p_t_1 6) 7 f_t_1_6, aI g (p_t_1 7) 7 f_t_1_7, aI g (p_t_1 10) 8 f_t_1_10, aI g (p_t_1 11) 8 f_t_1_11, aI g (p_t_1 12) 8 f_t_1_12, oX2 (p_t 5) p_t_5 o_t_5, aI g (p_t_5 6) 7 f_t_5_6, aI g (p_t_5 7) 7 f_t_5_7, oX2 (p_t 6) p_t_6 o_t_6, aI g (p_t_6 6) 7 f_t_6_6, aI g (p_t_6 7) 7 f_t_6_7, aI g (p_t_6 8) 7 f_t_6_8, oX3 (p_t 7) p_t_7 o_t_7] → va_S A s.heap H locs → lv_has ls 3 [(0, .ref a_t), (1, .int x1), (2, .int x2)] → W p l e ({ frames := 3, cells := 0, slots := 0, locals := 81 } : Room) s m args below meth c H locs 0 0 (MQ below (EndI g r [oX9 a_t p_t o_t', oX1 (p_t 1) p_t_1 o_t_1, aI g (p_t_1 4) 7 f_t_1_4, aI g (p_t_1 6) 7 f_t_1_6, aI g (p_t_1 7) 7 f_t_1_7, aI g (p_t_1 10) 8 f_t_1_10, aI g (p_t_1 11) 8 f_t_1_11, aI g (p_t_1 12) 8 f_t_1_12, oX2 (p_t 5) p_t_5 o_t_5, aI g (p_t_5 6) 7 f_t_5_6, aI g (p_t_5 7) 7 f_t_5_7, oX2 (p_t 6) p_t_6 o_t_6', aI g (p_t_6 6) 7 f_t_6_6', aI g (p_t_6 7) 7 f_t_6_7', aI g (p_t_6 8) 7 f_t_6_8', oX3 (p_t 7) p_t_7 o_t_7'] A) args s 0 0 A) (F0 m 23 ls []) := by
  obtain ⟨hx, hb, hml, hown, hts, hr, hlk, hK, hA, hSW⟩ := id C0
  intro k
  induction k with
  | zero =>
    intro x2 o_t_6 f_t_6_6 f_t_6_7 f_t_6_8 o_t_7 hF
    exact absurd hF (by simp [fX9_leavesIn_L23])
  | succ k ih =>
    intro x2 o_t_6 f_t_6_6 f_t_6_7 f_t_6_8 o_t_7 hF H locs ls hP hD hS hl
    rw [fX9_leavesIn_L23] at hF
    refine lv_aload_n hx hb dX9_leavesIn_23 rfl (lv_at hl 0 rfl) ?_
    refine va_get (D := g.1) (ci := 9) (v := .ref (p_t 6)) (C := RX9) (T := TX9) (N := 15) hx hb hts iX9_leavesIn_X9 hown hK.1 hP 0 rfl rfl 6 (by decide) (hts _ kX9_leavesIn_41) (fun _ h9 => h9) rfl dX9_leavesIn_24 ?_
    refine lv_iload_n hx hb dX9_leavesIn_27 rfl (lv_at hl 1 rfl) ?_
    obtain ⟨u_9, hu_10, hF⟩ := ob1_some hF
    refine call_i (wr := [oX9 a_t p_t o_t, oX1 (p_t 1) p_t_1 o_t_1, aI g (p_t_1 4) 7 f_t_1_4, aI g (p_t_1 6) 7 f_t_1_6, aI g (p_t_1 7) 7 f_t_1_7, aI g (p_t_1 10) 8 f_t_1_10, aI g (p_t_1 11) 8 f_t_1_11, aI g (p_t_1 12) 8 f_t_1_12, oX2 (p_t 5) p_t_5 o_t_5, aI g (p_t_5 6) 7 f_t_5_6, aI g (p_t_5 7) 7 f_t_5_7, aI g (p_t_6 6) 7 f_t_6_6, aI g (p_t_6 7) 7 f_t_6_7, aI g (p_t_6 8) 7 f_t_6_8, oX3 (p_t 7) p_t_7 o_t_7]) (As := [.int x1]) (rest := []) (ci := 2) (q0 := 0) C0 (mX2_has l g (p_t 6) p_t_6 n x1 o_t_6 u_9 hu_10) (cwV 1 hts gX9_leavesIn_X2_has rfl rfl rfl (by decide +kernel) ⟨Nat.le_of_ble_eq_true rfl, Nat.le_of_ble_eq_true rfl⟩) hP hD hS [11] [0, 1, 2, 3, 4, 5, 6, 7, 8, 9, 10, 12, 13, 14, 15] rfl rfl rfl rfl rfl (by decide) rfl rfl hl.1 rfl rfl (Nat.le_of_ble_eq_true rfl) ⟨Nat.zero_le _, Nat.zero_le _⟩ dX9_leavesIn_28 ?_
    intro H locs hP hD hS
    refine lv_if_eq (tgt := 62) hx hb dX9_leavesIn_31 (by decide) (fun c_11 => ?_) (fun c_11 => ?_)
    · have hF := it_p c_11 hF
      exact hKx x2 o_t_6 f_t_6_6 f_t_6_7 f_t_6_8 o_t_7 _ _ _ hF (hP.sub [0, 1, 2, 3, 4, 5, 6, 7, 8, 9, 10, 15, 11, 12, 13, 14] rfl) (hD.sub [0, 1, 2, 3, 4, 5, 6, 7, 8, 9, 10, 15, 11, 12, 13, 14] rfl rfl) hS (lv_sub hl [0, 1, 2] rfl)
    · have hF := it_n c_11 hF
      refine lv_iload_n hx hb dX9_leavesIn_34 rfl (lv_at hl 2 rfl) ?_
      refine lv_bipush (v := (60 : Int32)) hx hb dX9_leavesIn_35 (by decide) ?_
      refine lv_icmp_ge (tgt := 62) hx hb dX9_leavesIn_37 (by decide) (fun c_12 => ?_) (fun c_12 => ?_)
      · have hF := it_p c_12 hF
        exact hKx x2 o_t_6 f_t_6_6 f_t_6_7 f_t_6_8 o_t_7 _ _ _ hF (hP.sub [0, 1, 2, 3, 4, 5, 6, 7, 8, 9, 10, 15, 11, 12, 13, 14] rfl) (hD.sub [0, 1, 2, 3, 4, 5, 6, 7, 8, 9, 10, 15, 11, 12, 13, 14] rfl rfl) hS (lv_sub hl [0, 1, 2] rfl)
      · have hF := it_n c_12 hF
        refine lv_aload_n hx hb dX9_leavesIn_40 rfl (lv_at hl 0 rfl) ?_
        refine va_get (D := g.1) (ci := 9) (v := .ref (p_t 6)) (C := RX9) (T := TX9) (N := 15) hx hb hts iX9_leavesIn_X9 hown hK.1 hP 0 rfl rfl 6 (by decide) (hts _ kX9_leavesIn_41) (fun _ h9 => h9) rfl dX9_leavesIn_41 ?_
        refine lv_aload_n hx hb dX9_leavesIn_44 rfl (lv_at hl 0 rfl) ?_
        refine va_get (D := g.1) (ci := 9) (v := .ref (p_t 1)) (C := RX9) (T := TX9) (N := 15) hx hb hts iX9_leavesIn_X9 hown hK.1 hP 0 rfl rfl 1 (by decide) (hts _ kX9_leavesIn_19) (fun _ h9 => h9) rfl dX9_leavesIn_45 ?_
        refine lv_aload_n hx hb dX9_leavesIn_48 rfl (lv_at hl 0 rfl) ?_
        refine va_get (D := g.1) (ci := 9) (v := .ref (p_t 7)) (C := RX9) (T := TX9) (N := 15) hx hb hts iX9_leavesIn_X9 hown hK.1 hP 0 rfl rfl 7 (by decide) (hts _ kX9_leavesIn_49) (fun _ h9 => h9) rfl dX9_leavesIn_49 ?_
        obtain ⟨u_13, u_14, u_15, u_16, u_17, u_18, hu_19, hF⟩ := ob6_some hF
        refine call_i (wr := [oX9 a_t p_t o_t, oX2 (p_t 5) p_t_5 o_t_5, aI g (p_t_5 6) 7 f_t_5_6, aI g (p_t_5 7) 7 f_t_5_7]) (As := [.ref (p_t 1), .ref (p_t 7)]) (rest := []) (ci := 2) (q0 := 0) C0 (mX2_pass l g (p_t 6) (p_t 1) (p_t 7) p_t_6 p_t_1 p_t_7 n o_t_6 f_t_6_6 f_t_6_7 f_t_6_8 o_t_1 f_t_1_4 f_t_1_6 f_t_1_7 f_t_1_10 f_t_1_11 f_t_1_12 o_t_7 u_13 u_14 u_15 u_16 u_17 u_18 hu_19) (cwV 2 hts gX9_leavesIn_X2_pass rfl rfl rfl (by decide +kernel) ⟨Nat.le_of_ble_eq_true rfl, Nat.le_of_ble_eq_true rfl⟩) hP hD hS [15, 11, 12, 13, 1, 2, 3, 4, 5, 6, 7, 14] [0, 8, 9, 10] rfl rfl rfl rfl rfl (by decide) rfl rfl hl.1 rfl rfl (Nat.le_of_ble_eq_true rfl) ⟨Nat.zero_le _, Nat.zero_le _⟩ dX9_leavesIn_52 ?_
        intro H locs hP hD hS
        refine lv_pop hx hb dX9_leavesIn_55 rfl ?_
        refine lv_iinc (v := (x2 + (1 : Int32))) (lv' := [(2, .int (x2 + (1 : Int32))), (0, .ref a_t), (1, .int x1)]) hx hb dX9_leavesIn_56 hl (k := 2) rfl rfl (by decide) rfl (fun ls hl => ?_)
        refine lv_goto (tgt := 23) hx hb dX9_leavesIn_59 (by decide) ?_
        exact ih (x2 + (1 : Int32)) u_14 u_15 u_16 u_17 u_18 hF _ _ _ (hP.sub [0, 8, 9, 10, 11, 12, 13, 14, 1, 2, 3, 4, 5, 6, 7, 15] rfl) (hD.sub [0, 8, 9, 10, 11, 12, 13, 14, 1, 2, 3, 4, 5, 6, 7, 15] rfl rfl) hS (lv_sub hl [1, 2, 0] rfl)
set_option maxHeartbeats 4000000 in
set_option maxRecDepth 100000 in
theorem mX9_leavesIn (l : Launch) (g : GG) (a_t : Nat) (p_t : Nat → Nat) (p_t_1 : Nat → Nat) (p_t_5 : Nat → Nat) (p_t_6 : Nat → Nat) (p_t_7 : Nat → Nat) (n : Nat) (x1 : Int32) (o_t : Nat → Int32) (o_t_1 : Nat → Int32) (f_t_1_4 : Nat → Int32) (f_t_1_6 : Nat → Int32) (f_t_1_7 : Nat → Int32) (f_t_1_10 : Nat → Int32) (f_t_1_11 : Nat → Int32) (f_t_1_12 : Nat → Int32) (o_t_5 : Nat → Int32) (f_t_5_6 : Nat → Int32) (f_t_5_7 : Nat → Int32) (o_t_6 : Nat → Int32) (f_t_6_6 : Nat → Int32) (f_t_6_7 : Nat → Int32) (f_t_6_8 : Nat → Int32) (o_t_7 : Nat → Int32) (r : Int32) (o_t' : Nat → Int32) (o_t_6' : Nat → Int32) (f_t_6_6' : Nat → Int32) (f_t_6_7' : Nat → Int32) (f_t_6_8' : Nat → Int32) (o_t_7' : Nat → Int32) (hF : fX9_leavesIn n x1 o_t o_t_1 f_t_1_4 f_t_1_6 f_t_1_7 f_t_1_10 f_t_1_11 f_t_1_12 o_t_5 f_t_5_6 f_t_5_7 o_t_6 f_t_6_6 f_t_6_7 f_t_6_8 o_t_7 = some (r, o_t', o_t_6', f_t_6_6', f_t_6_7', f_t_6_8', o_t_7')) : MI l g yX9_leavesIn wsX9_leavesIn ({ frames := 3, cells := 0, slots := 0, locals := 81 } : Room) [.ref a_t, .int x1] [oX9 a_t p_t o_t, oX1 (p_t 1) p_t_1 o_t_1, aI g (p_t_1 4) 7 f_t_1_4, aI g (p_t_1 6) 7 f_t_1_6, aI g (p_t_1 7) 7 f_t_1_7, aI g (p_t_1 10) 8 f_t_1_10, aI g (p_t_1 11) 8 f_t_1_11, aI g (p_t_1 12) 8 f_t_1_12, oX2 (p_t 5) p_t_5 o_t_5, aI g (p_t_5 6) 7 f_t_5_6, aI g (p_t_5 7) 7 f_t_5_7, oX2 (p_t 6) p_t_6 o_t_6, aI g (p_t_6 6) 7 f_t_6_6, aI g (p_t_6 7) 7 f_t_6_7, aI g (p_t_6 8) 7 f_t_6_8, oX3 (p_t 7) p_t_7 o_t_7] r [oX9 a_t p_t o_t', oX1 (p_t 1) p_t_1 o_t_1, aI g (p_t_1 4) 7 f_t_1_4, aI g (p_t_1 6) 7 f_t_1_6, aI g (p_t_1 7) 7 f_t_1_7, aI g (p_t_1 10) 8 f_t_1_10, aI g (p_t_1 11) 8 f_t_1_11, aI g (p_t_1 12) 8 f_t_1_12, oX2 (p_t 5) p_t_5 o_t_5, aI g (p_t_5 6) 7 f_t_5_6, aI g (p_t_5 7) 7 f_t_5_7, oX2 (p_t 6) p_t_6 o_t_6', aI g (p_t_6 6) 7 f_t_6_6', aI g (p_t_6 7) 7 f_t_6_7', aI g (p_t_6 8) 7 f_t_6_8', oX3 (p_t 7) p_t_7 o_t_7'] := by
  refine MI.of (cc := cX9_leavesIn) (maxL := 3) (rt := .int) (own := RX9) rfl rfl (by decide) (Nat.le_of_ble_eq_true rfl) ?_
  intro p e s m args below meth c A C0 hP hD hS ls hl
  obtain ⟨hx, hb, hml, hown, hts, hr, hlk, hK, hA, hSW⟩ := id C0
  have hl : lv_has ls 3 [(0, .ref a_t), (1, .int x1)] := hl
  rw [fX9_leavesIn] at hF
  refine lv_aload_n hx hb dX9_leavesIn_0 rfl (lv_at hl 0 rfl) ?_
  refine lv_iload_n hx hb dX9_leavesIn_1 rfl (lv_at hl 1 rfl) ?_
  obtain ⟨u_1, u_2, hu_3, hF⟩ := ob2_some hF
  refine call_i (wr := [aI g (p_t_1 4) 7 f_t_1_4, aI g (p_t_1 6) 7 f_t_1_6, aI g (p_t_1 7) 7 f_t_1_7, aI g (p_t_1 10) 8 f_t_1_10, aI g (p_t_1 11) 8 f_t_1_11, aI g (p_t_1 12) 8 f_t_1_12, oX2 (p_t 5) p_t_5 o_t_5, aI g (p_t_5 6) 7 f_t_5_6, aI g (p_t_5 7) 7 f_t_5_7, oX2 (p_t 6) p_t_6 o_t_6, aI g (p_t_6 6) 7 f_t_6_6, aI g (p_t_6 7) 7 f_t_6_7, aI g (p_t_6 8) 7 f_t_6_8, oX3 (p_t 7) p_t_7 o_t_7]) (As := [.int x1]) (rest := []) (ci := 9) (q0 := 0) C0 (mX9_guestAsked l g a_t p_t p_t_1 n x1 o_t o_t_1 u_1 u_2 hu_3) (cwV 1 hts gX9_leavesIn_X9_guestAsked rfl rfl rfl (by decide +kernel) ⟨Nat.le_of_ble_eq_true rfl, Nat.le_of_ble_eq_true rfl⟩) hP hD hS [0, 1] [2, 3, 4, 5, 6, 7, 8, 9, 10, 11, 12, 13, 14, 15] rfl rfl rfl rfl rfl (by decide) rfl rfl hl.1 rfl rfl (Nat.le_of_ble_eq_true rfl) ⟨Nat.zero_le _, Nat.zero_le _⟩ dX9_leavesIn_2 ?_
  intro H locs hP hD hS
  refine lv_if_ne (tgt := 10) hx hb dX9_leavesIn_5 (by decide) (fun c_4 => ?_) (fun c_4 => ?_)
  · have hF := it_n c_4 hF
    refine lv_aload_n hx hb dX9_leavesIn_10 rfl (lv_at hl 0 rfl) ?_
    refine va_get (D := g.1) (ci := 9) (v := .ref (p_t 6)) (C := RX9) (T := TX9) (N := 15) hx hb hts iX9_leavesIn_X9 hown hK.1 hP 14 rfl rfl 6 (by decide) (hts _ kX9_leavesIn_41) (fun _ h9 => h9) rfl dX9_leavesIn_11 ?_
    refine lv_aload_n hx hb dX9_leavesIn_14 rfl (lv_at hl 0 rfl) ?_
    refine va_get (D := g.1) (ci := 9) (v := .ref (p_t 5)) (C := RX9) (T := TX9) (N := 15) hx hb hts iX9_leavesIn_X9 hown hK.1 hP 14 rfl rfl 5 (by decide) (hts _ kX9_leavesIn_37) (fun _ h9 => h9) rfl dX9_leavesIn_15 ?_
    obtain ⟨u_5, u_6, u_7, hu_8, hF⟩ := ob3_some hF
    refine call_v (wr := [aI g (p_t_1 4) 7 f_t_1_4, aI g (p_t_1 6) 7 f_t_1_6, aI g (p_t_1 7) 7 f_t_1_7, aI g (p_t_1 10) 8 f_t_1_10, aI g (p_t_1 11) 8 f_t_1_11, aI g (p_t_1 12) 8 f_t_1_12, aI g (p_t_6 8) 7 f_t_6_8, oX3 (p_t 7) p_t_7 o_t_7, oX9 a_t p_t u_2, oX1 (p_t 1) p_t_1 o_t_1]) (As := [.ref (p_t 5)]) (rest := []) (ci := 2) (q0 := 0) C0 (mX2_become l g (p_t 6) (p_t 5) p_t_6 p_t_5 n o_t_6 f_t_6_6 f_t_6_7 o_t_5 f_t_5_6 f_t_5_7 u_5 u_6 u_7 hu_8) (cwV 1 hts gX9_leavesIn_X2_become rfl rfl rfl (by decide +kernel) ⟨Nat.le_of_ble_eq_true rfl, Nat.le_of_ble_eq_true rfl⟩) hP hD hS [9, 10, 11, 6, 7, 8] [0, 1, 2, 3, 4, 5, 12, 13, 14, 15] rfl rfl rfl rfl rfl (by decide) rfl rfl hl.1 rfl rfl (Nat.le_of_ble_eq_true rfl) ⟨Nat.zero_le _, Nat.zero_le _⟩ dX9_leavesIn_18 ?_
    intro H locs hP hD hS
    refine lv_iconst (v := (0 : Int32)) hx hb dX9_leavesIn_21 (by decide) ?_
    refine lv_istore_n (lv' := [(2, .int (0 : Int32)), (0, .ref a_t), (1, .int x1)]) hx hb dX9_leavesIn_22 rfl hl (by decide) rfl (fun ls hl => ?_)
    refine wX9_leavesIn_L23 C0 a_t p_t p_t_1 p_t_5 p_t_6 p_t_7 n x1 u_2 o_t_1 f_t_1_4 f_t_1_6 f_t_1_7 f_t_1_10 f_t_1_11 f_t_1_12 o_t_5 f_t_5_6 f_t_5_7 r o_t' o_t_6' f_t_6_6' f_t_6_7' f_t_6_8' o_t_7' _ ?_ n (0 : Int32) u_5 u_6 u_7 f_t_6_8 o_t_7 hF _ _ _ (hP.sub [8, 9, 0, 1, 2, 3, 4, 5, 13, 14, 15, 10, 11, 12, 6, 7] rfl) (hD.sub [8, 9, 0, 1, 2, 3, 4, 5, 13, 14, 15, 10, 11, 12, 6, 7] rfl rfl) hS (lv_sub hl [1, 2, 0] rfl)
    · intro x2_x23 o_t_6_x23 f_t_6_6_x23 f_t_6_7_x23 f_t_6_8_x23 o_t_7_x23 H locs ls hF hP hD hS hl
      refine lv_aload_n hx hb dX9_leavesIn_62 rfl (lv_at hl 0 rfl) ?_
      refine va_get (D := g.1) (ci := 9) (v := .ref (p_t 6)) (C := RX9) (T := TX9) (N := 15) hx hb hts iX9_leavesIn_X9 hown hK.1 hP 0 rfl rfl 6 (by decide) (hts _ kX9_leavesIn_41) (fun _ h9 => h9) rfl dX9_leavesIn_63 ?_
      refine lv_iload_n hx hb dX9_leavesIn_66 rfl (lv_at hl 1 rfl) ?_
      obtain ⟨u_20, hu_21, hF⟩ := ob1_some hF
      refine call_i (wr := [oX9 a_t p_t u_2, oX1 (p_t 1) p_t_1 o_t_1, aI g (p_t_1 4) 7 f_t_1_4, aI g (p_t_1 6) 7 f_t_1_6, aI g (p_t_1 7) 7 f_t_1_7, aI g (p_t_1 10) 8 f_t_1_10, aI g (p_t_1 11) 8 f_t_1_11, aI g (p_t_1 12) 8 f_t_1_12, oX2 (p_t 5) p_t_5 o_t_5, aI g (p_t_5 6) 7 f_t_5_6, aI g (p_t_5 7) 7 f_t_5_7, aI g (p_t_6 6) 7 f_t_6_6_x23, aI g (p_t_6 7) 7 f_t_6_7_x23, aI g (p_t_6 8) 7 f_t_6_8_x23, oX3 (p_t 7) p_t_7 o_t_7_x23]) (As := [.int x1]) (rest := []) (ci := 2) (q0 := 0) C0 (mX2_has l g (p_t 6) p_t_6 n x1 o_t_6_x23 u_20 hu_21) (cwV 1 hts gX9_leavesIn_X2_has rfl rfl rfl (by decide +kernel) ⟨Nat.le_of_ble_eq_true rfl, Nat.le_of_ble_eq_true rfl⟩) hP hD hS [11] [0, 1, 2, 3, 4, 5, 6, 7, 8, 9, 10, 12, 13, 14, 15] rfl rfl rfl rfl rfl (by decide) rfl rfl hl.1 rfl rfl (Nat.le_of_ble_eq_true rfl) ⟨Nat.zero_le _, Nat.zero_le _⟩ dX9_leavesIn_67 ?_
      intro H locs hP hD hS
      refine lv_if_eq (tgt := 78) hx hb dX9_leavesIn_70 (by decide) (fun c_22 => ?_) (fun c_22 => ?_)
      · have hF := it_p c_22 hF
        refine lv_iload_n hx hb dX9_leavesIn_78 rfl (lv_at hl 2 rfl) ?_
        cases hF
        exact ret_i C0 hP hD hS [0, 1, 2, 3, 4, 5, 6, 7, 8, 9, 10, 15, 11, 12, 13, 14] rfl rfl rfl dX9_leavesIn_79 rfl
      · have hF := it_n c_22 hF
        refine lv_bipush (v := (-2 : Int32)) hx hb dX9_leavesIn_73 (by decide) ?_
        refine lv_goto (tgt := 79) hx hb dX9_leavesIn_75 (by decide) ?_
        cases hF
        exact ret_i C0 hP hD hS [0, 1, 2, 3, 4, 5, 6, 7, 8, 9, 10, 15, 11, 12, 13, 14] rfl rfl rfl dX9_leavesIn_79 rfl
  · have hF := it_p c_4 hF
    refine lv_iconst (v := (-1 : Int32)) hx hb dX9_leavesIn_8 (by decide) ?_
    cases hF
    exact ret_i C0 hP hD hS [14, 15, 0, 1, 2, 3, 4, 5, 6, 7, 8, 9, 10, 11, 12, 13] rfl rfl rfl dX9_leavesIn_9 rfl

theorem dAX9_endsAsIs : ∀ q ∈ ([(0, (.aload_n 0, 1)), (1, (.getfield 41, 3)), (4, (.aload_n 0, 1)), (5, (.getfield 37, 3)), (8, (.invokevirtual 160, 3)), (11, (.aload_n 0, 1)), (12, (.getfield 41, 3)), (15, (.aload_n 0, 1)), (16, (.getfield 19, 3)), (19, (.aload_n 0, 1)), (20, (.getfield 49, 3)), (23, (.bipush 60, 2)), (25, (.invokevirtual 219, 3)), (28, (.ireturn, 1))] : List (Nat × (Instr × Nat))), decode cX9_endsAsIs q.1 = .ok q.2 := by decide +kernel
theorem dX9_endsAsIs_0 : decode cX9_endsAsIs 0 = .ok (.aload_n 0, 1) := dAX9_endsAsIs (0, (.aload_n 0, 1)) (List.mem_of_getElem? (i := 0) rfl)
theorem dX9_endsAsIs_1 : decode cX9_endsAsIs 1 = .ok (.getfield 41, 3) := dAX9_endsAsIs (1, (.getfield 41, 3)) (List.mem_of_getElem? (i := 1) rfl)
theorem dX9_endsAsIs_4 : decode cX9_endsAsIs 4 = .ok (.aload_n 0, 1) := dAX9_endsAsIs (4, (.aload_n 0, 1)) (List.mem_of_getElem? (i := 2) rfl)
theorem dX9_endsAsIs_5 : decode cX9_endsAsIs 5 = .ok (.getfield 37, 3) := dAX9_endsAsIs (5, (.getfield 37, 3)) (List.mem_of_getElem? (i := 3) rfl)
theorem dX9_endsAsIs_8 : decode cX9_endsAsIs 8 = .ok (.invokevirtual 160, 3) := dAX9_endsAsIs (8, (.invokevirtual 160, 3)) (List.mem_of_getElem? (i := 4) rfl)
theorem dX9_endsAsIs_11 : decode cX9_endsAsIs 11 = .ok (.aload_n 0, 1) := dAX9_endsAsIs (11, (.aload_n 0, 1)) (List.mem_of_getElem? (i := 5) rfl)
theorem dX9_endsAsIs_12 : decode cX9_endsAsIs 12 = .ok (.getfield 41, 3) := dAX9_endsAsIs (12, (.getfield 41, 3)) (List.mem_of_getElem? (i := 6) rfl)
theorem dX9_endsAsIs_15 : decode cX9_endsAsIs 15 = .ok (.aload_n 0, 1) := dAX9_endsAsIs (15, (.aload_n 0, 1)) (List.mem_of_getElem? (i := 7) rfl)
theorem dX9_endsAsIs_16 : decode cX9_endsAsIs 16 = .ok (.getfield 19, 3) := dAX9_endsAsIs (16, (.getfield 19, 3)) (List.mem_of_getElem? (i := 8) rfl)
theorem dX9_endsAsIs_19 : decode cX9_endsAsIs 19 = .ok (.aload_n 0, 1) := dAX9_endsAsIs (19, (.aload_n 0, 1)) (List.mem_of_getElem? (i := 9) rfl)
theorem dX9_endsAsIs_20 : decode cX9_endsAsIs 20 = .ok (.getfield 49, 3) := dAX9_endsAsIs (20, (.getfield 49, 3)) (List.mem_of_getElem? (i := 10) rfl)
theorem dX9_endsAsIs_23 : decode cX9_endsAsIs 23 = .ok (.bipush 60, 2) := dAX9_endsAsIs (23, (.bipush 60, 2)) (List.mem_of_getElem? (i := 11) rfl)
theorem dX9_endsAsIs_25 : decode cX9_endsAsIs 25 = .ok (.invokevirtual 219, 3) := dAX9_endsAsIs (25, (.invokevirtual 219, 3)) (List.mem_of_getElem? (i := 12) rfl)
theorem dX9_endsAsIs_28 : decode cX9_endsAsIs 28 = .ok (.ireturn, 1) := dAX9_endsAsIs (28, (.ireturn, 1)) (List.mem_of_getElem? (i := 13) rfl)
set_option maxRecDepth 20000 in
theorem ggX9_endsAsIs_X2_become : GoodIn wsX9_endsAsIs wsX2_become := goodIn_r _ [9, 10, 11, 12, 13, 14, 15, 16, 17, 18, 19, 83, 84, 85, 86, 87, 88, 89, 90, 91] rfl (by decide +kernel)
set_option maxRecDepth 20000 in
theorem gX9_endsAsIs_X2_become : GoodIn wsX9_endsAsIs (wsV RX9 160 RX2 yX2_become wsX2_become) := goodIn_app (goodIn_of _ (by decide +kernel)) ggX9_endsAsIs_X2_become
set_option maxRecDepth 20000 in
theorem ggX9_endsAsIs_X2_runOut : GoodIn wsX9_endsAsIs wsX2_runOut := goodIn_r _ [23, 24, 11, 25, 26, 27, 8, 28, 10, 29, 30, 31, 32, 33, 34, 14, 35, 36, 37, 38, 39, 40, 41, 42, 43, 44, 45, 46, 47, 48, 49, 50, 51, 52, 53, 54, 55, 56, 57, 58, 59, 60, 61, 62, 63, 64, 65, 19, 66, 67, 83, 84, 85, 86, 87, 88, 89, 90, 91, 92, 93, 94, 95, 96, 97, 98, 99, 100, 101, 102, 103, 104, 105, 106, 107, 108, 109, 110] rfl (by decide +kernel)
set_option maxRecDepth 20000 in
theorem gX9_endsAsIs_X2_runOut : GoodIn wsX9_endsAsIs (wsV RX9 219 RX2 yX2_runOut wsX2_runOut) := goodIn_app (goodIn_of _ (by decide +kernel)) ggX9_endsAsIs_X2_runOut
theorem kX9_endsAsIs_41 : Cond.fieldLink RX9 41 "EveningVow" "trial" "LEveningVow$Night;" ∈ wsX9_endsAsIs := List.mem_of_getElem? (i := 1) rfl
theorem iX9_endsAsIs_X9 : ∀ w ∈ u_ws RX9 TX9 15, w ∈ wsX9_endsAsIs := fun w h => (List.mem_cons_of_mem _ (List.mem_append_left _ (List.mem_append_left _ (List.mem_append_left _ (List.mem_append_right _ h)))))
theorem kX9_endsAsIs_37 : Cond.fieldLink RX9 37 "EveningVow" "now" "LEveningVow$Night;" ∈ wsX9_endsAsIs := List.mem_of_getElem? (i := 2) rfl
theorem kX9_endsAsIs_19 : Cond.fieldLink RX9 19 "EveningVow" "told" "LEveningVow$House;" ∈ wsX9_endsAsIs := List.mem_of_getElem? (i := 3) rfl
theorem kX9_endsAsIs_49 : Cond.fieldLink RX9 49 "EveningVow" "asTold" "LEveningVow$Pace;" ∈ wsX9_endsAsIs := List.mem_of_getElem? (i := 4) rfl
set_option maxHeartbeats 4000000 in
set_option maxRecDepth 100000 in
theorem mX9_endsAsIs (l : Launch) (g : GG) (a_t : Nat) (p_t : Nat → Nat) (p_t_1 : Nat → Nat) (p_t_5 : Nat → Nat) (p_t_6 : Nat → Nat) (p_t_7 : Nat → Nat) (n : Nat) (o_t : Nat → Int32) (o_t_1 : Nat → Int32) (f_t_1_4 : Nat → Int32) (f_t_1_6 : Nat → Int32) (f_t_1_7 : Nat → Int32) (f_t_1_10 : Nat → Int32) (f_t_1_11 : Nat → Int32) (f_t_1_12 : Nat → Int32) (o_t_5 : Nat → Int32) (f_t_5_6 : Nat → Int32) (f_t_5_7 : Nat → Int32) (o_t_6 : Nat → Int32) (f_t_6_6 : Nat → Int32) (f_t_6_7 : Nat → Int32) (f_t_6_8 : Nat → Int32) (o_t_7 : Nat → Int32) (r : Int32) (o_t_6' : Nat → Int32) (f_t_6_6' : Nat → Int32) (f_t_6_7' : Nat → Int32) (f_t_6_8' : Nat → Int32) (o_t_7' : Nat → Int32) (hF : fX9_endsAsIs n o_t o_t_1 f_t_1_4 f_t_1_6 f_t_1_7 f_t_1_10 f_t_1_11 f_t_1_12 o_t_5 f_t_5_6 f_t_5_7 o_t_6 f_t_6_6 f_t_6_7 f_t_6_8 o_t_7 = some (r, o_t_6', f_t_6_6', f_t_6_7', f_t_6_8', o_t_7')) : MI l g yX9_endsAsIs wsX9_endsAsIs ({ frames := 4, cells := 0, slots := 0, locals := 95 } : Room) [.ref a_t] [oX9 a_t p_t o_t, oX1 (p_t 1) p_t_1 o_t_1, aI g (p_t_1 4) 7 f_t_1_4, aI g (p_t_1 6) 7 f_t_1_6, aI g (p_t_1 7) 7 f_t_1_7, aI g (p_t_1 10) 8 f_t_1_10, aI g (p_t_1 11) 8 f_t_1_11, aI g (p_t_1 12) 8 f_t_1_12, oX2 (p_t 5) p_t_5 o_t_5, aI g (p_t_5 6) 7 f_t_5_6, aI g (p_t_5 7) 7 f_t_5_7, oX2 (p_t 6) p_t_6 o_t_6, aI g (p_t_6 6) 7 f_t_6_6, aI g (p_t_6 7) 7 f_t_6_7, aI g (p_t_6 8) 7 f_t_6_8, oX3 (p_t 7) p_t_7 o_t_7] r [oX9 a_t p_t o_t, oX1 (p_t 1) p_t_1 o_t_1, aI g (p_t_1 4) 7 f_t_1_4, aI g (p_t_1 6) 7 f_t_1_6, aI g (p_t_1 7) 7 f_t_1_7, aI g (p_t_1 10) 8 f_t_1_10, aI g (p_t_1 11) 8 f_t_1_11, aI g (p_t_1 12) 8 f_t_1_12, oX2 (p_t 5) p_t_5 o_t_5, aI g (p_t_5 6) 7 f_t_5_6, aI g (p_t_5 7) 7 f_t_5_7, oX2 (p_t 6) p_t_6 o_t_6', aI g (p_t_6 6) 7 f_t_6_6', aI g (p_t_6 7) 7 f_t_6_7', aI g (p_t_6 8) 7 f_t_6_8', oX3 (p_t 7) p_t_7 o_t_7'] := by
  refine MI.of (cc := cX9_endsAsIs) (maxL := 1) (rt := .int) (own := RX9) rfl rfl (by decide) (Nat.le_of_ble_eq_true rfl) ?_
  intro p e s m args below meth c A C0 hP hD hS ls hl
  obtain ⟨hx, hb, hml, hown, hts, hr, hlk, hK, hA, hSW⟩ := id C0
  have hl : lv_has ls 1 [(0, .ref a_t)] := hl
  rw [fX9_endsAsIs] at hF
  refine lv_aload_n hx hb dX9_endsAsIs_0 rfl (lv_at hl 0 rfl) ?_
  refine va_get (D := g.1) (ci := 9) (v := .ref (p_t 6)) (C := RX9) (T := TX9) (N := 15) hx hb hts iX9_endsAsIs_X9 hown hK.1 hP 0 rfl rfl 6 (by decide) (hts _ kX9_endsAsIs_41) (fun _ h9 => h9) rfl dX9_endsAsIs_1 ?_
  refine lv_aload_n hx hb dX9_endsAsIs_4 rfl (lv_at hl 0 rfl) ?_
  refine va_get (D := g.1) (ci := 9) (v := .ref (p_t 5)) (C := RX9) (T := TX9) (N := 15) hx hb hts iX9_endsAsIs_X9 hown hK.1 hP 0 rfl rfl 5 (by decide) (hts _ kX9_endsAsIs_37) (fun _ h9 => h9) rfl dX9_endsAsIs_5 ?_
  obtain ⟨u_1, u_2, u_3, hu_4, hF⟩ := ob3_some hF
  refine call_v (wr := [oX9 a_t p_t o_t, oX1 (p_t 1) p_t_1 o_t_1, aI g (p_t_1 4) 7 f_t_1_4, aI g (p_t_1 6) 7 f_t_1_6, aI g (p_t_1 7) 7 f_t_1_7, aI g (p_t_1 10) 8 f_t_1_10, aI g (p_t_1 11) 8 f_t_1_11, aI g (p_t_1 12) 8 f_t_1_12, aI g (p_t_6 8) 7 f_t_6_8, oX3 (p_t 7) p_t_7 o_t_7]) (As := [.ref (p_t 5)]) (rest := []) (ci := 2) (q0 := 0) C0 (mX2_become l g (p_t 6) (p_t 5) p_t_6 p_t_5 n o_t_6 f_t_6_6 f_t_6_7 o_t_5 f_t_5_6 f_t_5_7 u_1 u_2 u_3 hu_4) (cwV 1 hts gX9_endsAsIs_X2_become rfl rfl rfl (by decide +kernel) ⟨Nat.le_of_ble_eq_true rfl, Nat.le_of_ble_eq_true rfl⟩) hP hD hS [11, 12, 13, 8, 9, 10] [0, 1, 2, 3, 4, 5, 6, 7, 14, 15] rfl rfl rfl rfl rfl (by decide) rfl rfl hl.1 rfl rfl (Nat.le_of_ble_eq_true rfl) ⟨Nat.zero_le _, Nat.zero_le _⟩ dX9_endsAsIs_8 ?_
  intro H locs hP hD hS
  refine lv_aload_n hx hb dX9_endsAsIs_11 rfl (lv_at hl 0 rfl) ?_
  refine va_get (D := g.1) (ci := 9) (v := .ref (p_t 6)) (C := RX9) (T := TX9) (N := 15) hx hb hts iX9_endsAsIs_X9 hown hK.1 hP 0 rfl rfl 6 (by decide) (hts _ kX9_endsAsIs_41) (fun _ h9 => h9) rfl dX9_endsAsIs_12 ?_
  refine lv_aload_n hx hb dX9_endsAsIs_15 rfl (lv_at hl 0 rfl) ?_
  refine va_get (D := g.1) (ci := 9) (v := .ref (p_t 1)) (C := RX9) (T := TX9) (N := 15) hx hb hts iX9_endsAsIs_X9 hown hK.1 hP 0 rfl rfl 1 (by decide) (hts _ kX9_endsAsIs_19) (fun _ h9 => h9) rfl dX9_endsAsIs_16 ?_
  refine lv_aload_n hx hb dX9_endsAsIs_19 rfl (lv_at hl 0 rfl) ?_
  refine va_get (D := g.1) (ci := 9) (v := .ref (p_t 7)) (C := RX9) (T := TX9) (N := 15) hx hb hts iX9_endsAsIs_X9 hown hK.1 hP 0 rfl rfl 7 (by decide) (hts _ kX9_endsAsIs_49) (fun _ h9 => h9) rfl dX9_endsAsIs_20 ?_
  refine lv_bipush (v := (60 : Int32)) hx hb dX9_endsAsIs_23 (by decide) ?_
  obtain ⟨u_5, u_6, u_7, u_8, u_9, u_10, hu_11, hF⟩ := ob6_some hF
  refine call_i (wr := [oX9 a_t p_t o_t, oX2 (p_t 5) p_t_5 o_t_5, aI g (p_t_5 6) 7 f_t_5_6, aI g (p_t_5 7) 7 f_t_5_7]) (As := [.ref (p_t 1), .ref (p_t 7), .int (60 : Int32)]) (rest := []) (ci := 2) (q0 := 0) C0 (mX2_runOut l g (p_t 6) (p_t 1) (p_t 7) p_t_6 p_t_1 p_t_7 n (60 : Int32) u_1 u_2 u_3 f_t_6_8 o_t_1 f_t_1_4 f_t_1_6 f_t_1_7 f_t_1_10 f_t_1_11 f_t_1_12 o_t_7 u_5 u_6 u_7 u_8 u_9 u_10 hu_11) (cwV 3 hts gX9_endsAsIs_X2_runOut rfl rfl rfl (by decide +kernel) ⟨Nat.le_of_ble_eq_true rfl, Nat.le_of_ble_eq_true rfl⟩) hP hD hS [10, 11, 12, 8, 1, 2, 3, 4, 5, 6, 7, 9] [0, 13, 14, 15] rfl rfl rfl rfl rfl (by decide) rfl rfl hl.1 rfl rfl (Nat.le_of_ble_eq_true rfl) ⟨Nat.zero_le _, Nat.zero_le _⟩ dX9_endsAsIs_25 ?_
  intro H locs hP hD hS
  cases hF
  exact ret_i C0 hP hD hS [0, 8, 9, 10, 11, 12, 13, 14, 1, 2, 3, 4, 5, 6, 7, 15] rfl rfl rfl dX9_endsAsIs_28 rfl

theorem dAX9_orNot : ∀ q ∈ ([(0, (.iload_n 0, 1)), (1, (.bipush 60, 2)), (3, (.if_icmp .le 8, 3)), (6, (.bipush (-2), 2)), (8, (.goto 4, 3)), (11, (.iload_n 0, 1)), (12, (.ireturn, 1))] : List (Nat × (Instr × Nat))), decode cX9_orNot q.1 = .ok q.2 := by decide +kernel
theorem dX9_orNot_0 : decode cX9_orNot 0 = .ok (.iload_n 0, 1) := dAX9_orNot (0, (.iload_n 0, 1)) (List.mem_of_getElem? (i := 0) rfl)
theorem dX9_orNot_1 : decode cX9_orNot 1 = .ok (.bipush 60, 2) := dAX9_orNot (1, (.bipush 60, 2)) (List.mem_of_getElem? (i := 1) rfl)
theorem dX9_orNot_3 : decode cX9_orNot 3 = .ok (.if_icmp .le 8, 3) := dAX9_orNot (3, (.if_icmp .le 8, 3)) (List.mem_of_getElem? (i := 2) rfl)
theorem dX9_orNot_6 : decode cX9_orNot 6 = .ok (.bipush (-2), 2) := dAX9_orNot (6, (.bipush (-2), 2)) (List.mem_of_getElem? (i := 3) rfl)
theorem dX9_orNot_8 : decode cX9_orNot 8 = .ok (.goto 4, 3) := dAX9_orNot (8, (.goto 4, 3)) (List.mem_of_getElem? (i := 4) rfl)
theorem dX9_orNot_11 : decode cX9_orNot 11 = .ok (.iload_n 0, 1) := dAX9_orNot (11, (.iload_n 0, 1)) (List.mem_of_getElem? (i := 5) rfl)
theorem dX9_orNot_12 : decode cX9_orNot 12 = .ok (.ireturn, 1) := dAX9_orNot (12, (.ireturn, 1)) (List.mem_of_getElem? (i := 6) rfl)
set_option maxHeartbeats 4000000 in
set_option maxRecDepth 100000 in
theorem mX9_orNot (l : Launch) (g : GG)   (n : Nat) (x0 : Int32) (r : Int32) (hF : fX9_orNot n x0 = some (r)) : MI l g yX9_orNot wsX9_orNot ({ frames := 0, cells := 0, slots := 0, locals := 0 } : Room) [.int x0] [] r [] := by
  refine MI.of (cc := cX9_orNot) (maxL := 1) (rt := .int) (own := RX9) rfl rfl (by decide) (Nat.le_of_ble_eq_true rfl) ?_
  intro p e s m args below meth c A C0 hP hD hS ls hl
  obtain ⟨hx, hb, hml, hown, hts, hr, hlk, hK, hA, hSW⟩ := id C0
  have hl : lv_has ls 1 [(0, .int x0)] := hl
  rw [fX9_orNot] at hF
  refine lv_iload_n hx hb dX9_orNot_0 rfl (lv_at hl 0 rfl) ?_
  refine lv_bipush (v := (60 : Int32)) hx hb dX9_orNot_1 (by decide) ?_
  refine lv_icmp_le (tgt := 11) hx hb dX9_orNot_3 (by decide) (fun c_1 => ?_) (fun c_1 => ?_)
  · have hF := it_p c_1 hF
    refine lv_iload_n hx hb dX9_orNot_11 rfl (lv_at hl 0 rfl) ?_
    cases hF
    exact ret_i C0 hP hD hS [] rfl rfl rfl dX9_orNot_12 rfl
  · have hF := it_n c_1 hF
    refine lv_bipush (v := (-2 : Int32)) hx hb dX9_orNot_6 (by decide) ?_
    refine lv_goto (tgt := 12) hx hb dX9_orNot_8 (by decide) ?_
    cases hF
    exact ret_i C0 hP hD hS [] rfl rfl rfl dX9_orNot_12 rfl

theorem dAX9_ends : ∀ q ∈ ([(0, (.aload_n 0, 1)), (1, (.invokevirtual 153, 3)), (4, (.ifCond .eq 13, 3)), (7, (.aload_n 0, 1)), (8, (.invokevirtual 193, 3)), (11, (.invokestatic 197, 3)), (14, (.goto 4, 3)), (17, (.iconst (-1), 1)), (18, (.ireturn, 1))] : List (Nat × (Instr × Nat))), decode cX9_ends q.1 = .ok q.2 := by decide +kernel
theorem dX9_ends_0 : decode cX9_ends 0 = .ok (.aload_n 0, 1) := dAX9_ends (0, (.aload_n 0, 1)) (List.mem_of_getElem? (i := 0) rfl)
theorem dX9_ends_1 : decode cX9_ends 1 = .ok (.invokevirtual 153, 3) := dAX9_ends (1, (.invokevirtual 153, 3)) (List.mem_of_getElem? (i := 1) rfl)
theorem dX9_ends_4 : decode cX9_ends 4 = .ok (.ifCond .eq 13, 3) := dAX9_ends (4, (.ifCond .eq 13, 3)) (List.mem_of_getElem? (i := 2) rfl)
theorem dX9_ends_7 : decode cX9_ends 7 = .ok (.aload_n 0, 1) := dAX9_ends (7, (.aload_n 0, 1)) (List.mem_of_getElem? (i := 3) rfl)
theorem dX9_ends_8 : decode cX9_ends 8 = .ok (.invokevirtual 193, 3) := dAX9_ends (8, (.invokevirtual 193, 3)) (List.mem_of_getElem? (i := 4) rfl)
theorem dX9_ends_11 : decode cX9_ends 11 = .ok (.invokestatic 197, 3) := dAX9_ends (11, (.invokestatic 197, 3)) (List.mem_of_getElem? (i := 5) rfl)
theorem dX9_ends_14 : decode cX9_ends 14 = .ok (.goto 4, 3) := dAX9_ends (14, (.goto 4, 3)) (List.mem_of_getElem? (i := 6) rfl)
theorem dX9_ends_17 : decode cX9_ends 17 = .ok (.iconst (-1), 1) := dAX9_ends (17, (.iconst (-1), 1)) (List.mem_of_getElem? (i := 7) rfl)
theorem dX9_ends_18 : decode cX9_ends 18 = .ok (.ireturn, 1) := dAX9_ends (18, (.ireturn, 1)) (List.mem_of_getElem? (i := 8) rfl)
set_option maxRecDepth 20000 in
theorem ggX9_ends_X9_asked : GoodIn wsX9_ends wsX9_asked := goodIn_r _ [5, 6, 7, 82, 83, 84, 85, 86, 87, 88, 89, 90, 91, 92, 93, 94, 95, 96] rfl (by decide +kernel)
set_option maxRecDepth 20000 in
theorem gX9_ends_X9_asked : GoodIn wsX9_ends (wsV RX9 153 RX9 yX9_asked wsX9_asked) := goodIn_app (goodIn_of _ (by decide +kernel)) ggX9_ends_X9_asked
set_option maxRecDepth 20000 in
theorem ggX9_ends_X9_endsAsIs : GoodIn wsX9_ends wsX9_endsAsIs := goodIn_r _ [11, 12, 13, 14, 15, 16, 17, 18, 19, 20, 21, 22, 23, 24, 25, 26, 27, 28, 29, 30, 31, 32, 33, 34, 35, 36, 37, 38, 39, 40, 41, 42, 43, 44, 45, 46, 47, 48, 49, 50, 51, 52, 53, 54, 55, 56, 57, 58, 59, 60, 61, 62, 63, 64, 65, 66, 67, 68, 69, 70, 71, 72, 73, 74, 75, 76, 77, 78, 82, 83, 84, 85, 86, 87, 88, 89, 90, 91, 92, 93, 94, 95, 96, 97, 98, 99, 100, 101, 102, 103, 104, 105, 106, 107, 108, 109, 110, 111, 112, 113, 114, 115, 116, 117, 118, 119, 120, 121, 122, 123, 124] rfl (by decide +kernel)
set_option maxRecDepth 20000 in
theorem gX9_ends_X9_endsAsIs : GoodIn wsX9_ends (wsV RX9 193 RX9 yX9_endsAsIs wsX9_endsAsIs) := goodIn_app (goodIn_of _ (by decide +kernel)) ggX9_ends_X9_endsAsIs
set_option maxRecDepth 20000 in
theorem ggX9_ends_X9_orNot : GoodIn wsX9_ends wsX9_orNot := goodIn_r _ [81] rfl (by decide +kernel)
set_option maxRecDepth 20000 in
theorem gX9_ends_X9_orNot : GoodIn wsX9_ends (va_wsS RX9 197 yX9_orNot wsX9_orNot) := goodIn_app (goodIn_of _ (by decide +kernel)) ggX9_ends_X9_orNot
set_option maxHeartbeats 4000000 in
set_option maxRecDepth 100000 in
theorem mX9_ends (l : Launch) (g : GG) (a_t : Nat) (p_t : Nat → Nat) (p_t_1 : Nat → Nat) (p_t_5 : Nat → Nat) (p_t_6 : Nat → Nat) (p_t_7 : Nat → Nat) (n : Nat) (o_t : Nat → Int32) (o_t_1 : Nat → Int32) (f_t_1_4 : Nat → Int32) (f_t_1_6 : Nat → Int32) (f_t_1_7 : Nat → Int32) (f_t_1_10 : Nat → Int32) (f_t_1_11 : Nat → Int32) (f_t_1_12 : Nat → Int32) (o_t_5 : Nat → Int32) (f_t_5_6 : Nat → Int32) (f_t_5_7 : Nat → Int32) (o_t_6 : Nat → Int32) (f_t_6_6 : Nat → Int32) (f_t_6_7 : Nat → Int32) (f_t_6_8 : Nat → Int32) (o_t_7 : Nat → Int32) (r : Int32) (o_t' : Nat → Int32) (o_t_6' : Nat → Int32) (f_t_6_6' : Nat → Int32) (f_t_6_7' : Nat → Int32) (f_t_6_8' : Nat → Int32) (o_t_7' : Nat → Int32) (hF : fX9_ends n o_t o_t_1 f_t_1_4 f_t_1_6 f_t_1_7 f_t_1_10 f_t_1_11 f_t_1_12 o_t_5 f_t_5_6 f_t_5_7 o_t_6 f_t_6_6 f_t_6_7 f_t_6_8 o_t_7 = some (r, o_t', o_t_6', f_t_6_6', f_t_6_7', f_t_6_8', o_t_7')) : MI l g yX9_ends wsX9_ends ({ frames := 5, cells := 0, slots := 0, locals := 115 } : Room) [.ref a_t] [oX9 a_t p_t o_t, oX1 (p_t 1) p_t_1 o_t_1, aI g (p_t_1 4) 7 f_t_1_4, aI g (p_t_1 6) 7 f_t_1_6, aI g (p_t_1 7) 7 f_t_1_7, aI g (p_t_1 10) 8 f_t_1_10, aI g (p_t_1 11) 8 f_t_1_11, aI g (p_t_1 12) 8 f_t_1_12, oX2 (p_t 5) p_t_5 o_t_5, aI g (p_t_5 6) 7 f_t_5_6, aI g (p_t_5 7) 7 f_t_5_7, oX2 (p_t 6) p_t_6 o_t_6, aI g (p_t_6 6) 7 f_t_6_6, aI g (p_t_6 7) 7 f_t_6_7, aI g (p_t_6 8) 7 f_t_6_8, oX3 (p_t 7) p_t_7 o_t_7] r [oX9 a_t p_t o_t', oX1 (p_t 1) p_t_1 o_t_1, aI g (p_t_1 4) 7 f_t_1_4, aI g (p_t_1 6) 7 f_t_1_6, aI g (p_t_1 7) 7 f_t_1_7, aI g (p_t_1 10) 8 f_t_1_10, aI g (p_t_1 11) 8 f_t_1_11, aI g (p_t_1 12) 8 f_t_1_12, oX2 (p_t 5) p_t_5 o_t_5, aI g (p_t_5 6) 7 f_t_5_6, aI g (p_t_5 7) 7 f_t_5_7, oX2 (p_t 6) p_t_6 o_t_6', aI g (p_t_6 6) 7 f_t_6_6', aI g (p_t_6 7) 7 f_t_6_7', aI g (p_t_6 8) 7 f_t_6_8', oX3 (p_t 7) p_t_7 o_t_7'] := by
  refine MI.of (cc := cX9_ends) (maxL := 1) (rt := .int) (own := RX9) rfl rfl (by decide) (Nat.le_of_ble_eq_true rfl) ?_
  intro p e s m args below meth c A C0 hP hD hS ls hl
  obtain ⟨hx, hb, hml, hown, hts, hr, hlk, hK, hA, hSW⟩ := id C0
  have hl : lv_has ls 1 [(0, .ref a_t)] := hl
  rw [fX9_ends] at hF
  refine lv_aload_n hx hb dX9_ends_0 rfl (lv_at hl 0 rfl) ?_
  obtain ⟨u_1, u_2, hu_3, hF⟩ := ob2_some hF
  refine call_i (wr := [oX1 (p_t 1) p_t_1 o_t_1, aI g (p_t_1 4) 7 f_t_1_4, aI g (p_t_1 6) 7 f_t_1_6, aI g (p_t_1 7) 7 f_t_1_7, aI g (p_t_1 10) 8 f_t_1_10, aI g (p_t_1 11) 8 f_t_1_11, aI g (p_t_1 12) 8 f_t_1_12, oX2 (p_t 5) p_t_5 o_t_5, aI g (p_t_5 6) 7 f_t_5_6, aI g (p_t_5 7) 7 f_t_5_7, oX2 (p_t 6) p_t_6 o_t_6, aI g (p_t_6 6) 7 f_t_6_6, aI g (p_t_6 7) 7 f_t_6_7, aI g (p_t_6 8) 7 f_t_6_8, oX3 (p_t 7) p_t_7 o_t_7]) (As := []) (rest := []) (ci := 9) (q0 := 0) C0 (mX9_asked l g a_t p_t n o_t u_1 u_2 hu_3) (cwV 0 hts gX9_ends_X9_asked rfl rfl rfl (by decide +kernel) ⟨Nat.le_of_ble_eq_true rfl, Nat.le_of_ble_eq_true rfl⟩) hP hD hS [0] [1, 2, 3, 4, 5, 6, 7, 8, 9, 10, 11, 12, 13, 14, 15] rfl rfl rfl rfl rfl (by decide) rfl rfl hl.1 rfl rfl (Nat.le_of_ble_eq_true rfl) ⟨Nat.zero_le _, Nat.zero_le _⟩ dX9_ends_1 ?_
  intro H locs hP hD hS
  refine lv_if_eq (tgt := 17) hx hb dX9_ends_4 (by decide) (fun c_4 => ?_) (fun c_4 => ?_)
  · have hF := it_p c_4 hF
    refine lv_iconst (v := (-1 : Int32)) hx hb dX9_ends_17 (by decide) ?_
    cases hF
    exact ret_i C0 hP hD hS [15, 0, 1, 2, 3, 4, 5, 6, 7, 8, 9, 10, 11, 12, 13, 14] rfl rfl rfl dX9_ends_18 rfl
  · have hF := it_n c_4 hF
    refine lv_aload_n hx hb dX9_ends_7 rfl (lv_at hl 0 rfl) ?_
    obtain ⟨u_5, u_6, u_7, u_8, u_9, u_10, hu_11, hF⟩ := ob6_some hF
    refine call_i (wr := []) (As := []) (rest := []) (ci := 9) (q0 := 0) C0 (mX9_endsAsIs l g a_t p_t p_t_1 p_t_5 p_t_6 p_t_7 n u_2 o_t_1 f_t_1_4 f_t_1_6 f_t_1_7 f_t_1_10 f_t_1_11 f_t_1_12 o_t_5 f_t_5_6 f_t_5_7 o_t_6 f_t_6_6 f_t_6_7 f_t_6_8 o_t_7 u_5 u_6 u_7 u_8 u_9 u_10 hu_11) (cwV 0 hts gX9_ends_X9_endsAsIs rfl rfl rfl (by decide +kernel) ⟨Nat.le_of_ble_eq_true rfl, Nat.le_of_ble_eq_true rfl⟩) hP hD hS [15, 0, 1, 2, 3, 4, 5, 6, 7, 8, 9, 10, 11, 12, 13, 14] [] rfl rfl rfl rfl rfl (by decide) rfl rfl hl.1 rfl rfl (Nat.le_of_ble_eq_true rfl) ⟨Nat.zero_le _, Nat.zero_le _⟩ dX9_ends_8 ?_
    intro H locs hP hD hS
    obtain ⟨u_12, hu_13, hF⟩ := ob1_some hF
    refine call_si (wr := [oX9 a_t p_t u_2, oX1 (p_t 1) p_t_1 o_t_1, aI g (p_t_1 4) 7 f_t_1_4, aI g (p_t_1 6) 7 f_t_1_6, aI g (p_t_1 7) 7 f_t_1_7, aI g (p_t_1 10) 8 f_t_1_10, aI g (p_t_1 11) 8 f_t_1_11, aI g (p_t_1 12) 8 f_t_1_12, oX2 (p_t 5) p_t_5 o_t_5, aI g (p_t_5 6) 7 f_t_5_6, aI g (p_t_5 7) 7 f_t_5_7, oX2 (p_t 6) p_t_6 u_6, aI g (p_t_6 6) 7 u_7, aI g (p_t_6 7) 7 u_8, aI g (p_t_6 8) 7 u_9, oX3 (p_t 7) p_t_7 u_10]) (As := [.int u_5]) (rest := []) C0 (mX9_orNot l g n u_5 u_12 hu_13) (va_cwS 1 hts gX9_ends_X9_orNot rfl rfl rfl (by decide +kernel) ⟨Nat.le_of_ble_eq_true rfl, Nat.le_of_ble_eq_true rfl⟩) hP hD hS [] [0, 1, 2, 3, 4, 5, 6, 7, 8, 9, 10, 11, 12, 13, 14, 15] rfl rfl rfl rfl rfl (by decide) hl.1 rfl rfl (Nat.le_of_ble_eq_true rfl) ⟨Nat.zero_le _, Nat.zero_le _⟩ dX9_ends_11 ?_
    intro H locs hP hD hS
    refine lv_goto (tgt := 18) hx hb dX9_ends_14 (by decide) ?_
    cases hF
    exact ret_i C0 hP hD hS [0, 1, 2, 3, 4, 5, 6, 7, 8, 9, 10, 11, 12, 13, 14, 15] rfl rfl rfl dX9_ends_18 rfl

theorem dAX9_last : ∀ q ∈ ([(0, (.aload_n 0, 1)), (1, (.invokevirtual 153, 3)), (4, (.ifCond .ne 5, 3)), (7, (.iconst (-1), 1)), (8, (.ireturn, 1)), (9, (.aload_n 0, 1)), (10, (.invokevirtual 193, 3)), (13, (.bipush 60, 2)), (15, (.if_icmp .le 8, 3)), (18, (.bipush (-2), 2)), (20, (.goto 10, 3)), (23, (.aload_n 0, 1)), (24, (.getfield 41, 3)), (27, (.getfield 200, 3)), (30, (.ireturn, 1))] : List (Nat × (Instr × Nat))), decode cX9_last q.1 = .ok q.2 := by decide +kernel
theorem dX9_last_0 : decode cX9_last 0 = .ok (.aload_n 0, 1) := dAX9_last (0, (.aload_n 0, 1)) (List.mem_of_getElem? (i := 0) rfl)
theorem dX9_last_1 : decode cX9_last 1 = .ok (.invokevirtual 153, 3) := dAX9_last (1, (.invokevirtual 153, 3)) (List.mem_of_getElem? (i := 1) rfl)
theorem dX9_last_4 : decode cX9_last 4 = .ok (.ifCond .ne 5, 3) := dAX9_last (4, (.ifCond .ne 5, 3)) (List.mem_of_getElem? (i := 2) rfl)
theorem dX9_last_7 : decode cX9_last 7 = .ok (.iconst (-1), 1) := dAX9_last (7, (.iconst (-1), 1)) (List.mem_of_getElem? (i := 3) rfl)
theorem dX9_last_8 : decode cX9_last 8 = .ok (.ireturn, 1) := dAX9_last (8, (.ireturn, 1)) (List.mem_of_getElem? (i := 4) rfl)
theorem dX9_last_9 : decode cX9_last 9 = .ok (.aload_n 0, 1) := dAX9_last (9, (.aload_n 0, 1)) (List.mem_of_getElem? (i := 5) rfl)
theorem dX9_last_10 : decode cX9_last 10 = .ok (.invokevirtual 193, 3) := dAX9_last (10, (.invokevirtual 193, 3)) (List.mem_of_getElem? (i := 6) rfl)
theorem dX9_last_13 : decode cX9_last 13 = .ok (.bipush 60, 2) := dAX9_last (13, (.bipush 60, 2)) (List.mem_of_getElem? (i := 7) rfl)
theorem dX9_last_15 : decode cX9_last 15 = .ok (.if_icmp .le 8, 3) := dAX9_last (15, (.if_icmp .le 8, 3)) (List.mem_of_getElem? (i := 8) rfl)
theorem dX9_last_18 : decode cX9_last 18 = .ok (.bipush (-2), 2) := dAX9_last (18, (.bipush (-2), 2)) (List.mem_of_getElem? (i := 9) rfl)
theorem dX9_last_20 : decode cX9_last 20 = .ok (.goto 10, 3) := dAX9_last (20, (.goto 10, 3)) (List.mem_of_getElem? (i := 10) rfl)
theorem dX9_last_23 : decode cX9_last 23 = .ok (.aload_n 0, 1) := dAX9_last (23, (.aload_n 0, 1)) (List.mem_of_getElem? (i := 11) rfl)
theorem dX9_last_24 : decode cX9_last 24 = .ok (.getfield 41, 3) := dAX9_last (24, (.getfield 41, 3)) (List.mem_of_getElem? (i := 12) rfl)
theorem dX9_last_27 : decode cX9_last 27 = .ok (.getfield 200, 3) := dAX9_last (27, (.getfield 200, 3)) (List.mem_of_getElem? (i := 13) rfl)
theorem dX9_last_30 : decode cX9_last 30 = .ok (.ireturn, 1) := dAX9_last (30, (.ireturn, 1)) (List.mem_of_getElem? (i := 14) rfl)
set_option maxRecDepth 20000 in
theorem ggX9_last_X9_asked : GoodIn wsX9_last wsX9_asked := goodIn_r _ [7, 8, 9, 80, 81, 82, 83, 84, 85, 86, 87, 88, 89, 90, 91, 92, 93, 94] rfl (by decide +kernel)
set_option maxRecDepth 20000 in
theorem gX9_last_X9_asked : GoodIn wsX9_last (wsV RX9 153 RX9 yX9_asked wsX9_asked) := goodIn_app (goodIn_of _ (by decide +kernel)) ggX9_last_X9_asked
set_option maxRecDepth 20000 in
theorem ggX9_last_X9_endsAsIs : GoodIn wsX9_last wsX9_endsAsIs := goodIn_r _ [13, 1, 14, 15, 16, 17, 18, 19, 20, 21, 22, 23, 24, 25, 26, 27, 28, 29, 30, 31, 32, 33, 34, 35, 36, 37, 38, 39, 40, 41, 42, 43, 44, 45, 46, 47, 48, 49, 50, 51, 52, 53, 54, 55, 56, 57, 58, 59, 60, 61, 62, 63, 64, 65, 66, 67, 68, 69, 70, 71, 72, 73, 74, 75, 76, 77, 78, 79, 80, 81, 82, 83, 84, 85, 86, 87, 88, 89, 90, 91, 92, 93, 94, 95, 96, 97, 98, 99, 100, 101, 102, 103, 104, 105, 106, 107, 108, 109, 110, 111, 112, 113, 114, 115, 116, 117, 118, 119, 120, 121, 122] rfl (by decide +kernel)
set_option maxRecDepth 20000 in
theorem gX9_last_X9_endsAsIs : GoodIn wsX9_last (wsV RX9 193 RX9 yX9_endsAsIs wsX9_endsAsIs) := goodIn_app (goodIn_of _ (by decide +kernel)) ggX9_last_X9_endsAsIs
theorem kX9_last_41 : Cond.fieldLink RX9 41 "EveningVow" "trial" "LEveningVow$Night;" ∈ wsX9_last := List.mem_of_getElem? (i := 1) rfl
theorem iX9_last_X9 : ∀ w ∈ u_ws RX9 TX9 15, w ∈ wsX9_last := fun w h => (List.mem_cons_of_mem _ (List.mem_append_left _ (List.mem_append_left _ (List.mem_append_left _ (List.mem_append_right _ h)))))
theorem kX9_last_200 : Cond.fieldLink RX9 200 "EveningVow$Night" "leftLatest" "I" ∈ wsX9_last := List.mem_of_getElem? (i := 2) rfl
theorem iX9_last_X2 : ∀ w ∈ u_ws RX2 TX2 9, w ∈ wsX9_last := fun w h => (List.mem_cons_of_mem _ (List.mem_append_left _ (List.mem_append_left _ (List.mem_append_right _ h))))
set_option maxHeartbeats 4000000 in
set_option maxRecDepth 100000 in
theorem mX9_last (l : Launch) (g : GG) (a_t : Nat) (p_t : Nat → Nat) (p_t_1 : Nat → Nat) (p_t_5 : Nat → Nat) (p_t_6 : Nat → Nat) (p_t_7 : Nat → Nat) (n : Nat) (o_t : Nat → Int32) (o_t_1 : Nat → Int32) (f_t_1_4 : Nat → Int32) (f_t_1_6 : Nat → Int32) (f_t_1_7 : Nat → Int32) (f_t_1_10 : Nat → Int32) (f_t_1_11 : Nat → Int32) (f_t_1_12 : Nat → Int32) (o_t_5 : Nat → Int32) (f_t_5_6 : Nat → Int32) (f_t_5_7 : Nat → Int32) (o_t_6 : Nat → Int32) (f_t_6_6 : Nat → Int32) (f_t_6_7 : Nat → Int32) (f_t_6_8 : Nat → Int32) (o_t_7 : Nat → Int32) (r : Int32) (o_t' : Nat → Int32) (o_t_6' : Nat → Int32) (f_t_6_6' : Nat → Int32) (f_t_6_7' : Nat → Int32) (f_t_6_8' : Nat → Int32) (o_t_7' : Nat → Int32) (hF : fX9_last n o_t o_t_1 f_t_1_4 f_t_1_6 f_t_1_7 f_t_1_10 f_t_1_11 f_t_1_12 o_t_5 f_t_5_6 f_t_5_7 o_t_6 f_t_6_6 f_t_6_7 f_t_6_8 o_t_7 = some (r, o_t', o_t_6', f_t_6_6', f_t_6_7', f_t_6_8', o_t_7')) : MI l g yX9_last wsX9_last ({ frames := 5, cells := 0, slots := 0, locals := 115 } : Room) [.ref a_t] [oX9 a_t p_t o_t, oX1 (p_t 1) p_t_1 o_t_1, aI g (p_t_1 4) 7 f_t_1_4, aI g (p_t_1 6) 7 f_t_1_6, aI g (p_t_1 7) 7 f_t_1_7, aI g (p_t_1 10) 8 f_t_1_10, aI g (p_t_1 11) 8 f_t_1_11, aI g (p_t_1 12) 8 f_t_1_12, oX2 (p_t 5) p_t_5 o_t_5, aI g (p_t_5 6) 7 f_t_5_6, aI g (p_t_5 7) 7 f_t_5_7, oX2 (p_t 6) p_t_6 o_t_6, aI g (p_t_6 6) 7 f_t_6_6, aI g (p_t_6 7) 7 f_t_6_7, aI g (p_t_6 8) 7 f_t_6_8, oX3 (p_t 7) p_t_7 o_t_7] r [oX9 a_t p_t o_t', oX1 (p_t 1) p_t_1 o_t_1, aI g (p_t_1 4) 7 f_t_1_4, aI g (p_t_1 6) 7 f_t_1_6, aI g (p_t_1 7) 7 f_t_1_7, aI g (p_t_1 10) 8 f_t_1_10, aI g (p_t_1 11) 8 f_t_1_11, aI g (p_t_1 12) 8 f_t_1_12, oX2 (p_t 5) p_t_5 o_t_5, aI g (p_t_5 6) 7 f_t_5_6, aI g (p_t_5 7) 7 f_t_5_7, oX2 (p_t 6) p_t_6 o_t_6', aI g (p_t_6 6) 7 f_t_6_6', aI g (p_t_6 7) 7 f_t_6_7', aI g (p_t_6 8) 7 f_t_6_8', oX3 (p_t 7) p_t_7 o_t_7'] := by
  refine MI.of (cc := cX9_last) (maxL := 1) (rt := .int) (own := RX9) rfl rfl (by decide) (Nat.le_of_ble_eq_true rfl) ?_
  intro p e s m args below meth c A C0 hP hD hS ls hl
  obtain ⟨hx, hb, hml, hown, hts, hr, hlk, hK, hA, hSW⟩ := id C0
  have hl : lv_has ls 1 [(0, .ref a_t)] := hl
  rw [fX9_last] at hF
  refine lv_aload_n hx hb dX9_last_0 rfl (lv_at hl 0 rfl) ?_
  obtain ⟨u_1, u_2, hu_3, hF⟩ := ob2_some hF
  refine call_i (wr := [oX1 (p_t 1) p_t_1 o_t_1, aI g (p_t_1 4) 7 f_t_1_4, aI g (p_t_1 6) 7 f_t_1_6, aI g (p_t_1 7) 7 f_t_1_7, aI g (p_t_1 10) 8 f_t_1_10, aI g (p_t_1 11) 8 f_t_1_11, aI g (p_t_1 12) 8 f_t_1_12, oX2 (p_t 5) p_t_5 o_t_5, aI g (p_t_5 6) 7 f_t_5_6, aI g (p_t_5 7) 7 f_t_5_7, oX2 (p_t 6) p_t_6 o_t_6, aI g (p_t_6 6) 7 f_t_6_6, aI g (p_t_6 7) 7 f_t_6_7, aI g (p_t_6 8) 7 f_t_6_8, oX3 (p_t 7) p_t_7 o_t_7]) (As := []) (rest := []) (ci := 9) (q0 := 0) C0 (mX9_asked l g a_t p_t n o_t u_1 u_2 hu_3) (cwV 0 hts gX9_last_X9_asked rfl rfl rfl (by decide +kernel) ⟨Nat.le_of_ble_eq_true rfl, Nat.le_of_ble_eq_true rfl⟩) hP hD hS [0] [1, 2, 3, 4, 5, 6, 7, 8, 9, 10, 11, 12, 13, 14, 15] rfl rfl rfl rfl rfl (by decide) rfl rfl hl.1 rfl rfl (Nat.le_of_ble_eq_true rfl) ⟨Nat.zero_le _, Nat.zero_le _⟩ dX9_last_1 ?_
  intro H locs hP hD hS
  refine lv_if_ne (tgt := 9) hx hb dX9_last_4 (by decide) (fun c_4 => ?_) (fun c_4 => ?_)
  · have hF := it_n c_4 hF
    refine lv_aload_n hx hb dX9_last_9 rfl (lv_at hl 0 rfl) ?_
    obtain ⟨u_5, u_6, u_7, u_8, u_9, u_10, hu_11, hF⟩ := ob6_some hF
    refine call_i (wr := []) (As := []) (rest := []) (ci := 9) (q0 := 0) C0 (mX9_endsAsIs l g a_t p_t p_t_1 p_t_5 p_t_6 p_t_7 n u_2 o_t_1 f_t_1_4 f_t_1_6 f_t_1_7 f_t_1_10 f_t_1_11 f_t_1_12 o_t_5 f_t_5_6 f_t_5_7 o_t_6 f_t_6_6 f_t_6_7 f_t_6_8 o_t_7 u_5 u_6 u_7 u_8 u_9 u_10 hu_11) (cwV 0 hts gX9_last_X9_endsAsIs rfl rfl rfl (by decide +kernel) ⟨Nat.le_of_ble_eq_true rfl, Nat.le_of_ble_eq_true rfl⟩) hP hD hS [15, 0, 1, 2, 3, 4, 5, 6, 7, 8, 9, 10, 11, 12, 13, 14] [] rfl rfl rfl rfl rfl (by decide) rfl rfl hl.1 rfl rfl (Nat.le_of_ble_eq_true rfl) ⟨Nat.zero_le _, Nat.zero_le _⟩ dX9_last_10 ?_
    intro H locs hP hD hS
    refine lv_bipush (v := (60 : Int32)) hx hb dX9_last_13 (by decide) ?_
    refine lv_icmp_le (tgt := 23) hx hb dX9_last_15 (by decide) (fun c_12 => ?_) (fun c_12 => ?_)
    · have hF := it_p c_12 hF
      refine lv_aload_n hx hb dX9_last_23 rfl (lv_at hl 0 rfl) ?_
      refine va_get (D := g.1) (ci := 9) (v := .ref (p_t 6)) (C := RX9) (T := TX9) (N := 15) hx hb hts iX9_last_X9 hown hK.1 hP 0 rfl rfl 6 (by decide) (hts _ kX9_last_41) (fun _ h9 => h9) rfl dX9_last_24 ?_
      refine va_get (D := g.1) (ci := 2) (v := .int (u_6 5)) (C := RX2) (T := TX2) (N := 9) hx hb hts iX9_last_X2 hown hK.1 hP 11 rfl rfl 5 (by decide) (hts _ kX9_last_200) (fun _ h9 => h9) rfl dX9_last_27 ?_
      cases hF
      exact ret_i C0 hP hD hS [0, 1, 2, 3, 4, 5, 6, 7, 8, 9, 10, 11, 12, 13, 14, 15] rfl rfl rfl dX9_last_30 rfl
    · have hF := it_n c_12 hF
      refine lv_bipush (v := (-2 : Int32)) hx hb dX9_last_18 (by decide) ?_
      refine lv_goto (tgt := 30) hx hb dX9_last_20 (by decide) ?_
      cases hF
      exact ret_i C0 hP hD hS [0, 1, 2, 3, 4, 5, 6, 7, 8, 9, 10, 11, 12, 13, 14, 15] rfl rfl rfl dX9_last_30 rfl
  · have hF := it_p c_4 hF
    refine lv_iconst (v := (-1 : Int32)) hx hb dX9_last_7 (by decide) ?_
    cases hF
    exact ret_i C0 hP hD hS [15, 0, 1, 2, 3, 4, 5, 6, 7, 8, 9, 10, 11, 12, 13, 14] rfl rfl rfl dX9_last_8 rfl

theorem dAX9_presentAsked : ∀ q ∈ ([(0, (.aload_n 0, 1)), (1, (.iload_n 1, 1)), (2, (.invokevirtual 118, 3)), (5, (.ifCond .ne 5, 3)), (8, (.iconst 0, 1)), (9, (.ireturn, 1)), (10, (.aload_n 0, 1)), (11, (.aload_n 0, 1)), (12, (.getfield 37, 3)), (15, (.iload_n 1, 1)), (16, (.invokevirtual 133, 3)), (19, (.ifCond .eq 7, 3)), (22, (.iconst 0, 1)), (23, (.goto 4, 3)), (26, (.iconst 5, 1)), (27, (.putfield 30, 3)), (30, (.aload_n 0, 1)), (31, (.getfield 37, 3)), (34, (.iload_n 1, 1)), (35, (.invokevirtual 133, 3)), (38, (.ireturn, 1))] : List (Nat × (Instr × Nat))), decode cX9_presentAsked q.1 = .ok q.2 := by decide +kernel
theorem dX9_presentAsked_0 : decode cX9_presentAsked 0 = .ok (.aload_n 0, 1) := dAX9_presentAsked (0, (.aload_n 0, 1)) (List.mem_of_getElem? (i := 0) rfl)
theorem dX9_presentAsked_1 : decode cX9_presentAsked 1 = .ok (.iload_n 1, 1) := dAX9_presentAsked (1, (.iload_n 1, 1)) (List.mem_of_getElem? (i := 1) rfl)
theorem dX9_presentAsked_2 : decode cX9_presentAsked 2 = .ok (.invokevirtual 118, 3) := dAX9_presentAsked (2, (.invokevirtual 118, 3)) (List.mem_of_getElem? (i := 2) rfl)
theorem dX9_presentAsked_5 : decode cX9_presentAsked 5 = .ok (.ifCond .ne 5, 3) := dAX9_presentAsked (5, (.ifCond .ne 5, 3)) (List.mem_of_getElem? (i := 3) rfl)
theorem dX9_presentAsked_8 : decode cX9_presentAsked 8 = .ok (.iconst 0, 1) := dAX9_presentAsked (8, (.iconst 0, 1)) (List.mem_of_getElem? (i := 4) rfl)
theorem dX9_presentAsked_9 : decode cX9_presentAsked 9 = .ok (.ireturn, 1) := dAX9_presentAsked (9, (.ireturn, 1)) (List.mem_of_getElem? (i := 5) rfl)
theorem dX9_presentAsked_10 : decode cX9_presentAsked 10 = .ok (.aload_n 0, 1) := dAX9_presentAsked (10, (.aload_n 0, 1)) (List.mem_of_getElem? (i := 6) rfl)
theorem dX9_presentAsked_11 : decode cX9_presentAsked 11 = .ok (.aload_n 0, 1) := dAX9_presentAsked (11, (.aload_n 0, 1)) (List.mem_of_getElem? (i := 7) rfl)
theorem dX9_presentAsked_12 : decode cX9_presentAsked 12 = .ok (.getfield 37, 3) := dAX9_presentAsked (12, (.getfield 37, 3)) (List.mem_of_getElem? (i := 8) rfl)
theorem dX9_presentAsked_15 : decode cX9_presentAsked 15 = .ok (.iload_n 1, 1) := dAX9_presentAsked (15, (.iload_n 1, 1)) (List.mem_of_getElem? (i := 9) rfl)
theorem dX9_presentAsked_16 : decode cX9_presentAsked 16 = .ok (.invokevirtual 133, 3) := dAX9_presentAsked (16, (.invokevirtual 133, 3)) (List.mem_of_getElem? (i := 10) rfl)
theorem dX9_presentAsked_19 : decode cX9_presentAsked 19 = .ok (.ifCond .eq 7, 3) := dAX9_presentAsked (19, (.ifCond .eq 7, 3)) (List.mem_of_getElem? (i := 11) rfl)
theorem dX9_presentAsked_22 : decode cX9_presentAsked 22 = .ok (.iconst 0, 1) := dAX9_presentAsked (22, (.iconst 0, 1)) (List.mem_of_getElem? (i := 12) rfl)
theorem dX9_presentAsked_23 : decode cX9_presentAsked 23 = .ok (.goto 4, 3) := dAX9_presentAsked (23, (.goto 4, 3)) (List.mem_of_getElem? (i := 13) rfl)
theorem dX9_presentAsked_26 : decode cX9_presentAsked 26 = .ok (.iconst 5, 1) := dAX9_presentAsked (26, (.iconst 5, 1)) (List.mem_of_getElem? (i := 14) rfl)
theorem dX9_presentAsked_27 : decode cX9_presentAsked 27 = .ok (.putfield 30, 3) := dAX9_presentAsked (27, (.putfield 30, 3)) (List.mem_of_getElem? (i := 15) rfl)
theorem dX9_presentAsked_30 : decode cX9_presentAsked 30 = .ok (.aload_n 0, 1) := dAX9_presentAsked (30, (.aload_n 0, 1)) (List.mem_of_getElem? (i := 16) rfl)
theorem dX9_presentAsked_31 : decode cX9_presentAsked 31 = .ok (.getfield 37, 3) := dAX9_presentAsked (31, (.getfield 37, 3)) (List.mem_of_getElem? (i := 17) rfl)
theorem dX9_presentAsked_34 : decode cX9_presentAsked 34 = .ok (.iload_n 1, 1) := dAX9_presentAsked (34, (.iload_n 1, 1)) (List.mem_of_getElem? (i := 18) rfl)
theorem dX9_presentAsked_35 : decode cX9_presentAsked 35 = .ok (.invokevirtual 133, 3) := dAX9_presentAsked (35, (.invokevirtual 133, 3)) (List.mem_of_getElem? (i := 19) rfl)
theorem dX9_presentAsked_38 : decode cX9_presentAsked 38 = .ok (.ireturn, 1) := dAX9_presentAsked (38, (.ireturn, 1)) (List.mem_of_getElem? (i := 20) rfl)
set_option maxRecDepth 20000 in
theorem ggX9_presentAsked_X9_guestAsked : GoodIn wsX9_presentAsked wsX9_guestAsked := goodIn_r _ [7, 8, 9, 2, 18, 19, 20, 21, 22, 23, 24, 25, 26, 27, 28, 29, 30, 31, 32, 33, 34, 35, 36, 37, 38, 39, 40, 41, 42, 43, 44, 45, 46, 47, 48, 49] rfl (by decide +kernel)
set_option maxRecDepth 20000 in
theorem gX9_presentAsked_X9_guestAsked : GoodIn wsX9_presentAsked (wsV RX9 118 RX9 yX9_guestAsked wsX9_guestAsked) := goodIn_app (goodIn_of _ (by decide +kernel)) ggX9_presentAsked_X9_guestAsked
set_option maxRecDepth 20000 in
theorem ggX9_presentAsked_X2_has : GoodIn wsX9_presentAsked wsX2_has := goodIn_r _ [14, 15, 16, 6, 17, 50, 51, 52, 53, 54, 55, 56, 57, 58] rfl (by decide +kernel)
set_option maxRecDepth 20000 in
theorem gX9_presentAsked_X2_has : GoodIn wsX9_presentAsked (wsV RX9 133 RX2 yX2_has wsX2_has) := goodIn_app (goodIn_of _ (by decide +kernel)) ggX9_presentAsked_X2_has
theorem kX9_presentAsked_37 : Cond.fieldLink RX9 37 "EveningVow" "now" "LEveningVow$Night;" ∈ wsX9_presentAsked := List.mem_of_getElem? (i := 1) rfl
theorem iX9_presentAsked_X9 : ∀ w ∈ u_ws RX9 TX9 15, w ∈ wsX9_presentAsked := fun w h => (List.mem_cons_of_mem _ (List.mem_append_left _ (List.mem_append_left _ (List.mem_append_right _ h))))
theorem kX9_presentAsked_30 : Cond.fieldLink RX9 30 "EveningVow" "refusal" "I" ∈ wsX9_presentAsked := List.mem_of_getElem? (i := 2) rfl
set_option maxHeartbeats 4000000 in
set_option maxRecDepth 100000 in
theorem mX9_presentAsked (l : Launch) (g : GG) (a_t : Nat) (p_t : Nat → Nat) (p_t_1 : Nat → Nat) (p_t_5 : Nat → Nat) (n : Nat) (x1 : Int32) (o_t : Nat → Int32) (o_t_1 : Nat → Int32) (o_t_5 : Nat → Int32) (r : Int32) (o_t' : Nat → Int32) (hF : fX9_presentAsked n x1 o_t o_t_1 o_t_5 = some (r, o_t')) : MI l g yX9_presentAsked wsX9_presentAsked ({ frames := 2, cells := 0, slots := 0, locals := 42 } : Room) [.ref a_t, .int x1] [oX9 a_t p_t o_t, oX1 (p_t 1) p_t_1 o_t_1, oX2 (p_t 5) p_t_5 o_t_5] r [oX9 a_t p_t o_t', oX1 (p_t 1) p_t_1 o_t_1, oX2 (p_t 5) p_t_5 o_t_5] := by
  refine MI.of (cc := cX9_presentAsked) (maxL := 2) (rt := .boolean) (own := RX9) rfl rfl (by decide) (Nat.le_of_ble_eq_true rfl) ?_
  intro p e s m args below meth c A C0 hP hD hS ls hl
  obtain ⟨hx, hb, hml, hown, hts, hr, hlk, hK, hA, hSW⟩ := id C0
  have hl : lv_has ls 2 [(0, .ref a_t), (1, .int x1)] := hl
  rw [fX9_presentAsked] at hF
  refine lv_aload_n hx hb dX9_presentAsked_0 rfl (lv_at hl 0 rfl) ?_
  refine lv_iload_n hx hb dX9_presentAsked_1 rfl (lv_at hl 1 rfl) ?_
  obtain ⟨u_1, u_2, hu_3, hF⟩ := ob2_some hF
  refine call_i (wr := [oX2 (p_t 5) p_t_5 o_t_5]) (As := [.int x1]) (rest := []) (ci := 9) (q0 := 0) C0 (mX9_guestAsked l g a_t p_t p_t_1 n x1 o_t o_t_1 u_1 u_2 hu_3) (cwV 1 hts gX9_presentAsked_X9_guestAsked rfl rfl rfl (by decide +kernel) ⟨Nat.le_of_ble_eq_true rfl, Nat.le_of_ble_eq_true rfl⟩) hP hD hS [0, 1] [2] rfl rfl rfl rfl rfl (by decide) rfl rfl hl.1 rfl rfl (Nat.le_of_ble_eq_true rfl) ⟨Nat.zero_le _, Nat.zero_le _⟩ dX9_presentAsked_2 ?_
  intro H locs hP hD hS
  refine lv_if_ne (tgt := 10) hx hb dX9_presentAsked_5 (by decide) (fun c_4 => ?_) (fun c_4 => ?_)
  · have hF := it_n c_4 hF
    refine lv_aload_n hx hb dX9_presentAsked_10 rfl (lv_at hl 0 rfl) ?_
    refine lv_aload_n hx hb dX9_presentAsked_11 rfl (lv_at hl 0 rfl) ?_
    refine va_get (D := g.1) (ci := 9) (v := .ref (p_t 5)) (C := RX9) (T := TX9) (N := 15) hx hb hts iX9_presentAsked_X9 hown hK.1 hP 1 rfl rfl 5 (by decide) (hts _ kX9_presentAsked_37) (fun _ h9 => h9) rfl dX9_presentAsked_12 ?_
    refine lv_iload_n hx hb dX9_presentAsked_15 rfl (lv_at hl 1 rfl) ?_
    obtain ⟨u_5, hu_6, hF⟩ := ob1_some hF
    refine call_i (wr := [oX9 a_t p_t u_2, oX1 (p_t 1) p_t_1 o_t_1]) (As := [.int x1]) (rest := [.ref a_t]) (ci := 2) (q0 := 0) C0 (mX2_has l g (p_t 5) p_t_5 n x1 o_t_5 u_5 hu_6) (cwV 1 hts gX9_presentAsked_X2_has rfl rfl rfl (by decide +kernel) ⟨Nat.le_of_ble_eq_true rfl, Nat.le_of_ble_eq_true rfl⟩) hP hD hS [0] [1, 2] rfl rfl rfl rfl rfl (by decide) rfl rfl hl.1 rfl rfl (Nat.le_of_ble_eq_true rfl) ⟨Nat.zero_le _, Nat.zero_le _⟩ dX9_presentAsked_16 ?_
    intro H locs hP hD hS
    refine lv_if_eq (tgt := 26) hx hb dX9_presentAsked_19 (by decide) (fun c_7 => ?_) (fun c_7 => ?_)
    · have hF := it_p c_7 hF
      refine lv_iconst (v := (5 : Int32)) hx hb dX9_presentAsked_26 (by decide) ?_
      refine va_put (D := g.1) (ci := 9) (v := .int (5 : Int32)) (ty := .int) (C := RX9) (T := TX9) (N := 15) hx hb hts iX9_presentAsked_X9 tyX9 tyX9_ok nmX9 hown hK.1 hP hD hS 0 rfl rfl 4 (by decide) (hts _ kX9_presentAsked_30) (fun _ h9 => h9) rfl (by decide +kernel) rfl rfl (Nat.le_of_ble_eq_true rfl) dX9_presentAsked_27 (fun H locs hP hD hS => ?_)
      have hP : va_P g.1 vwCl [oX9 a_t p_t (upd u_2 4 (5 : Int32)), oX1 (p_t 1) p_t_1 o_t_1, oX2 (p_t 5) p_t_5 o_t_5] H := hP
      have hD : va_D A [oX9 a_t p_t (upd u_2 4 (5 : Int32)), oX1 (p_t 1) p_t_1 o_t_1, oX2 (p_t 5) p_t_5 o_t_5] := hD
      refine lv_aload_n hx hb dX9_presentAsked_30 rfl (lv_at hl 0 rfl) ?_
      refine va_get (D := g.1) (ci := 9) (v := .ref (p_t 5)) (C := RX9) (T := TX9) (N := 15) hx hb hts iX9_presentAsked_X9 hown hK.1 hP 0 rfl rfl 5 (by decide) (hts _ kX9_presentAsked_37) (fun _ h9 => h9) rfl dX9_presentAsked_31 ?_
      refine lv_iload_n hx hb dX9_presentAsked_34 rfl (lv_at hl 1 rfl) ?_
      obtain ⟨u_8, hu_9, hF⟩ := ob1_some hF
      refine call_i (wr := [oX9 a_t p_t (upd u_2 4 (5 : Int32)), oX1 (p_t 1) p_t_1 o_t_1]) (As := [.int x1]) (rest := []) (ci := 2) (q0 := 0) C0 (mX2_has l g (p_t 5) p_t_5 n x1 o_t_5 u_8 hu_9) (cwV 1 hts gX9_presentAsked_X2_has rfl rfl rfl (by decide +kernel) ⟨Nat.le_of_ble_eq_true rfl, Nat.le_of_ble_eq_true rfl⟩) hP hD hS [2] [0, 1] rfl rfl rfl rfl rfl (by decide) rfl rfl hl.1 rfl rfl (Nat.le_of_ble_eq_true rfl) ⟨Nat.zero_le _, Nat.zero_le _⟩ dX9_presentAsked_35 ?_
      intro H locs hP hD hS
      obtain ⟨h_10, hF⟩ := it_ck hF
      cases hF
      exact ret_z C0 hP hD hS [0, 1, 2] rfl rfl rfl dX9_presentAsked_38 (nar01 h_10) rfl
    · have hF := it_n c_7 hF
      refine lv_iconst (v := (0 : Int32)) hx hb dX9_presentAsked_22 (by decide) ?_
      refine lv_goto (tgt := 27) hx hb dX9_presentAsked_23 (by decide) ?_
      refine va_put (D := g.1) (ci := 9) (v := .int (0 : Int32)) (ty := .int) (C := RX9) (T := TX9) (N := 15) hx hb hts iX9_presentAsked_X9 tyX9 tyX9_ok nmX9 hown hK.1 hP hD hS 0 rfl rfl 4 (by decide) (hts _ kX9_presentAsked_30) (fun _ h9 => h9) rfl (by decide +kernel) rfl rfl (Nat.le_of_ble_eq_true rfl) dX9_presentAsked_27 (fun H locs hP hD hS => ?_)
      have hP : va_P g.1 vwCl [oX9 a_t p_t (upd u_2 4 (0 : Int32)), oX1 (p_t 1) p_t_1 o_t_1, oX2 (p_t 5) p_t_5 o_t_5] H := hP
      have hD : va_D A [oX9 a_t p_t (upd u_2 4 (0 : Int32)), oX1 (p_t 1) p_t_1 o_t_1, oX2 (p_t 5) p_t_5 o_t_5] := hD
      refine lv_aload_n hx hb dX9_presentAsked_30 rfl (lv_at hl 0 rfl) ?_
      refine va_get (D := g.1) (ci := 9) (v := .ref (p_t 5)) (C := RX9) (T := TX9) (N := 15) hx hb hts iX9_presentAsked_X9 hown hK.1 hP 0 rfl rfl 5 (by decide) (hts _ kX9_presentAsked_37) (fun _ h9 => h9) rfl dX9_presentAsked_31 ?_
      refine lv_iload_n hx hb dX9_presentAsked_34 rfl (lv_at hl 1 rfl) ?_
      obtain ⟨u_11, hu_12, hF⟩ := ob1_some hF
      refine call_i (wr := [oX9 a_t p_t (upd u_2 4 (0 : Int32)), oX1 (p_t 1) p_t_1 o_t_1]) (As := [.int x1]) (rest := []) (ci := 2) (q0 := 0) C0 (mX2_has l g (p_t 5) p_t_5 n x1 o_t_5 u_11 hu_12) (cwV 1 hts gX9_presentAsked_X2_has rfl rfl rfl (by decide +kernel) ⟨Nat.le_of_ble_eq_true rfl, Nat.le_of_ble_eq_true rfl⟩) hP hD hS [2] [0, 1] rfl rfl rfl rfl rfl (by decide) rfl rfl hl.1 rfl rfl (Nat.le_of_ble_eq_true rfl) ⟨Nat.zero_le _, Nat.zero_le _⟩ dX9_presentAsked_35 ?_
      intro H locs hP hD hS
      obtain ⟨h_13, hF⟩ := it_ck hF
      cases hF
      exact ret_z C0 hP hD hS [0, 1, 2] rfl rfl rfl dX9_presentAsked_38 (nar01 h_13) rfl
  · have hF := it_p c_4 hF
    refine lv_iconst (v := (0 : Int32)) hx hb dX9_presentAsked_8 (by decide) ?_
    cases hF
    exact ret_z C0 hP hD hS [1, 2, 0] rfl rfl rfl dX9_presentAsked_9 rfl rfl

theorem dAX9_chainOf : ∀ q ∈ ([(0, (.aload_n 0, 1)), (1, (.getfield 41, 3)), (4, (.aload_n 0, 1)), (5, (.getfield 37, 3)), (8, (.invokevirtual 160, 3)), (11, (.aload_n 0, 1)), (12, (.getfield 41, 3)), (15, (.aload_n 0, 1)), (16, (.getfield 19, 3)), (19, (.iconst 1, 1)), (20, (.iload_n 1, 1)), (21, (.ishl, 1)), (22, (.invokevirtual 314, 3)), (25, (.ireturn, 1))] : List (Nat × (Instr × Nat))), decode cX9_chainOf q.1 = .ok q.2 := by decide +kernel
theorem dX9_chainOf_0 : decode cX9_chainOf 0 = .ok (.aload_n 0, 1) := dAX9_chainOf (0, (.aload_n 0, 1)) (List.mem_of_getElem? (i := 0) rfl)
theorem dX9_chainOf_1 : decode cX9_chainOf 1 = .ok (.getfield 41, 3) := dAX9_chainOf (1, (.getfield 41, 3)) (List.mem_of_getElem? (i := 1) rfl)
theorem dX9_chainOf_4 : decode cX9_chainOf 4 = .ok (.aload_n 0, 1) := dAX9_chainOf (4, (.aload_n 0, 1)) (List.mem_of_getElem? (i := 2) rfl)
theorem dX9_chainOf_5 : decode cX9_chainOf 5 = .ok (.getfield 37, 3) := dAX9_chainOf (5, (.getfield 37, 3)) (List.mem_of_getElem? (i := 3) rfl)
theorem dX9_chainOf_8 : decode cX9_chainOf 8 = .ok (.invokevirtual 160, 3) := dAX9_chainOf (8, (.invokevirtual 160, 3)) (List.mem_of_getElem? (i := 4) rfl)
theorem dX9_chainOf_11 : decode cX9_chainOf 11 = .ok (.aload_n 0, 1) := dAX9_chainOf (11, (.aload_n 0, 1)) (List.mem_of_getElem? (i := 5) rfl)
theorem dX9_chainOf_12 : decode cX9_chainOf 12 = .ok (.getfield 41, 3) := dAX9_chainOf (12, (.getfield 41, 3)) (List.mem_of_getElem? (i := 6) rfl)
theorem dX9_chainOf_15 : decode cX9_chainOf 15 = .ok (.aload_n 0, 1) := dAX9_chainOf (15, (.aload_n 0, 1)) (List.mem_of_getElem? (i := 7) rfl)
theorem dX9_chainOf_16 : decode cX9_chainOf 16 = .ok (.getfield 19, 3) := dAX9_chainOf (16, (.getfield 19, 3)) (List.mem_of_getElem? (i := 8) rfl)
theorem dX9_chainOf_19 : decode cX9_chainOf 19 = .ok (.iconst 1, 1) := dAX9_chainOf (19, (.iconst 1, 1)) (List.mem_of_getElem? (i := 9) rfl)
theorem dX9_chainOf_20 : decode cX9_chainOf 20 = .ok (.iload_n 1, 1) := dAX9_chainOf (20, (.iload_n 1, 1)) (List.mem_of_getElem? (i := 10) rfl)
theorem dX9_chainOf_21 : decode cX9_chainOf 21 = .ok (.ishl, 1) := dAX9_chainOf (21, (.ishl, 1)) (List.mem_of_getElem? (i := 11) rfl)
theorem dX9_chainOf_22 : decode cX9_chainOf 22 = .ok (.invokevirtual 314, 3) := dAX9_chainOf (22, (.invokevirtual 314, 3)) (List.mem_of_getElem? (i := 12) rfl)
theorem dX9_chainOf_25 : decode cX9_chainOf 25 = .ok (.ireturn, 1) := dAX9_chainOf (25, (.ireturn, 1)) (List.mem_of_getElem? (i := 13) rfl)
set_option maxRecDepth 20000 in
theorem ggX9_chainOf_X2_become : GoodIn wsX9_chainOf wsX2_become := goodIn_r _ [8, 9, 10, 11, 12, 13, 14, 15, 16, 17, 18, 64, 65, 66, 67, 68, 69, 70, 71, 72] rfl (by decide +kernel)
set_option maxRecDepth 20000 in
theorem gX9_chainOf_X2_become : GoodIn wsX9_chainOf (wsV RX9 160 RX2 yX2_become wsX2_become) := goodIn_app (goodIn_of _ (by decide +kernel)) ggX9_chainOf_X2_become
set_option maxRecDepth 20000 in
theorem ggX9_chainOf_X2_dismiss : GoodIn wsX9_chainOf wsX2_dismiss := goodIn_r _ [22, 23, 24, 25, 7, 26, 10, 27, 18, 9, 28, 13, 29, 30, 31, 32, 33, 34, 35, 36, 37, 38, 39, 40, 41, 42, 43, 44, 45, 46, 47, 48, 64, 65, 66, 67, 68, 69, 70, 71, 72, 73, 74, 75, 76, 77, 78, 79, 80, 81, 82, 83, 84, 85, 86, 87, 88, 89] rfl (by decide +kernel)
set_option maxRecDepth 20000 in
theorem gX9_chainOf_X2_dismiss : GoodIn wsX9_chainOf (wsV RX9 314 RX2 yX2_dismiss wsX2_dismiss) := goodIn_app (goodIn_of _ (by decide +kernel)) ggX9_chainOf_X2_dismiss
theorem kX9_chainOf_41 : Cond.fieldLink RX9 41 "EveningVow" "trial" "LEveningVow$Night;" ∈ wsX9_chainOf := List.mem_of_getElem? (i := 1) rfl
theorem iX9_chainOf_X9 : ∀ w ∈ u_ws RX9 TX9 15, w ∈ wsX9_chainOf := fun w h => (List.mem_cons_of_mem _ (List.mem_append_left _ (List.mem_append_left _ (List.mem_append_right _ h))))
theorem kX9_chainOf_37 : Cond.fieldLink RX9 37 "EveningVow" "now" "LEveningVow$Night;" ∈ wsX9_chainOf := List.mem_of_getElem? (i := 2) rfl
theorem kX9_chainOf_19 : Cond.fieldLink RX9 19 "EveningVow" "told" "LEveningVow$House;" ∈ wsX9_chainOf := List.mem_of_getElem? (i := 3) rfl
set_option maxHeartbeats 4000000 in
set_option maxRecDepth 100000 in
theorem mX9_chainOf (l : Launch) (g : GG) (a_t : Nat) (p_t : Nat → Nat) (p_t_1 : Nat → Nat) (p_t_5 : Nat → Nat) (p_t_6 : Nat → Nat) (n : Nat) (x1 : Int32) (o_t : Nat → Int32) (o_t_1 : Nat → Int32) (f_t_1_4 : Nat → Int32) (f_t_1_7 : Nat → Int32) (f_t_1_10 : Nat → Int32) (f_t_1_11 : Nat → Int32) (f_t_1_12 : Nat → Int32) (o_t_5 : Nat → Int32) (f_t_5_6 : Nat → Int32) (f_t_5_7 : Nat → Int32) (o_t_6 : Nat → Int32) (f_t_6_6 : Nat → Int32) (f_t_6_7 : Nat → Int32) (f_t_6_8 : Nat → Int32) (r : Int32) (o_t_6' : Nat → Int32) (f_t_6_6' : Nat → Int32) (f_t_6_7' : Nat → Int32) (f_t_6_8' : Nat → Int32) (hF : fX9_chainOf n x1 o_t o_t_1 f_t_1_4 f_t_1_7 f_t_1_10 f_t_1_11 f_t_1_12 o_t_5 f_t_5_6 f_t_5_7 o_t_6 f_t_6_6 f_t_6_7 f_t_6_8 = some (r, o_t_6', f_t_6_6', f_t_6_7', f_t_6_8')) : MI l g yX9_chainOf wsX9_chainOf ({ frames := 3, cells := 0, slots := 0, locals := 81 } : Room) [.ref a_t, .int x1] [oX9 a_t p_t o_t, oX1 (p_t 1) p_t_1 o_t_1, aI g (p_t_1 4) 7 f_t_1_4, aI g (p_t_1 7) 7 f_t_1_7, aI g (p_t_1 10) 8 f_t_1_10, aI g (p_t_1 11) 8 f_t_1_11, aI g (p_t_1 12) 8 f_t_1_12, oX2 (p_t 5) p_t_5 o_t_5, aI g (p_t_5 6) 7 f_t_5_6, aI g (p_t_5 7) 7 f_t_5_7, oX2 (p_t 6) p_t_6 o_t_6, aI g (p_t_6 6) 7 f_t_6_6, aI g (p_t_6 7) 7 f_t_6_7, aI g (p_t_6 8) 7 f_t_6_8] r [oX9 a_t p_t o_t, oX1 (p_t 1) p_t_1 o_t_1, aI g (p_t_1 4) 7 f_t_1_4, aI g (p_t_1 7) 7 f_t_1_7, aI g (p_t_1 10) 8 f_t_1_10, aI g (p_t_1 11) 8 f_t_1_11, aI g (p_t_1 12) 8 f_t_1_12, oX2 (p_t 5) p_t_5 o_t_5, aI g (p_t_5 6) 7 f_t_5_6, aI g (p_t_5 7) 7 f_t_5_7, oX2 (p_t 6) p_t_6 o_t_6', aI g (p_t_6 6) 7 f_t_6_6', aI g (p_t_6 7) 7 f_t_6_7', aI g (p_t_6 8) 7 f_t_6_8'] := by
  refine MI.of (cc := cX9_chainOf) (maxL := 2) (rt := .int) (own := RX9) rfl rfl (by decide) (Nat.le_of_ble_eq_true rfl) ?_
  intro p e s m args below meth c A C0 hP hD hS ls hl
  obtain ⟨hx, hb, hml, hown, hts, hr, hlk, hK, hA, hSW⟩ := id C0
  have hl : lv_has ls 2 [(0, .ref a_t), (1, .int x1)] := hl
  rw [fX9_chainOf] at hF
  refine lv_aload_n hx hb dX9_chainOf_0 rfl (lv_at hl 0 rfl) ?_
  refine va_get (D := g.1) (ci := 9) (v := .ref (p_t 6)) (C := RX9) (T := TX9) (N := 15) hx hb hts iX9_chainOf_X9 hown hK.1 hP 0 rfl rfl 6 (by decide) (hts _ kX9_chainOf_41) (fun _ h9 => h9) rfl dX9_chainOf_1 ?_
  refine lv_aload_n hx hb dX9_chainOf_4 rfl (lv_at hl 0 rfl) ?_
  refine va_get (D := g.1) (ci := 9) (v := .ref (p_t 5)) (C := RX9) (T := TX9) (N := 15) hx hb hts iX9_chainOf_X9 hown hK.1 hP 0 rfl rfl 5 (by decide) (hts _ kX9_chainOf_37) (fun _ h9 => h9) rfl dX9_chainOf_5 ?_
  obtain ⟨u_1, u_2, u_3, hu_4, hF⟩ := ob3_some hF
  refine call_v (wr := [oX9 a_t p_t o_t, oX1 (p_t 1) p_t_1 o_t_1, aI g (p_t_1 4) 7 f_t_1_4, aI g (p_t_1 7) 7 f_t_1_7, aI g (p_t_1 10) 8 f_t_1_10, aI g (p_t_1 11) 8 f_t_1_11, aI g (p_t_1 12) 8 f_t_1_12, aI g (p_t_6 8) 7 f_t_6_8]) (As := [.ref (p_t 5)]) (rest := []) (ci := 2) (q0 := 0) C0 (mX2_become l g (p_t 6) (p_t 5) p_t_6 p_t_5 n o_t_6 f_t_6_6 f_t_6_7 o_t_5 f_t_5_6 f_t_5_7 u_1 u_2 u_3 hu_4) (cwV 1 hts gX9_chainOf_X2_become rfl rfl rfl (by decide +kernel) ⟨Nat.le_of_ble_eq_true rfl, Nat.le_of_ble_eq_true rfl⟩) hP hD hS [10, 11, 12, 7, 8, 9] [0, 1, 2, 3, 4, 5, 6, 13] rfl rfl rfl rfl rfl (by decide) rfl rfl hl.1 rfl rfl (Nat.le_of_ble_eq_true rfl) ⟨Nat.zero_le _, Nat.zero_le _⟩ dX9_chainOf_8 ?_
  intro H locs hP hD hS
  refine lv_aload_n hx hb dX9_chainOf_11 rfl (lv_at hl 0 rfl) ?_
  refine va_get (D := g.1) (ci := 9) (v := .ref (p_t 6)) (C := RX9) (T := TX9) (N := 15) hx hb hts iX9_chainOf_X9 hown hK.1 hP 0 rfl rfl 6 (by decide) (hts _ kX9_chainOf_41) (fun _ h9 => h9) rfl dX9_chainOf_12 ?_
  refine lv_aload_n hx hb dX9_chainOf_15 rfl (lv_at hl 0 rfl) ?_
  refine va_get (D := g.1) (ci := 9) (v := .ref (p_t 1)) (C := RX9) (T := TX9) (N := 15) hx hb hts iX9_chainOf_X9 hown hK.1 hP 0 rfl rfl 1 (by decide) (hts _ kX9_chainOf_19) (fun _ h9 => h9) rfl dX9_chainOf_16 ?_
  refine lv_iconst (v := (1 : Int32)) hx hb dX9_chainOf_19 (by decide) ?_
  refine lv_iload_n hx hb dX9_chainOf_20 rfl (lv_at hl 1 rfl) ?_
  refine lv_ishl hx hb dX9_chainOf_21 ?_
  obtain ⟨u_5, u_6, u_7, u_8, u_9, hu_10, hF⟩ := ob5_some hF
  refine call_i (wr := [oX9 a_t p_t o_t, oX2 (p_t 5) p_t_5 o_t_5, aI g (p_t_5 6) 7 f_t_5_6, aI g (p_t_5 7) 7 f_t_5_7]) (As := [.ref (p_t 1), .int ((1 : Int32) <<< (x1 &&& 31))]) (rest := []) (ci := 2) (q0 := 0) C0 (mX2_dismiss l g (p_t 6) (p_t 1) p_t_6 p_t_1 n ((1 : Int32) <<< (x1 &&& 31)) u_1 u_2 u_3 f_t_6_8 o_t_1 f_t_1_4 f_t_1_7 f_t_1_10 f_t_1_11 f_t_1_12 u_5 u_6 u_7 u_8 u_9 hu_10) (cwV 2 hts gX9_chainOf_X2_dismiss rfl rfl rfl (by decide +kernel) ⟨Nat.le_of_ble_eq_true rfl, Nat.le_of_ble_eq_true rfl⟩) hP hD hS [8, 9, 10, 7, 1, 2, 3, 4, 5, 6] [0, 11, 12, 13] rfl rfl rfl rfl rfl (by decide) rfl rfl hl.1 rfl rfl (Nat.le_of_ble_eq_true rfl) ⟨Nat.zero_le _, Nat.zero_le _⟩ dX9_chainOf_22 ?_
  intro H locs hP hD hS
  cases hF
  exact ret_i C0 hP hD hS [0, 8, 9, 10, 11, 12, 13, 1, 2, 3, 4, 5, 6, 7] rfl rfl rfl dX9_chainOf_25 rfl

theorem dAX9_chain : ∀ q ∈ ([(0, (.aload_n 0, 1)), (1, (.iload_n 1, 1)), (2, (.invokevirtual 203, 3)), (5, (.ifCond .eq 11, 3)), (8, (.aload_n 0, 1)), (9, (.iload_n 1, 1)), (10, (.invokevirtual 206, 3)), (13, (.goto 4, 3)), (16, (.iconst (-1), 1)), (17, (.ireturn, 1))] : List (Nat × (Instr × Nat))), decode cX9_chain q.1 = .ok q.2 := by decide +kernel
theorem dX9_chain_0 : decode cX9_chain 0 = .ok (.aload_n 0, 1) := dAX9_chain (0, (.aload_n 0, 1)) (List.mem_of_getElem? (i := 0) rfl)
theorem dX9_chain_1 : decode cX9_chain 1 = .ok (.iload_n 1, 1) := dAX9_chain (1, (.iload_n 1, 1)) (List.mem_of_getElem? (i := 1) rfl)
theorem dX9_chain_2 : decode cX9_chain 2 = .ok (.invokevirtual 203, 3) := dAX9_chain (2, (.invokevirtual 203, 3)) (List.mem_of_getElem? (i := 2) rfl)
theorem dX9_chain_5 : decode cX9_chain 5 = .ok (.ifCond .eq 11, 3) := dAX9_chain (5, (.ifCond .eq 11, 3)) (List.mem_of_getElem? (i := 3) rfl)
theorem dX9_chain_8 : decode cX9_chain 8 = .ok (.aload_n 0, 1) := dAX9_chain (8, (.aload_n 0, 1)) (List.mem_of_getElem? (i := 4) rfl)
theorem dX9_chain_9 : decode cX9_chain 9 = .ok (.iload_n 1, 1) := dAX9_chain (9, (.iload_n 1, 1)) (List.mem_of_getElem? (i := 5) rfl)
theorem dX9_chain_10 : decode cX9_chain 10 = .ok (.invokevirtual 206, 3) := dAX9_chain (10, (.invokevirtual 206, 3)) (List.mem_of_getElem? (i := 6) rfl)
theorem dX9_chain_13 : decode cX9_chain 13 = .ok (.goto 4, 3) := dAX9_chain (13, (.goto 4, 3)) (List.mem_of_getElem? (i := 7) rfl)
theorem dX9_chain_16 : decode cX9_chain 16 = .ok (.iconst (-1), 1) := dAX9_chain (16, (.iconst (-1), 1)) (List.mem_of_getElem? (i := 8) rfl)
theorem dX9_chain_17 : decode cX9_chain 17 = .ok (.ireturn, 1) := dAX9_chain (17, (.ireturn, 1)) (List.mem_of_getElem? (i := 9) rfl)
set_option maxRecDepth 20000 in
theorem ggX9_chain_X9_presentAsked : GoodIn wsX9_chain wsX9_presentAsked := goodIn_r _ [5, 6, 7, 8, 9, 10, 4, 11, 12, 13, 14, 15, 16, 17, 18, 19, 20, 21, 70, 71, 72, 73, 74, 75, 76, 77, 78, 79, 80, 81, 82, 83, 84, 85, 86, 87, 88, 89, 90, 91, 92, 93, 94, 95, 96, 97, 98, 99, 100, 101, 102, 103, 104, 105, 106, 107, 108, 109, 110] rfl (by decide +kernel)
set_option maxRecDepth 20000 in
theorem gX9_chain_X9_presentAsked : GoodIn wsX9_chain (wsV RX9 203 RX9 yX9_presentAsked wsX9_presentAsked) := goodIn_app (goodIn_of _ (by decide +kernel)) ggX9_chain_X9_presentAsked
set_option maxRecDepth 20000 in
theorem ggX9_chain_X9_chainOf : GoodIn wsX9_chain wsX9_chainOf := goodIn_r _ [25, 26, 6, 12, 27, 28, 29, 17, 30, 31, 19, 32, 33, 34, 35, 36, 37, 38, 39, 40, 41, 42, 43, 44, 45, 46, 47, 48, 49, 50, 51, 52, 53, 54, 55, 56, 57, 58, 59, 60, 61, 62, 63, 64, 65, 66, 67, 68, 69, 70, 71, 72, 73, 74, 75, 76, 77, 78, 79, 80, 81, 82, 83, 84, 102, 103, 104, 105, 106, 107, 108, 109, 110, 85, 86, 87, 88, 89, 90, 91, 92, 93, 94, 95, 96, 97, 98, 99, 100, 101] rfl (by decide +kernel)
set_option maxRecDepth 20000 in
theorem gX9_chain_X9_chainOf : GoodIn wsX9_chain (wsV RX9 206 RX9 yX9_chainOf wsX9_chainOf) := goodIn_app (goodIn_of _ (by decide +kernel)) ggX9_chain_X9_chainOf
set_option maxHeartbeats 4000000 in
set_option maxRecDepth 100000 in
theorem mX9_chain (l : Launch) (g : GG) (a_t : Nat) (p_t : Nat → Nat) (p_t_1 : Nat → Nat) (p_t_5 : Nat → Nat) (p_t_6 : Nat → Nat) (n : Nat) (x1 : Int32) (o_t : Nat → Int32) (o_t_1 : Nat → Int32) (f_t_1_4 : Nat → Int32) (f_t_1_7 : Nat → Int32) (f_t_1_10 : Nat → Int32) (f_t_1_11 : Nat → Int32) (f_t_1_12 : Nat → Int32) (o_t_5 : Nat → Int32) (f_t_5_6 : Nat → Int32) (f_t_5_7 : Nat → Int32) (o_t_6 : Nat → Int32) (f_t_6_6 : Nat → Int32) (f_t_6_7 : Nat → Int32) (f_t_6_8 : Nat → Int32) (r : Int32) (o_t' : Nat → Int32) (o_t_6' : Nat → Int32) (f_t_6_6' : Nat → Int32) (f_t_6_7' : Nat → Int32) (f_t_6_8' : Nat → Int32) (hF : fX9_chain n x1 o_t o_t_1 f_t_1_4 f_t_1_7 f_t_1_10 f_t_1_11 f_t_1_12 o_t_5 f_t_5_6 f_t_5_7 o_t_6 f_t_6_6 f_t_6_7 f_t_6_8 = some (r, o_t', o_t_6', f_t_6_6', f_t_6_7', f_t_6_8')) : MI l g yX9_chain wsX9_chain ({ frames := 4, cells := 0, slots := 0, locals := 102 } : Room) [.ref a_t, .int x1] [oX9 a_t p_t o_t, oX1 (p_t 1) p_t_1 o_t_1, aI g (p_t_1 4) 7 f_t_1_4, aI g (p_t_1 7) 7 f_t_1_7, aI g (p_t_1 10) 8 f_t_1_10, aI g (p_t_1 11) 8 f_t_1_11, aI g (p_t_1 12) 8 f_t_1_12, oX2 (p_t 5) p_t_5 o_t_5, aI g (p_t_5 6) 7 f_t_5_6, aI g (p_t_5 7) 7 f_t_5_7, oX2 (p_t 6) p_t_6 o_t_6, aI g (p_t_6 6) 7 f_t_6_6, aI g (p_t_6 7) 7 f_t_6_7, aI g (p_t_6 8) 7 f_t_6_8] r [oX9 a_t p_t o_t', oX1 (p_t 1) p_t_1 o_t_1, aI g (p_t_1 4) 7 f_t_1_4, aI g (p_t_1 7) 7 f_t_1_7, aI g (p_t_1 10) 8 f_t_1_10, aI g (p_t_1 11) 8 f_t_1_11, aI g (p_t_1 12) 8 f_t_1_12, oX2 (p_t 5) p_t_5 o_t_5, aI g (p_t_5 6) 7 f_t_5_6, aI g (p_t_5 7) 7 f_t_5_7, oX2 (p_t 6) p_t_6 o_t_6', aI g (p_t_6 6) 7 f_t_6_6', aI g (p_t_6 7) 7 f_t_6_7', aI g (p_t_6 8) 7 f_t_6_8'] := by
  refine MI.of (cc := cX9_chain) (maxL := 2) (rt := .int) (own := RX9) rfl rfl (by decide) (Nat.le_of_ble_eq_true rfl) ?_
  intro p e s m args below meth c A C0 hP hD hS ls hl
  obtain ⟨hx, hb, hml, hown, hts, hr, hlk, hK, hA, hSW⟩ := id C0
  have hl : lv_has ls 2 [(0, .ref a_t), (1, .int x1)] := hl
  rw [fX9_chain] at hF
  refine lv_aload_n hx hb dX9_chain_0 rfl (lv_at hl 0 rfl) ?_
  refine lv_iload_n hx hb dX9_chain_1 rfl (lv_at hl 1 rfl) ?_
  obtain ⟨u_1, u_2, hu_3, hF⟩ := ob2_some hF
  refine call_i (wr := [aI g (p_t_1 4) 7 f_t_1_4, aI g (p_t_1 7) 7 f_t_1_7, aI g (p_t_1 10) 8 f_t_1_10, aI g (p_t_1 11) 8 f_t_1_11, aI g (p_t_1 12) 8 f_t_1_12, aI g (p_t_5 6) 7 f_t_5_6, aI g (p_t_5 7) 7 f_t_5_7, oX2 (p_t 6) p_t_6 o_t_6, aI g (p_t_6 6) 7 f_t_6_6, aI g (p_t_6 7) 7 f_t_6_7, aI g (p_t_6 8) 7 f_t_6_8]) (As := [.int x1]) (rest := []) (ci := 9) (q0 := 0) C0 (mX9_presentAsked l g a_t p_t p_t_1 p_t_5 n x1 o_t o_t_1 o_t_5 u_1 u_2 hu_3) (cwV 1 hts gX9_chain_X9_presentAsked rfl rfl rfl (by decide +kernel) ⟨Nat.le_of_ble_eq_true rfl, Nat.le_of_ble_eq_true rfl⟩) hP hD hS [0, 1, 7] [2, 3, 4, 5, 6, 8, 9, 10, 11, 12, 13] rfl rfl rfl rfl rfl (by decide) rfl rfl hl.1 rfl rfl (Nat.le_of_ble_eq_true rfl) ⟨Nat.zero_le _, Nat.zero_le _⟩ dX9_chain_2 ?_
  intro H locs hP hD hS
  refine lv_if_eq (tgt := 16) hx hb dX9_chain_5 (by decide) (fun c_4 => ?_) (fun c_4 => ?_)
  · have hF := it_p c_4 hF
    refine lv_iconst (v := (-1 : Int32)) hx hb dX9_chain_16 (by decide) ?_
    cases hF
    exact ret_i C0 hP hD hS [11, 12, 0, 1, 2, 3, 4, 13, 5, 6, 7, 8, 9, 10] rfl rfl rfl dX9_chain_17 rfl
  · have hF := it_n c_4 hF
    refine lv_aload_n hx hb dX9_chain_8 rfl (lv_at hl 0 rfl) ?_
    refine lv_iload_n hx hb dX9_chain_9 rfl (lv_at hl 1 rfl) ?_
    obtain ⟨u_5, u_6, u_7, u_8, u_9, hu_10, hF⟩ := ob5_some hF
    refine call_i (wr := []) (As := [.int x1]) (rest := []) (ci := 9) (q0 := 0) C0 (mX9_chainOf l g a_t p_t p_t_1 p_t_5 p_t_6 n x1 u_2 o_t_1 f_t_1_4 f_t_1_7 f_t_1_10 f_t_1_11 f_t_1_12 o_t_5 f_t_5_6 f_t_5_7 o_t_6 f_t_6_6 f_t_6_7 f_t_6_8 u_5 u_6 u_7 u_8 u_9 hu_10) (cwV 1 hts gX9_chain_X9_chainOf rfl rfl rfl (by decide +kernel) ⟨Nat.le_of_ble_eq_true rfl, Nat.le_of_ble_eq_true rfl⟩) hP hD hS [11, 12, 0, 1, 2, 3, 4, 13, 5, 6, 7, 8, 9, 10] [] rfl rfl rfl rfl rfl (by decide) rfl rfl hl.1 rfl rfl (Nat.le_of_ble_eq_true rfl) ⟨Nat.zero_le _, Nat.zero_le _⟩ dX9_chain_10 ?_
    intro H locs hP hD hS
    refine lv_goto (tgt := 17) hx hb dX9_chain_13 (by decide) ?_
    cases hF
    exact ret_i C0 hP hD hS [0, 1, 2, 3, 4, 5, 6, 7, 8, 9, 10, 11, 12, 13] rfl rfl rfl dX9_chain_17 rfl

theorem dAX9_biggest : ∀ q ∈ ([(0, (.aload_n 0, 1)), (1, (.invokevirtual 153, 3)), (4, (.ifCond .ne 5, 3)), (7, (.iconst (-1), 1)), (8, (.ireturn, 1)), (9, (.iconst 0, 1)), (10, (.istore_n 1, 1)), (11, (.bipush (-2), 2)), (13, (.istore_n 2, 1)), (14, (.iconst 0, 1)), (15, (.istore_n 3, 1)), (16, (.iload_n 3, 1)), (17, (.aload_n 0, 1)), (18, (.getfield 19, 3)), (21, (.getfield 109, 3)), (24, (.if_icmp .ge 45, 3)), (27, (.aload_n 0, 1)), (28, (.getfield 37, 3)), (31, (.iload_n 3, 1)), (32, (.invokevirtual 133, 3)), (35, (.ifCond .eq 14, 3)), (38, (.aload_n 0, 1)), (39, (.iload_n 3, 1)), (40, (.invokevirtual 206, 3)), (43, (.invokestatic 176, 3)), (46, (.goto 4, 3)), (49, (.iconst 0, 1)), (50, (.istore 4, 2)), (52, (.iload 4, 2)), (54, (.iload_n 1, 1)), (55, (.if_icmp .le 8, 3)), (58, (.iload 4, 2)), (60, (.istore_n 1, 1)), (61, (.iload_n 3, 1)), (62, (.istore_n 2, 1)), (63, (.iinc 3 1, 3)), (66, (.goto (-50), 3)), (69, (.iload_n 2, 1)), (70, (.ireturn, 1))] : List (Nat × (Instr × Nat))), decode cX9_biggest q.1 = .ok q.2 := by decide +kernel
theorem dX9_biggest_0 : decode cX9_biggest 0 = .ok (.aload_n 0, 1) := dAX9_biggest (0, (.aload_n 0, 1)) (List.mem_of_getElem? (i := 0) rfl)
theorem dX9_biggest_1 : decode cX9_biggest 1 = .ok (.invokevirtual 153, 3) := dAX9_biggest (1, (.invokevirtual 153, 3)) (List.mem_of_getElem? (i := 1) rfl)
theorem dX9_biggest_4 : decode cX9_biggest 4 = .ok (.ifCond .ne 5, 3) := dAX9_biggest (4, (.ifCond .ne 5, 3)) (List.mem_of_getElem? (i := 2) rfl)
theorem dX9_biggest_7 : decode cX9_biggest 7 = .ok (.iconst (-1), 1) := dAX9_biggest (7, (.iconst (-1), 1)) (List.mem_of_getElem? (i := 3) rfl)
theorem dX9_biggest_8 : decode cX9_biggest 8 = .ok (.ireturn, 1) := dAX9_biggest (8, (.ireturn, 1)) (List.mem_of_getElem? (i := 4) rfl)
theorem dX9_biggest_9 : decode cX9_biggest 9 = .ok (.iconst 0, 1) := dAX9_biggest (9, (.iconst 0, 1)) (List.mem_of_getElem? (i := 5) rfl)
theorem dX9_biggest_10 : decode cX9_biggest 10 = .ok (.istore_n 1, 1) := dAX9_biggest (10, (.istore_n 1, 1)) (List.mem_of_getElem? (i := 6) rfl)
theorem dX9_biggest_11 : decode cX9_biggest 11 = .ok (.bipush (-2), 2) := dAX9_biggest (11, (.bipush (-2), 2)) (List.mem_of_getElem? (i := 7) rfl)
theorem dX9_biggest_13 : decode cX9_biggest 13 = .ok (.istore_n 2, 1) := dAX9_biggest (13, (.istore_n 2, 1)) (List.mem_of_getElem? (i := 8) rfl)
theorem dX9_biggest_14 : decode cX9_biggest 14 = .ok (.iconst 0, 1) := dAX9_biggest (14, (.iconst 0, 1)) (List.mem_of_getElem? (i := 9) rfl)
theorem dX9_biggest_15 : decode cX9_biggest 15 = .ok (.istore_n 3, 1) := dAX9_biggest (15, (.istore_n 3, 1)) (List.mem_of_getElem? (i := 10) rfl)
theorem dX9_biggest_16 : decode cX9_biggest 16 = .ok (.iload_n 3, 1) := dAX9_biggest (16, (.iload_n 3, 1)) (List.mem_of_getElem? (i := 11) rfl)
theorem dX9_biggest_17 : decode cX9_biggest 17 = .ok (.aload_n 0, 1) := dAX9_biggest (17, (.aload_n 0, 1)) (List.mem_of_getElem? (i := 12) rfl)
theorem dX9_biggest_18 : decode cX9_biggest 18 = .ok (.getfield 19, 3) := dAX9_biggest (18, (.getfield 19, 3)) (List.mem_of_getElem? (i := 13) rfl)
theorem dX9_biggest_21 : decode cX9_biggest 21 = .ok (.getfield 109, 3) := dAX9_biggest (21, (.getfield 109, 3)) (List.mem_of_getElem? (i := 14) rfl)
theorem dX9_biggest_24 : decode cX9_biggest 24 = .ok (.if_icmp .ge 45, 3) := dAX9_biggest (24, (.if_icmp .ge 45, 3)) (List.mem_of_getElem? (i := 15) rfl)
theorem dX9_biggest_27 : decode cX9_biggest 27 = .ok (.aload_n 0, 1) := dAX9_biggest (27, (.aload_n 0, 1)) (List.mem_of_getElem? (i := 16) rfl)
theorem dX9_biggest_28 : decode cX9_biggest 28 = .ok (.getfield 37, 3) := dAX9_biggest (28, (.getfield 37, 3)) (List.mem_of_getElem? (i := 17) rfl)
theorem dX9_biggest_31 : decode cX9_biggest 31 = .ok (.iload_n 3, 1) := dAX9_biggest (31, (.iload_n 3, 1)) (List.mem_of_getElem? (i := 18) rfl)
theorem dX9_biggest_32 : decode cX9_biggest 32 = .ok (.invokevirtual 133, 3) := dAX9_biggest (32, (.invokevirtual 133, 3)) (List.mem_of_getElem? (i := 19) rfl)
theorem dX9_biggest_35 : decode cX9_biggest 35 = .ok (.ifCond .eq 14, 3) := dAX9_biggest (35, (.ifCond .eq 14, 3)) (List.mem_of_getElem? (i := 20) rfl)
theorem dX9_biggest_38 : decode cX9_biggest 38 = .ok (.aload_n 0, 1) := dAX9_biggest (38, (.aload_n 0, 1)) (List.mem_of_getElem? (i := 21) rfl)
theorem dX9_biggest_39 : decode cX9_biggest 39 = .ok (.iload_n 3, 1) := dAX9_biggest (39, (.iload_n 3, 1)) (List.mem_of_getElem? (i := 22) rfl)
theorem dX9_biggest_40 : decode cX9_biggest 40 = .ok (.invokevirtual 206, 3) := dAX9_biggest (40, (.invokevirtual 206, 3)) (List.mem_of_getElem? (i := 23) rfl)
theorem dX9_biggest_43 : decode cX9_biggest 43 = .ok (.invokestatic 176, 3) := dAX9_biggest (43, (.invokestatic 176, 3)) (List.mem_of_getElem? (i := 24) rfl)
theorem dX9_biggest_46 : decode cX9_biggest 46 = .ok (.goto 4, 3) := dAX9_biggest (46, (.goto 4, 3)) (List.mem_of_getElem? (i := 25) rfl)
theorem dX9_biggest_49 : decode cX9_biggest 49 = .ok (.iconst 0, 1) := dAX9_biggest (49, (.iconst 0, 1)) (List.mem_of_getElem? (i := 26) rfl)
theorem dX9_biggest_50 : decode cX9_biggest 50 = .ok (.istore 4, 2) := dAX9_biggest (50, (.istore 4, 2)) (List.mem_of_getElem? (i := 27) rfl)
theorem dX9_biggest_52 : decode cX9_biggest 52 = .ok (.iload 4, 2) := dAX9_biggest (52, (.iload 4, 2)) (List.mem_of_getElem? (i := 28) rfl)
theorem dX9_biggest_54 : decode cX9_biggest 54 = .ok (.iload_n 1, 1) := dAX9_biggest (54, (.iload_n 1, 1)) (List.mem_of_getElem? (i := 29) rfl)
theorem dX9_biggest_55 : decode cX9_biggest 55 = .ok (.if_icmp .le 8, 3) := dAX9_biggest (55, (.if_icmp .le 8, 3)) (List.mem_of_getElem? (i := 30) rfl)
theorem dX9_biggest_58 : decode cX9_biggest 58 = .ok (.iload 4, 2) := dAX9_biggest (58, (.iload 4, 2)) (List.mem_of_getElem? (i := 31) rfl)
theorem dX9_biggest_60 : decode cX9_biggest 60 = .ok (.istore_n 1, 1) := dAX9_biggest (60, (.istore_n 1, 1)) (List.mem_of_getElem? (i := 32) rfl)
theorem dX9_biggest_61 : decode cX9_biggest 61 = .ok (.iload_n 3, 1) := dAX9_biggest (61, (.iload_n 3, 1)) (List.mem_of_getElem? (i := 33) rfl)
theorem dX9_biggest_62 : decode cX9_biggest 62 = .ok (.istore_n 2, 1) := dAX9_biggest (62, (.istore_n 2, 1)) (List.mem_of_getElem? (i := 34) rfl)
theorem dX9_biggest_63 : decode cX9_biggest 63 = .ok (.iinc 3 1, 3) := dAX9_biggest (63, (.iinc 3 1, 3)) (List.mem_of_getElem? (i := 35) rfl)
theorem dX9_biggest_66 : decode cX9_biggest 66 = .ok (.goto (-50), 3) := dAX9_biggest (66, (.goto (-50), 3)) (List.mem_of_getElem? (i := 36) rfl)
theorem dX9_biggest_69 : decode cX9_biggest 69 = .ok (.iload_n 2, 1) := dAX9_biggest (69, (.iload_n 2, 1)) (List.mem_of_getElem? (i := 37) rfl)
theorem dX9_biggest_70 : decode cX9_biggest 70 = .ok (.ireturn, 1) := dAX9_biggest (70, (.ireturn, 1)) (List.mem_of_getElem? (i := 38) rfl)
set_option maxRecDepth 20000 in
theorem ggX9_biggest_X9_asked : GoodIn wsX9_biggest wsX9_asked := goodIn_r _ [8, 9, 10, 74, 75, 76, 77, 78, 79, 80, 81, 82, 83, 84, 85, 86, 87, 88] rfl (by decide +kernel)
set_option maxRecDepth 20000 in
theorem gX9_biggest_X9_asked : GoodIn wsX9_biggest (wsV RX9 153 RX9 yX9_asked wsX9_asked) := goodIn_app (goodIn_of _ (by decide +kernel)) ggX9_biggest_X9_asked
set_option maxRecDepth 20000 in
theorem ggX9_biggest_X2_has : GoodIn wsX9_biggest wsX2_has := goodIn_r _ [15, 16, 17, 7, 18, 106, 107, 108, 109, 110, 111, 112, 113, 114] rfl (by decide +kernel)
set_option maxRecDepth 20000 in
theorem gX9_biggest_X2_has : GoodIn wsX9_biggest (wsV RX9 133 RX2 yX2_has wsX2_has) := goodIn_app (goodIn_of _ (by decide +kernel)) ggX9_biggest_X2_has
set_option maxRecDepth 20000 in
theorem ggX9_biggest_X9_chainOf : GoodIn wsX9_biggest wsX9_chainOf := goodIn_r _ [22, 23, 3, 1, 24, 25, 26, 14, 27, 28, 16, 29, 30, 31, 32, 33, 34, 35, 36, 37, 38, 39, 40, 41, 42, 43, 44, 45, 46, 47, 48, 49, 50, 51, 52, 53, 54, 55, 56, 57, 58, 59, 60, 61, 62, 63, 64, 65, 66, 74, 75, 76, 77, 78, 79, 80, 81, 82, 83, 84, 85, 86, 87, 88, 106, 107, 108, 109, 110, 111, 112, 113, 114, 89, 90, 91, 92, 93, 94, 95, 96, 97, 98, 99, 100, 101, 102, 103, 104, 105] rfl (by decide +kernel)
set_option maxRecDepth 20000 in
theorem gX9_biggest_X9_chainOf : GoodIn wsX9_biggest (wsV RX9 206 RX9 yX9_chainOf wsX9_chainOf) := goodIn_app (goodIn_of _ (by decide +kernel)) ggX9_biggest_X9_chainOf
set_option maxRecDepth 20000 in
theorem ggX9_biggest_J6_bitCount_0f7a4 : GoodIn wsX9_biggest wsJ6_bitCount_0f7a4 := goodIn_r _ [70, 71, 72, 73] rfl (by decide +kernel)
set_option maxRecDepth 20000 in
theorem gX9_biggest_J6_bitCount_0f7a4 : GoodIn wsX9_biggest (va_wsS RX9 176 yJ6_bitCount_0f7a4 wsJ6_bitCount_0f7a4) := goodIn_app (goodIn_of _ (by decide +kernel)) ggX9_biggest_J6_bitCount_0f7a4
theorem kX9_biggest_19 : Cond.fieldLink RX9 19 "EveningVow" "told" "LEveningVow$House;" ∈ wsX9_biggest := List.mem_of_getElem? (i := 1) rfl
theorem iX9_biggest_X9 : ∀ w ∈ u_ws RX9 TX9 15, w ∈ wsX9_biggest := fun w h => (List.mem_cons_of_mem _ (List.mem_append_left _ (List.mem_append_left _ (List.mem_append_right _ h))))
theorem kX9_biggest_109 : Cond.fieldLink RX9 109 "EveningVow$House" "guests" "I" ∈ wsX9_biggest := List.mem_of_getElem? (i := 2) rfl
theorem iX9_biggest_X1 : ∀ w ∈ u_ws RX1 TX1 17, w ∈ wsX9_biggest := fun w h => (List.mem_cons_of_mem _ (List.mem_append_left _ (List.mem_append_right _ h)))
theorem kX9_biggest_37 : Cond.fieldLink RX9 37 "EveningVow" "now" "LEveningVow$Night;" ∈ wsX9_biggest := List.mem_of_getElem? (i := 3) rfl
set_option maxHeartbeats 4000000 in
set_option maxRecDepth 100000 in
theorem wX9_biggest_L16 {p : Program} {l : Launch} {e : Env} {s : State} {m : MethodId} {args : Array Value} {below : List Frame} {meth : Method} {c : Code} {g : GG} {A : Nat → Prop} (C0 : Cx p s m args meth c cX9_biggest 5 (some .int) RX9 wsX9_biggest g A) (a_t : Nat) (p_t : Nat → Nat) (p_t_1 : Nat → Nat) (p_t_5 : Nat → Nat) (p_t_6 : Nat → Nat) (n : Nat) (o_t : Nat → Int32) (o_t_1 : Nat → Int32) (f_t_1_4 : Nat → Int32) (f_t_1_7 : Nat → Int32) (f_t_1_10 : Nat → Int32) (f_t_1_11 : Nat → Int32) (f_t_1_12 : Nat → Int32) (o_t_5 : Nat → Int32) (f_t_5_6 : Nat → Int32) (f_t_5_7 : Nat → Int32)  (r : Int32) (o_t' : Nat → Int32) (o_t_6' : Nat → Int32) (f_t_6_6' : Nat → Int32) (f_t_6_7' : Nat → Int32) (f_t_6_8' : Nat → Int32) (K : Int32 → (Nat → Int32) → (Nat → Int32) → (Nat → Int32) → (Nat → Int32) → Option (Int32 × (Nat → Int32) × (Nat → Int32) × (Nat → Int32) × (Nat → Int32) × (Nat → Int32))) (hKx : ∀ (x2 : Int32) (o_t_6 : Nat → Int32) (f_t_6_6 : Nat → Int32) (f_t_6_7 : Nat → Int32) (f_t_6_8 : Nat → Int32) (H : Heap) (locs : List Loc) (ls : Array Slot), K x2 o_t_6 f_t_6_6 f_t_6_7 f_t_6_8 = some (r, o_t', o_t_6', f_t_6_6', f_t_6_7', f_t_6_8') → va_P g.1 vwCl [oX9 a_t p_t o_t, oX1 (p_t 1) p_t_1 o_t_1, aI g (p_t_1 4) 7 f_t_1_4, aI g (p_t_1 7) 7 f_t_1_7, aI g (p_t_1 10) 8 f_t_1_10, aI g (p_t_1 11) 8 f_t_1_11, aI g (p_t_1 12) 8 f_t_1_12, oX2 (p_t 5) p_t_5 o_t_5, aI g (p_t_5 6) 7 f_t_5_6, aI g (p_t_5 7) 7 f_t_5_7, oX2 (p_t 6) p_t_6 o_t_6, aI g (p_t_6 6) 7 f_t_6_6, aI g (p_t_6 7) 7 f_t_6_7, aI g (p_t_6 8) 7 f_t_6_8] H → va_D A [oX9 a_t p_t o_t, oX1 (p_t 1) p_t_1 o_t_1, aI g (p_t_1 4) 7 f_t_1_4, aI g (p_t_1 7) 7 f_t_1_7, aI g (p_t_1 10) 8 f_t_1_10, aI g (p_t_1 11) 8 f_t_1_11, aI g (p_t_1 12) 8 f_t_1_12, oX2 (p_t 5) p_t_5 o_t_5, aI g (p_t_5 6) 7 f_t_5_6, aI g (p_t_5 7) 7 f_t_5_7, oX2 (p_t 6) p_t_6 o_t_6, aI g (p_t_6 6) 7 f_t_6_6, aI g (p_t_6 7) 7 f_t_6_7, aI g (p_t_6 8) 7 f_t_6_8] → va_S A s.heap H locs → lv_has ls 5 [(2, .int x2)] → W p l e ({ frames := 4, cells := 0, slots := 0, locals := 102 } : Room) s m args below meth c H locs 0 0 (MQ below (EndI g r [oX9 a_t p_t o_t', oX1 (p_t 1) p_t_1 o_t_1, aI g (p_t_1 4) 7 f_t_1_4, aI g (p_t_1 7) 7 f_t_1_7, aI g (p_t_1 10) 8 f_t_1_10, aI g (p_t_1 11) 8 f_t_1_11, aI g (p_t_1 12) 8 f_t_1_12, oX2 (p_t 5) p_t_5 o_t_5, aI g (p_t_5 6) 7 f_t_5_6, aI g (p_t_5 7) 7 f_t_5_7, oX2 (p_t 6) p_t_6 o_t_6', aI g (p_t_6 6) 7 f_t_6_6', aI g (p_t_6 7) 7 f_t_6_7', aI g (p_t_6 8) 7 f_t_6_8'] A) args s 0 0 A) (F0 m 69 ls [])) : ∀ (k : Nat) (x1 : Int32) (x2 : Int32) (x3 : Int32) (o_t_6 : Nat → Int32) (f_t_6_6 : Nat → Int32) (f_t_6_7 : Nat → Int32) (f_t_6_8 : Nat → Int32), fX9_biggest_L16 n o_t o_t_1 f_t_1_4 f_t_1_7 f_t_1_10 f_t_1_11 f_t_1_12 o_t_5 f_t_5_6 f_t_5_7 K k x1 x2 x3 o_t_6 f_t_6_6 f_t_6_7 f_t_6_8 = some (r, o_t', o_t_6', f_t_6_6', f_t_6_7', f_t_6_8') → ∀ (H : Heap) (locs : List Loc) (ls : Array Slot), va_P g.1 vwCl [oX9 a_t p_t o_t, oX1 (p_t 1) p_t_1 o_t_1, aI g (p_t_1 4) 7 f_t_1_4, aI g (p_t_1 7) 7 f_t_1_7, aI g (p_t_1 10) 8 f_t_1_10, aI g (p_t_1 11) 8 f_t_1_11, aI g (p_t_1 12) 8 f_t_1_12, oX2 (p_t 5) p_t_5 o_t_5, aI g (p_t_5 6) 7 f_t_5_6, aI g (p_t_5 7) 7 f_t_5_7, oX2 (p_t 6) p_t_6 o_t_6, aI g (p_t_6 6) 7 f_t_6_6, aI g (p_t_6 7) 7 f_t_6_7, aI g (p_t_6 8) 7 f_t_6_8] H → va_D A [oX9 a_t p_t o_t, oX1 (p_t 1) p_t_1 o_t_1, aI g (p_t_1 4) 7 f_t_1_4, aI g (p_t_1 7) 7 f_t_1_7, aI g (p_t_1 10) 8 f_t_1_10, aI g (p_t_1 11) 8 f_t_1_11, aI g (p_t_1 12) 8 f_t_1_12, oX2 (p_t 5) p_t_5 o_t_5, aI g (p_t_5 6) 7 f_t_5_6, aI g (p_t_5 7) 7 f_t_5_7, oX2 (p_t 6) p_t_6 o_t_6, aI g (p_t_6 6) 7 f_t_6_6, aI g (p_t_6 7) 7 f_t_6_7, aI g (p_t_6 8) 7 f_t_6_8] → va_S A s.heap H locs → lv_has ls 5 [(0, .ref a_t), (1, .int x1), (2, .int x2), (3, .int x3)] → W p l e ({ frames := 4, cells := 0, slots := 0, locals := 102 } : Room) s m args below meth c H locs 0 0 (MQ below (EndI g r [oX9 a_t p_t o_t', oX1 (p_t 1) p_t_1 o_t_1, aI g (p_t_1 4) 7 f_t_1_4, aI g (p_t_1 7) 7 f_t_1_7, aI g (p_t_1 10) 8 f_t_1_10, aI g (p_t_1 11) 8 f_t_1_11, aI g (p_t_1 12) 8 f_t_1_12, oX2 (p_t 5) p_t_5 o_t_5, aI g (p_t_5 6) 7 f_t_5_6, aI g (p_t_5 7) 7 f_t_5_7, oX2 (p_t 6) p_t_6 o_t_6', aI g (p_t_6 6) 7 f_t_6_6', aI g (p_t_6 7) 7 f_t_6_7', aI g (p_t_6 8) 7 f_t_6_8'] A) args s 0 0 A) (F0 m 16 ls []) := by
  obtain ⟨hx, hb, hml, hown, hts, hr, hlk, hK, hA, hSW⟩ := id C0
  intro k
  induction k with
  | zero =>
    intro x1 x2 x3 o_t_6 f_t_6_6 f_t_6_7 f_t_6_8 hF
    exact absurd hF (by simp [fX9_biggest_L16])
  | succ k ih =>
    intro x1 x2 x3 o_t_6 f_t_6_6 f_t_6_7 f_t_6_8 hF H locs ls hP hD hS hl
    rw [fX9_biggest_L16] at hF
    refine lv_iload_n hx hb dX9_biggest_16 rfl (lv_at hl 3 rfl) ?_
    refine lv_aload_n hx hb dX9_biggest_17 rfl (lv_at hl 0 rfl) ?_
    refine va_get (D := g.1) (ci := 9) (v := .ref (p_t 1)) (C := RX9) (T := TX9) (N := 15) hx hb hts iX9_biggest_X9 hown hK.1 hP 0 rfl rfl 1 (by decide) (hts _ kX9_biggest_19) (fun _ h9 => h9) rfl dX9_biggest_18 ?_
    refine va_get (D := g.1) (ci := 1) (v := .int (o_t_1 3)) (C := RX1) (T := TX1) (N := 17) hx hb hts iX9_biggest_X1 hown hK.1 hP 1 rfl rfl 3 (by decide) (hts _ kX9_biggest_109) (fun _ h9 => h9) rfl dX9_biggest_21 ?_
    refine lv_icmp_ge (tgt := 69) hx hb dX9_biggest_24 (by decide) (fun c_5 => ?_) (fun c_5 => ?_)
    · have hF := it_p c_5 hF
      exact hKx x2 o_t_6 f_t_6_6 f_t_6_7 f_t_6_8 _ _ _ hF (hP.sub [0, 1, 2, 3, 4, 5, 6, 7, 8, 9, 10, 11, 12, 13] rfl) (hD.sub [0, 1, 2, 3, 4, 5, 6, 7, 8, 9, 10, 11, 12, 13] rfl rfl) hS (lv_sub hl [2] rfl)
    · have hF := it_n c_5 hF
      refine lv_aload_n hx hb dX9_biggest_27 rfl (lv_at hl 0 rfl) ?_
      refine va_get (D := g.1) (ci := 9) (v := .ref (p_t 5)) (C := RX9) (T := TX9) (N := 15) hx hb hts iX9_biggest_X9 hown hK.1 hP 0 rfl rfl 5 (by decide) (hts _ kX9_biggest_37) (fun _ h9 => h9) rfl dX9_biggest_28 ?_
      refine lv_iload_n hx hb dX9_biggest_31 rfl (lv_at hl 3 rfl) ?_
      obtain ⟨u_6, hu_7, hF⟩ := ob1_some hF
      refine call_i (wr := [oX9 a_t p_t o_t, oX1 (p_t 1) p_t_1 o_t_1, aI g (p_t_1 4) 7 f_t_1_4, aI g (p_t_1 7) 7 f_t_1_7, aI g (p_t_1 10) 8 f_t_1_10, aI g (p_t_1 11) 8 f_t_1_11, aI g (p_t_1 12) 8 f_t_1_12, aI g (p_t_5 6) 7 f_t_5_6, aI g (p_t_5 7) 7 f_t_5_7, oX2 (p_t 6) p_t_6 o_t_6, aI g (p_t_6 6) 7 f_t_6_6, aI g (p_t_6 7) 7 f_t_6_7, aI g (p_t_6 8) 7 f_t_6_8]) (As := [.int x3]) (rest := []) (ci := 2) (q0 := 0) C0 (mX2_has l g (p_t 5) p_t_5 n x3 o_t_5 u_6 hu_7) (cwV 1 hts gX9_biggest_X2_has rfl rfl rfl (by decide +kernel) ⟨Nat.le_of_ble_eq_true rfl, Nat.le_of_ble_eq_true rfl⟩) hP hD hS [7] [0, 1, 2, 3, 4, 5, 6, 8, 9, 10, 11, 12, 13] rfl rfl rfl rfl rfl (by decide) rfl rfl hl.1 rfl rfl (Nat.le_of_ble_eq_true rfl) ⟨Nat.zero_le _, Nat.zero_le _⟩ dX9_biggest_32 ?_
      intro H locs hP hD hS
      refine lv_if_eq (tgt := 49) hx hb dX9_biggest_35 (by decide) (fun c_8 => ?_) (fun c_8 => ?_)
      · have hF := it_p c_8 hF
        refine lv_iconst (v := (0 : Int32)) hx hb dX9_biggest_49 (by decide) ?_
        refine lv_istore (lv' := [(4, .int (0 : Int32)), (0, .ref a_t), (1, .int x1), (2, .int x2), (3, .int x3)]) hx hb dX9_biggest_50 hl (by decide) rfl (fun ls hl => ?_)
        refine lv_iload hx hb dX9_biggest_52 (lv_at hl 0 rfl) ?_
        refine lv_iload_n hx hb dX9_biggest_54 rfl (lv_at hl 2 rfl) ?_
        refine lv_icmp_le (tgt := 63) hx hb dX9_biggest_55 (by decide) (fun c_9 => ?_) (fun c_9 => ?_)
        · have hF := it_p c_9 hF
          refine lv_iinc (v := (x3 + (1 : Int32))) (lv' := [(3, .int (x3 + (1 : Int32))), (4, .int (0 : Int32)), (0, .ref a_t), (1, .int x1), (2, .int x2)]) hx hb dX9_biggest_63 hl (k := 4) rfl rfl (by decide) rfl (fun ls hl => ?_)
          refine lv_goto (tgt := 16) hx hb dX9_biggest_66 (by decide) ?_
          exact ih x1 x2 (x3 + (1 : Int32)) o_t_6 f_t_6_6 f_t_6_7 f_t_6_8 hF _ _ _ (hP.sub [0, 1, 2, 3, 4, 5, 6, 13, 7, 8, 9, 10, 11, 12] rfl) (hD.sub [0, 1, 2, 3, 4, 5, 6, 13, 7, 8, 9, 10, 11, 12] rfl rfl) hS (lv_sub hl [2, 3, 4, 0] rfl)
        · have hF := it_n c_9 hF
          refine lv_iload hx hb dX9_biggest_58 (lv_at hl 0 rfl) ?_
          refine lv_istore_n (lv' := [(1, .int (0 : Int32)), (4, .int (0 : Int32)), (0, .ref a_t), (2, .int x2), (3, .int x3)]) hx hb dX9_biggest_60 rfl hl (by decide) rfl (fun ls hl => ?_)
          refine lv_iload_n hx hb dX9_biggest_61 rfl (lv_at hl 4 rfl) ?_
          refine lv_istore_n (lv' := [(2, .int x3), (1, .int (0 : Int32)), (4, .int (0 : Int32)), (0, .ref a_t), (3, .int x3)]) hx hb dX9_biggest_62 rfl hl (by decide) rfl (fun ls hl => ?_)
          refine lv_iinc (v := (x3 + (1 : Int32))) (lv' := [(3, .int (x3 + (1 : Int32))), (2, .int x3), (1, .int (0 : Int32)), (4, .int (0 : Int32)), (0, .ref a_t)]) hx hb dX9_biggest_63 hl (k := 4) rfl rfl (by decide) rfl (fun ls hl => ?_)
          refine lv_goto (tgt := 16) hx hb dX9_biggest_66 (by decide) ?_
          exact ih (0 : Int32) x3 (x3 + (1 : Int32)) o_t_6 f_t_6_6 f_t_6_7 f_t_6_8 hF _ _ _ (hP.sub [0, 1, 2, 3, 4, 5, 6, 13, 7, 8, 9, 10, 11, 12] rfl) (hD.sub [0, 1, 2, 3, 4, 5, 6, 13, 7, 8, 9, 10, 11, 12] rfl rfl) hS (lv_sub hl [4, 2, 1, 0] rfl)
      · have hF := it_n c_8 hF
        refine lv_aload_n hx hb dX9_biggest_38 rfl (lv_at hl 0 rfl) ?_
        refine lv_iload_n hx hb dX9_biggest_39 rfl (lv_at hl 3 rfl) ?_
        obtain ⟨u_10, u_11, u_12, u_13, u_14, hu_15, hF⟩ := ob5_some hF
        refine call_i (wr := []) (As := [.int x3]) (rest := []) (ci := 9) (q0 := 0) C0 (mX9_chainOf l g a_t p_t p_t_1 p_t_5 p_t_6 n x3 o_t o_t_1 f_t_1_4 f_t_1_7 f_t_1_10 f_t_1_11 f_t_1_12 o_t_5 f_t_5_6 f_t_5_7 o_t_6 f_t_6_6 f_t_6_7 f_t_6_8 u_10 u_11 u_12 u_13 u_14 hu_15) (cwV 1 hts gX9_biggest_X9_chainOf rfl rfl rfl (by decide +kernel) ⟨Nat.le_of_ble_eq_true rfl, Nat.le_of_ble_eq_true rfl⟩) hP hD hS [0, 1, 2, 3, 4, 5, 6, 13, 7, 8, 9, 10, 11, 12] [] rfl rfl rfl rfl rfl (by decide) rfl rfl hl.1 rfl rfl (Nat.le_of_ble_eq_true rfl) ⟨Nat.zero_le _, Nat.zero_le _⟩ dX9_biggest_40 ?_
        intro H locs hP hD hS
        obtain ⟨u_16, hu_17, hF⟩ := ob1_some hF
        refine call_si (wr := [oX9 a_t p_t o_t, oX1 (p_t 1) p_t_1 o_t_1, aI g (p_t_1 4) 7 f_t_1_4, aI g (p_t_1 7) 7 f_t_1_7, aI g (p_t_1 10) 8 f_t_1_10, aI g (p_t_1 11) 8 f_t_1_11, aI g (p_t_1 12) 8 f_t_1_12, oX2 (p_t 5) p_t_5 o_t_5, aI g (p_t_5 6) 7 f_t_5_6, aI g (p_t_5 7) 7 f_t_5_7, oX2 (p_t 6) p_t_6 u_11, aI g (p_t_6 6) 7 u_12, aI g (p_t_6 7) 7 u_13, aI g (p_t_6 8) 7 u_14]) (As := [.int u_10]) (rest := []) C0 (mJ6_bitCount_0f7a4 l g n u_10 u_16 hu_17) (va_cwS 1 hts gX9_biggest_J6_bitCount_0f7a4 rfl rfl rfl (by decide +kernel) ⟨Nat.le_of_ble_eq_true rfl, Nat.le_of_ble_eq_true rfl⟩) hP hD hS [] [0, 1, 2, 3, 4, 5, 6, 7, 8, 9, 10, 11, 12, 13] rfl rfl rfl rfl rfl (by decide) hl.1 rfl rfl (Nat.le_of_ble_eq_true rfl) ⟨Nat.zero_le _, Nat.zero_le _⟩ dX9_biggest_43 ?_
        intro H locs hP hD hS
        refine lv_goto (tgt := 50) hx hb dX9_biggest_46 (by decide) ?_
        refine lv_istore (lv' := [(4, .int u_16), (0, .ref a_t), (1, .int x1), (2, .int x2), (3, .int x3)]) hx hb dX9_biggest_50 hl (by decide) rfl (fun ls hl => ?_)
        refine lv_iload hx hb dX9_biggest_52 (lv_at hl 0 rfl) ?_
        refine lv_iload_n hx hb dX9_biggest_54 rfl (lv_at hl 2 rfl) ?_
        refine lv_icmp_le (tgt := 63) hx hb dX9_biggest_55 (by decide) (fun c_18 => ?_) (fun c_18 => ?_)
        · have hF := it_p c_18 hF
          refine lv_iinc (v := (x3 + (1 : Int32))) (lv' := [(3, .int (x3 + (1 : Int32))), (4, .int u_16), (0, .ref a_t), (1, .int x1), (2, .int x2)]) hx hb dX9_biggest_63 hl (k := 4) rfl rfl (by decide) rfl (fun ls hl => ?_)
          refine lv_goto (tgt := 16) hx hb dX9_biggest_66 (by decide) ?_
          exact ih x1 x2 (x3 + (1 : Int32)) u_11 u_12 u_13 u_14 hF _ _ _ (hP.sub [0, 1, 2, 3, 4, 5, 6, 7, 8, 9, 10, 11, 12, 13] rfl) (hD.sub [0, 1, 2, 3, 4, 5, 6, 7, 8, 9, 10, 11, 12, 13] rfl rfl) hS (lv_sub hl [2, 3, 4, 0] rfl)
        · have hF := it_n c_18 hF
          refine lv_iload hx hb dX9_biggest_58 (lv_at hl 0 rfl) ?_
          refine lv_istore_n (lv' := [(1, .int u_16), (4, .int u_16), (0, .ref a_t), (2, .int x2), (3, .int x3)]) hx hb dX9_biggest_60 rfl hl (by decide) rfl (fun ls hl => ?_)
          refine lv_iload_n hx hb dX9_biggest_61 rfl (lv_at hl 4 rfl) ?_
          refine lv_istore_n (lv' := [(2, .int x3), (1, .int u_16), (4, .int u_16), (0, .ref a_t), (3, .int x3)]) hx hb dX9_biggest_62 rfl hl (by decide) rfl (fun ls hl => ?_)
          refine lv_iinc (v := (x3 + (1 : Int32))) (lv' := [(3, .int (x3 + (1 : Int32))), (2, .int x3), (1, .int u_16), (4, .int u_16), (0, .ref a_t)]) hx hb dX9_biggest_63 hl (k := 4) rfl rfl (by decide) rfl (fun ls hl => ?_)
          refine lv_goto (tgt := 16) hx hb dX9_biggest_66 (by decide) ?_
          exact ih u_16 x3 (x3 + (1 : Int32)) u_11 u_12 u_13 u_14 hF _ _ _ (hP.sub [0, 1, 2, 3, 4, 5, 6, 7, 8, 9, 10, 11, 12, 13] rfl) (hD.sub [0, 1, 2, 3, 4, 5, 6, 7, 8, 9, 10, 11, 12, 13] rfl rfl) hS (lv_sub hl [4, 2, 1, 0] rfl)
set_option maxHeartbeats 4000000 in
set_option maxRecDepth 100000 in
theorem mX9_biggest (l : Launch) (g : GG) (a_t : Nat) (p_t : Nat → Nat) (p_t_1 : Nat → Nat) (p_t_5 : Nat → Nat) (p_t_6 : Nat → Nat) (n : Nat) (o_t : Nat → Int32) (o_t_1 : Nat → Int32) (f_t_1_4 : Nat → Int32) (f_t_1_7 : Nat → Int32) (f_t_1_10 : Nat → Int32) (f_t_1_11 : Nat → Int32) (f_t_1_12 : Nat → Int32) (o_t_5 : Nat → Int32) (f_t_5_6 : Nat → Int32) (f_t_5_7 : Nat → Int32) (o_t_6 : Nat → Int32) (f_t_6_6 : Nat → Int32) (f_t_6_7 : Nat → Int32) (f_t_6_8 : Nat → Int32) (r : Int32) (o_t' : Nat → Int32) (o_t_6' : Nat → Int32) (f_t_6_6' : Nat → Int32) (f_t_6_7' : Nat → Int32) (f_t_6_8' : Nat → Int32) (hF : fX9_biggest n o_t o_t_1 f_t_1_4 f_t_1_7 f_t_1_10 f_t_1_11 f_t_1_12 o_t_5 f_t_5_6 f_t_5_7 o_t_6 f_t_6_6 f_t_6_7 f_t_6_8 = some (r, o_t', o_t_6', f_t_6_6', f_t_6_7', f_t_6_8')) : MI l g yX9_biggest wsX9_biggest ({ frames := 4, cells := 0, slots := 0, locals := 102 } : Room) [.ref a_t] [oX9 a_t p_t o_t, oX1 (p_t 1) p_t_1 o_t_1, aI g (p_t_1 4) 7 f_t_1_4, aI g (p_t_1 7) 7 f_t_1_7, aI g (p_t_1 10) 8 f_t_1_10, aI g (p_t_1 11) 8 f_t_1_11, aI g (p_t_1 12) 8 f_t_1_12, oX2 (p_t 5) p_t_5 o_t_5, aI g (p_t_5 6) 7 f_t_5_6, aI g (p_t_5 7) 7 f_t_5_7, oX2 (p_t 6) p_t_6 o_t_6, aI g (p_t_6 6) 7 f_t_6_6, aI g (p_t_6 7) 7 f_t_6_7, aI g (p_t_6 8) 7 f_t_6_8] r [oX9 a_t p_t o_t', oX1 (p_t 1) p_t_1 o_t_1, aI g (p_t_1 4) 7 f_t_1_4, aI g (p_t_1 7) 7 f_t_1_7, aI g (p_t_1 10) 8 f_t_1_10, aI g (p_t_1 11) 8 f_t_1_11, aI g (p_t_1 12) 8 f_t_1_12, oX2 (p_t 5) p_t_5 o_t_5, aI g (p_t_5 6) 7 f_t_5_6, aI g (p_t_5 7) 7 f_t_5_7, oX2 (p_t 6) p_t_6 o_t_6', aI g (p_t_6 6) 7 f_t_6_6', aI g (p_t_6 7) 7 f_t_6_7', aI g (p_t_6 8) 7 f_t_6_8'] := by
  refine MI.of (cc := cX9_biggest) (maxL := 5) (rt := .int) (own := RX9) rfl rfl (by decide) (Nat.le_of_ble_eq_true rfl) ?_
  intro p e s m args below meth c A C0 hP hD hS ls hl
  obtain ⟨hx, hb, hml, hown, hts, hr, hlk, hK, hA, hSW⟩ := id C0
  have hl : lv_has ls 5 [(0, .ref a_t)] := hl
  rw [fX9_biggest] at hF
  refine lv_aload_n hx hb dX9_biggest_0 rfl (lv_at hl 0 rfl) ?_
  obtain ⟨u_1, u_2, hu_3, hF⟩ := ob2_some hF
  refine call_i (wr := [oX1 (p_t 1) p_t_1 o_t_1, aI g (p_t_1 4) 7 f_t_1_4, aI g (p_t_1 7) 7 f_t_1_7, aI g (p_t_1 10) 8 f_t_1_10, aI g (p_t_1 11) 8 f_t_1_11, aI g (p_t_1 12) 8 f_t_1_12, oX2 (p_t 5) p_t_5 o_t_5, aI g (p_t_5 6) 7 f_t_5_6, aI g (p_t_5 7) 7 f_t_5_7, oX2 (p_t 6) p_t_6 o_t_6, aI g (p_t_6 6) 7 f_t_6_6, aI g (p_t_6 7) 7 f_t_6_7, aI g (p_t_6 8) 7 f_t_6_8]) (As := []) (rest := []) (ci := 9) (q0 := 0) C0 (mX9_asked l g a_t p_t n o_t u_1 u_2 hu_3) (cwV 0 hts gX9_biggest_X9_asked rfl rfl rfl (by decide +kernel) ⟨Nat.le_of_ble_eq_true rfl, Nat.le_of_ble_eq_true rfl⟩) hP hD hS [0] [1, 2, 3, 4, 5, 6, 7, 8, 9, 10, 11, 12, 13] rfl rfl rfl rfl rfl (by decide) rfl rfl hl.1 rfl rfl (Nat.le_of_ble_eq_true rfl) ⟨Nat.zero_le _, Nat.zero_le _⟩ dX9_biggest_1 ?_
  intro H locs hP hD hS
  refine lv_if_ne (tgt := 9) hx hb dX9_biggest_4 (by decide) (fun c_4 => ?_) (fun c_4 => ?_)
  · have hF := it_n c_4 hF
    refine lv_iconst (v := (0 : Int32)) hx hb dX9_biggest_9 (by decide) ?_
    refine lv_istore_n (lv' := [(1, .int (0 : Int32)), (0, .ref a_t)]) hx hb dX9_biggest_10 rfl hl (by decide) rfl (fun ls hl => ?_)
    refine lv_bipush (v := (-2 : Int32)) hx hb dX9_biggest_11 (by decide) ?_
    refine lv_istore_n (lv' := [(2, .int (-2 : Int32)), (1, .int (0 : Int32)), (0, .ref a_t)]) hx hb dX9_biggest_13 rfl hl (by decide) rfl (fun ls hl => ?_)
    refine lv_iconst (v := (0 : Int32)) hx hb dX9_biggest_14 (by decide) ?_
    refine lv_istore_n (lv' := [(3, .int (0 : Int32)), (2, .int (-2 : Int32)), (1, .int (0 : Int32)), (0, .ref a_t)]) hx hb dX9_biggest_15 rfl hl (by decide) rfl (fun ls hl => ?_)
    refine wX9_biggest_L16 C0 a_t p_t p_t_1 p_t_5 p_t_6 n u_2 o_t_1 f_t_1_4 f_t_1_7 f_t_1_10 f_t_1_11 f_t_1_12 o_t_5 f_t_5_6 f_t_5_7 r o_t' o_t_6' f_t_6_6' f_t_6_7' f_t_6_8' _ ?_ n (0 : Int32) (-2 : Int32) (0 : Int32) o_t_6 f_t_6_6 f_t_6_7 f_t_6_8 hF _ _ _ (hP.sub [13, 0, 1, 2, 3, 4, 5, 6, 7, 8, 9, 10, 11, 12] rfl) (hD.sub [13, 0, 1, 2, 3, 4, 5, 6, 7, 8, 9, 10, 11, 12] rfl rfl) hS (lv_sub hl [3, 2, 1, 0] rfl)
    · intro x2_x16 o_t_6_x16 f_t_6_6_x16 f_t_6_7_x16 f_t_6_8_x16 H locs ls hF hP hD hS hl
      refine lv_iload_n hx hb dX9_biggest_69 rfl (lv_at hl 0 rfl) ?_
      cases hF
      exact ret_i C0 hP hD hS [0, 1, 2, 3, 4, 5, 6, 7, 8, 9, 10, 11, 12, 13] rfl rfl rfl dX9_biggest_70 rfl
  · have hF := it_p c_4 hF
    refine lv_iconst (v := (-1 : Int32)) hx hb dX9_biggest_7 (by decide) ?_
    cases hF
    exact ret_i C0 hP hD hS [13, 0, 1, 2, 3, 4, 5, 6, 7, 8, 9, 10, 11, 12] rfl rfl rfl dX9_biggest_8 rfl

