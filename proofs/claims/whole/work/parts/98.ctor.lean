theorem dvX0 : ∀ j, j < 6 → defaultValue (tyX0 j) = vp_V [.int 0, .int 0, .null, .null, .null, .null] j := by
  intro j hj
  rcases (show j = 0 ∨ j = 1 ∨ j = 2 ∨ j = 3 ∨ j = 4 ∨ j = 5 by omega) with rfl | rfl | rfl | rfl | rfl | rfl <;> rfl
theorem dvX1 : ∀ j, j < 17 → defaultValue (tyX1 j) = vp_V [.int 0, .int 0, .int 0, .int 0, .null, .null, .null, .null, .int 0, .int 0, .null, .null, .null, .int 0, .null, .null, .null] j := by
  intro j hj
  rcases (show j = 0 ∨ j = 1 ∨ j = 2 ∨ j = 3 ∨ j = 4 ∨ j = 5 ∨ j = 6 ∨ j = 7 ∨ j = 8 ∨ j = 9 ∨ j = 10 ∨ j = 11 ∨ j = 12 ∨ j = 13 ∨ j = 14 ∨ j = 15 ∨ j = 16 by omega) with rfl | rfl | rfl | rfl | rfl | rfl | rfl | rfl | rfl | rfl | rfl | rfl | rfl | rfl | rfl | rfl | rfl <;> rfl
theorem dvX2 : ∀ j, j < 9 → defaultValue (tyX2 j) = vp_V [.int 0, .int 0, .int 0, .int 0, .int 0, .int 0, .null, .null, .null] j := by
  intro j hj
  rcases (show j = 0 ∨ j = 1 ∨ j = 2 ∨ j = 3 ∨ j = 4 ∨ j = 5 ∨ j = 6 ∨ j = 7 ∨ j = 8 by omega) with rfl | rfl | rfl | rfl | rfl | rfl | rfl | rfl | rfl <;> rfl
theorem dvX3 : ∀ j, j < 2 → defaultValue (tyX3 j) = vp_V [.int 0, .int 0] j := by
  intro j hj
  rcases (show j = 0 ∨ j = 1 by omega) with rfl | rfl <;> rfl
theorem dvX4 : ∀ j, j < 3 → defaultValue (tyX4 j) = vp_V [.null, .int 0, .int 0] j := by
  intro j hj
  rcases (show j = 0 ∨ j = 1 ∨ j = 2 by omega) with rfl | rfl | rfl <;> rfl
theorem dvX5 : ∀ j, j < 15 → defaultValue (tyX5 j) = vp_V [.null, .int 0, .int 0, .int 0, .int 0, .int 0, .int 0, .int 0, .int 0, .long 0, .int 0, .int 0, .null, .null, .null] j := by
  intro j hj
  rcases (show j = 0 ∨ j = 1 ∨ j = 2 ∨ j = 3 ∨ j = 4 ∨ j = 5 ∨ j = 6 ∨ j = 7 ∨ j = 8 ∨ j = 9 ∨ j = 10 ∨ j = 11 ∨ j = 12 ∨ j = 13 ∨ j = 14 by omega) with rfl | rfl | rfl | rfl | rfl | rfl | rfl | rfl | rfl | rfl | rfl | rfl | rfl | rfl | rfl <;> rfl
theorem dvX6 : ∀ j, j < 7 → defaultValue (tyX6 j) = vp_V [.int 0, .int 0, .int 0, .null, .null, .null, .null] j := by
  intro j hj
  rcases (show j = 0 ∨ j = 1 ∨ j = 2 ∨ j = 3 ∨ j = 4 ∨ j = 5 ∨ j = 6 by omega) with rfl | rfl | rfl | rfl | rfl | rfl | rfl <;> rfl
theorem dvX7 : ∀ j, j < 7 → defaultValue (tyX7 j) = vp_V [.int 0, .null, .null, .int 0, .null, .null, .null] j := by
  intro j hj
  rcases (show j = 0 ∨ j = 1 ∨ j = 2 ∨ j = 3 ∨ j = 4 ∨ j = 5 ∨ j = 6 by omega) with rfl | rfl | rfl | rfl | rfl | rfl | rfl <;> rfl
theorem dvX8 : ∀ j, j < 7 → defaultValue (tyX8 j) = vp_V [.int 0, .int 0, .int 0, .null, .null, .null, .null] j := by
  intro j hj
  rcases (show j = 0 ∨ j = 1 ∨ j = 2 ∨ j = 3 ∨ j = 4 ∨ j = 5 ∨ j = 6 by omega) with rfl | rfl | rfl | rfl | rfl | rfl | rfl <;> rfl
theorem dvX9 : ∀ j, j < 15 → defaultValue (tyX9 j) = vp_V [.null, .null, .null, .int 0, .int 0, .null, .null, .null, .null, .null, .null, .int 0, .null, .null, .null] j := by
  intro j hj
  rcases (show j = 0 ∨ j = 1 ∨ j = 2 ∨ j = 3 ∨ j = 4 ∨ j = 5 ∨ j = 6 ∨ j = 7 ∨ j = 8 ∨ j = 9 ∨ j = 10 ∨ j = 11 ∨ j = 12 ∨ j = 13 ∨ j = 14 by omega) with rfl | rfl | rfl | rfl | rfl | rfl | rfl | rfl | rfl | rfl | rfl | rfl | rfl | rfl | rfl <;> rfl
theorem dvX10 : ∀ j, j < 35 → defaultValue (tyX10 j) = vp_V [.int 0, .null, .int 0, .int 0, .int 0, .int 0, .int 0, .int 0, .int 0, .int 0, .int 0, .int 0, .null, .int 0, .int 0, .null, .null, .null, .null, .null, .int 0, .int 0, .int 0, .int 0, .int 0, .null, .null, .null, .int 0, .int 0, .null, .null, .int 0, .null, .int 0] j := by
  intro j hj
  rcases (show j = 0 ∨ j = 1 ∨ j = 2 ∨ j = 3 ∨ j = 4 ∨ j = 5 ∨ j = 6 ∨ j = 7 ∨ j = 8 ∨ j = 9 ∨ j = 10 ∨ j = 11 ∨ j = 12 ∨ j = 13 ∨ j = 14 ∨ j = 15 ∨ j = 16 ∨ j = 17 ∨ j = 18 ∨ j = 19 ∨ j = 20 ∨ j = 21 ∨ j = 22 ∨ j = 23 ∨ j = 24 ∨ j = 25 ∨ j = 26 ∨ j = 27 ∨ j = 28 ∨ j = 29 ∨ j = 30 ∨ j = 31 ∨ j = 32 ∨ j = 33 ∨ j = 34 by omega) with rfl | rfl | rfl | rfl | rfl | rfl | rfl | rfl | rfl | rfl | rfl | rfl | rfl | rfl | rfl | rfl | rfl | rfl | rfl | rfl | rfl | rfl | rfl | rfl | rfl | rfl | rfl | rfl | rfl | rfl | rfl | rfl | rfl | rfl | rfl <;> rfl
theorem dAX2_init : ∀ q ∈ ([(0, (.aload_n 0, 1)), (1, (.invokespecial 3, 3)), (4, (.aload_n 0, 1)), (5, (.iconst 0, 1)), (6, (.putfield 9, 3)), (9, (.aload_n 0, 1)), (10, (.iconst 0, 1)), (11, (.putfield 15, 3)), (14, (.aload_n 0, 1)), (15, (.iconst 0, 1)), (16, (.putfield 18, 3)), (19, (.aload_n 0, 1)), (20, (.iconst 0, 1)), (21, (.putfield 21, 3)), (24, (.aload_n 0, 1)), (25, (.iconst 0, 1)), (26, (.putfield 24, 3)), (29, (.aload_n 0, 1)), (30, (.iconst 0, 1)), (31, (.putfield 27, 3)), (34, (.aload_n 0, 1)), (35, (.bipush 7, 2)), (37, (.newarray .int, 2)), (39, (.putfield 30, 3)), (42, (.aload_n 0, 1)), (43, (.bipush 7, 2)), (45, (.newarray .int, 2)), (47, (.putfield 34, 3)), (50, (.aload_n 0, 1)), (51, (.bipush 7, 2)), (53, (.newarray .int, 2)), (55, (.putfield 37, 3)), (58, (.return_, 1))] : List (Nat × (Instr × Nat))), decode cX2_init q.1 = .ok q.2 := by decide +kernel
theorem dX2_init_0 : decode cX2_init 0 = .ok (.aload_n 0, 1) := dAX2_init (0, (.aload_n 0, 1)) (List.mem_of_getElem? (i := 0) rfl)
theorem dX2_init_1 : decode cX2_init 1 = .ok (.invokespecial 3, 3) := dAX2_init (1, (.invokespecial 3, 3)) (List.mem_of_getElem? (i := 1) rfl)
theorem dX2_init_4 : decode cX2_init 4 = .ok (.aload_n 0, 1) := dAX2_init (4, (.aload_n 0, 1)) (List.mem_of_getElem? (i := 2) rfl)
theorem dX2_init_5 : decode cX2_init 5 = .ok (.iconst 0, 1) := dAX2_init (5, (.iconst 0, 1)) (List.mem_of_getElem? (i := 3) rfl)
theorem dX2_init_6 : decode cX2_init 6 = .ok (.putfield 9, 3) := dAX2_init (6, (.putfield 9, 3)) (List.mem_of_getElem? (i := 4) rfl)
theorem dX2_init_9 : decode cX2_init 9 = .ok (.aload_n 0, 1) := dAX2_init (9, (.aload_n 0, 1)) (List.mem_of_getElem? (i := 5) rfl)
theorem dX2_init_10 : decode cX2_init 10 = .ok (.iconst 0, 1) := dAX2_init (10, (.iconst 0, 1)) (List.mem_of_getElem? (i := 6) rfl)
theorem dX2_init_11 : decode cX2_init 11 = .ok (.putfield 15, 3) := dAX2_init (11, (.putfield 15, 3)) (List.mem_of_getElem? (i := 7) rfl)
theorem dX2_init_14 : decode cX2_init 14 = .ok (.aload_n 0, 1) := dAX2_init (14, (.aload_n 0, 1)) (List.mem_of_getElem? (i := 8) rfl)
theorem dX2_init_15 : decode cX2_init 15 = .ok (.iconst 0, 1) := dAX2_init (15, (.iconst 0, 1)) (List.mem_of_getElem? (i := 9) rfl)
theorem dX2_init_16 : decode cX2_init 16 = .ok (.putfield 18, 3) := dAX2_init (16, (.putfield 18, 3)) (List.mem_of_getElem? (i := 10) rfl)
theorem dX2_init_19 : decode cX2_init 19 = .ok (.aload_n 0, 1) := dAX2_init (19, (.aload_n 0, 1)) (List.mem_of_getElem? (i := 11) rfl)
theorem dX2_init_20 : decode cX2_init 20 = .ok (.iconst 0, 1) := dAX2_init (20, (.iconst 0, 1)) (List.mem_of_getElem? (i := 12) rfl)
theorem dX2_init_21 : decode cX2_init 21 = .ok (.putfield 21, 3) := dAX2_init (21, (.putfield 21, 3)) (List.mem_of_getElem? (i := 13) rfl)
theorem dX2_init_24 : decode cX2_init 24 = .ok (.aload_n 0, 1) := dAX2_init (24, (.aload_n 0, 1)) (List.mem_of_getElem? (i := 14) rfl)
theorem dX2_init_25 : decode cX2_init 25 = .ok (.iconst 0, 1) := dAX2_init (25, (.iconst 0, 1)) (List.mem_of_getElem? (i := 15) rfl)
theorem dX2_init_26 : decode cX2_init 26 = .ok (.putfield 24, 3) := dAX2_init (26, (.putfield 24, 3)) (List.mem_of_getElem? (i := 16) rfl)
theorem dX2_init_29 : decode cX2_init 29 = .ok (.aload_n 0, 1) := dAX2_init (29, (.aload_n 0, 1)) (List.mem_of_getElem? (i := 17) rfl)
theorem dX2_init_30 : decode cX2_init 30 = .ok (.iconst 0, 1) := dAX2_init (30, (.iconst 0, 1)) (List.mem_of_getElem? (i := 18) rfl)
theorem dX2_init_31 : decode cX2_init 31 = .ok (.putfield 27, 3) := dAX2_init (31, (.putfield 27, 3)) (List.mem_of_getElem? (i := 19) rfl)
theorem dX2_init_34 : decode cX2_init 34 = .ok (.aload_n 0, 1) := dAX2_init (34, (.aload_n 0, 1)) (List.mem_of_getElem? (i := 20) rfl)
theorem dX2_init_35 : decode cX2_init 35 = .ok (.bipush 7, 2) := dAX2_init (35, (.bipush 7, 2)) (List.mem_of_getElem? (i := 21) rfl)
theorem dX2_init_37 : decode cX2_init 37 = .ok (.newarray .int, 2) := dAX2_init (37, (.newarray .int, 2)) (List.mem_of_getElem? (i := 22) rfl)
theorem dX2_init_39 : decode cX2_init 39 = .ok (.putfield 30, 3) := dAX2_init (39, (.putfield 30, 3)) (List.mem_of_getElem? (i := 23) rfl)
theorem dX2_init_42 : decode cX2_init 42 = .ok (.aload_n 0, 1) := dAX2_init (42, (.aload_n 0, 1)) (List.mem_of_getElem? (i := 24) rfl)
theorem dX2_init_43 : decode cX2_init 43 = .ok (.bipush 7, 2) := dAX2_init (43, (.bipush 7, 2)) (List.mem_of_getElem? (i := 25) rfl)
theorem dX2_init_45 : decode cX2_init 45 = .ok (.newarray .int, 2) := dAX2_init (45, (.newarray .int, 2)) (List.mem_of_getElem? (i := 26) rfl)
theorem dX2_init_47 : decode cX2_init 47 = .ok (.putfield 34, 3) := dAX2_init (47, (.putfield 34, 3)) (List.mem_of_getElem? (i := 27) rfl)
theorem dX2_init_50 : decode cX2_init 50 = .ok (.aload_n 0, 1) := dAX2_init (50, (.aload_n 0, 1)) (List.mem_of_getElem? (i := 28) rfl)
theorem dX2_init_51 : decode cX2_init 51 = .ok (.bipush 7, 2) := dAX2_init (51, (.bipush 7, 2)) (List.mem_of_getElem? (i := 29) rfl)
theorem dX2_init_53 : decode cX2_init 53 = .ok (.newarray .int, 2) := dAX2_init (53, (.newarray .int, 2)) (List.mem_of_getElem? (i := 30) rfl)
theorem dX2_init_55 : decode cX2_init 55 = .ok (.putfield 37, 3) := dAX2_init (55, (.putfield 37, 3)) (List.mem_of_getElem? (i := 31) rfl)
theorem dX2_init_58 : decode cX2_init 58 = .ok (.return_, 1) := dAX2_init (58, (.return_, 1)) (List.mem_of_getElem? (i := 32) rfl)
abbrev BX2 (g : GG) (a : Nat) (u : (Nat → Nat)) : va_W := [oX2 a u zR, aI g (u 6) 7 zR, aI g (u 7) 7 zR, aI g (u 8) 7 zR]
theorem kX2_init_o1 : Cond.methodLink RX2 3 objectInit ∈ wsX2_init := List.mem_of_getElem? (i := 1) rfl
theorem kX2_init_o2 : Cond.instanceMethod objectInit ∈ wsX2_init := List.mem_of_getElem? (i := 2) rfl
theorem kX2_init_o3 : Cond.code objectInit ⟨#[0xb1]⟩ 1 none ∈ wsX2_init := List.mem_of_getElem? (i := 3) rfl
theorem kX2_init_9 : Cond.fieldLink RX2 9 "EveningVow$Night" "clock" "I" ∈ wsX2_init := List.mem_of_getElem? (i := 4) rfl
theorem iX2_init_X2 : ∀ w ∈ u_ws RX2 TX2 9, w ∈ wsX2_init := fun w h => (List.mem_cons_of_mem _ (List.mem_append_right _ h))
theorem kX2_init_15 : Cond.fieldLink RX2 15 "EveningVow$Night" "there" "I" ∈ wsX2_init := List.mem_of_getElem? (i := 5) rfl
theorem kX2_init_18 : Cond.fieldLink RX2 18 "EveningVow$Night" "cupsLeft" "I" ∈ wsX2_init := List.mem_of_getElem? (i := 6) rfl
theorem kX2_init_21 : Cond.fieldLink RX2 21 "EveningVow$Night" "toldTales" "I" ∈ wsX2_init := List.mem_of_getElem? (i := 7) rfl
theorem kX2_init_24 : Cond.fieldLink RX2 24 "EveningVow$Night" "roundsRun" "I" ∈ wsX2_init := List.mem_of_getElem? (i := 8) rfl
theorem kX2_init_27 : Cond.fieldLink RX2 27 "EveningVow$Night" "leftLatest" "I" ∈ wsX2_init := List.mem_of_getElem? (i := 9) rfl
theorem kX2_init_ac_int : Cond.arrayClass .int ∈ wsX2_init := List.mem_of_getElem? (i := 10) rfl
theorem kX2_init_30 : Cond.fieldLink RX2 30 "EveningVow$Night" "want" "[I" ∈ wsX2_init := List.mem_of_getElem? (i := 11) rfl
theorem kX2_init_34 : Cond.fieldLink RX2 34 "EveningVow$Night" "leftAt" "[I" ∈ wsX2_init := List.mem_of_getElem? (i := 12) rfl
theorem kX2_init_37 : Cond.fieldLink RX2 37 "EveningVow$Night" "will" "[I" ∈ wsX2_init := List.mem_of_getElem? (i := 13) rfl
set_option maxHeartbeats 8000000 in
set_option maxRecDepth 100000 in
theorem mX2_init (l : Launch) (g : GG) (a_t : Nat) : MC l g yX2_init wsX2_init ({ frames := 1, cells := 3, slots := 21, locals := 12 } : Room) 3 21 [.ref a_t] [(a_t, .inr (2, [.int 0, .int 0, .int 0, .int 0, .int 0, .int 0, .null, .null, .null]))] (BX2 g a_t) := by
  refine MC.of (cc := cX2_init) (maxL := 1) (own := RX2) rfl rfl rfl (by decide) (Nat.le_of_ble_eq_true rfl) ?_
  intro p e s m args below meth c A C0 hin hP hD hS ls hl
  obtain ⟨hx, hb, hml, hown, hts, hr, hlk, hK, hA, hSW⟩ := id C0
  have hl : lv_has ls 1 [(0, .ref a_t)] := hl
  refine lv_aload_n hx hb dX2_init_0 rfl (lv_at hl 0 rfl) ?_
  refine W.objInit hx hb hown (hts _ kX2_init_o1) (hts _ kX2_init_o2) (hts _ kX2_init_o3) rfl (by rw [hml]; exact hl.1) rfl dX2_init_1 (Nat.le_of_ble_eq_true rfl) (Nat.le_of_ble_eq_true rfl) ?_
  refine W.eq (g2 := F0 m 4 ls []) rfl ?_
  refine lv_aload_n hx hb dX2_init_4 rfl (lv_at hl 0 rfl) ?_
  refine lv_iconst (v := (0 : Int32)) hx hb dX2_init_5 (by decide) ?_
  refine va_put (D := g.1) (ci := 2) (v := .int (0 : Int32)) (ty := .int) (C := RX2) (T := TX2) (N := 9) hx hb hts iX2_init_X2 tyX2 tyX2_ok nmX2 hown hK.1 hP hD hS 0 rfl rfl 0 (by decide) (hts _ kX2_init_9) (fun _ h9 => h9) rfl (by decide +kernel) rfl rfl (Nat.le_of_ble_eq_true rfl) dX2_init_6 (fun H locs hP hD hS => ?_)
  have hP : va_P g.1 vwCl [(a_t, .inr (2, [.int (0 : Int32), .int 0, .int 0, .int 0, .int 0, .int 0, .null, .null, .null]))] H := hP
  have hD : va_D A [(a_t, .inr (2, [.int (0 : Int32), .int 0, .int 0, .int 0, .int 0, .int 0, .null, .null, .null]))] := hD
  refine lv_aload_n hx hb dX2_init_9 rfl (lv_at hl 0 rfl) ?_
  refine lv_iconst (v := (0 : Int32)) hx hb dX2_init_10 (by decide) ?_
  refine va_put (D := g.1) (ci := 2) (v := .int (0 : Int32)) (ty := .int) (C := RX2) (T := TX2) (N := 9) hx hb hts iX2_init_X2 tyX2 tyX2_ok nmX2 hown hK.1 hP hD hS 0 rfl rfl 1 (by decide) (hts _ kX2_init_15) (fun _ h9 => h9) rfl (by decide +kernel) rfl rfl (Nat.le_of_ble_eq_true rfl) dX2_init_11 (fun H locs hP hD hS => ?_)
  have hP : va_P g.1 vwCl [(a_t, .inr (2, [.int (0 : Int32), .int (0 : Int32), .int 0, .int 0, .int 0, .int 0, .null, .null, .null]))] H := hP
  have hD : va_D A [(a_t, .inr (2, [.int (0 : Int32), .int (0 : Int32), .int 0, .int 0, .int 0, .int 0, .null, .null, .null]))] := hD
  refine lv_aload_n hx hb dX2_init_14 rfl (lv_at hl 0 rfl) ?_
  refine lv_iconst (v := (0 : Int32)) hx hb dX2_init_15 (by decide) ?_
  refine va_put (D := g.1) (ci := 2) (v := .int (0 : Int32)) (ty := .int) (C := RX2) (T := TX2) (N := 9) hx hb hts iX2_init_X2 tyX2 tyX2_ok nmX2 hown hK.1 hP hD hS 0 rfl rfl 2 (by decide) (hts _ kX2_init_18) (fun _ h9 => h9) rfl (by decide +kernel) rfl rfl (Nat.le_of_ble_eq_true rfl) dX2_init_16 (fun H locs hP hD hS => ?_)
  have hP : va_P g.1 vwCl [(a_t, .inr (2, [.int (0 : Int32), .int (0 : Int32), .int (0 : Int32), .int 0, .int 0, .int 0, .null, .null, .null]))] H := hP
  have hD : va_D A [(a_t, .inr (2, [.int (0 : Int32), .int (0 : Int32), .int (0 : Int32), .int 0, .int 0, .int 0, .null, .null, .null]))] := hD
  refine lv_aload_n hx hb dX2_init_19 rfl (lv_at hl 0 rfl) ?_
  refine lv_iconst (v := (0 : Int32)) hx hb dX2_init_20 (by decide) ?_
  refine va_put (D := g.1) (ci := 2) (v := .int (0 : Int32)) (ty := .int) (C := RX2) (T := TX2) (N := 9) hx hb hts iX2_init_X2 tyX2 tyX2_ok nmX2 hown hK.1 hP hD hS 0 rfl rfl 3 (by decide) (hts _ kX2_init_21) (fun _ h9 => h9) rfl (by decide +kernel) rfl rfl (Nat.le_of_ble_eq_true rfl) dX2_init_21 (fun H locs hP hD hS => ?_)
  have hP : va_P g.1 vwCl [(a_t, .inr (2, [.int (0 : Int32), .int (0 : Int32), .int (0 : Int32), .int (0 : Int32), .int 0, .int 0, .null, .null, .null]))] H := hP
  have hD : va_D A [(a_t, .inr (2, [.int (0 : Int32), .int (0 : Int32), .int (0 : Int32), .int (0 : Int32), .int 0, .int 0, .null, .null, .null]))] := hD
  refine lv_aload_n hx hb dX2_init_24 rfl (lv_at hl 0 rfl) ?_
  refine lv_iconst (v := (0 : Int32)) hx hb dX2_init_25 (by decide) ?_
  refine va_put (D := g.1) (ci := 2) (v := .int (0 : Int32)) (ty := .int) (C := RX2) (T := TX2) (N := 9) hx hb hts iX2_init_X2 tyX2 tyX2_ok nmX2 hown hK.1 hP hD hS 0 rfl rfl 4 (by decide) (hts _ kX2_init_24) (fun _ h9 => h9) rfl (by decide +kernel) rfl rfl (Nat.le_of_ble_eq_true rfl) dX2_init_26 (fun H locs hP hD hS => ?_)
  have hP : va_P g.1 vwCl [(a_t, .inr (2, [.int (0 : Int32), .int (0 : Int32), .int (0 : Int32), .int (0 : Int32), .int (0 : Int32), .int 0, .null, .null, .null]))] H := hP
  have hD : va_D A [(a_t, .inr (2, [.int (0 : Int32), .int (0 : Int32), .int (0 : Int32), .int (0 : Int32), .int (0 : Int32), .int 0, .null, .null, .null]))] := hD
  refine lv_aload_n hx hb dX2_init_29 rfl (lv_at hl 0 rfl) ?_
  refine lv_iconst (v := (0 : Int32)) hx hb dX2_init_30 (by decide) ?_
  refine va_put (D := g.1) (ci := 2) (v := .int (0 : Int32)) (ty := .int) (C := RX2) (T := TX2) (N := 9) hx hb hts iX2_init_X2 tyX2 tyX2_ok nmX2 hown hK.1 hP hD hS 0 rfl rfl 5 (by decide) (hts _ kX2_init_27) (fun _ h9 => h9) rfl (by decide +kernel) rfl rfl (Nat.le_of_ble_eq_true rfl) dX2_init_31 (fun H locs hP hD hS => ?_)
  have hP : va_P g.1 vwCl [(a_t, .inr (2, [.int (0 : Int32), .int (0 : Int32), .int (0 : Int32), .int (0 : Int32), .int (0 : Int32), .int (0 : Int32), .null, .null, .null]))] H := hP
  have hD : va_D A [(a_t, .inr (2, [.int (0 : Int32), .int (0 : Int32), .int (0 : Int32), .int (0 : Int32), .int (0 : Int32), .int (0 : Int32), .null, .null, .null]))] := hD
  refine lv_aload_n hx hb dX2_init_34 rfl (lv_at hl 0 rfl) ?_
  refine lv_bipush (v := (7 : Int32)) hx hb dX2_init_35 (by decide) ?_
  refine newI C0 kX2_init_ac_int hP hD hS (n := (7 : Int32)) (N := 7) (by decide) (by decide) (by decide) (Nat.le_of_ble_eq_true rfl) (Nat.le_of_ble_eq_true rfl) dX2_init_37 (fun q_1 H hP hD hS => ?_)
  have hP : va_P g.1 vwCl [(a_t, .inr (2, [.int (0 : Int32), .int (0 : Int32), .int (0 : Int32), .int (0 : Int32), .int (0 : Int32), .int (0 : Int32), .null, .null, .null])), aI g q_1 7 zR] H := hP
  have hD : va_D A [(a_t, .inr (2, [.int (0 : Int32), .int (0 : Int32), .int (0 : Int32), .int (0 : Int32), .int (0 : Int32), .int (0 : Int32), .null, .null, .null])), aI g q_1 7 zR] := hD
  refine W.widen (k := 1) (n := 7) (Nat.le_of_ble_eq_true rfl) (Nat.le_of_ble_eq_true rfl) ?_
  refine va_putF (D := g.1) (ci := 2) (v := .ref q_1) (ty := .array .int) (C := RX2) (T := TX2) (N := 9) hx hb hts iX2_init_X2 tyX2 tyX2_ok nmX2 hown hK.1 hP hD hS 0 rfl rfl 6 (by decide) (hts _ kX2_init_30) (fun _ h9 => h9) rfl hin rfl (by decide +kernel) rfl rfl (Nat.le_of_ble_eq_true rfl) dX2_init_39 (fun H locs hP hD hS => ?_)
  have hP : va_P g.1 vwCl [(a_t, .inr (2, [.int (0 : Int32), .int (0 : Int32), .int (0 : Int32), .int (0 : Int32), .int (0 : Int32), .int (0 : Int32), .ref q_1, .null, .null])), aI g q_1 7 zR] H := hP
  have hD : va_D A [(a_t, .inr (2, [.int (0 : Int32), .int (0 : Int32), .int (0 : Int32), .int (0 : Int32), .int (0 : Int32), .int (0 : Int32), .ref q_1, .null, .null])), aI g q_1 7 zR] := hD
  refine lv_aload_n hx hb dX2_init_42 rfl (lv_at hl 0 rfl) ?_
  refine lv_bipush (v := (7 : Int32)) hx hb dX2_init_43 (by decide) ?_
  refine newI C0 kX2_init_ac_int hP hD hS (n := (7 : Int32)) (N := 7) (by decide) (by decide) (by decide) (Nat.le_of_ble_eq_true rfl) (Nat.le_of_ble_eq_true rfl) dX2_init_45 (fun q_2 H hP hD hS => ?_)
  have hP : va_P g.1 vwCl [(a_t, .inr (2, [.int (0 : Int32), .int (0 : Int32), .int (0 : Int32), .int (0 : Int32), .int (0 : Int32), .int (0 : Int32), .ref q_1, .null, .null])), aI g q_1 7 zR, aI g q_2 7 zR] H := hP
  have hD : va_D A [(a_t, .inr (2, [.int (0 : Int32), .int (0 : Int32), .int (0 : Int32), .int (0 : Int32), .int (0 : Int32), .int (0 : Int32), .ref q_1, .null, .null])), aI g q_1 7 zR, aI g q_2 7 zR] := hD
  refine W.widen (k := 2) (n := 14) (Nat.le_of_ble_eq_true rfl) (Nat.le_of_ble_eq_true rfl) ?_
  refine va_putF (D := g.1) (ci := 2) (v := .ref q_2) (ty := .array .int) (C := RX2) (T := TX2) (N := 9) hx hb hts iX2_init_X2 tyX2 tyX2_ok nmX2 hown hK.1 hP hD hS 0 rfl rfl 7 (by decide) (hts _ kX2_init_34) (fun _ h9 => h9) rfl hin rfl (by decide +kernel) rfl rfl (Nat.le_of_ble_eq_true rfl) dX2_init_47 (fun H locs hP hD hS => ?_)
  have hP : va_P g.1 vwCl [(a_t, .inr (2, [.int (0 : Int32), .int (0 : Int32), .int (0 : Int32), .int (0 : Int32), .int (0 : Int32), .int (0 : Int32), .ref q_1, .ref q_2, .null])), aI g q_1 7 zR, aI g q_2 7 zR] H := hP
  have hD : va_D A [(a_t, .inr (2, [.int (0 : Int32), .int (0 : Int32), .int (0 : Int32), .int (0 : Int32), .int (0 : Int32), .int (0 : Int32), .ref q_1, .ref q_2, .null])), aI g q_1 7 zR, aI g q_2 7 zR] := hD
  refine lv_aload_n hx hb dX2_init_50 rfl (lv_at hl 0 rfl) ?_
  refine lv_bipush (v := (7 : Int32)) hx hb dX2_init_51 (by decide) ?_
  refine newI C0 kX2_init_ac_int hP hD hS (n := (7 : Int32)) (N := 7) (by decide) (by decide) (by decide) (Nat.le_of_ble_eq_true rfl) (Nat.le_of_ble_eq_true rfl) dX2_init_53 (fun q_3 H hP hD hS => ?_)
  have hP : va_P g.1 vwCl [(a_t, .inr (2, [.int (0 : Int32), .int (0 : Int32), .int (0 : Int32), .int (0 : Int32), .int (0 : Int32), .int (0 : Int32), .ref q_1, .ref q_2, .null])), aI g q_1 7 zR, aI g q_2 7 zR, aI g q_3 7 zR] H := hP
  have hD : va_D A [(a_t, .inr (2, [.int (0 : Int32), .int (0 : Int32), .int (0 : Int32), .int (0 : Int32), .int (0 : Int32), .int (0 : Int32), .ref q_1, .ref q_2, .null])), aI g q_1 7 zR, aI g q_2 7 zR, aI g q_3 7 zR] := hD
  refine W.widen (k := 3) (n := 21) (Nat.le_of_ble_eq_true rfl) (Nat.le_of_ble_eq_true rfl) ?_
  refine va_putF (D := g.1) (ci := 2) (v := .ref q_3) (ty := .array .int) (C := RX2) (T := TX2) (N := 9) hx hb hts iX2_init_X2 tyX2 tyX2_ok nmX2 hown hK.1 hP hD hS 0 rfl rfl 8 (by decide) (hts _ kX2_init_37) (fun _ h9 => h9) rfl hin rfl (by decide +kernel) rfl rfl (Nat.le_of_ble_eq_true rfl) dX2_init_55 (fun H locs hP hD hS => ?_)
  have hP : va_P g.1 vwCl [(a_t, .inr (2, [.int (0 : Int32), .int (0 : Int32), .int (0 : Int32), .int (0 : Int32), .int (0 : Int32), .int (0 : Int32), .ref q_1, .ref q_2, .ref q_3])), aI g q_1 7 zR, aI g q_2 7 zR, aI g q_3 7 zR] H := hP
  have hD : va_D A [(a_t, .inr (2, [.int (0 : Int32), .int (0 : Int32), .int (0 : Int32), .int (0 : Int32), .int (0 : Int32), .int (0 : Int32), .ref q_1, .ref q_2, .ref q_3])), aI g q_1 7 zR, aI g q_2 7 zR, aI g q_3 7 zR] := hD
  exact ret_c ((va_up (va_up (va_up (fun _ => 0) 6 q_1) 7 q_2) 8 q_3)) C0 hP hD hS [0, 1, 2, 3] rfl rfl rfl dX2_init_58

theorem dAX3_init : ∀ q ∈ ([(0, (.aload_n 0, 1)), (1, (.invokespecial 3, 3)), (4, (.aload_n 0, 1)), (5, (.iconst 0, 1)), (6, (.putfield 9, 3)), (9, (.aload_n 0, 1)), (10, (.iload_n 1, 1)), (11, (.putfield 15, 3)), (14, (.return_, 1))] : List (Nat × (Instr × Nat))), decode cX3_init q.1 = .ok q.2 := by decide +kernel
theorem dX3_init_0 : decode cX3_init 0 = .ok (.aload_n 0, 1) := dAX3_init (0, (.aload_n 0, 1)) (List.mem_of_getElem? (i := 0) rfl)
theorem dX3_init_1 : decode cX3_init 1 = .ok (.invokespecial 3, 3) := dAX3_init (1, (.invokespecial 3, 3)) (List.mem_of_getElem? (i := 1) rfl)
theorem dX3_init_4 : decode cX3_init 4 = .ok (.aload_n 0, 1) := dAX3_init (4, (.aload_n 0, 1)) (List.mem_of_getElem? (i := 2) rfl)
theorem dX3_init_5 : decode cX3_init 5 = .ok (.iconst 0, 1) := dAX3_init (5, (.iconst 0, 1)) (List.mem_of_getElem? (i := 3) rfl)
theorem dX3_init_6 : decode cX3_init 6 = .ok (.putfield 9, 3) := dAX3_init (6, (.putfield 9, 3)) (List.mem_of_getElem? (i := 4) rfl)
theorem dX3_init_9 : decode cX3_init 9 = .ok (.aload_n 0, 1) := dAX3_init (9, (.aload_n 0, 1)) (List.mem_of_getElem? (i := 5) rfl)
theorem dX3_init_10 : decode cX3_init 10 = .ok (.iload_n 1, 1) := dAX3_init (10, (.iload_n 1, 1)) (List.mem_of_getElem? (i := 6) rfl)
theorem dX3_init_11 : decode cX3_init 11 = .ok (.putfield 15, 3) := dAX3_init (11, (.putfield 15, 3)) (List.mem_of_getElem? (i := 7) rfl)
theorem dX3_init_14 : decode cX3_init 14 = .ok (.return_, 1) := dAX3_init (14, (.return_, 1)) (List.mem_of_getElem? (i := 8) rfl)
abbrev BX3 (g : GG) (a : Nat) (x1 : Int32) (u : Unit) : va_W := [oX3 a (fun _ => 0) (upd zR 0 x1)]
theorem kX3_init_o1 : Cond.methodLink RX3 3 objectInit ∈ wsX3_init := List.mem_of_getElem? (i := 1) rfl
theorem kX3_init_o2 : Cond.instanceMethod objectInit ∈ wsX3_init := List.mem_of_getElem? (i := 2) rfl
theorem kX3_init_o3 : Cond.code objectInit ⟨#[0xb1]⟩ 1 none ∈ wsX3_init := List.mem_of_getElem? (i := 3) rfl
theorem kX3_init_9 : Cond.fieldLink RX3 9 "EveningVow$Pace" "seed" "I" ∈ wsX3_init := List.mem_of_getElem? (i := 4) rfl
theorem iX3_init_X3 : ∀ w ∈ u_ws RX3 TX3 2, w ∈ wsX3_init := fun w h => (List.mem_cons_of_mem _ (List.mem_append_right _ h))
theorem kX3_init_15 : Cond.fieldLink RX3 15 "EveningVow$Pace" "drawing" "Z" ∈ wsX3_init := List.mem_of_getElem? (i := 5) rfl
set_option maxHeartbeats 8000000 in
set_option maxRecDepth 100000 in
theorem mX3_init (l : Launch) (g : GG) (a_t : Nat) (x1 : Int32) (hx1 : ¬ ¬ (x1 = 0 ∨ x1 = 1)) : MC l g yX3_init wsX3_init ({ frames := 1, cells := 0, slots := 0, locals := 12 } : Room) 0 0 [.ref a_t, .int x1] [(a_t, .inr (3, [.int 0, .int 0]))] (BX3 g a_t x1) := by
  refine MC.of (cc := cX3_init) (maxL := 2) (own := RX3) rfl rfl rfl (by decide) (Nat.le_of_ble_eq_true rfl) ?_
  intro p e s m args below meth c A C0 hin hP hD hS ls hl
  obtain ⟨hx, hb, hml, hown, hts, hr, hlk, hK, hA, hSW⟩ := id C0
  have hl : lv_has ls 2 [(0, .ref a_t), (1, .int x1)] := hl
  refine lv_aload_n hx hb dX3_init_0 rfl (lv_at hl 0 rfl) ?_
  refine W.objInit hx hb hown (hts _ kX3_init_o1) (hts _ kX3_init_o2) (hts _ kX3_init_o3) rfl (by rw [hml]; exact hl.1) rfl dX3_init_1 (Nat.le_of_ble_eq_true rfl) (Nat.le_of_ble_eq_true rfl) ?_
  refine W.eq (g2 := F0 m 4 ls []) rfl ?_
  refine lv_aload_n hx hb dX3_init_4 rfl (lv_at hl 0 rfl) ?_
  refine lv_iconst (v := (0 : Int32)) hx hb dX3_init_5 (by decide) ?_
  refine va_put (D := g.1) (ci := 3) (v := .int (0 : Int32)) (ty := .int) (C := RX3) (T := TX3) (N := 2) hx hb hts iX3_init_X3 tyX3 tyX3_ok nmX3 hown hK.1 hP hD hS 0 rfl rfl 1 (by decide) (hts _ kX3_init_9) (fun _ h9 => h9) rfl (by decide +kernel) rfl rfl (Nat.le_of_ble_eq_true rfl) dX3_init_6 (fun H locs hP hD hS => ?_)
  have hP : va_P g.1 vwCl [(a_t, .inr (3, [.int 0, .int (0 : Int32)]))] H := hP
  have hD : va_D A [(a_t, .inr (3, [.int 0, .int (0 : Int32)]))] := hD
  refine lv_aload_n hx hb dX3_init_9 rfl (lv_at hl 0 rfl) ?_
  refine lv_iload_n hx hb dX3_init_10 rfl (lv_at hl 1 rfl) ?_
  refine va_putF (D := g.1) (ci := 3) (v := .int x1) (ty := .boolean) (C := RX3) (T := TX3) (N := 2) hx hb hts iX3_init_X3 tyX3 tyX3_ok nmX3 hown hK.1 hP hD hS 0 rfl rfl 0 (by decide) (hts _ kX3_init_15) (fun _ h9 => h9) rfl hin rfl (by decide +kernel) (nar01 hx1) (fit01 hx1) (Nat.le_of_ble_eq_true rfl) dX3_init_11 (fun H locs hP hD hS => ?_)
  have hP : va_P g.1 vwCl [(a_t, .inr (3, [.int x1, .int (0 : Int32)]))] H := hP
  have hD : va_D A [(a_t, .inr (3, [.int x1, .int (0 : Int32)]))] := hD
  exact ret_c () C0 hP hD hS [0] rfl rfl rfl dX3_init_14

theorem dAX7_init : ∀ q ∈ ([(0, (.aload_n 0, 1)), (1, (.invokespecial 3, 3)), (4, (.aload_n 0, 1)), (5, (.iconst 0, 1)), (6, (.putfield 9, 3)), (9, (.aload_n 0, 1)), (10, (.iconst 5, 1)), (11, (.newarray .int, 2)), (13, (.putfield 15, 3)), (16, (.aload_n 0, 1)), (17, (.iconst 5, 1)), (18, (.newarray .int, 2)), (20, (.putfield 19, 3)), (23, (.aload_n 0, 1)), (24, (.iconst 0, 1)), (25, (.putfield 22, 3)), (28, (.aload_n 0, 1)), (29, (.bipush 6, 2)), (31, (.newarray .int, 2)), (33, (.putfield 25, 3)), (36, (.aload_n 0, 1)), (37, (.bipush 6, 2)), (39, (.newarray .int, 2)), (41, (.putfield 28, 3)), (44, (.aload_n 0, 1)), (45, (.bipush 6, 2)), (47, (.newarray .int, 2)), (49, (.putfield 31, 3)), (52, (.return_, 1))] : List (Nat × (Instr × Nat))), decode cX7_init q.1 = .ok q.2 := by decide +kernel
theorem dX7_init_0 : decode cX7_init 0 = .ok (.aload_n 0, 1) := dAX7_init (0, (.aload_n 0, 1)) (List.mem_of_getElem? (i := 0) rfl)
theorem dX7_init_1 : decode cX7_init 1 = .ok (.invokespecial 3, 3) := dAX7_init (1, (.invokespecial 3, 3)) (List.mem_of_getElem? (i := 1) rfl)
theorem dX7_init_4 : decode cX7_init 4 = .ok (.aload_n 0, 1) := dAX7_init (4, (.aload_n 0, 1)) (List.mem_of_getElem? (i := 2) rfl)
theorem dX7_init_5 : decode cX7_init 5 = .ok (.iconst 0, 1) := dAX7_init (5, (.iconst 0, 1)) (List.mem_of_getElem? (i := 3) rfl)
theorem dX7_init_6 : decode cX7_init 6 = .ok (.putfield 9, 3) := dAX7_init (6, (.putfield 9, 3)) (List.mem_of_getElem? (i := 4) rfl)
theorem dX7_init_9 : decode cX7_init 9 = .ok (.aload_n 0, 1) := dAX7_init (9, (.aload_n 0, 1)) (List.mem_of_getElem? (i := 5) rfl)
theorem dX7_init_10 : decode cX7_init 10 = .ok (.iconst 5, 1) := dAX7_init (10, (.iconst 5, 1)) (List.mem_of_getElem? (i := 6) rfl)
theorem dX7_init_11 : decode cX7_init 11 = .ok (.newarray .int, 2) := dAX7_init (11, (.newarray .int, 2)) (List.mem_of_getElem? (i := 7) rfl)
theorem dX7_init_13 : decode cX7_init 13 = .ok (.putfield 15, 3) := dAX7_init (13, (.putfield 15, 3)) (List.mem_of_getElem? (i := 8) rfl)
theorem dX7_init_16 : decode cX7_init 16 = .ok (.aload_n 0, 1) := dAX7_init (16, (.aload_n 0, 1)) (List.mem_of_getElem? (i := 9) rfl)
theorem dX7_init_17 : decode cX7_init 17 = .ok (.iconst 5, 1) := dAX7_init (17, (.iconst 5, 1)) (List.mem_of_getElem? (i := 10) rfl)
theorem dX7_init_18 : decode cX7_init 18 = .ok (.newarray .int, 2) := dAX7_init (18, (.newarray .int, 2)) (List.mem_of_getElem? (i := 11) rfl)
theorem dX7_init_20 : decode cX7_init 20 = .ok (.putfield 19, 3) := dAX7_init (20, (.putfield 19, 3)) (List.mem_of_getElem? (i := 12) rfl)
theorem dX7_init_23 : decode cX7_init 23 = .ok (.aload_n 0, 1) := dAX7_init (23, (.aload_n 0, 1)) (List.mem_of_getElem? (i := 13) rfl)
theorem dX7_init_24 : decode cX7_init 24 = .ok (.iconst 0, 1) := dAX7_init (24, (.iconst 0, 1)) (List.mem_of_getElem? (i := 14) rfl)
theorem dX7_init_25 : decode cX7_init 25 = .ok (.putfield 22, 3) := dAX7_init (25, (.putfield 22, 3)) (List.mem_of_getElem? (i := 15) rfl)
theorem dX7_init_28 : decode cX7_init 28 = .ok (.aload_n 0, 1) := dAX7_init (28, (.aload_n 0, 1)) (List.mem_of_getElem? (i := 16) rfl)
theorem dX7_init_29 : decode cX7_init 29 = .ok (.bipush 6, 2) := dAX7_init (29, (.bipush 6, 2)) (List.mem_of_getElem? (i := 17) rfl)
theorem dX7_init_31 : decode cX7_init 31 = .ok (.newarray .int, 2) := dAX7_init (31, (.newarray .int, 2)) (List.mem_of_getElem? (i := 18) rfl)
theorem dX7_init_33 : decode cX7_init 33 = .ok (.putfield 25, 3) := dAX7_init (33, (.putfield 25, 3)) (List.mem_of_getElem? (i := 19) rfl)
theorem dX7_init_36 : decode cX7_init 36 = .ok (.aload_n 0, 1) := dAX7_init (36, (.aload_n 0, 1)) (List.mem_of_getElem? (i := 20) rfl)
theorem dX7_init_37 : decode cX7_init 37 = .ok (.bipush 6, 2) := dAX7_init (37, (.bipush 6, 2)) (List.mem_of_getElem? (i := 21) rfl)
theorem dX7_init_39 : decode cX7_init 39 = .ok (.newarray .int, 2) := dAX7_init (39, (.newarray .int, 2)) (List.mem_of_getElem? (i := 22) rfl)
theorem dX7_init_41 : decode cX7_init 41 = .ok (.putfield 28, 3) := dAX7_init (41, (.putfield 28, 3)) (List.mem_of_getElem? (i := 23) rfl)
theorem dX7_init_44 : decode cX7_init 44 = .ok (.aload_n 0, 1) := dAX7_init (44, (.aload_n 0, 1)) (List.mem_of_getElem? (i := 24) rfl)
theorem dX7_init_45 : decode cX7_init 45 = .ok (.bipush 6, 2) := dAX7_init (45, (.bipush 6, 2)) (List.mem_of_getElem? (i := 25) rfl)
theorem dX7_init_47 : decode cX7_init 47 = .ok (.newarray .int, 2) := dAX7_init (47, (.newarray .int, 2)) (List.mem_of_getElem? (i := 26) rfl)
theorem dX7_init_49 : decode cX7_init 49 = .ok (.putfield 31, 3) := dAX7_init (49, (.putfield 31, 3)) (List.mem_of_getElem? (i := 27) rfl)
theorem dX7_init_52 : decode cX7_init 52 = .ok (.return_, 1) := dAX7_init (52, (.return_, 1)) (List.mem_of_getElem? (i := 28) rfl)
abbrev BX7 (g : GG) (a : Nat) (u : (Nat → Nat)) : va_W := [oX7 a u zR, aI g (u 1) 5 zR, aI g (u 2) 5 zR, aI g (u 4) 6 zR, aI g (u 5) 6 zR, aI g (u 6) 6 zR]
theorem kX7_init_o1 : Cond.methodLink RX7 3 objectInit ∈ wsX7_init := List.mem_of_getElem? (i := 1) rfl
theorem kX7_init_o2 : Cond.instanceMethod objectInit ∈ wsX7_init := List.mem_of_getElem? (i := 2) rfl
theorem kX7_init_o3 : Cond.code objectInit ⟨#[0xb1]⟩ 1 none ∈ wsX7_init := List.mem_of_getElem? (i := 3) rfl
theorem kX7_init_9 : Cond.fieldLink RX7 9 "EveningVow$Town" "needs" "I" ∈ wsX7_init := List.mem_of_getElem? (i := 4) rfl
theorem iX7_init_X7 : ∀ w ∈ u_ws RX7 TX7 7, w ∈ wsX7_init := fun w h => (List.mem_cons_of_mem _ (List.mem_append_right _ h))
theorem kX7_init_ac_int : Cond.arrayClass .int ∈ wsX7_init := List.mem_of_getElem? (i := 5) rfl
theorem kX7_init_15 : Cond.fieldLink RX7 15 "EveningVow$Town" "needHour" "[I" ∈ wsX7_init := List.mem_of_getElem? (i := 6) rfl
theorem kX7_init_19 : Cond.fieldLink RX7 19 "EveningVow$Town" "needPays" "[I" ∈ wsX7_init := List.mem_of_getElem? (i := 7) rfl
theorem kX7_init_22 : Cond.fieldLink RX7 22 "EveningVow$Town" "sights" "I" ∈ wsX7_init := List.mem_of_getElem? (i := 8) rfl
theorem kX7_init_25 : Cond.fieldLink RX7 25 "EveningVow$Town" "sightGuest" "[I" ∈ wsX7_init := List.mem_of_getElem? (i := 9) rfl
theorem kX7_init_28 : Cond.fieldLink RX7 28 "EveningVow$Town" "sightHour" "[I" ∈ wsX7_init := List.mem_of_getElem? (i := 10) rfl
theorem kX7_init_31 : Cond.fieldLink RX7 31 "EveningVow$Town" "sightThere" "[I" ∈ wsX7_init := List.mem_of_getElem? (i := 11) rfl
set_option maxHeartbeats 8000000 in
set_option maxRecDepth 100000 in
theorem mX7_init (l : Launch) (g : GG) (a_t : Nat) : MC l g yX7_init wsX7_init ({ frames := 1, cells := 5, slots := 28, locals := 12 } : Room) 5 28 [.ref a_t] [(a_t, .inr (7, [.int 0, .null, .null, .int 0, .null, .null, .null]))] (BX7 g a_t) := by
  refine MC.of (cc := cX7_init) (maxL := 1) (own := RX7) rfl rfl rfl (by decide) (Nat.le_of_ble_eq_true rfl) ?_
  intro p e s m args below meth c A C0 hin hP hD hS ls hl
  obtain ⟨hx, hb, hml, hown, hts, hr, hlk, hK, hA, hSW⟩ := id C0
  have hl : lv_has ls 1 [(0, .ref a_t)] := hl
  refine lv_aload_n hx hb dX7_init_0 rfl (lv_at hl 0 rfl) ?_
  refine W.objInit hx hb hown (hts _ kX7_init_o1) (hts _ kX7_init_o2) (hts _ kX7_init_o3) rfl (by rw [hml]; exact hl.1) rfl dX7_init_1 (Nat.le_of_ble_eq_true rfl) (Nat.le_of_ble_eq_true rfl) ?_
  refine W.eq (g2 := F0 m 4 ls []) rfl ?_
  refine lv_aload_n hx hb dX7_init_4 rfl (lv_at hl 0 rfl) ?_
  refine lv_iconst (v := (0 : Int32)) hx hb dX7_init_5 (by decide) ?_
  refine va_put (D := g.1) (ci := 7) (v := .int (0 : Int32)) (ty := .int) (C := RX7) (T := TX7) (N := 7) hx hb hts iX7_init_X7 tyX7 tyX7_ok nmX7 hown hK.1 hP hD hS 0 rfl rfl 0 (by decide) (hts _ kX7_init_9) (fun _ h9 => h9) rfl (by decide +kernel) rfl rfl (Nat.le_of_ble_eq_true rfl) dX7_init_6 (fun H locs hP hD hS => ?_)
  have hP : va_P g.1 vwCl [(a_t, .inr (7, [.int (0 : Int32), .null, .null, .int 0, .null, .null, .null]))] H := hP
  have hD : va_D A [(a_t, .inr (7, [.int (0 : Int32), .null, .null, .int 0, .null, .null, .null]))] := hD
  refine lv_aload_n hx hb dX7_init_9 rfl (lv_at hl 0 rfl) ?_
  refine lv_iconst (v := (5 : Int32)) hx hb dX7_init_10 (by decide) ?_
  refine newI C0 kX7_init_ac_int hP hD hS (n := (5 : Int32)) (N := 5) (by decide) (by decide) (by decide) (Nat.le_of_ble_eq_true rfl) (Nat.le_of_ble_eq_true rfl) dX7_init_11 (fun q_1 H hP hD hS => ?_)
  have hP : va_P g.1 vwCl [(a_t, .inr (7, [.int (0 : Int32), .null, .null, .int 0, .null, .null, .null])), aI g q_1 5 zR] H := hP
  have hD : va_D A [(a_t, .inr (7, [.int (0 : Int32), .null, .null, .int 0, .null, .null, .null])), aI g q_1 5 zR] := hD
  refine W.widen (k := 1) (n := 5) (Nat.le_of_ble_eq_true rfl) (Nat.le_of_ble_eq_true rfl) ?_
  refine va_putF (D := g.1) (ci := 7) (v := .ref q_1) (ty := .array .int) (C := RX7) (T := TX7) (N := 7) hx hb hts iX7_init_X7 tyX7 tyX7_ok nmX7 hown hK.1 hP hD hS 0 rfl rfl 1 (by decide) (hts _ kX7_init_15) (fun _ h9 => h9) rfl hin rfl (by decide +kernel) rfl rfl (Nat.le_of_ble_eq_true rfl) dX7_init_13 (fun H locs hP hD hS => ?_)
  have hP : va_P g.1 vwCl [(a_t, .inr (7, [.int (0 : Int32), .ref q_1, .null, .int 0, .null, .null, .null])), aI g q_1 5 zR] H := hP
  have hD : va_D A [(a_t, .inr (7, [.int (0 : Int32), .ref q_1, .null, .int 0, .null, .null, .null])), aI g q_1 5 zR] := hD
  refine lv_aload_n hx hb dX7_init_16 rfl (lv_at hl 0 rfl) ?_
  refine lv_iconst (v := (5 : Int32)) hx hb dX7_init_17 (by decide) ?_
  refine newI C0 kX7_init_ac_int hP hD hS (n := (5 : Int32)) (N := 5) (by decide) (by decide) (by decide) (Nat.le_of_ble_eq_true rfl) (Nat.le_of_ble_eq_true rfl) dX7_init_18 (fun q_2 H hP hD hS => ?_)
  have hP : va_P g.1 vwCl [(a_t, .inr (7, [.int (0 : Int32), .ref q_1, .null, .int 0, .null, .null, .null])), aI g q_1 5 zR, aI g q_2 5 zR] H := hP
  have hD : va_D A [(a_t, .inr (7, [.int (0 : Int32), .ref q_1, .null, .int 0, .null, .null, .null])), aI g q_1 5 zR, aI g q_2 5 zR] := hD
  refine W.widen (k := 2) (n := 10) (Nat.le_of_ble_eq_true rfl) (Nat.le_of_ble_eq_true rfl) ?_
  refine va_putF (D := g.1) (ci := 7) (v := .ref q_2) (ty := .array .int) (C := RX7) (T := TX7) (N := 7) hx hb hts iX7_init_X7 tyX7 tyX7_ok nmX7 hown hK.1 hP hD hS 0 rfl rfl 2 (by decide) (hts _ kX7_init_19) (fun _ h9 => h9) rfl hin rfl (by decide +kernel) rfl rfl (Nat.le_of_ble_eq_true rfl) dX7_init_20 (fun H locs hP hD hS => ?_)
  have hP : va_P g.1 vwCl [(a_t, .inr (7, [.int (0 : Int32), .ref q_1, .ref q_2, .int 0, .null, .null, .null])), aI g q_1 5 zR, aI g q_2 5 zR] H := hP
  have hD : va_D A [(a_t, .inr (7, [.int (0 : Int32), .ref q_1, .ref q_2, .int 0, .null, .null, .null])), aI g q_1 5 zR, aI g q_2 5 zR] := hD
  refine lv_aload_n hx hb dX7_init_23 rfl (lv_at hl 0 rfl) ?_
  refine lv_iconst (v := (0 : Int32)) hx hb dX7_init_24 (by decide) ?_
  refine va_put (D := g.1) (ci := 7) (v := .int (0 : Int32)) (ty := .int) (C := RX7) (T := TX7) (N := 7) hx hb hts iX7_init_X7 tyX7 tyX7_ok nmX7 hown hK.1 hP hD hS 0 rfl rfl 3 (by decide) (hts _ kX7_init_22) (fun _ h9 => h9) rfl (by decide +kernel) rfl rfl (Nat.le_of_ble_eq_true rfl) dX7_init_25 (fun H locs hP hD hS => ?_)
  have hP : va_P g.1 vwCl [(a_t, .inr (7, [.int (0 : Int32), .ref q_1, .ref q_2, .int (0 : Int32), .null, .null, .null])), aI g q_1 5 zR, aI g q_2 5 zR] H := hP
  have hD : va_D A [(a_t, .inr (7, [.int (0 : Int32), .ref q_1, .ref q_2, .int (0 : Int32), .null, .null, .null])), aI g q_1 5 zR, aI g q_2 5 zR] := hD
  refine lv_aload_n hx hb dX7_init_28 rfl (lv_at hl 0 rfl) ?_
  refine lv_bipush (v := (6 : Int32)) hx hb dX7_init_29 (by decide) ?_
  refine newI C0 kX7_init_ac_int hP hD hS (n := (6 : Int32)) (N := 6) (by decide) (by decide) (by decide) (Nat.le_of_ble_eq_true rfl) (Nat.le_of_ble_eq_true rfl) dX7_init_31 (fun q_3 H hP hD hS => ?_)
  have hP : va_P g.1 vwCl [(a_t, .inr (7, [.int (0 : Int32), .ref q_1, .ref q_2, .int (0 : Int32), .null, .null, .null])), aI g q_1 5 zR, aI g q_2 5 zR, aI g q_3 6 zR] H := hP
  have hD : va_D A [(a_t, .inr (7, [.int (0 : Int32), .ref q_1, .ref q_2, .int (0 : Int32), .null, .null, .null])), aI g q_1 5 zR, aI g q_2 5 zR, aI g q_3 6 zR] := hD
  refine W.widen (k := 3) (n := 16) (Nat.le_of_ble_eq_true rfl) (Nat.le_of_ble_eq_true rfl) ?_
  refine va_putF (D := g.1) (ci := 7) (v := .ref q_3) (ty := .array .int) (C := RX7) (T := TX7) (N := 7) hx hb hts iX7_init_X7 tyX7 tyX7_ok nmX7 hown hK.1 hP hD hS 0 rfl rfl 4 (by decide) (hts _ kX7_init_25) (fun _ h9 => h9) rfl hin rfl (by decide +kernel) rfl rfl (Nat.le_of_ble_eq_true rfl) dX7_init_33 (fun H locs hP hD hS => ?_)
  have hP : va_P g.1 vwCl [(a_t, .inr (7, [.int (0 : Int32), .ref q_1, .ref q_2, .int (0 : Int32), .ref q_3, .null, .null])), aI g q_1 5 zR, aI g q_2 5 zR, aI g q_3 6 zR] H := hP
  have hD : va_D A [(a_t, .inr (7, [.int (0 : Int32), .ref q_1, .ref q_2, .int (0 : Int32), .ref q_3, .null, .null])), aI g q_1 5 zR, aI g q_2 5 zR, aI g q_3 6 zR] := hD
  refine lv_aload_n hx hb dX7_init_36 rfl (lv_at hl 0 rfl) ?_
  refine lv_bipush (v := (6 : Int32)) hx hb dX7_init_37 (by decide) ?_
  refine newI C0 kX7_init_ac_int hP hD hS (n := (6 : Int32)) (N := 6) (by decide) (by decide) (by decide) (Nat.le_of_ble_eq_true rfl) (Nat.le_of_ble_eq_true rfl) dX7_init_39 (fun q_4 H hP hD hS => ?_)
  have hP : va_P g.1 vwCl [(a_t, .inr (7, [.int (0 : Int32), .ref q_1, .ref q_2, .int (0 : Int32), .ref q_3, .null, .null])), aI g q_1 5 zR, aI g q_2 5 zR, aI g q_3 6 zR, aI g q_4 6 zR] H := hP
  have hD : va_D A [(a_t, .inr (7, [.int (0 : Int32), .ref q_1, .ref q_2, .int (0 : Int32), .ref q_3, .null, .null])), aI g q_1 5 zR, aI g q_2 5 zR, aI g q_3 6 zR, aI g q_4 6 zR] := hD
  refine W.widen (k := 4) (n := 22) (Nat.le_of_ble_eq_true rfl) (Nat.le_of_ble_eq_true rfl) ?_
  refine va_putF (D := g.1) (ci := 7) (v := .ref q_4) (ty := .array .int) (C := RX7) (T := TX7) (N := 7) hx hb hts iX7_init_X7 tyX7 tyX7_ok nmX7 hown hK.1 hP hD hS 0 rfl rfl 5 (by decide) (hts _ kX7_init_28) (fun _ h9 => h9) rfl hin rfl (by decide +kernel) rfl rfl (Nat.le_of_ble_eq_true rfl) dX7_init_41 (fun H locs hP hD hS => ?_)
  have hP : va_P g.1 vwCl [(a_t, .inr (7, [.int (0 : Int32), .ref q_1, .ref q_2, .int (0 : Int32), .ref q_3, .ref q_4, .null])), aI g q_1 5 zR, aI g q_2 5 zR, aI g q_3 6 zR, aI g q_4 6 zR] H := hP
  have hD : va_D A [(a_t, .inr (7, [.int (0 : Int32), .ref q_1, .ref q_2, .int (0 : Int32), .ref q_3, .ref q_4, .null])), aI g q_1 5 zR, aI g q_2 5 zR, aI g q_3 6 zR, aI g q_4 6 zR] := hD
  refine lv_aload_n hx hb dX7_init_44 rfl (lv_at hl 0 rfl) ?_
  refine lv_bipush (v := (6 : Int32)) hx hb dX7_init_45 (by decide) ?_
  refine newI C0 kX7_init_ac_int hP hD hS (n := (6 : Int32)) (N := 6) (by decide) (by decide) (by decide) (Nat.le_of_ble_eq_true rfl) (Nat.le_of_ble_eq_true rfl) dX7_init_47 (fun q_5 H hP hD hS => ?_)
  have hP : va_P g.1 vwCl [(a_t, .inr (7, [.int (0 : Int32), .ref q_1, .ref q_2, .int (0 : Int32), .ref q_3, .ref q_4, .null])), aI g q_1 5 zR, aI g q_2 5 zR, aI g q_3 6 zR, aI g q_4 6 zR, aI g q_5 6 zR] H := hP
  have hD : va_D A [(a_t, .inr (7, [.int (0 : Int32), .ref q_1, .ref q_2, .int (0 : Int32), .ref q_3, .ref q_4, .null])), aI g q_1 5 zR, aI g q_2 5 zR, aI g q_3 6 zR, aI g q_4 6 zR, aI g q_5 6 zR] := hD
  refine W.widen (k := 5) (n := 28) (Nat.le_of_ble_eq_true rfl) (Nat.le_of_ble_eq_true rfl) ?_
  refine va_putF (D := g.1) (ci := 7) (v := .ref q_5) (ty := .array .int) (C := RX7) (T := TX7) (N := 7) hx hb hts iX7_init_X7 tyX7 tyX7_ok nmX7 hown hK.1 hP hD hS 0 rfl rfl 6 (by decide) (hts _ kX7_init_31) (fun _ h9 => h9) rfl hin rfl (by decide +kernel) rfl rfl (Nat.le_of_ble_eq_true rfl) dX7_init_49 (fun H locs hP hD hS => ?_)
  have hP : va_P g.1 vwCl [(a_t, .inr (7, [.int (0 : Int32), .ref q_1, .ref q_2, .int (0 : Int32), .ref q_3, .ref q_4, .ref q_5])), aI g q_1 5 zR, aI g q_2 5 zR, aI g q_3 6 zR, aI g q_4 6 zR, aI g q_5 6 zR] H := hP
  have hD : va_D A [(a_t, .inr (7, [.int (0 : Int32), .ref q_1, .ref q_2, .int (0 : Int32), .ref q_3, .ref q_4, .ref q_5])), aI g q_1 5 zR, aI g q_2 5 zR, aI g q_3 6 zR, aI g q_4 6 zR, aI g q_5 6 zR] := hD
  exact ret_c ((va_up (va_up (va_up (va_up (va_up (fun _ => 0) 1 q_1) 2 q_2) 4 q_3) 5 q_4) 6 q_5)) C0 hP hD hS [0, 1, 2, 3, 4, 5] rfl rfl rfl dX7_init_52

theorem dAX1_init : ∀ q ∈ ([(0, (.aload_n 0, 1)), (1, (.invokespecial 3, 3)), (4, (.aload_n 0, 1)), (5, (.iconst 0, 1)), (6, (.putfield 9, 3)), (9, (.aload_n 0, 1)), (10, (.iconst 0, 1)), (11, (.putfield 15, 3)), (14, (.aload_n 0, 1)), (15, (.iconst 0, 1)), (16, (.putfield 18, 3)), (19, (.aload_n 0, 1)), (20, (.iconst 0, 1)), (21, (.putfield 21, 3)), (24, (.aload_n 0, 1)), (25, (.bipush 7, 2)), (27, (.newarray .int, 2)), (29, (.putfield 24, 3)), (32, (.aload_n 0, 1)), (33, (.bipush 7, 2)), (35, (.newarray .int, 2)), (37, (.putfield 28, 3)), (40, (.aload_n 0, 1)), (41, (.bipush 7, 2)), (43, (.newarray .int, 2)), (45, (.putfield 31, 3)), (48, (.aload_n 0, 1)), (49, (.bipush 7, 2)), (51, (.newarray .int, 2)), (53, (.putfield 34, 3)), (56, (.aload_n 0, 1)), (57, (.iconst 0, 1)), (58, (.putfield 37, 3)), (61, (.aload_n 0, 1)), (62, (.iconst 0, 1)), (63, (.putfield 40, 3)), (66, (.aload_n 0, 1)), (67, (.bipush 8, 2)), (69, (.newarray .int, 2)), (71, (.putfield 43, 3)), (74, (.aload_n 0, 1)), (75, (.bipush 8, 2)), (77, (.newarray .int, 2)), (79, (.putfield 46, 3)), (82, (.aload_n 0, 1)), (83, (.bipush 8, 2)), (85, (.newarray .int, 2)), (87, (.putfield 49, 3)), (90, (.aload_n 0, 1)), (91, (.iconst 0, 1)), (92, (.putfield 52, 3)), (95, (.aload_n 0, 1)), (96, (.iconst 4, 1)), (97, (.newarray .int, 2)), (99, (.putfield 55, 3)), (102, (.aload_n 0, 1)), (103, (.iconst 4, 1)), (104, (.newarray .int, 2)), (106, (.putfield 58, 3)), (109, (.aload_n 0, 1)), (110, (.new 61, 3)), (113, (.dup, 1)), (114, (.invokespecial 63, 3)), (117, (.putfield 64, 3)), (120, (.return_, 1))] : List (Nat × (Instr × Nat))), decode cX1_init q.1 = .ok q.2 := by decide +kernel
theorem dX1_init_0 : decode cX1_init 0 = .ok (.aload_n 0, 1) := dAX1_init (0, (.aload_n 0, 1)) (List.mem_of_getElem? (i := 0) rfl)
theorem dX1_init_1 : decode cX1_init 1 = .ok (.invokespecial 3, 3) := dAX1_init (1, (.invokespecial 3, 3)) (List.mem_of_getElem? (i := 1) rfl)
theorem dX1_init_4 : decode cX1_init 4 = .ok (.aload_n 0, 1) := dAX1_init (4, (.aload_n 0, 1)) (List.mem_of_getElem? (i := 2) rfl)
theorem dX1_init_5 : decode cX1_init 5 = .ok (.iconst 0, 1) := dAX1_init (5, (.iconst 0, 1)) (List.mem_of_getElem? (i := 3) rfl)
theorem dX1_init_6 : decode cX1_init 6 = .ok (.putfield 9, 3) := dAX1_init (6, (.putfield 9, 3)) (List.mem_of_getElem? (i := 4) rfl)
theorem dX1_init_9 : decode cX1_init 9 = .ok (.aload_n 0, 1) := dAX1_init (9, (.aload_n 0, 1)) (List.mem_of_getElem? (i := 5) rfl)
theorem dX1_init_10 : decode cX1_init 10 = .ok (.iconst 0, 1) := dAX1_init (10, (.iconst 0, 1)) (List.mem_of_getElem? (i := 6) rfl)
theorem dX1_init_11 : decode cX1_init 11 = .ok (.putfield 15, 3) := dAX1_init (11, (.putfield 15, 3)) (List.mem_of_getElem? (i := 7) rfl)
theorem dX1_init_14 : decode cX1_init 14 = .ok (.aload_n 0, 1) := dAX1_init (14, (.aload_n 0, 1)) (List.mem_of_getElem? (i := 8) rfl)
theorem dX1_init_15 : decode cX1_init 15 = .ok (.iconst 0, 1) := dAX1_init (15, (.iconst 0, 1)) (List.mem_of_getElem? (i := 9) rfl)
theorem dX1_init_16 : decode cX1_init 16 = .ok (.putfield 18, 3) := dAX1_init (16, (.putfield 18, 3)) (List.mem_of_getElem? (i := 10) rfl)
theorem dX1_init_19 : decode cX1_init 19 = .ok (.aload_n 0, 1) := dAX1_init (19, (.aload_n 0, 1)) (List.mem_of_getElem? (i := 11) rfl)
theorem dX1_init_20 : decode cX1_init 20 = .ok (.iconst 0, 1) := dAX1_init (20, (.iconst 0, 1)) (List.mem_of_getElem? (i := 12) rfl)
theorem dX1_init_21 : decode cX1_init 21 = .ok (.putfield 21, 3) := dAX1_init (21, (.putfield 21, 3)) (List.mem_of_getElem? (i := 13) rfl)
theorem dX1_init_24 : decode cX1_init 24 = .ok (.aload_n 0, 1) := dAX1_init (24, (.aload_n 0, 1)) (List.mem_of_getElem? (i := 14) rfl)
theorem dX1_init_25 : decode cX1_init 25 = .ok (.bipush 7, 2) := dAX1_init (25, (.bipush 7, 2)) (List.mem_of_getElem? (i := 15) rfl)
theorem dX1_init_27 : decode cX1_init 27 = .ok (.newarray .int, 2) := dAX1_init (27, (.newarray .int, 2)) (List.mem_of_getElem? (i := 16) rfl)
theorem dX1_init_29 : decode cX1_init 29 = .ok (.putfield 24, 3) := dAX1_init (29, (.putfield 24, 3)) (List.mem_of_getElem? (i := 17) rfl)
theorem dX1_init_32 : decode cX1_init 32 = .ok (.aload_n 0, 1) := dAX1_init (32, (.aload_n 0, 1)) (List.mem_of_getElem? (i := 18) rfl)
theorem dX1_init_33 : decode cX1_init 33 = .ok (.bipush 7, 2) := dAX1_init (33, (.bipush 7, 2)) (List.mem_of_getElem? (i := 19) rfl)
theorem dX1_init_35 : decode cX1_init 35 = .ok (.newarray .int, 2) := dAX1_init (35, (.newarray .int, 2)) (List.mem_of_getElem? (i := 20) rfl)
theorem dX1_init_37 : decode cX1_init 37 = .ok (.putfield 28, 3) := dAX1_init (37, (.putfield 28, 3)) (List.mem_of_getElem? (i := 21) rfl)
theorem dX1_init_40 : decode cX1_init 40 = .ok (.aload_n 0, 1) := dAX1_init (40, (.aload_n 0, 1)) (List.mem_of_getElem? (i := 22) rfl)
theorem dX1_init_41 : decode cX1_init 41 = .ok (.bipush 7, 2) := dAX1_init (41, (.bipush 7, 2)) (List.mem_of_getElem? (i := 23) rfl)
theorem dX1_init_43 : decode cX1_init 43 = .ok (.newarray .int, 2) := dAX1_init (43, (.newarray .int, 2)) (List.mem_of_getElem? (i := 24) rfl)
theorem dX1_init_45 : decode cX1_init 45 = .ok (.putfield 31, 3) := dAX1_init (45, (.putfield 31, 3)) (List.mem_of_getElem? (i := 25) rfl)
theorem dX1_init_48 : decode cX1_init 48 = .ok (.aload_n 0, 1) := dAX1_init (48, (.aload_n 0, 1)) (List.mem_of_getElem? (i := 26) rfl)
theorem dX1_init_49 : decode cX1_init 49 = .ok (.bipush 7, 2) := dAX1_init (49, (.bipush 7, 2)) (List.mem_of_getElem? (i := 27) rfl)
theorem dX1_init_51 : decode cX1_init 51 = .ok (.newarray .int, 2) := dAX1_init (51, (.newarray .int, 2)) (List.mem_of_getElem? (i := 28) rfl)
theorem dX1_init_53 : decode cX1_init 53 = .ok (.putfield 34, 3) := dAX1_init (53, (.putfield 34, 3)) (List.mem_of_getElem? (i := 29) rfl)
theorem dX1_init_56 : decode cX1_init 56 = .ok (.aload_n 0, 1) := dAX1_init (56, (.aload_n 0, 1)) (List.mem_of_getElem? (i := 30) rfl)
theorem dX1_init_57 : decode cX1_init 57 = .ok (.iconst 0, 1) := dAX1_init (57, (.iconst 0, 1)) (List.mem_of_getElem? (i := 31) rfl)
theorem dX1_init_58 : decode cX1_init 58 = .ok (.putfield 37, 3) := dAX1_init (58, (.putfield 37, 3)) (List.mem_of_getElem? (i := 32) rfl)
theorem dX1_init_61 : decode cX1_init 61 = .ok (.aload_n 0, 1) := dAX1_init (61, (.aload_n 0, 1)) (List.mem_of_getElem? (i := 33) rfl)
theorem dX1_init_62 : decode cX1_init 62 = .ok (.iconst 0, 1) := dAX1_init (62, (.iconst 0, 1)) (List.mem_of_getElem? (i := 34) rfl)
theorem dX1_init_63 : decode cX1_init 63 = .ok (.putfield 40, 3) := dAX1_init (63, (.putfield 40, 3)) (List.mem_of_getElem? (i := 35) rfl)
theorem dX1_init_66 : decode cX1_init 66 = .ok (.aload_n 0, 1) := dAX1_init (66, (.aload_n 0, 1)) (List.mem_of_getElem? (i := 36) rfl)
theorem dX1_init_67 : decode cX1_init 67 = .ok (.bipush 8, 2) := dAX1_init (67, (.bipush 8, 2)) (List.mem_of_getElem? (i := 37) rfl)
theorem dX1_init_69 : decode cX1_init 69 = .ok (.newarray .int, 2) := dAX1_init (69, (.newarray .int, 2)) (List.mem_of_getElem? (i := 38) rfl)
theorem dX1_init_71 : decode cX1_init 71 = .ok (.putfield 43, 3) := dAX1_init (71, (.putfield 43, 3)) (List.mem_of_getElem? (i := 39) rfl)
theorem dX1_init_74 : decode cX1_init 74 = .ok (.aload_n 0, 1) := dAX1_init (74, (.aload_n 0, 1)) (List.mem_of_getElem? (i := 40) rfl)
theorem dX1_init_75 : decode cX1_init 75 = .ok (.bipush 8, 2) := dAX1_init (75, (.bipush 8, 2)) (List.mem_of_getElem? (i := 41) rfl)
theorem dX1_init_77 : decode cX1_init 77 = .ok (.newarray .int, 2) := dAX1_init (77, (.newarray .int, 2)) (List.mem_of_getElem? (i := 42) rfl)
theorem dX1_init_79 : decode cX1_init 79 = .ok (.putfield 46, 3) := dAX1_init (79, (.putfield 46, 3)) (List.mem_of_getElem? (i := 43) rfl)
theorem dX1_init_82 : decode cX1_init 82 = .ok (.aload_n 0, 1) := dAX1_init (82, (.aload_n 0, 1)) (List.mem_of_getElem? (i := 44) rfl)
theorem dX1_init_83 : decode cX1_init 83 = .ok (.bipush 8, 2) := dAX1_init (83, (.bipush 8, 2)) (List.mem_of_getElem? (i := 45) rfl)
theorem dX1_init_85 : decode cX1_init 85 = .ok (.newarray .int, 2) := dAX1_init (85, (.newarray .int, 2)) (List.mem_of_getElem? (i := 46) rfl)
theorem dX1_init_87 : decode cX1_init 87 = .ok (.putfield 49, 3) := dAX1_init (87, (.putfield 49, 3)) (List.mem_of_getElem? (i := 47) rfl)
theorem dX1_init_90 : decode cX1_init 90 = .ok (.aload_n 0, 1) := dAX1_init (90, (.aload_n 0, 1)) (List.mem_of_getElem? (i := 48) rfl)
theorem dX1_init_91 : decode cX1_init 91 = .ok (.iconst 0, 1) := dAX1_init (91, (.iconst 0, 1)) (List.mem_of_getElem? (i := 49) rfl)
theorem dX1_init_92 : decode cX1_init 92 = .ok (.putfield 52, 3) := dAX1_init (92, (.putfield 52, 3)) (List.mem_of_getElem? (i := 50) rfl)
theorem dX1_init_95 : decode cX1_init 95 = .ok (.aload_n 0, 1) := dAX1_init (95, (.aload_n 0, 1)) (List.mem_of_getElem? (i := 51) rfl)
theorem dX1_init_96 : decode cX1_init 96 = .ok (.iconst 4, 1) := dAX1_init (96, (.iconst 4, 1)) (List.mem_of_getElem? (i := 52) rfl)
theorem dX1_init_97 : decode cX1_init 97 = .ok (.newarray .int, 2) := dAX1_init (97, (.newarray .int, 2)) (List.mem_of_getElem? (i := 53) rfl)
theorem dX1_init_99 : decode cX1_init 99 = .ok (.putfield 55, 3) := dAX1_init (99, (.putfield 55, 3)) (List.mem_of_getElem? (i := 54) rfl)
theorem dX1_init_102 : decode cX1_init 102 = .ok (.aload_n 0, 1) := dAX1_init (102, (.aload_n 0, 1)) (List.mem_of_getElem? (i := 55) rfl)
theorem dX1_init_103 : decode cX1_init 103 = .ok (.iconst 4, 1) := dAX1_init (103, (.iconst 4, 1)) (List.mem_of_getElem? (i := 56) rfl)
theorem dX1_init_104 : decode cX1_init 104 = .ok (.newarray .int, 2) := dAX1_init (104, (.newarray .int, 2)) (List.mem_of_getElem? (i := 57) rfl)
theorem dX1_init_106 : decode cX1_init 106 = .ok (.putfield 58, 3) := dAX1_init (106, (.putfield 58, 3)) (List.mem_of_getElem? (i := 58) rfl)
theorem dX1_init_109 : decode cX1_init 109 = .ok (.aload_n 0, 1) := dAX1_init (109, (.aload_n 0, 1)) (List.mem_of_getElem? (i := 59) rfl)
theorem dX1_init_110 : decode cX1_init 110 = .ok (.new 61, 3) := dAX1_init (110, (.new 61, 3)) (List.mem_of_getElem? (i := 60) rfl)
theorem dX1_init_113 : decode cX1_init 113 = .ok (.dup, 1) := dAX1_init (113, (.dup, 1)) (List.mem_of_getElem? (i := 61) rfl)
theorem dX1_init_114 : decode cX1_init 114 = .ok (.invokespecial 63, 3) := dAX1_init (114, (.invokespecial 63, 3)) (List.mem_of_getElem? (i := 62) rfl)
theorem dX1_init_117 : decode cX1_init 117 = .ok (.putfield 64, 3) := dAX1_init (117, (.putfield 64, 3)) (List.mem_of_getElem? (i := 63) rfl)
theorem dX1_init_120 : decode cX1_init 120 = .ok (.return_, 1) := dAX1_init (120, (.return_, 1)) (List.mem_of_getElem? (i := 64) rfl)
set_option maxRecDepth 20000 in
theorem ggX1_init_X7_init : GoodIn wsX1_init wsX7_init := goodIn_r _ [26, 27, 2, 3, 28, 8, 29, 30, 31, 32, 33, 34, 52, 53, 54, 55, 56, 57, 58] rfl (by decide +kernel)
set_option maxRecDepth 20000 in
theorem gX1_init_X7_init_n63 : GoodIn wsX1_init (wsX7_init) := ggX1_init_X7_init
abbrev BX1 (g : GG) (a : Nat) (u : (Nat → Nat) × (Nat → Nat)) : va_W := [oX1 a u.1 zR, aI g (u.1 4) 7 zR, aI g (u.1 5) 7 zR, aI g (u.1 6) 7 zR, aI g (u.1 7) 7 zR, aI g (u.1 10) 8 zR, aI g (u.1 11) 8 zR, aI g (u.1 12) 8 zR, aI g (u.1 14) 4 zR, aI g (u.1 15) 4 zR, oX7 (u.1 16) u.2 zR, aI g (u.2 1) 5 zR, aI g (u.2 2) 5 zR, aI g (u.2 4) 6 zR, aI g (u.2 5) 6 zR, aI g (u.2 6) 6 zR]
theorem kX1_init_o1 : Cond.methodLink RX1 3 objectInit ∈ wsX1_init := List.mem_of_getElem? (i := 1) rfl
theorem kX1_init_o2 : Cond.instanceMethod objectInit ∈ wsX1_init := List.mem_of_getElem? (i := 2) rfl
theorem kX1_init_o3 : Cond.code objectInit ⟨#[0xb1]⟩ 1 none ∈ wsX1_init := List.mem_of_getElem? (i := 3) rfl
theorem kX1_init_9 : Cond.fieldLink RX1 9 "EveningVow$House" "cups" "I" ∈ wsX1_init := List.mem_of_getElem? (i := 4) rfl
theorem iX1_init_X1 : ∀ w ∈ u_ws RX1 TX1 17, w ∈ wsX1_init := fun w h => (List.mem_cons_of_mem _ (List.mem_append_left _ (List.mem_append_right _ h)))
theorem kX1_init_15 : Cond.fieldLink RX1 15 "EveningVow$House" "wakes" "I" ∈ wsX1_init := List.mem_of_getElem? (i := 5) rfl
theorem kX1_init_18 : Cond.fieldLink RX1 18 "EveningVow$House" "grief" "I" ∈ wsX1_init := List.mem_of_getElem? (i := 6) rfl
theorem kX1_init_21 : Cond.fieldLink RX1 21 "EveningVow$House" "guests" "I" ∈ wsX1_init := List.mem_of_getElem? (i := 7) rfl
theorem kX1_init_ac_int : Cond.arrayClass .int ∈ wsX1_init := List.mem_of_getElem? (i := 8) rfl
theorem kX1_init_24 : Cond.fieldLink RX1 24 "EveningVow$House" "kind" "[I" ∈ wsX1_init := List.mem_of_getElem? (i := 9) rfl
theorem kX1_init_28 : Cond.fieldLink RX1 28 "EveningVow$House" "firstWant" "[I" ∈ wsX1_init := List.mem_of_getElem? (i := 10) rfl
theorem kX1_init_31 : Cond.fieldLink RX1 31 "EveningVow$House" "sinks" "[I" ∈ wsX1_init := List.mem_of_getElem? (i := 11) rfl
theorem kX1_init_34 : Cond.fieldLink RX1 34 "EveningVow$House" "mate" "[I" ∈ wsX1_init := List.mem_of_getElem? (i := 12) rfl
theorem kX1_init_37 : Cond.fieldLink RX1 37 "EveningVow$House" "pairs" "I" ∈ wsX1_init := List.mem_of_getElem? (i := 13) rfl
theorem kX1_init_40 : Cond.fieldLink RX1 40 "EveningVow$House" "draws" "I" ∈ wsX1_init := List.mem_of_getElem? (i := 14) rfl
theorem kX1_init_43 : Cond.fieldLink RX1 43 "EveningVow$House" "drawnGuest" "[I" ∈ wsX1_init := List.mem_of_getElem? (i := 15) rfl
theorem kX1_init_46 : Cond.fieldLink RX1 46 "EveningVow$House" "drawer" "[I" ∈ wsX1_init := List.mem_of_getElem? (i := 16) rfl
theorem kX1_init_49 : Cond.fieldLink RX1 49 "EveningVow$House" "drawnMuch" "[I" ∈ wsX1_init := List.mem_of_getElem? (i := 17) rfl
theorem kX1_init_52 : Cond.fieldLink RX1 52 "EveningVow$House" "tales" "I" ∈ wsX1_init := List.mem_of_getElem? (i := 18) rfl
theorem kX1_init_55 : Cond.fieldLink RX1 55 "EveningVow$House" "taleHours" "[I" ∈ wsX1_init := List.mem_of_getElem? (i := 19) rfl
theorem kX1_init_58 : Cond.fieldLink RX1 58 "EveningVow$House" "taleTires" "[I" ∈ wsX1_init := List.mem_of_getElem? (i := 20) rfl
theorem kX1_init_cl_61 : Cond.classLink RX1 61 RX7 ∈ wsX1_init := List.mem_of_getElem? (i := 21) rfl
theorem kX1_init_in_X7 : Cond.instantiable RX7 7 ∈ wsX1_init := List.mem_of_getElem? (i := 22) rfl
theorem kX1_init_ii_X7 : Cond.initialized RX7 ∈ wsX1_init := List.mem_of_getElem? (i := 23) rfl
theorem iX1_init_X7 : ∀ w ∈ u_ws RX7 TX7 7, w ∈ wsX1_init := fun w h => (List.mem_cons_of_mem _ (List.mem_append_right _ h))
theorem kX1_init_im_X7 : Cond.instanceMethod yX7_init ∈ wsX1_init := List.mem_of_getElem? (i := 25) rfl
theorem kX1_init_64 : Cond.fieldLink RX1 64 "EveningVow$House" "town" "LEveningVow$Town;" ∈ wsX1_init := List.mem_of_getElem? (i := 24) rfl
set_option maxHeartbeats 8000000 in
set_option maxRecDepth 100000 in
theorem mX1_init (l : Launch) (g : GG) (a_t : Nat) : MC l g yX1_init wsX1_init ({ frames := 2, cells := 15, slots := 95, locals := 32 } : Room) 15 95 [.ref a_t] [(a_t, .inr (1, [.int 0, .int 0, .int 0, .int 0, .null, .null, .null, .null, .int 0, .int 0, .null, .null, .null, .int 0, .null, .null, .null]))] (BX1 g a_t) := by
  refine MC.of (cc := cX1_init) (maxL := 1) (own := RX1) rfl rfl rfl (by decide) (Nat.le_of_ble_eq_true rfl) ?_
  intro p e s m args below meth c A C0 hin hP hD hS ls hl
  obtain ⟨hx, hb, hml, hown, hts, hr, hlk, hK, hA, hSW⟩ := id C0
  have hl : lv_has ls 1 [(0, .ref a_t)] := hl
  refine lv_aload_n hx hb dX1_init_0 rfl (lv_at hl 0 rfl) ?_
  refine W.objInit hx hb hown (hts _ kX1_init_o1) (hts _ kX1_init_o2) (hts _ kX1_init_o3) rfl (by rw [hml]; exact hl.1) rfl dX1_init_1 (Nat.le_of_ble_eq_true rfl) (Nat.le_of_ble_eq_true rfl) ?_
  refine W.eq (g2 := F0 m 4 ls []) rfl ?_
  refine lv_aload_n hx hb dX1_init_4 rfl (lv_at hl 0 rfl) ?_
  refine lv_iconst (v := (0 : Int32)) hx hb dX1_init_5 (by decide) ?_
  refine va_put (D := g.1) (ci := 1) (v := .int (0 : Int32)) (ty := .int) (C := RX1) (T := TX1) (N := 17) hx hb hts iX1_init_X1 tyX1 tyX1_ok nmX1 hown hK.1 hP hD hS 0 rfl rfl 0 (by decide) (hts _ kX1_init_9) (fun _ h9 => h9) rfl (by decide +kernel) rfl rfl (Nat.le_of_ble_eq_true rfl) dX1_init_6 (fun H locs hP hD hS => ?_)
  have hP : va_P g.1 vwCl [(a_t, .inr (1, [.int (0 : Int32), .int 0, .int 0, .int 0, .null, .null, .null, .null, .int 0, .int 0, .null, .null, .null, .int 0, .null, .null, .null]))] H := hP
  have hD : va_D A [(a_t, .inr (1, [.int (0 : Int32), .int 0, .int 0, .int 0, .null, .null, .null, .null, .int 0, .int 0, .null, .null, .null, .int 0, .null, .null, .null]))] := hD
  refine lv_aload_n hx hb dX1_init_9 rfl (lv_at hl 0 rfl) ?_
  refine lv_iconst (v := (0 : Int32)) hx hb dX1_init_10 (by decide) ?_
  refine va_put (D := g.1) (ci := 1) (v := .int (0 : Int32)) (ty := .int) (C := RX1) (T := TX1) (N := 17) hx hb hts iX1_init_X1 tyX1 tyX1_ok nmX1 hown hK.1 hP hD hS 0 rfl rfl 1 (by decide) (hts _ kX1_init_15) (fun _ h9 => h9) rfl (by decide +kernel) rfl rfl (Nat.le_of_ble_eq_true rfl) dX1_init_11 (fun H locs hP hD hS => ?_)
  have hP : va_P g.1 vwCl [(a_t, .inr (1, [.int (0 : Int32), .int (0 : Int32), .int 0, .int 0, .null, .null, .null, .null, .int 0, .int 0, .null, .null, .null, .int 0, .null, .null, .null]))] H := hP
  have hD : va_D A [(a_t, .inr (1, [.int (0 : Int32), .int (0 : Int32), .int 0, .int 0, .null, .null, .null, .null, .int 0, .int 0, .null, .null, .null, .int 0, .null, .null, .null]))] := hD
  refine lv_aload_n hx hb dX1_init_14 rfl (lv_at hl 0 rfl) ?_
  refine lv_iconst (v := (0 : Int32)) hx hb dX1_init_15 (by decide) ?_
  refine va_put (D := g.1) (ci := 1) (v := .int (0 : Int32)) (ty := .int) (C := RX1) (T := TX1) (N := 17) hx hb hts iX1_init_X1 tyX1 tyX1_ok nmX1 hown hK.1 hP hD hS 0 rfl rfl 2 (by decide) (hts _ kX1_init_18) (fun _ h9 => h9) rfl (by decide +kernel) rfl rfl (Nat.le_of_ble_eq_true rfl) dX1_init_16 (fun H locs hP hD hS => ?_)
  have hP : va_P g.1 vwCl [(a_t, .inr (1, [.int (0 : Int32), .int (0 : Int32), .int (0 : Int32), .int 0, .null, .null, .null, .null, .int 0, .int 0, .null, .null, .null, .int 0, .null, .null, .null]))] H := hP
  have hD : va_D A [(a_t, .inr (1, [.int (0 : Int32), .int (0 : Int32), .int (0 : Int32), .int 0, .null, .null, .null, .null, .int 0, .int 0, .null, .null, .null, .int 0, .null, .null, .null]))] := hD
  refine lv_aload_n hx hb dX1_init_19 rfl (lv_at hl 0 rfl) ?_
  refine lv_iconst (v := (0 : Int32)) hx hb dX1_init_20 (by decide) ?_
  refine va_put (D := g.1) (ci := 1) (v := .int (0 : Int32)) (ty := .int) (C := RX1) (T := TX1) (N := 17) hx hb hts iX1_init_X1 tyX1 tyX1_ok nmX1 hown hK.1 hP hD hS 0 rfl rfl 3 (by decide) (hts _ kX1_init_21) (fun _ h9 => h9) rfl (by decide +kernel) rfl rfl (Nat.le_of_ble_eq_true rfl) dX1_init_21 (fun H locs hP hD hS => ?_)
  have hP : va_P g.1 vwCl [(a_t, .inr (1, [.int (0 : Int32), .int (0 : Int32), .int (0 : Int32), .int (0 : Int32), .null, .null, .null, .null, .int 0, .int 0, .null, .null, .null, .int 0, .null, .null, .null]))] H := hP
  have hD : va_D A [(a_t, .inr (1, [.int (0 : Int32), .int (0 : Int32), .int (0 : Int32), .int (0 : Int32), .null, .null, .null, .null, .int 0, .int 0, .null, .null, .null, .int 0, .null, .null, .null]))] := hD
  refine lv_aload_n hx hb dX1_init_24 rfl (lv_at hl 0 rfl) ?_
  refine lv_bipush (v := (7 : Int32)) hx hb dX1_init_25 (by decide) ?_
  refine newI C0 kX1_init_ac_int hP hD hS (n := (7 : Int32)) (N := 7) (by decide) (by decide) (by decide) (Nat.le_of_ble_eq_true rfl) (Nat.le_of_ble_eq_true rfl) dX1_init_27 (fun q_1 H hP hD hS => ?_)
  have hP : va_P g.1 vwCl [(a_t, .inr (1, [.int (0 : Int32), .int (0 : Int32), .int (0 : Int32), .int (0 : Int32), .null, .null, .null, .null, .int 0, .int 0, .null, .null, .null, .int 0, .null, .null, .null])), aI g q_1 7 zR] H := hP
  have hD : va_D A [(a_t, .inr (1, [.int (0 : Int32), .int (0 : Int32), .int (0 : Int32), .int (0 : Int32), .null, .null, .null, .null, .int 0, .int 0, .null, .null, .null, .int 0, .null, .null, .null])), aI g q_1 7 zR] := hD
  refine W.widen (k := 1) (n := 7) (Nat.le_of_ble_eq_true rfl) (Nat.le_of_ble_eq_true rfl) ?_
  refine va_putF (D := g.1) (ci := 1) (v := .ref q_1) (ty := .array .int) (C := RX1) (T := TX1) (N := 17) hx hb hts iX1_init_X1 tyX1 tyX1_ok nmX1 hown hK.1 hP hD hS 0 rfl rfl 4 (by decide) (hts _ kX1_init_24) (fun _ h9 => h9) rfl hin rfl (by decide +kernel) rfl rfl (Nat.le_of_ble_eq_true rfl) dX1_init_29 (fun H locs hP hD hS => ?_)
  have hP : va_P g.1 vwCl [(a_t, .inr (1, [.int (0 : Int32), .int (0 : Int32), .int (0 : Int32), .int (0 : Int32), .ref q_1, .null, .null, .null, .int 0, .int 0, .null, .null, .null, .int 0, .null, .null, .null])), aI g q_1 7 zR] H := hP
  have hD : va_D A [(a_t, .inr (1, [.int (0 : Int32), .int (0 : Int32), .int (0 : Int32), .int (0 : Int32), .ref q_1, .null, .null, .null, .int 0, .int 0, .null, .null, .null, .int 0, .null, .null, .null])), aI g q_1 7 zR] := hD
  refine lv_aload_n hx hb dX1_init_32 rfl (lv_at hl 0 rfl) ?_
  refine lv_bipush (v := (7 : Int32)) hx hb dX1_init_33 (by decide) ?_
  refine newI C0 kX1_init_ac_int hP hD hS (n := (7 : Int32)) (N := 7) (by decide) (by decide) (by decide) (Nat.le_of_ble_eq_true rfl) (Nat.le_of_ble_eq_true rfl) dX1_init_35 (fun q_2 H hP hD hS => ?_)
  have hP : va_P g.1 vwCl [(a_t, .inr (1, [.int (0 : Int32), .int (0 : Int32), .int (0 : Int32), .int (0 : Int32), .ref q_1, .null, .null, .null, .int 0, .int 0, .null, .null, .null, .int 0, .null, .null, .null])), aI g q_1 7 zR, aI g q_2 7 zR] H := hP
  have hD : va_D A [(a_t, .inr (1, [.int (0 : Int32), .int (0 : Int32), .int (0 : Int32), .int (0 : Int32), .ref q_1, .null, .null, .null, .int 0, .int 0, .null, .null, .null, .int 0, .null, .null, .null])), aI g q_1 7 zR, aI g q_2 7 zR] := hD
  refine W.widen (k := 2) (n := 14) (Nat.le_of_ble_eq_true rfl) (Nat.le_of_ble_eq_true rfl) ?_
  refine va_putF (D := g.1) (ci := 1) (v := .ref q_2) (ty := .array .int) (C := RX1) (T := TX1) (N := 17) hx hb hts iX1_init_X1 tyX1 tyX1_ok nmX1 hown hK.1 hP hD hS 0 rfl rfl 5 (by decide) (hts _ kX1_init_28) (fun _ h9 => h9) rfl hin rfl (by decide +kernel) rfl rfl (Nat.le_of_ble_eq_true rfl) dX1_init_37 (fun H locs hP hD hS => ?_)
  have hP : va_P g.1 vwCl [(a_t, .inr (1, [.int (0 : Int32), .int (0 : Int32), .int (0 : Int32), .int (0 : Int32), .ref q_1, .ref q_2, .null, .null, .int 0, .int 0, .null, .null, .null, .int 0, .null, .null, .null])), aI g q_1 7 zR, aI g q_2 7 zR] H := hP
  have hD : va_D A [(a_t, .inr (1, [.int (0 : Int32), .int (0 : Int32), .int (0 : Int32), .int (0 : Int32), .ref q_1, .ref q_2, .null, .null, .int 0, .int 0, .null, .null, .null, .int 0, .null, .null, .null])), aI g q_1 7 zR, aI g q_2 7 zR] := hD
  refine lv_aload_n hx hb dX1_init_40 rfl (lv_at hl 0 rfl) ?_
  refine lv_bipush (v := (7 : Int32)) hx hb dX1_init_41 (by decide) ?_
  refine newI C0 kX1_init_ac_int hP hD hS (n := (7 : Int32)) (N := 7) (by decide) (by decide) (by decide) (Nat.le_of_ble_eq_true rfl) (Nat.le_of_ble_eq_true rfl) dX1_init_43 (fun q_3 H hP hD hS => ?_)
  have hP : va_P g.1 vwCl [(a_t, .inr (1, [.int (0 : Int32), .int (0 : Int32), .int (0 : Int32), .int (0 : Int32), .ref q_1, .ref q_2, .null, .null, .int 0, .int 0, .null, .null, .null, .int 0, .null, .null, .null])), aI g q_1 7 zR, aI g q_2 7 zR, aI g q_3 7 zR] H := hP
  have hD : va_D A [(a_t, .inr (1, [.int (0 : Int32), .int (0 : Int32), .int (0 : Int32), .int (0 : Int32), .ref q_1, .ref q_2, .null, .null, .int 0, .int 0, .null, .null, .null, .int 0, .null, .null, .null])), aI g q_1 7 zR, aI g q_2 7 zR, aI g q_3 7 zR] := hD
  refine W.widen (k := 3) (n := 21) (Nat.le_of_ble_eq_true rfl) (Nat.le_of_ble_eq_true rfl) ?_
  refine va_putF (D := g.1) (ci := 1) (v := .ref q_3) (ty := .array .int) (C := RX1) (T := TX1) (N := 17) hx hb hts iX1_init_X1 tyX1 tyX1_ok nmX1 hown hK.1 hP hD hS 0 rfl rfl 6 (by decide) (hts _ kX1_init_31) (fun _ h9 => h9) rfl hin rfl (by decide +kernel) rfl rfl (Nat.le_of_ble_eq_true rfl) dX1_init_45 (fun H locs hP hD hS => ?_)
  have hP : va_P g.1 vwCl [(a_t, .inr (1, [.int (0 : Int32), .int (0 : Int32), .int (0 : Int32), .int (0 : Int32), .ref q_1, .ref q_2, .ref q_3, .null, .int 0, .int 0, .null, .null, .null, .int 0, .null, .null, .null])), aI g q_1 7 zR, aI g q_2 7 zR, aI g q_3 7 zR] H := hP
  have hD : va_D A [(a_t, .inr (1, [.int (0 : Int32), .int (0 : Int32), .int (0 : Int32), .int (0 : Int32), .ref q_1, .ref q_2, .ref q_3, .null, .int 0, .int 0, .null, .null, .null, .int 0, .null, .null, .null])), aI g q_1 7 zR, aI g q_2 7 zR, aI g q_3 7 zR] := hD
  refine lv_aload_n hx hb dX1_init_48 rfl (lv_at hl 0 rfl) ?_
  refine lv_bipush (v := (7 : Int32)) hx hb dX1_init_49 (by decide) ?_
  refine newI C0 kX1_init_ac_int hP hD hS (n := (7 : Int32)) (N := 7) (by decide) (by decide) (by decide) (Nat.le_of_ble_eq_true rfl) (Nat.le_of_ble_eq_true rfl) dX1_init_51 (fun q_4 H hP hD hS => ?_)
  have hP : va_P g.1 vwCl [(a_t, .inr (1, [.int (0 : Int32), .int (0 : Int32), .int (0 : Int32), .int (0 : Int32), .ref q_1, .ref q_2, .ref q_3, .null, .int 0, .int 0, .null, .null, .null, .int 0, .null, .null, .null])), aI g q_1 7 zR, aI g q_2 7 zR, aI g q_3 7 zR, aI g q_4 7 zR] H := hP
  have hD : va_D A [(a_t, .inr (1, [.int (0 : Int32), .int (0 : Int32), .int (0 : Int32), .int (0 : Int32), .ref q_1, .ref q_2, .ref q_3, .null, .int 0, .int 0, .null, .null, .null, .int 0, .null, .null, .null])), aI g q_1 7 zR, aI g q_2 7 zR, aI g q_3 7 zR, aI g q_4 7 zR] := hD
  refine W.widen (k := 4) (n := 28) (Nat.le_of_ble_eq_true rfl) (Nat.le_of_ble_eq_true rfl) ?_
  refine va_putF (D := g.1) (ci := 1) (v := .ref q_4) (ty := .array .int) (C := RX1) (T := TX1) (N := 17) hx hb hts iX1_init_X1 tyX1 tyX1_ok nmX1 hown hK.1 hP hD hS 0 rfl rfl 7 (by decide) (hts _ kX1_init_34) (fun _ h9 => h9) rfl hin rfl (by decide +kernel) rfl rfl (Nat.le_of_ble_eq_true rfl) dX1_init_53 (fun H locs hP hD hS => ?_)
  have hP : va_P g.1 vwCl [(a_t, .inr (1, [.int (0 : Int32), .int (0 : Int32), .int (0 : Int32), .int (0 : Int32), .ref q_1, .ref q_2, .ref q_3, .ref q_4, .int 0, .int 0, .null, .null, .null, .int 0, .null, .null, .null])), aI g q_1 7 zR, aI g q_2 7 zR, aI g q_3 7 zR, aI g q_4 7 zR] H := hP
  have hD : va_D A [(a_t, .inr (1, [.int (0 : Int32), .int (0 : Int32), .int (0 : Int32), .int (0 : Int32), .ref q_1, .ref q_2, .ref q_3, .ref q_4, .int 0, .int 0, .null, .null, .null, .int 0, .null, .null, .null])), aI g q_1 7 zR, aI g q_2 7 zR, aI g q_3 7 zR, aI g q_4 7 zR] := hD
  refine lv_aload_n hx hb dX1_init_56 rfl (lv_at hl 0 rfl) ?_
  refine lv_iconst (v := (0 : Int32)) hx hb dX1_init_57 (by decide) ?_
  refine va_put (D := g.1) (ci := 1) (v := .int (0 : Int32)) (ty := .int) (C := RX1) (T := TX1) (N := 17) hx hb hts iX1_init_X1 tyX1 tyX1_ok nmX1 hown hK.1 hP hD hS 0 rfl rfl 8 (by decide) (hts _ kX1_init_37) (fun _ h9 => h9) rfl (by decide +kernel) rfl rfl (Nat.le_of_ble_eq_true rfl) dX1_init_58 (fun H locs hP hD hS => ?_)
  have hP : va_P g.1 vwCl [(a_t, .inr (1, [.int (0 : Int32), .int (0 : Int32), .int (0 : Int32), .int (0 : Int32), .ref q_1, .ref q_2, .ref q_3, .ref q_4, .int (0 : Int32), .int 0, .null, .null, .null, .int 0, .null, .null, .null])), aI g q_1 7 zR, aI g q_2 7 zR, aI g q_3 7 zR, aI g q_4 7 zR] H := hP
  have hD : va_D A [(a_t, .inr (1, [.int (0 : Int32), .int (0 : Int32), .int (0 : Int32), .int (0 : Int32), .ref q_1, .ref q_2, .ref q_3, .ref q_4, .int (0 : Int32), .int 0, .null, .null, .null, .int 0, .null, .null, .null])), aI g q_1 7 zR, aI g q_2 7 zR, aI g q_3 7 zR, aI g q_4 7 zR] := hD
  refine lv_aload_n hx hb dX1_init_61 rfl (lv_at hl 0 rfl) ?_
  refine lv_iconst (v := (0 : Int32)) hx hb dX1_init_62 (by decide) ?_
  refine va_put (D := g.1) (ci := 1) (v := .int (0 : Int32)) (ty := .int) (C := RX1) (T := TX1) (N := 17) hx hb hts iX1_init_X1 tyX1 tyX1_ok nmX1 hown hK.1 hP hD hS 0 rfl rfl 9 (by decide) (hts _ kX1_init_40) (fun _ h9 => h9) rfl (by decide +kernel) rfl rfl (Nat.le_of_ble_eq_true rfl) dX1_init_63 (fun H locs hP hD hS => ?_)
  have hP : va_P g.1 vwCl [(a_t, .inr (1, [.int (0 : Int32), .int (0 : Int32), .int (0 : Int32), .int (0 : Int32), .ref q_1, .ref q_2, .ref q_3, .ref q_4, .int (0 : Int32), .int (0 : Int32), .null, .null, .null, .int 0, .null, .null, .null])), aI g q_1 7 zR, aI g q_2 7 zR, aI g q_3 7 zR, aI g q_4 7 zR] H := hP
  have hD : va_D A [(a_t, .inr (1, [.int (0 : Int32), .int (0 : Int32), .int (0 : Int32), .int (0 : Int32), .ref q_1, .ref q_2, .ref q_3, .ref q_4, .int (0 : Int32), .int (0 : Int32), .null, .null, .null, .int 0, .null, .null, .null])), aI g q_1 7 zR, aI g q_2 7 zR, aI g q_3 7 zR, aI g q_4 7 zR] := hD
  refine lv_aload_n hx hb dX1_init_66 rfl (lv_at hl 0 rfl) ?_
  refine lv_bipush (v := (8 : Int32)) hx hb dX1_init_67 (by decide) ?_
  refine newI C0 kX1_init_ac_int hP hD hS (n := (8 : Int32)) (N := 8) (by decide) (by decide) (by decide) (Nat.le_of_ble_eq_true rfl) (Nat.le_of_ble_eq_true rfl) dX1_init_69 (fun q_5 H hP hD hS => ?_)
  have hP : va_P g.1 vwCl [(a_t, .inr (1, [.int (0 : Int32), .int (0 : Int32), .int (0 : Int32), .int (0 : Int32), .ref q_1, .ref q_2, .ref q_3, .ref q_4, .int (0 : Int32), .int (0 : Int32), .null, .null, .null, .int 0, .null, .null, .null])), aI g q_1 7 zR, aI g q_2 7 zR, aI g q_3 7 zR, aI g q_4 7 zR, aI g q_5 8 zR] H := hP
  have hD : va_D A [(a_t, .inr (1, [.int (0 : Int32), .int (0 : Int32), .int (0 : Int32), .int (0 : Int32), .ref q_1, .ref q_2, .ref q_3, .ref q_4, .int (0 : Int32), .int (0 : Int32), .null, .null, .null, .int 0, .null, .null, .null])), aI g q_1 7 zR, aI g q_2 7 zR, aI g q_3 7 zR, aI g q_4 7 zR, aI g q_5 8 zR] := hD
  refine W.widen (k := 5) (n := 36) (Nat.le_of_ble_eq_true rfl) (Nat.le_of_ble_eq_true rfl) ?_
  refine va_putF (D := g.1) (ci := 1) (v := .ref q_5) (ty := .array .int) (C := RX1) (T := TX1) (N := 17) hx hb hts iX1_init_X1 tyX1 tyX1_ok nmX1 hown hK.1 hP hD hS 0 rfl rfl 10 (by decide) (hts _ kX1_init_43) (fun _ h9 => h9) rfl hin rfl (by decide +kernel) rfl rfl (Nat.le_of_ble_eq_true rfl) dX1_init_71 (fun H locs hP hD hS => ?_)
  have hP : va_P g.1 vwCl [(a_t, .inr (1, [.int (0 : Int32), .int (0 : Int32), .int (0 : Int32), .int (0 : Int32), .ref q_1, .ref q_2, .ref q_3, .ref q_4, .int (0 : Int32), .int (0 : Int32), .ref q_5, .null, .null, .int 0, .null, .null, .null])), aI g q_1 7 zR, aI g q_2 7 zR, aI g q_3 7 zR, aI g q_4 7 zR, aI g q_5 8 zR] H := hP
  have hD : va_D A [(a_t, .inr (1, [.int (0 : Int32), .int (0 : Int32), .int (0 : Int32), .int (0 : Int32), .ref q_1, .ref q_2, .ref q_3, .ref q_4, .int (0 : Int32), .int (0 : Int32), .ref q_5, .null, .null, .int 0, .null, .null, .null])), aI g q_1 7 zR, aI g q_2 7 zR, aI g q_3 7 zR, aI g q_4 7 zR, aI g q_5 8 zR] := hD
  refine lv_aload_n hx hb dX1_init_74 rfl (lv_at hl 0 rfl) ?_
  refine lv_bipush (v := (8 : Int32)) hx hb dX1_init_75 (by decide) ?_
  refine newI C0 kX1_init_ac_int hP hD hS (n := (8 : Int32)) (N := 8) (by decide) (by decide) (by decide) (Nat.le_of_ble_eq_true rfl) (Nat.le_of_ble_eq_true rfl) dX1_init_77 (fun q_6 H hP hD hS => ?_)
  have hP : va_P g.1 vwCl [(a_t, .inr (1, [.int (0 : Int32), .int (0 : Int32), .int (0 : Int32), .int (0 : Int32), .ref q_1, .ref q_2, .ref q_3, .ref q_4, .int (0 : Int32), .int (0 : Int32), .ref q_5, .null, .null, .int 0, .null, .null, .null])), aI g q_1 7 zR, aI g q_2 7 zR, aI g q_3 7 zR, aI g q_4 7 zR, aI g q_5 8 zR, aI g q_6 8 zR] H := hP
  have hD : va_D A [(a_t, .inr (1, [.int (0 : Int32), .int (0 : Int32), .int (0 : Int32), .int (0 : Int32), .ref q_1, .ref q_2, .ref q_3, .ref q_4, .int (0 : Int32), .int (0 : Int32), .ref q_5, .null, .null, .int 0, .null, .null, .null])), aI g q_1 7 zR, aI g q_2 7 zR, aI g q_3 7 zR, aI g q_4 7 zR, aI g q_5 8 zR, aI g q_6 8 zR] := hD
  refine W.widen (k := 6) (n := 44) (Nat.le_of_ble_eq_true rfl) (Nat.le_of_ble_eq_true rfl) ?_
  refine va_putF (D := g.1) (ci := 1) (v := .ref q_6) (ty := .array .int) (C := RX1) (T := TX1) (N := 17) hx hb hts iX1_init_X1 tyX1 tyX1_ok nmX1 hown hK.1 hP hD hS 0 rfl rfl 11 (by decide) (hts _ kX1_init_46) (fun _ h9 => h9) rfl hin rfl (by decide +kernel) rfl rfl (Nat.le_of_ble_eq_true rfl) dX1_init_79 (fun H locs hP hD hS => ?_)
  have hP : va_P g.1 vwCl [(a_t, .inr (1, [.int (0 : Int32), .int (0 : Int32), .int (0 : Int32), .int (0 : Int32), .ref q_1, .ref q_2, .ref q_3, .ref q_4, .int (0 : Int32), .int (0 : Int32), .ref q_5, .ref q_6, .null, .int 0, .null, .null, .null])), aI g q_1 7 zR, aI g q_2 7 zR, aI g q_3 7 zR, aI g q_4 7 zR, aI g q_5 8 zR, aI g q_6 8 zR] H := hP
  have hD : va_D A [(a_t, .inr (1, [.int (0 : Int32), .int (0 : Int32), .int (0 : Int32), .int (0 : Int32), .ref q_1, .ref q_2, .ref q_3, .ref q_4, .int (0 : Int32), .int (0 : Int32), .ref q_5, .ref q_6, .null, .int 0, .null, .null, .null])), aI g q_1 7 zR, aI g q_2 7 zR, aI g q_3 7 zR, aI g q_4 7 zR, aI g q_5 8 zR, aI g q_6 8 zR] := hD
  refine lv_aload_n hx hb dX1_init_82 rfl (lv_at hl 0 rfl) ?_
  refine lv_bipush (v := (8 : Int32)) hx hb dX1_init_83 (by decide) ?_
  refine newI C0 kX1_init_ac_int hP hD hS (n := (8 : Int32)) (N := 8) (by decide) (by decide) (by decide) (Nat.le_of_ble_eq_true rfl) (Nat.le_of_ble_eq_true rfl) dX1_init_85 (fun q_7 H hP hD hS => ?_)
  have hP : va_P g.1 vwCl [(a_t, .inr (1, [.int (0 : Int32), .int (0 : Int32), .int (0 : Int32), .int (0 : Int32), .ref q_1, .ref q_2, .ref q_3, .ref q_4, .int (0 : Int32), .int (0 : Int32), .ref q_5, .ref q_6, .null, .int 0, .null, .null, .null])), aI g q_1 7 zR, aI g q_2 7 zR, aI g q_3 7 zR, aI g q_4 7 zR, aI g q_5 8 zR, aI g q_6 8 zR, aI g q_7 8 zR] H := hP
  have hD : va_D A [(a_t, .inr (1, [.int (0 : Int32), .int (0 : Int32), .int (0 : Int32), .int (0 : Int32), .ref q_1, .ref q_2, .ref q_3, .ref q_4, .int (0 : Int32), .int (0 : Int32), .ref q_5, .ref q_6, .null, .int 0, .null, .null, .null])), aI g q_1 7 zR, aI g q_2 7 zR, aI g q_3 7 zR, aI g q_4 7 zR, aI g q_5 8 zR, aI g q_6 8 zR, aI g q_7 8 zR] := hD
  refine W.widen (k := 7) (n := 52) (Nat.le_of_ble_eq_true rfl) (Nat.le_of_ble_eq_true rfl) ?_
  refine va_putF (D := g.1) (ci := 1) (v := .ref q_7) (ty := .array .int) (C := RX1) (T := TX1) (N := 17) hx hb hts iX1_init_X1 tyX1 tyX1_ok nmX1 hown hK.1 hP hD hS 0 rfl rfl 12 (by decide) (hts _ kX1_init_49) (fun _ h9 => h9) rfl hin rfl (by decide +kernel) rfl rfl (Nat.le_of_ble_eq_true rfl) dX1_init_87 (fun H locs hP hD hS => ?_)
  have hP : va_P g.1 vwCl [(a_t, .inr (1, [.int (0 : Int32), .int (0 : Int32), .int (0 : Int32), .int (0 : Int32), .ref q_1, .ref q_2, .ref q_3, .ref q_4, .int (0 : Int32), .int (0 : Int32), .ref q_5, .ref q_6, .ref q_7, .int 0, .null, .null, .null])), aI g q_1 7 zR, aI g q_2 7 zR, aI g q_3 7 zR, aI g q_4 7 zR, aI g q_5 8 zR, aI g q_6 8 zR, aI g q_7 8 zR] H := hP
  have hD : va_D A [(a_t, .inr (1, [.int (0 : Int32), .int (0 : Int32), .int (0 : Int32), .int (0 : Int32), .ref q_1, .ref q_2, .ref q_3, .ref q_4, .int (0 : Int32), .int (0 : Int32), .ref q_5, .ref q_6, .ref q_7, .int 0, .null, .null, .null])), aI g q_1 7 zR, aI g q_2 7 zR, aI g q_3 7 zR, aI g q_4 7 zR, aI g q_5 8 zR, aI g q_6 8 zR, aI g q_7 8 zR] := hD
  refine lv_aload_n hx hb dX1_init_90 rfl (lv_at hl 0 rfl) ?_
  refine lv_iconst (v := (0 : Int32)) hx hb dX1_init_91 (by decide) ?_
  refine va_put (D := g.1) (ci := 1) (v := .int (0 : Int32)) (ty := .int) (C := RX1) (T := TX1) (N := 17) hx hb hts iX1_init_X1 tyX1 tyX1_ok nmX1 hown hK.1 hP hD hS 0 rfl rfl 13 (by decide) (hts _ kX1_init_52) (fun _ h9 => h9) rfl (by decide +kernel) rfl rfl (Nat.le_of_ble_eq_true rfl) dX1_init_92 (fun H locs hP hD hS => ?_)
  have hP : va_P g.1 vwCl [(a_t, .inr (1, [.int (0 : Int32), .int (0 : Int32), .int (0 : Int32), .int (0 : Int32), .ref q_1, .ref q_2, .ref q_3, .ref q_4, .int (0 : Int32), .int (0 : Int32), .ref q_5, .ref q_6, .ref q_7, .int (0 : Int32), .null, .null, .null])), aI g q_1 7 zR, aI g q_2 7 zR, aI g q_3 7 zR, aI g q_4 7 zR, aI g q_5 8 zR, aI g q_6 8 zR, aI g q_7 8 zR] H := hP
  have hD : va_D A [(a_t, .inr (1, [.int (0 : Int32), .int (0 : Int32), .int (0 : Int32), .int (0 : Int32), .ref q_1, .ref q_2, .ref q_3, .ref q_4, .int (0 : Int32), .int (0 : Int32), .ref q_5, .ref q_6, .ref q_7, .int (0 : Int32), .null, .null, .null])), aI g q_1 7 zR, aI g q_2 7 zR, aI g q_3 7 zR, aI g q_4 7 zR, aI g q_5 8 zR, aI g q_6 8 zR, aI g q_7 8 zR] := hD
  refine lv_aload_n hx hb dX1_init_95 rfl (lv_at hl 0 rfl) ?_
  refine lv_iconst (v := (4 : Int32)) hx hb dX1_init_96 (by decide) ?_
  refine newI C0 kX1_init_ac_int hP hD hS (n := (4 : Int32)) (N := 4) (by decide) (by decide) (by decide) (Nat.le_of_ble_eq_true rfl) (Nat.le_of_ble_eq_true rfl) dX1_init_97 (fun q_8 H hP hD hS => ?_)
  have hP : va_P g.1 vwCl [(a_t, .inr (1, [.int (0 : Int32), .int (0 : Int32), .int (0 : Int32), .int (0 : Int32), .ref q_1, .ref q_2, .ref q_3, .ref q_4, .int (0 : Int32), .int (0 : Int32), .ref q_5, .ref q_6, .ref q_7, .int (0 : Int32), .null, .null, .null])), aI g q_1 7 zR, aI g q_2 7 zR, aI g q_3 7 zR, aI g q_4 7 zR, aI g q_5 8 zR, aI g q_6 8 zR, aI g q_7 8 zR, aI g q_8 4 zR] H := hP
  have hD : va_D A [(a_t, .inr (1, [.int (0 : Int32), .int (0 : Int32), .int (0 : Int32), .int (0 : Int32), .ref q_1, .ref q_2, .ref q_3, .ref q_4, .int (0 : Int32), .int (0 : Int32), .ref q_5, .ref q_6, .ref q_7, .int (0 : Int32), .null, .null, .null])), aI g q_1 7 zR, aI g q_2 7 zR, aI g q_3 7 zR, aI g q_4 7 zR, aI g q_5 8 zR, aI g q_6 8 zR, aI g q_7 8 zR, aI g q_8 4 zR] := hD
  refine W.widen (k := 8) (n := 56) (Nat.le_of_ble_eq_true rfl) (Nat.le_of_ble_eq_true rfl) ?_
  refine va_putF (D := g.1) (ci := 1) (v := .ref q_8) (ty := .array .int) (C := RX1) (T := TX1) (N := 17) hx hb hts iX1_init_X1 tyX1 tyX1_ok nmX1 hown hK.1 hP hD hS 0 rfl rfl 14 (by decide) (hts _ kX1_init_55) (fun _ h9 => h9) rfl hin rfl (by decide +kernel) rfl rfl (Nat.le_of_ble_eq_true rfl) dX1_init_99 (fun H locs hP hD hS => ?_)
  have hP : va_P g.1 vwCl [(a_t, .inr (1, [.int (0 : Int32), .int (0 : Int32), .int (0 : Int32), .int (0 : Int32), .ref q_1, .ref q_2, .ref q_3, .ref q_4, .int (0 : Int32), .int (0 : Int32), .ref q_5, .ref q_6, .ref q_7, .int (0 : Int32), .ref q_8, .null, .null])), aI g q_1 7 zR, aI g q_2 7 zR, aI g q_3 7 zR, aI g q_4 7 zR, aI g q_5 8 zR, aI g q_6 8 zR, aI g q_7 8 zR, aI g q_8 4 zR] H := hP
  have hD : va_D A [(a_t, .inr (1, [.int (0 : Int32), .int (0 : Int32), .int (0 : Int32), .int (0 : Int32), .ref q_1, .ref q_2, .ref q_3, .ref q_4, .int (0 : Int32), .int (0 : Int32), .ref q_5, .ref q_6, .ref q_7, .int (0 : Int32), .ref q_8, .null, .null])), aI g q_1 7 zR, aI g q_2 7 zR, aI g q_3 7 zR, aI g q_4 7 zR, aI g q_5 8 zR, aI g q_6 8 zR, aI g q_7 8 zR, aI g q_8 4 zR] := hD
  refine lv_aload_n hx hb dX1_init_102 rfl (lv_at hl 0 rfl) ?_
  refine lv_iconst (v := (4 : Int32)) hx hb dX1_init_103 (by decide) ?_
  refine newI C0 kX1_init_ac_int hP hD hS (n := (4 : Int32)) (N := 4) (by decide) (by decide) (by decide) (Nat.le_of_ble_eq_true rfl) (Nat.le_of_ble_eq_true rfl) dX1_init_104 (fun q_9 H hP hD hS => ?_)
  have hP : va_P g.1 vwCl [(a_t, .inr (1, [.int (0 : Int32), .int (0 : Int32), .int (0 : Int32), .int (0 : Int32), .ref q_1, .ref q_2, .ref q_3, .ref q_4, .int (0 : Int32), .int (0 : Int32), .ref q_5, .ref q_6, .ref q_7, .int (0 : Int32), .ref q_8, .null, .null])), aI g q_1 7 zR, aI g q_2 7 zR, aI g q_3 7 zR, aI g q_4 7 zR, aI g q_5 8 zR, aI g q_6 8 zR, aI g q_7 8 zR, aI g q_8 4 zR, aI g q_9 4 zR] H := hP
  have hD : va_D A [(a_t, .inr (1, [.int (0 : Int32), .int (0 : Int32), .int (0 : Int32), .int (0 : Int32), .ref q_1, .ref q_2, .ref q_3, .ref q_4, .int (0 : Int32), .int (0 : Int32), .ref q_5, .ref q_6, .ref q_7, .int (0 : Int32), .ref q_8, .null, .null])), aI g q_1 7 zR, aI g q_2 7 zR, aI g q_3 7 zR, aI g q_4 7 zR, aI g q_5 8 zR, aI g q_6 8 zR, aI g q_7 8 zR, aI g q_8 4 zR, aI g q_9 4 zR] := hD
  refine W.widen (k := 9) (n := 60) (Nat.le_of_ble_eq_true rfl) (Nat.le_of_ble_eq_true rfl) ?_
  refine va_putF (D := g.1) (ci := 1) (v := .ref q_9) (ty := .array .int) (C := RX1) (T := TX1) (N := 17) hx hb hts iX1_init_X1 tyX1 tyX1_ok nmX1 hown hK.1 hP hD hS 0 rfl rfl 15 (by decide) (hts _ kX1_init_58) (fun _ h9 => h9) rfl hin rfl (by decide +kernel) rfl rfl (Nat.le_of_ble_eq_true rfl) dX1_init_106 (fun H locs hP hD hS => ?_)
  have hP : va_P g.1 vwCl [(a_t, .inr (1, [.int (0 : Int32), .int (0 : Int32), .int (0 : Int32), .int (0 : Int32), .ref q_1, .ref q_2, .ref q_3, .ref q_4, .int (0 : Int32), .int (0 : Int32), .ref q_5, .ref q_6, .ref q_7, .int (0 : Int32), .ref q_8, .ref q_9, .null])), aI g q_1 7 zR, aI g q_2 7 zR, aI g q_3 7 zR, aI g q_4 7 zR, aI g q_5 8 zR, aI g q_6 8 zR, aI g q_7 8 zR, aI g q_8 4 zR, aI g q_9 4 zR] H := hP
  have hD : va_D A [(a_t, .inr (1, [.int (0 : Int32), .int (0 : Int32), .int (0 : Int32), .int (0 : Int32), .ref q_1, .ref q_2, .ref q_3, .ref q_4, .int (0 : Int32), .int (0 : Int32), .ref q_5, .ref q_6, .ref q_7, .int (0 : Int32), .ref q_8, .ref q_9, .null])), aI g q_1 7 zR, aI g q_2 7 zR, aI g q_3 7 zR, aI g q_4 7 zR, aI g q_5 8 zR, aI g q_6 8 zR, aI g q_7 8 zR, aI g q_8 4 zR, aI g q_9 4 zR] := hD
  refine lv_aload_n hx hb dX1_init_109 rfl (lv_at hl 0 rfl) ?_
  refine va_new (ci := 7) (fs := [.int 0, .null, .null, .int 0, .null, .null, .null]) (C := RX7) (T := TX7) (N := 7) hx hb hts iX1_init_X7 tyX7 tyX7_ok hown (hts _ kX1_init_cl_61) (hts _ kX1_init_in_X7) (hts _ kX1_init_ii_X7) hK.1 hP hD hS hA rfl dvX7 (Nat.le_of_ble_eq_true rfl) (Nat.le_of_ble_eq_true rfl) dX1_init_110 (fun q_10 H hP hD hS => ?_)
  refine W.widen (k := 10) (n := 67) (Nat.le_of_ble_eq_true rfl) (Nat.le_of_ble_eq_true rfl) ?_
  refine lv_dup hx hb dX1_init_113 rfl ?_
  refine call_cN (W0 := [(a_t, .inr (1, [.int (0 : Int32), .int (0 : Int32), .int (0 : Int32), .int (0 : Int32), .ref q_1, .ref q_2, .ref q_3, .ref q_4, .int (0 : Int32), .int (0 : Int32), .ref q_5, .ref q_6, .ref q_7, .int (0 : Int32), .ref q_8, .ref q_9, .null])), aI g q_1 7 zR, aI g q_2 7 zR, aI g q_3 7 zR, aI g q_4 7 zR, aI g q_5 8 zR, aI g q_6 8 zR, aI g q_7 8 zR, aI g q_8 4 zR, aI g q_9 4 zR]) (As := []) (rest := [.ref q_10, .ref a_t]) C0 (mX7_init l g q_10) ⟨va_cnB 0 hts gX1_init_X7_init_n63 rfl rfl rfl (hK.2.1.1 (RX1, 63, yX7_init, RX9) (List.mem_of_getElem? (i := 7) rfl)) (hts _ kX1_init_ii_X7) (by decide +kernel) ⟨Nat.le_of_ble_eq_true rfl, Nat.le_of_ble_eq_true rfl⟩, rfl, hts _ kX1_init_im_X7⟩ hP hD hS hl.1 rfl rfl (Nat.le_of_ble_eq_true rfl) ⟨Nat.le_of_ble_eq_true rfl, Nat.le_of_ble_eq_true rfl⟩ dX1_init_114 ?_
  intro v_11 H locs hP hD hS
  have hP : va_P g.1 vwCl [(a_t, .inr (1, [.int (0 : Int32), .int (0 : Int32), .int (0 : Int32), .int (0 : Int32), .ref q_1, .ref q_2, .ref q_3, .ref q_4, .int (0 : Int32), .int (0 : Int32), .ref q_5, .ref q_6, .ref q_7, .int (0 : Int32), .ref q_8, .ref q_9, .null])), aI g q_1 7 zR, aI g q_2 7 zR, aI g q_3 7 zR, aI g q_4 7 zR, aI g q_5 8 zR, aI g q_6 8 zR, aI g q_7 8 zR, aI g q_8 4 zR, aI g q_9 4 zR, oX7 q_10 v_11 zR, aI g (v_11 1) 5 zR, aI g (v_11 2) 5 zR, aI g (v_11 4) 6 zR, aI g (v_11 5) 6 zR, aI g (v_11 6) 6 zR] H := hP
  have hD : va_D A [(a_t, .inr (1, [.int (0 : Int32), .int (0 : Int32), .int (0 : Int32), .int (0 : Int32), .ref q_1, .ref q_2, .ref q_3, .ref q_4, .int (0 : Int32), .int (0 : Int32), .ref q_5, .ref q_6, .ref q_7, .int (0 : Int32), .ref q_8, .ref q_9, .null])), aI g q_1 7 zR, aI g q_2 7 zR, aI g q_3 7 zR, aI g q_4 7 zR, aI g q_5 8 zR, aI g q_6 8 zR, aI g q_7 8 zR, aI g q_8 4 zR, aI g q_9 4 zR, oX7 q_10 v_11 zR, aI g (v_11 1) 5 zR, aI g (v_11 2) 5 zR, aI g (v_11 4) 6 zR, aI g (v_11 5) 6 zR, aI g (v_11 6) 6 zR] := hD
  refine W.widen (k := 15) (n := 95) (Nat.le_of_ble_eq_true rfl) (Nat.le_of_ble_eq_true rfl) ?_
  refine va_putF (D := g.1) (ci := 1) (v := .ref q_10) (ty := .object "EveningVow$Town") (C := RX1) (T := TX1) (N := 17) hx hb hts iX1_init_X1 tyX1 tyX1_ok nmX1 hown hK.1 hP hD hS 0 rfl rfl 16 (by decide) (hts _ kX1_init_64) (fun _ h9 => h9) rfl hin rfl (by decide +kernel) rfl rfl (Nat.le_of_ble_eq_true rfl) dX1_init_117 (fun H locs hP hD hS => ?_)
  have hP : va_P g.1 vwCl [(a_t, .inr (1, [.int (0 : Int32), .int (0 : Int32), .int (0 : Int32), .int (0 : Int32), .ref q_1, .ref q_2, .ref q_3, .ref q_4, .int (0 : Int32), .int (0 : Int32), .ref q_5, .ref q_6, .ref q_7, .int (0 : Int32), .ref q_8, .ref q_9, .ref q_10])), aI g q_1 7 zR, aI g q_2 7 zR, aI g q_3 7 zR, aI g q_4 7 zR, aI g q_5 8 zR, aI g q_6 8 zR, aI g q_7 8 zR, aI g q_8 4 zR, aI g q_9 4 zR, oX7 q_10 v_11 zR, aI g (v_11 1) 5 zR, aI g (v_11 2) 5 zR, aI g (v_11 4) 6 zR, aI g (v_11 5) 6 zR, aI g (v_11 6) 6 zR] H := hP
  have hD : va_D A [(a_t, .inr (1, [.int (0 : Int32), .int (0 : Int32), .int (0 : Int32), .int (0 : Int32), .ref q_1, .ref q_2, .ref q_3, .ref q_4, .int (0 : Int32), .int (0 : Int32), .ref q_5, .ref q_6, .ref q_7, .int (0 : Int32), .ref q_8, .ref q_9, .ref q_10])), aI g q_1 7 zR, aI g q_2 7 zR, aI g q_3 7 zR, aI g q_4 7 zR, aI g q_5 8 zR, aI g q_6 8 zR, aI g q_7 8 zR, aI g q_8 4 zR, aI g q_9 4 zR, oX7 q_10 v_11 zR, aI g (v_11 1) 5 zR, aI g (v_11 2) 5 zR, aI g (v_11 4) 6 zR, aI g (v_11 5) 6 zR, aI g (v_11 6) 6 zR] := hD
  exact ret_c ((va_up (va_up (va_up (va_up (va_up (va_up (va_up (va_up (va_up (va_up (fun _ => 0) 4 q_1) 5 q_2) 6 q_3) 7 q_4) 10 q_5) 11 q_6) 12 q_7) 14 q_8) 15 q_9) 16 q_10), v_11) C0 hP hD hS [0, 1, 2, 3, 4, 5, 6, 7, 8, 9, 10, 11, 12, 13, 14, 15] rfl rfl rfl dX1_init_120

theorem dAX5_init : ∀ q ∈ ([(0, (.aload_n 0, 1)), (1, (.invokespecial 3, 3)), (4, (.aload_n 0, 1)), (5, (.sipush 800, 3)), (8, (.newarray .int, 2)), (10, (.putfield 9, 3)), (13, (.aload_n 0, 1)), (14, (.iconst 0, 1)), (15, (.putfield 15, 3)), (18, (.aload_n 0, 1)), (19, (.iconst 0, 1)), (20, (.putfield 19, 3)), (23, (.aload_n 0, 1)), (24, (.iconst (-1), 1)), (25, (.putfield 22, 3)), (28, (.aload_n 0, 1)), (29, (.iconst 0, 1)), (30, (.putfield 25, 3)), (33, (.aload_n 0, 1)), (34, (.iconst 0, 1)), (35, (.putfield 28, 3)), (38, (.aload_n 0, 1)), (39, (.iconst 0, 1)), (40, (.putfield 31, 3)), (43, (.aload_n 0, 1)), (44, (.iconst 0, 1)), (45, (.putfield 34, 3)), (48, (.aload_n 0, 1)), (49, (.iconst 0, 1)), (50, (.putfield 37, 3)), (53, (.aload_n 0, 1)), (54, (.lconst 0, 1)), (55, (.putfield 40, 3)), (58, (.aload_n 0, 1)), (59, (.iconst 0, 1)), (60, (.putfield 44, 3)), (63, (.aload_n 0, 1)), (64, (.iconst 0, 1)), (65, (.putfield 48, 3)), (68, (.aload_n 0, 1)), (69, (.bipush 16, 2)), (71, (.newarray .long, 2)), (73, (.putfield 51, 3)), (76, (.aload_n 0, 1)), (77, (.bipush 16, 2)), (79, (.newarray .int, 2)), (81, (.putfield 55, 3)), (84, (.aload_n 0, 1)), (85, (.bipush 16, 2)), (87, (.newarray .int, 2)), (89, (.putfield 58, 3)), (92, (.return_, 1))] : List (Nat × (Instr × Nat))), decode cX5_init q.1 = .ok q.2 := by decide +kernel
theorem dX5_init_0 : decode cX5_init 0 = .ok (.aload_n 0, 1) := dAX5_init (0, (.aload_n 0, 1)) (List.mem_of_getElem? (i := 0) rfl)
theorem dX5_init_1 : decode cX5_init 1 = .ok (.invokespecial 3, 3) := dAX5_init (1, (.invokespecial 3, 3)) (List.mem_of_getElem? (i := 1) rfl)
theorem dX5_init_4 : decode cX5_init 4 = .ok (.aload_n 0, 1) := dAX5_init (4, (.aload_n 0, 1)) (List.mem_of_getElem? (i := 2) rfl)
theorem dX5_init_5 : decode cX5_init 5 = .ok (.sipush 800, 3) := dAX5_init (5, (.sipush 800, 3)) (List.mem_of_getElem? (i := 3) rfl)
theorem dX5_init_8 : decode cX5_init 8 = .ok (.newarray .int, 2) := dAX5_init (8, (.newarray .int, 2)) (List.mem_of_getElem? (i := 4) rfl)
theorem dX5_init_10 : decode cX5_init 10 = .ok (.putfield 9, 3) := dAX5_init (10, (.putfield 9, 3)) (List.mem_of_getElem? (i := 5) rfl)
theorem dX5_init_13 : decode cX5_init 13 = .ok (.aload_n 0, 1) := dAX5_init (13, (.aload_n 0, 1)) (List.mem_of_getElem? (i := 6) rfl)
theorem dX5_init_14 : decode cX5_init 14 = .ok (.iconst 0, 1) := dAX5_init (14, (.iconst 0, 1)) (List.mem_of_getElem? (i := 7) rfl)
theorem dX5_init_15 : decode cX5_init 15 = .ok (.putfield 15, 3) := dAX5_init (15, (.putfield 15, 3)) (List.mem_of_getElem? (i := 8) rfl)
theorem dX5_init_18 : decode cX5_init 18 = .ok (.aload_n 0, 1) := dAX5_init (18, (.aload_n 0, 1)) (List.mem_of_getElem? (i := 9) rfl)
theorem dX5_init_19 : decode cX5_init 19 = .ok (.iconst 0, 1) := dAX5_init (19, (.iconst 0, 1)) (List.mem_of_getElem? (i := 10) rfl)
theorem dX5_init_20 : decode cX5_init 20 = .ok (.putfield 19, 3) := dAX5_init (20, (.putfield 19, 3)) (List.mem_of_getElem? (i := 11) rfl)
theorem dX5_init_23 : decode cX5_init 23 = .ok (.aload_n 0, 1) := dAX5_init (23, (.aload_n 0, 1)) (List.mem_of_getElem? (i := 12) rfl)
theorem dX5_init_24 : decode cX5_init 24 = .ok (.iconst (-1), 1) := dAX5_init (24, (.iconst (-1), 1)) (List.mem_of_getElem? (i := 13) rfl)
theorem dX5_init_25 : decode cX5_init 25 = .ok (.putfield 22, 3) := dAX5_init (25, (.putfield 22, 3)) (List.mem_of_getElem? (i := 14) rfl)
theorem dX5_init_28 : decode cX5_init 28 = .ok (.aload_n 0, 1) := dAX5_init (28, (.aload_n 0, 1)) (List.mem_of_getElem? (i := 15) rfl)
theorem dX5_init_29 : decode cX5_init 29 = .ok (.iconst 0, 1) := dAX5_init (29, (.iconst 0, 1)) (List.mem_of_getElem? (i := 16) rfl)
theorem dX5_init_30 : decode cX5_init 30 = .ok (.putfield 25, 3) := dAX5_init (30, (.putfield 25, 3)) (List.mem_of_getElem? (i := 17) rfl)
theorem dX5_init_33 : decode cX5_init 33 = .ok (.aload_n 0, 1) := dAX5_init (33, (.aload_n 0, 1)) (List.mem_of_getElem? (i := 18) rfl)
theorem dX5_init_34 : decode cX5_init 34 = .ok (.iconst 0, 1) := dAX5_init (34, (.iconst 0, 1)) (List.mem_of_getElem? (i := 19) rfl)
theorem dX5_init_35 : decode cX5_init 35 = .ok (.putfield 28, 3) := dAX5_init (35, (.putfield 28, 3)) (List.mem_of_getElem? (i := 20) rfl)
theorem dX5_init_38 : decode cX5_init 38 = .ok (.aload_n 0, 1) := dAX5_init (38, (.aload_n 0, 1)) (List.mem_of_getElem? (i := 21) rfl)
theorem dX5_init_39 : decode cX5_init 39 = .ok (.iconst 0, 1) := dAX5_init (39, (.iconst 0, 1)) (List.mem_of_getElem? (i := 22) rfl)
theorem dX5_init_40 : decode cX5_init 40 = .ok (.putfield 31, 3) := dAX5_init (40, (.putfield 31, 3)) (List.mem_of_getElem? (i := 23) rfl)
theorem dX5_init_43 : decode cX5_init 43 = .ok (.aload_n 0, 1) := dAX5_init (43, (.aload_n 0, 1)) (List.mem_of_getElem? (i := 24) rfl)
theorem dX5_init_44 : decode cX5_init 44 = .ok (.iconst 0, 1) := dAX5_init (44, (.iconst 0, 1)) (List.mem_of_getElem? (i := 25) rfl)
theorem dX5_init_45 : decode cX5_init 45 = .ok (.putfield 34, 3) := dAX5_init (45, (.putfield 34, 3)) (List.mem_of_getElem? (i := 26) rfl)
theorem dX5_init_48 : decode cX5_init 48 = .ok (.aload_n 0, 1) := dAX5_init (48, (.aload_n 0, 1)) (List.mem_of_getElem? (i := 27) rfl)
theorem dX5_init_49 : decode cX5_init 49 = .ok (.iconst 0, 1) := dAX5_init (49, (.iconst 0, 1)) (List.mem_of_getElem? (i := 28) rfl)
theorem dX5_init_50 : decode cX5_init 50 = .ok (.putfield 37, 3) := dAX5_init (50, (.putfield 37, 3)) (List.mem_of_getElem? (i := 29) rfl)
theorem dX5_init_53 : decode cX5_init 53 = .ok (.aload_n 0, 1) := dAX5_init (53, (.aload_n 0, 1)) (List.mem_of_getElem? (i := 30) rfl)
theorem dX5_init_54 : decode cX5_init 54 = .ok (.lconst 0, 1) := dAX5_init (54, (.lconst 0, 1)) (List.mem_of_getElem? (i := 31) rfl)
theorem dX5_init_55 : decode cX5_init 55 = .ok (.putfield 40, 3) := dAX5_init (55, (.putfield 40, 3)) (List.mem_of_getElem? (i := 32) rfl)
theorem dX5_init_58 : decode cX5_init 58 = .ok (.aload_n 0, 1) := dAX5_init (58, (.aload_n 0, 1)) (List.mem_of_getElem? (i := 33) rfl)
theorem dX5_init_59 : decode cX5_init 59 = .ok (.iconst 0, 1) := dAX5_init (59, (.iconst 0, 1)) (List.mem_of_getElem? (i := 34) rfl)
theorem dX5_init_60 : decode cX5_init 60 = .ok (.putfield 44, 3) := dAX5_init (60, (.putfield 44, 3)) (List.mem_of_getElem? (i := 35) rfl)
theorem dX5_init_63 : decode cX5_init 63 = .ok (.aload_n 0, 1) := dAX5_init (63, (.aload_n 0, 1)) (List.mem_of_getElem? (i := 36) rfl)
theorem dX5_init_64 : decode cX5_init 64 = .ok (.iconst 0, 1) := dAX5_init (64, (.iconst 0, 1)) (List.mem_of_getElem? (i := 37) rfl)
theorem dX5_init_65 : decode cX5_init 65 = .ok (.putfield 48, 3) := dAX5_init (65, (.putfield 48, 3)) (List.mem_of_getElem? (i := 38) rfl)
theorem dX5_init_68 : decode cX5_init 68 = .ok (.aload_n 0, 1) := dAX5_init (68, (.aload_n 0, 1)) (List.mem_of_getElem? (i := 39) rfl)
theorem dX5_init_69 : decode cX5_init 69 = .ok (.bipush 16, 2) := dAX5_init (69, (.bipush 16, 2)) (List.mem_of_getElem? (i := 40) rfl)
theorem dX5_init_71 : decode cX5_init 71 = .ok (.newarray .long, 2) := dAX5_init (71, (.newarray .long, 2)) (List.mem_of_getElem? (i := 41) rfl)
theorem dX5_init_73 : decode cX5_init 73 = .ok (.putfield 51, 3) := dAX5_init (73, (.putfield 51, 3)) (List.mem_of_getElem? (i := 42) rfl)
theorem dX5_init_76 : decode cX5_init 76 = .ok (.aload_n 0, 1) := dAX5_init (76, (.aload_n 0, 1)) (List.mem_of_getElem? (i := 43) rfl)
theorem dX5_init_77 : decode cX5_init 77 = .ok (.bipush 16, 2) := dAX5_init (77, (.bipush 16, 2)) (List.mem_of_getElem? (i := 44) rfl)
theorem dX5_init_79 : decode cX5_init 79 = .ok (.newarray .int, 2) := dAX5_init (79, (.newarray .int, 2)) (List.mem_of_getElem? (i := 45) rfl)
theorem dX5_init_81 : decode cX5_init 81 = .ok (.putfield 55, 3) := dAX5_init (81, (.putfield 55, 3)) (List.mem_of_getElem? (i := 46) rfl)
theorem dX5_init_84 : decode cX5_init 84 = .ok (.aload_n 0, 1) := dAX5_init (84, (.aload_n 0, 1)) (List.mem_of_getElem? (i := 47) rfl)
theorem dX5_init_85 : decode cX5_init 85 = .ok (.bipush 16, 2) := dAX5_init (85, (.bipush 16, 2)) (List.mem_of_getElem? (i := 48) rfl)
theorem dX5_init_87 : decode cX5_init 87 = .ok (.newarray .int, 2) := dAX5_init (87, (.newarray .int, 2)) (List.mem_of_getElem? (i := 49) rfl)
theorem dX5_init_89 : decode cX5_init 89 = .ok (.putfield 58, 3) := dAX5_init (89, (.putfield 58, 3)) (List.mem_of_getElem? (i := 50) rfl)
theorem dX5_init_92 : decode cX5_init 92 = .ok (.return_, 1) := dAX5_init (92, (.return_, 1)) (List.mem_of_getElem? (i := 51) rfl)
abbrev BX5 (g : GG) (a : Nat) (u : (Nat → Nat)) : va_W := [oX5 a u (upd zR 3 (-1 : Int32)) 0, aI g (u 0) 800 zR, aJ g (u 12) 16 (fun _ => 0), aI g (u 13) 16 zR, aI g (u 14) 16 zR]
theorem kX5_init_o1 : Cond.methodLink RX5 3 objectInit ∈ wsX5_init := List.mem_of_getElem? (i := 1) rfl
theorem kX5_init_o2 : Cond.instanceMethod objectInit ∈ wsX5_init := List.mem_of_getElem? (i := 2) rfl
theorem kX5_init_o3 : Cond.code objectInit ⟨#[0xb1]⟩ 1 none ∈ wsX5_init := List.mem_of_getElem? (i := 3) rfl
theorem kX5_init_ac_int : Cond.arrayClass .int ∈ wsX5_init := List.mem_of_getElem? (i := 4) rfl
theorem kX5_init_9 : Cond.fieldLink RX5 9 "EveningVow$Reader" "tape" "[I" ∈ wsX5_init := List.mem_of_getElem? (i := 5) rfl
theorem iX5_init_X5 : ∀ w ∈ u_ws RX5 TX5 15, w ∈ wsX5_init := fun w h => (List.mem_cons_of_mem _ (List.mem_append_right _ h))
theorem kX5_init_15 : Cond.fieldLink RX5 15 "EveningVow$Reader" "tapeBytes" "I" ∈ wsX5_init := List.mem_of_getElem? (i := 6) rfl
theorem kX5_init_19 : Cond.fieldLink RX5 19 "EveningVow$Reader" "faultNumber" "I" ∈ wsX5_init := List.mem_of_getElem? (i := 7) rfl
theorem kX5_init_22 : Cond.fieldLink RX5 22 "EveningVow$Reader" "faultPlace" "I" ∈ wsX5_init := List.mem_of_getElem? (i := 8) rfl
theorem kX5_init_25 : Cond.fieldLink RX5 25 "EveningVow$Reader" "length" "I" ∈ wsX5_init := List.mem_of_getElem? (i := 9) rfl
theorem kX5_init_28 : Cond.fieldLink RX5 28 "EveningVow$Reader" "sort" "I" ∈ wsX5_init := List.mem_of_getElem? (i := 10) rfl
theorem kX5_init_31 : Cond.fieldLink RX5 31 "EveningVow$Reader" "from" "I" ∈ wsX5_init := List.mem_of_getElem? (i := 11) rfl
theorem kX5_init_34 : Cond.fieldLink RX5 34 "EveningVow$Reader" "to" "I" ∈ wsX5_init := List.mem_of_getElem? (i := 12) rfl
theorem kX5_init_37 : Cond.fieldLink RX5 37 "EveningVow$Reader" "number" "I" ∈ wsX5_init := List.mem_of_getElem? (i := 13) rfl
theorem kX5_init_40 : Cond.fieldLink RX5 40 "EveningVow$Reader" "code" "J" ∈ wsX5_init := List.mem_of_getElem? (i := 14) rfl
theorem kX5_init_44 : Cond.fieldLink RX5 44 "EveningVow$Reader" "opened" "Z" ∈ wsX5_init := List.mem_of_getElem? (i := 15) rfl
theorem kX5_init_48 : Cond.fieldLink RX5 48 "EveningVow$Reader" "names" "I" ∈ wsX5_init := List.mem_of_getElem? (i := 16) rfl
theorem kX5_init_ac_long : Cond.arrayClass .long ∈ wsX5_init := List.mem_of_getElem? (i := 17) rfl
theorem kX5_init_51 : Cond.fieldLink RX5 51 "EveningVow$Reader" "nameCode" "[J" ∈ wsX5_init := List.mem_of_getElem? (i := 18) rfl
theorem kX5_init_55 : Cond.fieldLink RX5 55 "EveningVow$Reader" "nameLine" "[I" ∈ wsX5_init := List.mem_of_getElem? (i := 19) rfl
theorem kX5_init_58 : Cond.fieldLink RX5 58 "EveningVow$Reader" "nameNumber" "[I" ∈ wsX5_init := List.mem_of_getElem? (i := 20) rfl
set_option maxHeartbeats 8000000 in
set_option maxRecDepth 100000 in
theorem mX5_init (l : Launch) (g : GG) (a_t : Nat) : MC l g yX5_init wsX5_init ({ frames := 1, cells := 4, slots := 848, locals := 12 } : Room) 4 848 [.ref a_t] [(a_t, .inr (5, [.null, .int 0, .int 0, .int 0, .int 0, .int 0, .int 0, .int 0, .int 0, .long 0, .int 0, .int 0, .null, .null, .null]))] (BX5 g a_t) := by
  refine MC.of (cc := cX5_init) (maxL := 1) (own := RX5) rfl rfl rfl (by decide) (Nat.le_of_ble_eq_true rfl) ?_
  intro p e s m args below meth c A C0 hin hP hD hS ls hl
  obtain ⟨hx, hb, hml, hown, hts, hr, hlk, hK, hA, hSW⟩ := id C0
  have hl : lv_has ls 1 [(0, .ref a_t)] := hl
  refine lv_aload_n hx hb dX5_init_0 rfl (lv_at hl 0 rfl) ?_
  refine W.objInit hx hb hown (hts _ kX5_init_o1) (hts _ kX5_init_o2) (hts _ kX5_init_o3) rfl (by rw [hml]; exact hl.1) rfl dX5_init_1 (Nat.le_of_ble_eq_true rfl) (Nat.le_of_ble_eq_true rfl) ?_
  refine W.eq (g2 := F0 m 4 ls []) rfl ?_
  refine lv_aload_n hx hb dX5_init_4 rfl (lv_at hl 0 rfl) ?_
  refine lv_sipush (v := (800 : Int32)) hx hb dX5_init_5 (by decide) ?_
  refine newI C0 kX5_init_ac_int hP hD hS (n := (800 : Int32)) (N := 800) (by decide) (by decide) (by decide) (Nat.le_of_ble_eq_true rfl) (Nat.le_of_ble_eq_true rfl) dX5_init_8 (fun q_1 H hP hD hS => ?_)
  have hP : va_P g.1 vwCl [(a_t, .inr (5, [.null, .int 0, .int 0, .int 0, .int 0, .int 0, .int 0, .int 0, .int 0, .long 0, .int 0, .int 0, .null, .null, .null])), aI g q_1 800 zR] H := hP
  have hD : va_D A [(a_t, .inr (5, [.null, .int 0, .int 0, .int 0, .int 0, .int 0, .int 0, .int 0, .int 0, .long 0, .int 0, .int 0, .null, .null, .null])), aI g q_1 800 zR] := hD
  refine W.widen (k := 1) (n := 800) (Nat.le_of_ble_eq_true rfl) (Nat.le_of_ble_eq_true rfl) ?_
  refine va_putF (D := g.1) (ci := 5) (v := .ref q_1) (ty := .array .int) (C := RX5) (T := TX5) (N := 15) hx hb hts iX5_init_X5 tyX5 tyX5_ok nmX5 hown hK.1 hP hD hS 0 rfl rfl 0 (by decide) (hts _ kX5_init_9) (fun _ h9 => h9) rfl hin rfl (by decide +kernel) rfl rfl (Nat.le_of_ble_eq_true rfl) dX5_init_10 (fun H locs hP hD hS => ?_)
  have hP : va_P g.1 vwCl [(a_t, .inr (5, [.ref q_1, .int 0, .int 0, .int 0, .int 0, .int 0, .int 0, .int 0, .int 0, .long 0, .int 0, .int 0, .null, .null, .null])), aI g q_1 800 zR] H := hP
  have hD : va_D A [(a_t, .inr (5, [.ref q_1, .int 0, .int 0, .int 0, .int 0, .int 0, .int 0, .int 0, .int 0, .long 0, .int 0, .int 0, .null, .null, .null])), aI g q_1 800 zR] := hD
  refine lv_aload_n hx hb dX5_init_13 rfl (lv_at hl 0 rfl) ?_
  refine lv_iconst (v := (0 : Int32)) hx hb dX5_init_14 (by decide) ?_
  refine va_put (D := g.1) (ci := 5) (v := .int (0 : Int32)) (ty := .int) (C := RX5) (T := TX5) (N := 15) hx hb hts iX5_init_X5 tyX5 tyX5_ok nmX5 hown hK.1 hP hD hS 0 rfl rfl 1 (by decide) (hts _ kX5_init_15) (fun _ h9 => h9) rfl (by decide +kernel) rfl rfl (Nat.le_of_ble_eq_true rfl) dX5_init_15 (fun H locs hP hD hS => ?_)
  have hP : va_P g.1 vwCl [(a_t, .inr (5, [.ref q_1, .int (0 : Int32), .int 0, .int 0, .int 0, .int 0, .int 0, .int 0, .int 0, .long 0, .int 0, .int 0, .null, .null, .null])), aI g q_1 800 zR] H := hP
  have hD : va_D A [(a_t, .inr (5, [.ref q_1, .int (0 : Int32), .int 0, .int 0, .int 0, .int 0, .int 0, .int 0, .int 0, .long 0, .int 0, .int 0, .null, .null, .null])), aI g q_1 800 zR] := hD
  refine lv_aload_n hx hb dX5_init_18 rfl (lv_at hl 0 rfl) ?_
  refine lv_iconst (v := (0 : Int32)) hx hb dX5_init_19 (by decide) ?_
  refine va_put (D := g.1) (ci := 5) (v := .int (0 : Int32)) (ty := .int) (C := RX5) (T := TX5) (N := 15) hx hb hts iX5_init_X5 tyX5 tyX5_ok nmX5 hown hK.1 hP hD hS 0 rfl rfl 2 (by decide) (hts _ kX5_init_19) (fun _ h9 => h9) rfl (by decide +kernel) rfl rfl (Nat.le_of_ble_eq_true rfl) dX5_init_20 (fun H locs hP hD hS => ?_)
  have hP : va_P g.1 vwCl [(a_t, .inr (5, [.ref q_1, .int (0 : Int32), .int (0 : Int32), .int 0, .int 0, .int 0, .int 0, .int 0, .int 0, .long 0, .int 0, .int 0, .null, .null, .null])), aI g q_1 800 zR] H := hP
  have hD : va_D A [(a_t, .inr (5, [.ref q_1, .int (0 : Int32), .int (0 : Int32), .int 0, .int 0, .int 0, .int 0, .int 0, .int 0, .long 0, .int 0, .int 0, .null, .null, .null])), aI g q_1 800 zR] := hD
  refine lv_aload_n hx hb dX5_init_23 rfl (lv_at hl 0 rfl) ?_
  refine lv_iconst (v := (-1 : Int32)) hx hb dX5_init_24 (by decide) ?_
  refine va_put (D := g.1) (ci := 5) (v := .int (-1 : Int32)) (ty := .int) (C := RX5) (T := TX5) (N := 15) hx hb hts iX5_init_X5 tyX5 tyX5_ok nmX5 hown hK.1 hP hD hS 0 rfl rfl 3 (by decide) (hts _ kX5_init_22) (fun _ h9 => h9) rfl (by decide +kernel) rfl rfl (Nat.le_of_ble_eq_true rfl) dX5_init_25 (fun H locs hP hD hS => ?_)
  have hP : va_P g.1 vwCl [(a_t, .inr (5, [.ref q_1, .int (0 : Int32), .int (0 : Int32), .int (-1 : Int32), .int 0, .int 0, .int 0, .int 0, .int 0, .long 0, .int 0, .int 0, .null, .null, .null])), aI g q_1 800 zR] H := hP
  have hD : va_D A [(a_t, .inr (5, [.ref q_1, .int (0 : Int32), .int (0 : Int32), .int (-1 : Int32), .int 0, .int 0, .int 0, .int 0, .int 0, .long 0, .int 0, .int 0, .null, .null, .null])), aI g q_1 800 zR] := hD
  refine lv_aload_n hx hb dX5_init_28 rfl (lv_at hl 0 rfl) ?_
  refine lv_iconst (v := (0 : Int32)) hx hb dX5_init_29 (by decide) ?_
  refine va_put (D := g.1) (ci := 5) (v := .int (0 : Int32)) (ty := .int) (C := RX5) (T := TX5) (N := 15) hx hb hts iX5_init_X5 tyX5 tyX5_ok nmX5 hown hK.1 hP hD hS 0 rfl rfl 4 (by decide) (hts _ kX5_init_25) (fun _ h9 => h9) rfl (by decide +kernel) rfl rfl (Nat.le_of_ble_eq_true rfl) dX5_init_30 (fun H locs hP hD hS => ?_)
  have hP : va_P g.1 vwCl [(a_t, .inr (5, [.ref q_1, .int (0 : Int32), .int (0 : Int32), .int (-1 : Int32), .int (0 : Int32), .int 0, .int 0, .int 0, .int 0, .long 0, .int 0, .int 0, .null, .null, .null])), aI g q_1 800 zR] H := hP
  have hD : va_D A [(a_t, .inr (5, [.ref q_1, .int (0 : Int32), .int (0 : Int32), .int (-1 : Int32), .int (0 : Int32), .int 0, .int 0, .int 0, .int 0, .long 0, .int 0, .int 0, .null, .null, .null])), aI g q_1 800 zR] := hD
  refine lv_aload_n hx hb dX5_init_33 rfl (lv_at hl 0 rfl) ?_
  refine lv_iconst (v := (0 : Int32)) hx hb dX5_init_34 (by decide) ?_
  refine va_put (D := g.1) (ci := 5) (v := .int (0 : Int32)) (ty := .int) (C := RX5) (T := TX5) (N := 15) hx hb hts iX5_init_X5 tyX5 tyX5_ok nmX5 hown hK.1 hP hD hS 0 rfl rfl 5 (by decide) (hts _ kX5_init_28) (fun _ h9 => h9) rfl (by decide +kernel) rfl rfl (Nat.le_of_ble_eq_true rfl) dX5_init_35 (fun H locs hP hD hS => ?_)
  have hP : va_P g.1 vwCl [(a_t, .inr (5, [.ref q_1, .int (0 : Int32), .int (0 : Int32), .int (-1 : Int32), .int (0 : Int32), .int (0 : Int32), .int 0, .int 0, .int 0, .long 0, .int 0, .int 0, .null, .null, .null])), aI g q_1 800 zR] H := hP
  have hD : va_D A [(a_t, .inr (5, [.ref q_1, .int (0 : Int32), .int (0 : Int32), .int (-1 : Int32), .int (0 : Int32), .int (0 : Int32), .int 0, .int 0, .int 0, .long 0, .int 0, .int 0, .null, .null, .null])), aI g q_1 800 zR] := hD
  refine lv_aload_n hx hb dX5_init_38 rfl (lv_at hl 0 rfl) ?_
  refine lv_iconst (v := (0 : Int32)) hx hb dX5_init_39 (by decide) ?_
  refine va_put (D := g.1) (ci := 5) (v := .int (0 : Int32)) (ty := .int) (C := RX5) (T := TX5) (N := 15) hx hb hts iX5_init_X5 tyX5 tyX5_ok nmX5 hown hK.1 hP hD hS 0 rfl rfl 6 (by decide) (hts _ kX5_init_31) (fun _ h9 => h9) rfl (by decide +kernel) rfl rfl (Nat.le_of_ble_eq_true rfl) dX5_init_40 (fun H locs hP hD hS => ?_)
  have hP : va_P g.1 vwCl [(a_t, .inr (5, [.ref q_1, .int (0 : Int32), .int (0 : Int32), .int (-1 : Int32), .int (0 : Int32), .int (0 : Int32), .int (0 : Int32), .int 0, .int 0, .long 0, .int 0, .int 0, .null, .null, .null])), aI g q_1 800 zR] H := hP
  have hD : va_D A [(a_t, .inr (5, [.ref q_1, .int (0 : Int32), .int (0 : Int32), .int (-1 : Int32), .int (0 : Int32), .int (0 : Int32), .int (0 : Int32), .int 0, .int 0, .long 0, .int 0, .int 0, .null, .null, .null])), aI g q_1 800 zR] := hD
  refine lv_aload_n hx hb dX5_init_43 rfl (lv_at hl 0 rfl) ?_
  refine lv_iconst (v := (0 : Int32)) hx hb dX5_init_44 (by decide) ?_
  refine va_put (D := g.1) (ci := 5) (v := .int (0 : Int32)) (ty := .int) (C := RX5) (T := TX5) (N := 15) hx hb hts iX5_init_X5 tyX5 tyX5_ok nmX5 hown hK.1 hP hD hS 0 rfl rfl 7 (by decide) (hts _ kX5_init_34) (fun _ h9 => h9) rfl (by decide +kernel) rfl rfl (Nat.le_of_ble_eq_true rfl) dX5_init_45 (fun H locs hP hD hS => ?_)
  have hP : va_P g.1 vwCl [(a_t, .inr (5, [.ref q_1, .int (0 : Int32), .int (0 : Int32), .int (-1 : Int32), .int (0 : Int32), .int (0 : Int32), .int (0 : Int32), .int (0 : Int32), .int 0, .long 0, .int 0, .int 0, .null, .null, .null])), aI g q_1 800 zR] H := hP
  have hD : va_D A [(a_t, .inr (5, [.ref q_1, .int (0 : Int32), .int (0 : Int32), .int (-1 : Int32), .int (0 : Int32), .int (0 : Int32), .int (0 : Int32), .int (0 : Int32), .int 0, .long 0, .int 0, .int 0, .null, .null, .null])), aI g q_1 800 zR] := hD
  refine lv_aload_n hx hb dX5_init_48 rfl (lv_at hl 0 rfl) ?_
  refine lv_iconst (v := (0 : Int32)) hx hb dX5_init_49 (by decide) ?_
  refine va_put (D := g.1) (ci := 5) (v := .int (0 : Int32)) (ty := .int) (C := RX5) (T := TX5) (N := 15) hx hb hts iX5_init_X5 tyX5 tyX5_ok nmX5 hown hK.1 hP hD hS 0 rfl rfl 8 (by decide) (hts _ kX5_init_37) (fun _ h9 => h9) rfl (by decide +kernel) rfl rfl (Nat.le_of_ble_eq_true rfl) dX5_init_50 (fun H locs hP hD hS => ?_)
  have hP : va_P g.1 vwCl [(a_t, .inr (5, [.ref q_1, .int (0 : Int32), .int (0 : Int32), .int (-1 : Int32), .int (0 : Int32), .int (0 : Int32), .int (0 : Int32), .int (0 : Int32), .int (0 : Int32), .long 0, .int 0, .int 0, .null, .null, .null])), aI g q_1 800 zR] H := hP
  have hD : va_D A [(a_t, .inr (5, [.ref q_1, .int (0 : Int32), .int (0 : Int32), .int (-1 : Int32), .int (0 : Int32), .int (0 : Int32), .int (0 : Int32), .int (0 : Int32), .int (0 : Int32), .long 0, .int 0, .int 0, .null, .null, .null])), aI g q_1 800 zR] := hD
  refine lv_aload_n hx hb dX5_init_53 rfl (lv_at hl 0 rfl) ?_
  refine lv_lconst (v := (0 : Int64)) hx hb dX5_init_54 (by decide) ?_
  refine va_put (D := g.1) (ci := 5) (v := .long (0 : Int64)) (ty := .long) (C := RX5) (T := TX5) (N := 15) hx hb hts iX5_init_X5 tyX5 tyX5_ok nmX5 hown hK.1 hP hD hS 0 rfl rfl 9 (by decide) (hts _ kX5_init_40) (fun _ h9 => h9) rfl (by decide +kernel) rfl rfl (Nat.le_of_ble_eq_true rfl) dX5_init_55 (fun H locs hP hD hS => ?_)
  have hP : va_P g.1 vwCl [(a_t, .inr (5, [.ref q_1, .int (0 : Int32), .int (0 : Int32), .int (-1 : Int32), .int (0 : Int32), .int (0 : Int32), .int (0 : Int32), .int (0 : Int32), .int (0 : Int32), .long (0 : Int64), .int 0, .int 0, .null, .null, .null])), aI g q_1 800 zR] H := hP
  have hD : va_D A [(a_t, .inr (5, [.ref q_1, .int (0 : Int32), .int (0 : Int32), .int (-1 : Int32), .int (0 : Int32), .int (0 : Int32), .int (0 : Int32), .int (0 : Int32), .int (0 : Int32), .long (0 : Int64), .int 0, .int 0, .null, .null, .null])), aI g q_1 800 zR] := hD
  refine lv_aload_n hx hb dX5_init_58 rfl (lv_at hl 0 rfl) ?_
  refine lv_iconst (v := (0 : Int32)) hx hb dX5_init_59 (by decide) ?_
  refine va_put (D := g.1) (ci := 5) (v := .int (0 : Int32)) (ty := .boolean) (C := RX5) (T := TX5) (N := 15) hx hb hts iX5_init_X5 tyX5 tyX5_ok nmX5 hown hK.1 hP hD hS 0 rfl rfl 10 (by decide) (hts _ kX5_init_44) (fun _ h9 => h9) rfl (by decide +kernel) rfl rfl (Nat.le_of_ble_eq_true rfl) dX5_init_60 (fun H locs hP hD hS => ?_)
  have hP : va_P g.1 vwCl [(a_t, .inr (5, [.ref q_1, .int (0 : Int32), .int (0 : Int32), .int (-1 : Int32), .int (0 : Int32), .int (0 : Int32), .int (0 : Int32), .int (0 : Int32), .int (0 : Int32), .long (0 : Int64), .int (0 : Int32), .int 0, .null, .null, .null])), aI g q_1 800 zR] H := hP
  have hD : va_D A [(a_t, .inr (5, [.ref q_1, .int (0 : Int32), .int (0 : Int32), .int (-1 : Int32), .int (0 : Int32), .int (0 : Int32), .int (0 : Int32), .int (0 : Int32), .int (0 : Int32), .long (0 : Int64), .int (0 : Int32), .int 0, .null, .null, .null])), aI g q_1 800 zR] := hD
  refine lv_aload_n hx hb dX5_init_63 rfl (lv_at hl 0 rfl) ?_
  refine lv_iconst (v := (0 : Int32)) hx hb dX5_init_64 (by decide) ?_
  refine va_put (D := g.1) (ci := 5) (v := .int (0 : Int32)) (ty := .int) (C := RX5) (T := TX5) (N := 15) hx hb hts iX5_init_X5 tyX5 tyX5_ok nmX5 hown hK.1 hP hD hS 0 rfl rfl 11 (by decide) (hts _ kX5_init_48) (fun _ h9 => h9) rfl (by decide +kernel) rfl rfl (Nat.le_of_ble_eq_true rfl) dX5_init_65 (fun H locs hP hD hS => ?_)
  have hP : va_P g.1 vwCl [(a_t, .inr (5, [.ref q_1, .int (0 : Int32), .int (0 : Int32), .int (-1 : Int32), .int (0 : Int32), .int (0 : Int32), .int (0 : Int32), .int (0 : Int32), .int (0 : Int32), .long (0 : Int64), .int (0 : Int32), .int (0 : Int32), .null, .null, .null])), aI g q_1 800 zR] H := hP
  have hD : va_D A [(a_t, .inr (5, [.ref q_1, .int (0 : Int32), .int (0 : Int32), .int (-1 : Int32), .int (0 : Int32), .int (0 : Int32), .int (0 : Int32), .int (0 : Int32), .int (0 : Int32), .long (0 : Int64), .int (0 : Int32), .int (0 : Int32), .null, .null, .null])), aI g q_1 800 zR] := hD
  refine lv_aload_n hx hb dX5_init_68 rfl (lv_at hl 0 rfl) ?_
  refine lv_bipush (v := (16 : Int32)) hx hb dX5_init_69 (by decide) ?_
  refine newJ C0 kX5_init_ac_long hP hD hS (n := (16 : Int32)) (N := 16) (by decide) (by decide) (by decide) (Nat.le_of_ble_eq_true rfl) (Nat.le_of_ble_eq_true rfl) dX5_init_71 (fun q_2 H hP hD hS => ?_)
  have hP : va_P g.1 vwCl [(a_t, .inr (5, [.ref q_1, .int (0 : Int32), .int (0 : Int32), .int (-1 : Int32), .int (0 : Int32), .int (0 : Int32), .int (0 : Int32), .int (0 : Int32), .int (0 : Int32), .long (0 : Int64), .int (0 : Int32), .int (0 : Int32), .null, .null, .null])), aI g q_1 800 zR, aJ g q_2 16 (fun _ => 0)] H := hP
  have hD : va_D A [(a_t, .inr (5, [.ref q_1, .int (0 : Int32), .int (0 : Int32), .int (-1 : Int32), .int (0 : Int32), .int (0 : Int32), .int (0 : Int32), .int (0 : Int32), .int (0 : Int32), .long (0 : Int64), .int (0 : Int32), .int (0 : Int32), .null, .null, .null])), aI g q_1 800 zR, aJ g q_2 16 (fun _ => 0)] := hD
  refine W.widen (k := 2) (n := 816) (Nat.le_of_ble_eq_true rfl) (Nat.le_of_ble_eq_true rfl) ?_
  refine va_putF (D := g.1) (ci := 5) (v := .ref q_2) (ty := .array .long) (C := RX5) (T := TX5) (N := 15) hx hb hts iX5_init_X5 tyX5 tyX5_ok nmX5 hown hK.1 hP hD hS 0 rfl rfl 12 (by decide) (hts _ kX5_init_51) (fun _ h9 => h9) rfl hin rfl (by decide +kernel) rfl rfl (Nat.le_of_ble_eq_true rfl) dX5_init_73 (fun H locs hP hD hS => ?_)
  have hP : va_P g.1 vwCl [(a_t, .inr (5, [.ref q_1, .int (0 : Int32), .int (0 : Int32), .int (-1 : Int32), .int (0 : Int32), .int (0 : Int32), .int (0 : Int32), .int (0 : Int32), .int (0 : Int32), .long (0 : Int64), .int (0 : Int32), .int (0 : Int32), .ref q_2, .null, .null])), aI g q_1 800 zR, aJ g q_2 16 (fun _ => 0)] H := hP
  have hD : va_D A [(a_t, .inr (5, [.ref q_1, .int (0 : Int32), .int (0 : Int32), .int (-1 : Int32), .int (0 : Int32), .int (0 : Int32), .int (0 : Int32), .int (0 : Int32), .int (0 : Int32), .long (0 : Int64), .int (0 : Int32), .int (0 : Int32), .ref q_2, .null, .null])), aI g q_1 800 zR, aJ g q_2 16 (fun _ => 0)] := hD
  refine lv_aload_n hx hb dX5_init_76 rfl (lv_at hl 0 rfl) ?_
  refine lv_bipush (v := (16 : Int32)) hx hb dX5_init_77 (by decide) ?_
  refine newI C0 kX5_init_ac_int hP hD hS (n := (16 : Int32)) (N := 16) (by decide) (by decide) (by decide) (Nat.le_of_ble_eq_true rfl) (Nat.le_of_ble_eq_true rfl) dX5_init_79 (fun q_3 H hP hD hS => ?_)
  have hP : va_P g.1 vwCl [(a_t, .inr (5, [.ref q_1, .int (0 : Int32), .int (0 : Int32), .int (-1 : Int32), .int (0 : Int32), .int (0 : Int32), .int (0 : Int32), .int (0 : Int32), .int (0 : Int32), .long (0 : Int64), .int (0 : Int32), .int (0 : Int32), .ref q_2, .null, .null])), aI g q_1 800 zR, aJ g q_2 16 (fun _ => 0), aI g q_3 16 zR] H := hP
  have hD : va_D A [(a_t, .inr (5, [.ref q_1, .int (0 : Int32), .int (0 : Int32), .int (-1 : Int32), .int (0 : Int32), .int (0 : Int32), .int (0 : Int32), .int (0 : Int32), .int (0 : Int32), .long (0 : Int64), .int (0 : Int32), .int (0 : Int32), .ref q_2, .null, .null])), aI g q_1 800 zR, aJ g q_2 16 (fun _ => 0), aI g q_3 16 zR] := hD
  refine W.widen (k := 3) (n := 832) (Nat.le_of_ble_eq_true rfl) (Nat.le_of_ble_eq_true rfl) ?_
  refine va_putF (D := g.1) (ci := 5) (v := .ref q_3) (ty := .array .int) (C := RX5) (T := TX5) (N := 15) hx hb hts iX5_init_X5 tyX5 tyX5_ok nmX5 hown hK.1 hP hD hS 0 rfl rfl 13 (by decide) (hts _ kX5_init_55) (fun _ h9 => h9) rfl hin rfl (by decide +kernel) rfl rfl (Nat.le_of_ble_eq_true rfl) dX5_init_81 (fun H locs hP hD hS => ?_)
  have hP : va_P g.1 vwCl [(a_t, .inr (5, [.ref q_1, .int (0 : Int32), .int (0 : Int32), .int (-1 : Int32), .int (0 : Int32), .int (0 : Int32), .int (0 : Int32), .int (0 : Int32), .int (0 : Int32), .long (0 : Int64), .int (0 : Int32), .int (0 : Int32), .ref q_2, .ref q_3, .null])), aI g q_1 800 zR, aJ g q_2 16 (fun _ => 0), aI g q_3 16 zR] H := hP
  have hD : va_D A [(a_t, .inr (5, [.ref q_1, .int (0 : Int32), .int (0 : Int32), .int (-1 : Int32), .int (0 : Int32), .int (0 : Int32), .int (0 : Int32), .int (0 : Int32), .int (0 : Int32), .long (0 : Int64), .int (0 : Int32), .int (0 : Int32), .ref q_2, .ref q_3, .null])), aI g q_1 800 zR, aJ g q_2 16 (fun _ => 0), aI g q_3 16 zR] := hD
  refine lv_aload_n hx hb dX5_init_84 rfl (lv_at hl 0 rfl) ?_
  refine lv_bipush (v := (16 : Int32)) hx hb dX5_init_85 (by decide) ?_
  refine newI C0 kX5_init_ac_int hP hD hS (n := (16 : Int32)) (N := 16) (by decide) (by decide) (by decide) (Nat.le_of_ble_eq_true rfl) (Nat.le_of_ble_eq_true rfl) dX5_init_87 (fun q_4 H hP hD hS => ?_)
  have hP : va_P g.1 vwCl [(a_t, .inr (5, [.ref q_1, .int (0 : Int32), .int (0 : Int32), .int (-1 : Int32), .int (0 : Int32), .int (0 : Int32), .int (0 : Int32), .int (0 : Int32), .int (0 : Int32), .long (0 : Int64), .int (0 : Int32), .int (0 : Int32), .ref q_2, .ref q_3, .null])), aI g q_1 800 zR, aJ g q_2 16 (fun _ => 0), aI g q_3 16 zR, aI g q_4 16 zR] H := hP
  have hD : va_D A [(a_t, .inr (5, [.ref q_1, .int (0 : Int32), .int (0 : Int32), .int (-1 : Int32), .int (0 : Int32), .int (0 : Int32), .int (0 : Int32), .int (0 : Int32), .int (0 : Int32), .long (0 : Int64), .int (0 : Int32), .int (0 : Int32), .ref q_2, .ref q_3, .null])), aI g q_1 800 zR, aJ g q_2 16 (fun _ => 0), aI g q_3 16 zR, aI g q_4 16 zR] := hD
  refine W.widen (k := 4) (n := 848) (Nat.le_of_ble_eq_true rfl) (Nat.le_of_ble_eq_true rfl) ?_
  refine va_putF (D := g.1) (ci := 5) (v := .ref q_4) (ty := .array .int) (C := RX5) (T := TX5) (N := 15) hx hb hts iX5_init_X5 tyX5 tyX5_ok nmX5 hown hK.1 hP hD hS 0 rfl rfl 14 (by decide) (hts _ kX5_init_58) (fun _ h9 => h9) rfl hin rfl (by decide +kernel) rfl rfl (Nat.le_of_ble_eq_true rfl) dX5_init_89 (fun H locs hP hD hS => ?_)
  have hP : va_P g.1 vwCl [(a_t, .inr (5, [.ref q_1, .int (0 : Int32), .int (0 : Int32), .int (-1 : Int32), .int (0 : Int32), .int (0 : Int32), .int (0 : Int32), .int (0 : Int32), .int (0 : Int32), .long (0 : Int64), .int (0 : Int32), .int (0 : Int32), .ref q_2, .ref q_3, .ref q_4])), aI g q_1 800 zR, aJ g q_2 16 (fun _ => 0), aI g q_3 16 zR, aI g q_4 16 zR] H := hP
  have hD : va_D A [(a_t, .inr (5, [.ref q_1, .int (0 : Int32), .int (0 : Int32), .int (-1 : Int32), .int (0 : Int32), .int (0 : Int32), .int (0 : Int32), .int (0 : Int32), .int (0 : Int32), .long (0 : Int64), .int (0 : Int32), .int (0 : Int32), .ref q_2, .ref q_3, .ref q_4])), aI g q_1 800 zR, aJ g q_2 16 (fun _ => 0), aI g q_3 16 zR, aI g q_4 16 zR] := hD
  exact ret_c ((va_up (va_up (va_up (va_up (fun _ => 0) 0 q_1) 12 q_2) 13 q_3) 14 q_4)) C0 hP hD hS [0, 1, 2, 3, 4] rfl rfl rfl dX5_init_92

theorem dAX6_init : ∀ q ∈ ([(0, (.aload_n 0, 1)), (1, (.invokespecial 3, 3)), (4, (.aload_n 0, 1)), (5, (.iconst 0, 1)), (6, (.putfield 9, 3)), (9, (.aload_n 0, 1)), (10, (.bipush 61, 2)), (12, (.putfield 15, 3)), (15, (.aload_n 0, 1)), (16, (.iconst 0, 1)), (17, (.putfield 19, 3)), (20, (.aload_n 0, 1)), (21, (.iconst 4, 1)), (22, (.newarray .int, 2)), (24, (.putfield 22, 3)), (27, (.aload_n 0, 1)), (28, (.iconst 4, 1)), (29, (.newarray .int, 2)), (31, (.putfield 26, 3)), (34, (.aload_n 0, 1)), (35, (.iconst 5, 1)), (36, (.anewarray 29, 3)), (39, (.putfield 31, 3)), (42, (.aload_n 0, 1)), (43, (.new 29, 3)), (46, (.dup, 1)), (47, (.invokespecial 35, 3)), (50, (.putfield 36, 3)), (53, (.iconst 0, 1)), (54, (.istore_n 1, 1)), (55, (.iload_n 1, 1)), (56, (.iconst 4, 1)), (57, (.if_icmp .gt 22, 3)), (60, (.aload_n 0, 1)), (61, (.getfield 31, 3)), (64, (.iload_n 1, 1)), (65, (.new 29, 3)), (68, (.dup, 1)), (69, (.invokespecial 35, 3)), (72, (.aastore, 1)), (73, (.iinc 1 1, 3)), (76, (.goto (-21), 3)), (79, (.return_, 1))] : List (Nat × (Instr × Nat))), decode cX6_init q.1 = .ok q.2 := by decide +kernel
theorem dX6_init_0 : decode cX6_init 0 = .ok (.aload_n 0, 1) := dAX6_init (0, (.aload_n 0, 1)) (List.mem_of_getElem? (i := 0) rfl)
theorem dX6_init_1 : decode cX6_init 1 = .ok (.invokespecial 3, 3) := dAX6_init (1, (.invokespecial 3, 3)) (List.mem_of_getElem? (i := 1) rfl)
theorem dX6_init_4 : decode cX6_init 4 = .ok (.aload_n 0, 1) := dAX6_init (4, (.aload_n 0, 1)) (List.mem_of_getElem? (i := 2) rfl)
theorem dX6_init_5 : decode cX6_init 5 = .ok (.iconst 0, 1) := dAX6_init (5, (.iconst 0, 1)) (List.mem_of_getElem? (i := 3) rfl)
theorem dX6_init_6 : decode cX6_init 6 = .ok (.putfield 9, 3) := dAX6_init (6, (.putfield 9, 3)) (List.mem_of_getElem? (i := 4) rfl)
theorem dX6_init_9 : decode cX6_init 9 = .ok (.aload_n 0, 1) := dAX6_init (9, (.aload_n 0, 1)) (List.mem_of_getElem? (i := 5) rfl)
theorem dX6_init_10 : decode cX6_init 10 = .ok (.bipush 61, 2) := dAX6_init (10, (.bipush 61, 2)) (List.mem_of_getElem? (i := 6) rfl)
theorem dX6_init_12 : decode cX6_init 12 = .ok (.putfield 15, 3) := dAX6_init (12, (.putfield 15, 3)) (List.mem_of_getElem? (i := 7) rfl)
theorem dX6_init_15 : decode cX6_init 15 = .ok (.aload_n 0, 1) := dAX6_init (15, (.aload_n 0, 1)) (List.mem_of_getElem? (i := 8) rfl)
theorem dX6_init_16 : decode cX6_init 16 = .ok (.iconst 0, 1) := dAX6_init (16, (.iconst 0, 1)) (List.mem_of_getElem? (i := 9) rfl)
theorem dX6_init_17 : decode cX6_init 17 = .ok (.putfield 19, 3) := dAX6_init (17, (.putfield 19, 3)) (List.mem_of_getElem? (i := 10) rfl)
theorem dX6_init_20 : decode cX6_init 20 = .ok (.aload_n 0, 1) := dAX6_init (20, (.aload_n 0, 1)) (List.mem_of_getElem? (i := 11) rfl)
theorem dX6_init_21 : decode cX6_init 21 = .ok (.iconst 4, 1) := dAX6_init (21, (.iconst 4, 1)) (List.mem_of_getElem? (i := 12) rfl)
theorem dX6_init_22 : decode cX6_init 22 = .ok (.newarray .int, 2) := dAX6_init (22, (.newarray .int, 2)) (List.mem_of_getElem? (i := 13) rfl)
theorem dX6_init_24 : decode cX6_init 24 = .ok (.putfield 22, 3) := dAX6_init (24, (.putfield 22, 3)) (List.mem_of_getElem? (i := 14) rfl)
theorem dX6_init_27 : decode cX6_init 27 = .ok (.aload_n 0, 1) := dAX6_init (27, (.aload_n 0, 1)) (List.mem_of_getElem? (i := 15) rfl)
theorem dX6_init_28 : decode cX6_init 28 = .ok (.iconst 4, 1) := dAX6_init (28, (.iconst 4, 1)) (List.mem_of_getElem? (i := 16) rfl)
theorem dX6_init_29 : decode cX6_init 29 = .ok (.newarray .int, 2) := dAX6_init (29, (.newarray .int, 2)) (List.mem_of_getElem? (i := 17) rfl)
theorem dX6_init_31 : decode cX6_init 31 = .ok (.putfield 26, 3) := dAX6_init (31, (.putfield 26, 3)) (List.mem_of_getElem? (i := 18) rfl)
theorem dX6_init_34 : decode cX6_init 34 = .ok (.aload_n 0, 1) := dAX6_init (34, (.aload_n 0, 1)) (List.mem_of_getElem? (i := 19) rfl)
theorem dX6_init_35 : decode cX6_init 35 = .ok (.iconst 5, 1) := dAX6_init (35, (.iconst 5, 1)) (List.mem_of_getElem? (i := 20) rfl)
theorem dX6_init_36 : decode cX6_init 36 = .ok (.anewarray 29, 3) := dAX6_init (36, (.anewarray 29, 3)) (List.mem_of_getElem? (i := 21) rfl)
theorem dX6_init_39 : decode cX6_init 39 = .ok (.putfield 31, 3) := dAX6_init (39, (.putfield 31, 3)) (List.mem_of_getElem? (i := 22) rfl)
theorem dX6_init_42 : decode cX6_init 42 = .ok (.aload_n 0, 1) := dAX6_init (42, (.aload_n 0, 1)) (List.mem_of_getElem? (i := 23) rfl)
theorem dX6_init_43 : decode cX6_init 43 = .ok (.new 29, 3) := dAX6_init (43, (.new 29, 3)) (List.mem_of_getElem? (i := 24) rfl)
theorem dX6_init_46 : decode cX6_init 46 = .ok (.dup, 1) := dAX6_init (46, (.dup, 1)) (List.mem_of_getElem? (i := 25) rfl)
theorem dX6_init_47 : decode cX6_init 47 = .ok (.invokespecial 35, 3) := dAX6_init (47, (.invokespecial 35, 3)) (List.mem_of_getElem? (i := 26) rfl)
theorem dX6_init_50 : decode cX6_init 50 = .ok (.putfield 36, 3) := dAX6_init (50, (.putfield 36, 3)) (List.mem_of_getElem? (i := 27) rfl)
theorem dX6_init_53 : decode cX6_init 53 = .ok (.iconst 0, 1) := dAX6_init (53, (.iconst 0, 1)) (List.mem_of_getElem? (i := 28) rfl)
theorem dX6_init_54 : decode cX6_init 54 = .ok (.istore_n 1, 1) := dAX6_init (54, (.istore_n 1, 1)) (List.mem_of_getElem? (i := 29) rfl)
theorem dX6_init_55 : decode cX6_init 55 = .ok (.iload_n 1, 1) := dAX6_init (55, (.iload_n 1, 1)) (List.mem_of_getElem? (i := 30) rfl)
theorem dX6_init_56 : decode cX6_init 56 = .ok (.iconst 4, 1) := dAX6_init (56, (.iconst 4, 1)) (List.mem_of_getElem? (i := 31) rfl)
theorem dX6_init_57 : decode cX6_init 57 = .ok (.if_icmp .gt 22, 3) := dAX6_init (57, (.if_icmp .gt 22, 3)) (List.mem_of_getElem? (i := 32) rfl)
theorem dX6_init_60 : decode cX6_init 60 = .ok (.aload_n 0, 1) := dAX6_init (60, (.aload_n 0, 1)) (List.mem_of_getElem? (i := 33) rfl)
theorem dX6_init_61 : decode cX6_init 61 = .ok (.getfield 31, 3) := dAX6_init (61, (.getfield 31, 3)) (List.mem_of_getElem? (i := 34) rfl)
theorem dX6_init_64 : decode cX6_init 64 = .ok (.iload_n 1, 1) := dAX6_init (64, (.iload_n 1, 1)) (List.mem_of_getElem? (i := 35) rfl)
theorem dX6_init_65 : decode cX6_init 65 = .ok (.new 29, 3) := dAX6_init (65, (.new 29, 3)) (List.mem_of_getElem? (i := 36) rfl)
theorem dX6_init_68 : decode cX6_init 68 = .ok (.dup, 1) := dAX6_init (68, (.dup, 1)) (List.mem_of_getElem? (i := 37) rfl)
theorem dX6_init_69 : decode cX6_init 69 = .ok (.invokespecial 35, 3) := dAX6_init (69, (.invokespecial 35, 3)) (List.mem_of_getElem? (i := 38) rfl)
theorem dX6_init_72 : decode cX6_init 72 = .ok (.aastore, 1) := dAX6_init (72, (.aastore, 1)) (List.mem_of_getElem? (i := 39) rfl)
theorem dX6_init_73 : decode cX6_init 73 = .ok (.iinc 1 1, 3) := dAX6_init (73, (.iinc 1 1, 3)) (List.mem_of_getElem? (i := 40) rfl)
theorem dX6_init_76 : decode cX6_init 76 = .ok (.goto (-21), 3) := dAX6_init (76, (.goto (-21), 3)) (List.mem_of_getElem? (i := 41) rfl)
theorem dX6_init_79 : decode cX6_init 79 = .ok (.return_, 1) := dAX6_init (79, (.return_, 1)) (List.mem_of_getElem? (i := 42) rfl)
set_option maxRecDepth 20000 in
theorem ggX6_init_X2_init : GoodIn wsX6_init wsX2_init := goodIn_r _ [16, 17, 2, 3, 18, 19, 20, 21, 22, 23, 7, 24, 25, 26, 34, 35, 36, 37, 38, 39, 40, 41, 42] rfl (by decide +kernel)
set_option maxRecDepth 20000 in
theorem gX6_init_X2_init_n35 : GoodIn wsX6_init (wsX2_init) := ggX6_init_X2_init
abbrev BX6 (g : GG) (a : Nat) (u : (Nat → Nat) × (Nat → Nat) × (Nat → Nat → Nat) × (Nat → Nat)) : va_W := [oX6 a u.1 (upd zR 1 (61 : Int32)), aI g (u.1 3) 4 zR, aI g (u.1 4) 4 zR, aN g (u.1 5) 5 u.2.1, oX2 (u.2.1 0) (u.2.2.1 0) zR, aI g ((u.2.2.1 0) 6) 7 zR, aI g ((u.2.2.1 0) 7) 7 zR, aI g ((u.2.2.1 0) 8) 7 zR, oX2 (u.2.1 1) (u.2.2.1 1) zR, aI g ((u.2.2.1 1) 6) 7 zR, aI g ((u.2.2.1 1) 7) 7 zR, aI g ((u.2.2.1 1) 8) 7 zR, oX2 (u.2.1 2) (u.2.2.1 2) zR, aI g ((u.2.2.1 2) 6) 7 zR, aI g ((u.2.2.1 2) 7) 7 zR, aI g ((u.2.2.1 2) 8) 7 zR, oX2 (u.2.1 3) (u.2.2.1 3) zR, aI g ((u.2.2.1 3) 6) 7 zR, aI g ((u.2.2.1 3) 7) 7 zR, aI g ((u.2.2.1 3) 8) 7 zR, oX2 (u.2.1 4) (u.2.2.1 4) zR, aI g ((u.2.2.1 4) 6) 7 zR, aI g ((u.2.2.1 4) 7) 7 zR, aI g ((u.2.2.1 4) 8) 7 zR, oX2 (u.1 6) u.2.2.2 zR, aI g (u.2.2.2 6) 7 zR, aI g (u.2.2.2 7) 7 zR, aI g (u.2.2.2 8) 7 zR]
theorem kX6_init_o1 : Cond.methodLink RX6 3 objectInit ∈ wsX6_init := List.mem_of_getElem? (i := 1) rfl
theorem kX6_init_o2 : Cond.instanceMethod objectInit ∈ wsX6_init := List.mem_of_getElem? (i := 2) rfl
theorem kX6_init_o3 : Cond.code objectInit ⟨#[0xb1]⟩ 1 none ∈ wsX6_init := List.mem_of_getElem? (i := 3) rfl
theorem kX6_init_9 : Cond.fieldLink RX6 9 "EveningVow$TaleRows" "known" "Z" ∈ wsX6_init := List.mem_of_getElem? (i := 4) rfl
theorem iX6_init_X6 : ∀ w ∈ u_ws RX6 TX6 7, w ∈ wsX6_init := fun w h => (List.mem_cons_of_mem _ (List.mem_append_left _ (List.mem_append_right _ h)))
theorem kX6_init_15 : Cond.fieldLink RX6 15 "EveningVow$TaleRows" "bestHours" "I" ∈ wsX6_init := List.mem_of_getElem? (i := 5) rfl
theorem kX6_init_19 : Cond.fieldLink RX6 19 "EveningVow$TaleRows" "bestLength" "I" ∈ wsX6_init := List.mem_of_getElem? (i := 6) rfl
theorem kX6_init_ac_int : Cond.arrayClass .int ∈ wsX6_init := List.mem_of_getElem? (i := 7) rfl
theorem kX6_init_22 : Cond.fieldLink RX6 22 "EveningVow$TaleRows" "bestRow" "[I" ∈ wsX6_init := List.mem_of_getElem? (i := 8) rfl
theorem kX6_init_26 : Cond.fieldLink RX6 26 "EveningVow$TaleRows" "row" "[I" ∈ wsX6_init := List.mem_of_getElem? (i := 9) rfl
theorem kX6_init_cl_29 : Cond.classLink RX6 29 RX2 ∈ wsX6_init := List.mem_of_getElem? (i := 10) rfl
theorem kX6_init_31 : Cond.fieldLink RX6 31 "EveningVow$TaleRows" "nights" "[LEveningVow$Night;" ∈ wsX6_init := List.mem_of_getElem? (i := 11) rfl
theorem kX6_init_in_X2 : Cond.instantiable RX2 9 ∈ wsX6_init := List.mem_of_getElem? (i := 12) rfl
theorem kX6_init_ii_X2 : Cond.initialized RX2 ∈ wsX6_init := List.mem_of_getElem? (i := 13) rfl
theorem iX6_init_X2 : ∀ w ∈ u_ws RX2 TX2 9, w ∈ wsX6_init := fun w h => (List.mem_cons_of_mem _ (List.mem_append_right _ h))
theorem kX6_init_im_X2 : Cond.instanceMethod yX2_init ∈ wsX6_init := List.mem_of_getElem? (i := 15) rfl
theorem kX6_init_36 : Cond.fieldLink RX6 36 "EveningVow$TaleRows" "trial" "LEveningVow$Night;" ∈ wsX6_init := List.mem_of_getElem? (i := 14) rfl
set_option maxHeartbeats 8000000 in
set_option maxRecDepth 100000 in
theorem mX6_init (l : Launch) (g : GG) (a_t : Nat) : MC l g yX6_init wsX6_init ({ frames := 2, cells := 27, slots := 193, locals := 32 } : Room) 27 193 [.ref a_t] [(a_t, .inr (6, [.int 0, .int 0, .int 0, .null, .null, .null, .null]))] (BX6 g a_t) := by
  refine MC.of (cc := cX6_init) (maxL := 2) (own := RX6) rfl rfl rfl (by decide) (Nat.le_of_ble_eq_true rfl) ?_
  intro p e s m args below meth c A C0 hin hP hD hS ls hl
  obtain ⟨hx, hb, hml, hown, hts, hr, hlk, hK, hA, hSW⟩ := id C0
  have hl : lv_has ls 2 [(0, .ref a_t)] := hl
  refine lv_aload_n hx hb dX6_init_0 rfl (lv_at hl 0 rfl) ?_
  refine W.objInit hx hb hown (hts _ kX6_init_o1) (hts _ kX6_init_o2) (hts _ kX6_init_o3) rfl (by rw [hml]; exact hl.1) rfl dX6_init_1 (Nat.le_of_ble_eq_true rfl) (Nat.le_of_ble_eq_true rfl) ?_
  refine W.eq (g2 := F0 m 4 ls []) rfl ?_
  refine lv_aload_n hx hb dX6_init_4 rfl (lv_at hl 0 rfl) ?_
  refine lv_iconst (v := (0 : Int32)) hx hb dX6_init_5 (by decide) ?_
  refine va_put (D := g.1) (ci := 6) (v := .int (0 : Int32)) (ty := .boolean) (C := RX6) (T := TX6) (N := 7) hx hb hts iX6_init_X6 tyX6 tyX6_ok nmX6 hown hK.1 hP hD hS 0 rfl rfl 0 (by decide) (hts _ kX6_init_9) (fun _ h9 => h9) rfl (by decide +kernel) rfl rfl (Nat.le_of_ble_eq_true rfl) dX6_init_6 (fun H locs hP hD hS => ?_)
  have hP : va_P g.1 vwCl [(a_t, .inr (6, [.int (0 : Int32), .int 0, .int 0, .null, .null, .null, .null]))] H := hP
  have hD : va_D A [(a_t, .inr (6, [.int (0 : Int32), .int 0, .int 0, .null, .null, .null, .null]))] := hD
  refine lv_aload_n hx hb dX6_init_9 rfl (lv_at hl 0 rfl) ?_
  refine lv_bipush (v := (61 : Int32)) hx hb dX6_init_10 (by decide) ?_
  refine va_put (D := g.1) (ci := 6) (v := .int (61 : Int32)) (ty := .int) (C := RX6) (T := TX6) (N := 7) hx hb hts iX6_init_X6 tyX6 tyX6_ok nmX6 hown hK.1 hP hD hS 0 rfl rfl 1 (by decide) (hts _ kX6_init_15) (fun _ h9 => h9) rfl (by decide +kernel) rfl rfl (Nat.le_of_ble_eq_true rfl) dX6_init_12 (fun H locs hP hD hS => ?_)
  have hP : va_P g.1 vwCl [(a_t, .inr (6, [.int (0 : Int32), .int (61 : Int32), .int 0, .null, .null, .null, .null]))] H := hP
  have hD : va_D A [(a_t, .inr (6, [.int (0 : Int32), .int (61 : Int32), .int 0, .null, .null, .null, .null]))] := hD
  refine lv_aload_n hx hb dX6_init_15 rfl (lv_at hl 0 rfl) ?_
  refine lv_iconst (v := (0 : Int32)) hx hb dX6_init_16 (by decide) ?_
  refine va_put (D := g.1) (ci := 6) (v := .int (0 : Int32)) (ty := .int) (C := RX6) (T := TX6) (N := 7) hx hb hts iX6_init_X6 tyX6 tyX6_ok nmX6 hown hK.1 hP hD hS 0 rfl rfl 2 (by decide) (hts _ kX6_init_19) (fun _ h9 => h9) rfl (by decide +kernel) rfl rfl (Nat.le_of_ble_eq_true rfl) dX6_init_17 (fun H locs hP hD hS => ?_)
  have hP : va_P g.1 vwCl [(a_t, .inr (6, [.int (0 : Int32), .int (61 : Int32), .int (0 : Int32), .null, .null, .null, .null]))] H := hP
  have hD : va_D A [(a_t, .inr (6, [.int (0 : Int32), .int (61 : Int32), .int (0 : Int32), .null, .null, .null, .null]))] := hD
  refine lv_aload_n hx hb dX6_init_20 rfl (lv_at hl 0 rfl) ?_
  refine lv_iconst (v := (4 : Int32)) hx hb dX6_init_21 (by decide) ?_
  refine newI C0 kX6_init_ac_int hP hD hS (n := (4 : Int32)) (N := 4) (by decide) (by decide) (by decide) (Nat.le_of_ble_eq_true rfl) (Nat.le_of_ble_eq_true rfl) dX6_init_22 (fun q_1 H hP hD hS => ?_)
  have hP : va_P g.1 vwCl [(a_t, .inr (6, [.int (0 : Int32), .int (61 : Int32), .int (0 : Int32), .null, .null, .null, .null])), aI g q_1 4 zR] H := hP
  have hD : va_D A [(a_t, .inr (6, [.int (0 : Int32), .int (61 : Int32), .int (0 : Int32), .null, .null, .null, .null])), aI g q_1 4 zR] := hD
  refine W.widen (k := 1) (n := 4) (Nat.le_of_ble_eq_true rfl) (Nat.le_of_ble_eq_true rfl) ?_
  refine va_putF (D := g.1) (ci := 6) (v := .ref q_1) (ty := .array .int) (C := RX6) (T := TX6) (N := 7) hx hb hts iX6_init_X6 tyX6 tyX6_ok nmX6 hown hK.1 hP hD hS 0 rfl rfl 3 (by decide) (hts _ kX6_init_22) (fun _ h9 => h9) rfl hin rfl (by decide +kernel) rfl rfl (Nat.le_of_ble_eq_true rfl) dX6_init_24 (fun H locs hP hD hS => ?_)
  have hP : va_P g.1 vwCl [(a_t, .inr (6, [.int (0 : Int32), .int (61 : Int32), .int (0 : Int32), .ref q_1, .null, .null, .null])), aI g q_1 4 zR] H := hP
  have hD : va_D A [(a_t, .inr (6, [.int (0 : Int32), .int (61 : Int32), .int (0 : Int32), .ref q_1, .null, .null, .null])), aI g q_1 4 zR] := hD
  refine lv_aload_n hx hb dX6_init_27 rfl (lv_at hl 0 rfl) ?_
  refine lv_iconst (v := (4 : Int32)) hx hb dX6_init_28 (by decide) ?_
  refine newI C0 kX6_init_ac_int hP hD hS (n := (4 : Int32)) (N := 4) (by decide) (by decide) (by decide) (Nat.le_of_ble_eq_true rfl) (Nat.le_of_ble_eq_true rfl) dX6_init_29 (fun q_2 H hP hD hS => ?_)
  have hP : va_P g.1 vwCl [(a_t, .inr (6, [.int (0 : Int32), .int (61 : Int32), .int (0 : Int32), .ref q_1, .null, .null, .null])), aI g q_1 4 zR, aI g q_2 4 zR] H := hP
  have hD : va_D A [(a_t, .inr (6, [.int (0 : Int32), .int (61 : Int32), .int (0 : Int32), .ref q_1, .null, .null, .null])), aI g q_1 4 zR, aI g q_2 4 zR] := hD
  refine W.widen (k := 2) (n := 8) (Nat.le_of_ble_eq_true rfl) (Nat.le_of_ble_eq_true rfl) ?_
  refine va_putF (D := g.1) (ci := 6) (v := .ref q_2) (ty := .array .int) (C := RX6) (T := TX6) (N := 7) hx hb hts iX6_init_X6 tyX6 tyX6_ok nmX6 hown hK.1 hP hD hS 0 rfl rfl 4 (by decide) (hts _ kX6_init_26) (fun _ h9 => h9) rfl hin rfl (by decide +kernel) rfl rfl (Nat.le_of_ble_eq_true rfl) dX6_init_31 (fun H locs hP hD hS => ?_)
  have hP : va_P g.1 vwCl [(a_t, .inr (6, [.int (0 : Int32), .int (61 : Int32), .int (0 : Int32), .ref q_1, .ref q_2, .null, .null])), aI g q_1 4 zR, aI g q_2 4 zR] H := hP
  have hD : va_D A [(a_t, .inr (6, [.int (0 : Int32), .int (61 : Int32), .int (0 : Int32), .ref q_1, .ref q_2, .null, .null])), aI g q_1 4 zR, aI g q_2 4 zR] := hD
  refine lv_aload_n hx hb dX6_init_34 rfl (lv_at hl 0 rfl) ?_
  refine lv_iconst (v := (5 : Int32)) hx hb dX6_init_35 (by decide) ?_
  refine newN C0 (hts _ kX6_init_cl_29) hP hD hS (n := (5 : Int32)) (N := 5) (by decide) (by decide) (by decide) (Nat.le_of_ble_eq_true rfl) (Nat.le_of_ble_eq_true rfl) dX6_init_36 (fun q_3 H hP hD hS => ?_)
  have hP : va_P g.1 vwCl [(a_t, .inr (6, [.int (0 : Int32), .int (61 : Int32), .int (0 : Int32), .ref q_1, .ref q_2, .null, .null])), aI g q_1 4 zR, aI g q_2 4 zR, zN g q_3 5 (fun _ => none)] H := hP
  have hD : va_D A [(a_t, .inr (6, [.int (0 : Int32), .int (61 : Int32), .int (0 : Int32), .ref q_1, .ref q_2, .null, .null])), aI g q_1 4 zR, aI g q_2 4 zR, zN g q_3 5 (fun _ => none)] := hD
  refine W.widen (k := 3) (n := 13) (Nat.le_of_ble_eq_true rfl) (Nat.le_of_ble_eq_true rfl) ?_
  refine va_putF (D := g.1) (ci := 6) (v := .ref q_3) (ty := .array (.object "EveningVow$Night")) (C := RX6) (T := TX6) (N := 7) hx hb hts iX6_init_X6 tyX6 tyX6_ok nmX6 hown hK.1 hP hD hS 0 rfl rfl 5 (by decide) (hts _ kX6_init_31) (fun _ h9 => h9) rfl hin rfl (by decide +kernel) rfl rfl (Nat.le_of_ble_eq_true rfl) dX6_init_39 (fun H locs hP hD hS => ?_)
  have hP : va_P g.1 vwCl [(a_t, .inr (6, [.int (0 : Int32), .int (61 : Int32), .int (0 : Int32), .ref q_1, .ref q_2, .ref q_3, .null])), aI g q_1 4 zR, aI g q_2 4 zR, zN g q_3 5 (fun _ => none)] H := hP
  have hD : va_D A [(a_t, .inr (6, [.int (0 : Int32), .int (61 : Int32), .int (0 : Int32), .ref q_1, .ref q_2, .ref q_3, .null])), aI g q_1 4 zR, aI g q_2 4 zR, zN g q_3 5 (fun _ => none)] := hD
  refine lv_aload_n hx hb dX6_init_42 rfl (lv_at hl 0 rfl) ?_
  refine va_new (ci := 2) (fs := [.int 0, .int 0, .int 0, .int 0, .int 0, .int 0, .null, .null, .null]) (C := RX2) (T := TX2) (N := 9) hx hb hts iX6_init_X2 tyX2 tyX2_ok hown (hts _ kX6_init_cl_29) (hts _ kX6_init_in_X2) (hts _ kX6_init_ii_X2) hK.1 hP hD hS hA rfl dvX2 (Nat.le_of_ble_eq_true rfl) (Nat.le_of_ble_eq_true rfl) dX6_init_43 (fun q_4 H hP hD hS => ?_)
  refine W.widen (k := 4) (n := 22) (Nat.le_of_ble_eq_true rfl) (Nat.le_of_ble_eq_true rfl) ?_
  refine lv_dup hx hb dX6_init_46 rfl ?_
  refine call_cN (W0 := [(a_t, .inr (6, [.int (0 : Int32), .int (61 : Int32), .int (0 : Int32), .ref q_1, .ref q_2, .ref q_3, .null])), aI g q_1 4 zR, aI g q_2 4 zR, zN g q_3 5 (fun _ => none)]) (As := []) (rest := [.ref q_4, .ref a_t]) C0 (mX2_init l g q_4) ⟨va_cnB 0 hts gX6_init_X2_init_n35 rfl rfl rfl (hK.2.1.1 (RX6, 35, yX2_init, RX9) (List.mem_of_getElem? (i := 9) rfl)) (hts _ kX6_init_ii_X2) (by decide +kernel) ⟨Nat.le_of_ble_eq_true rfl, Nat.le_of_ble_eq_true rfl⟩, rfl, hts _ kX6_init_im_X2⟩ hP hD hS hl.1 rfl rfl (Nat.le_of_ble_eq_true rfl) ⟨Nat.le_of_ble_eq_true rfl, Nat.le_of_ble_eq_true rfl⟩ dX6_init_47 ?_
  intro v_5 H locs hP hD hS
  have hP : va_P g.1 vwCl [(a_t, .inr (6, [.int (0 : Int32), .int (61 : Int32), .int (0 : Int32), .ref q_1, .ref q_2, .ref q_3, .null])), aI g q_1 4 zR, aI g q_2 4 zR, zN g q_3 5 (fun _ => none), oX2 q_4 v_5 zR, aI g (v_5 6) 7 zR, aI g (v_5 7) 7 zR, aI g (v_5 8) 7 zR] H := hP
  have hD : va_D A [(a_t, .inr (6, [.int (0 : Int32), .int (61 : Int32), .int (0 : Int32), .ref q_1, .ref q_2, .ref q_3, .null])), aI g q_1 4 zR, aI g q_2 4 zR, zN g q_3 5 (fun _ => none), oX2 q_4 v_5 zR, aI g (v_5 6) 7 zR, aI g (v_5 7) 7 zR, aI g (v_5 8) 7 zR] := hD
  refine W.widen (k := 7) (n := 43) (Nat.le_of_ble_eq_true rfl) (Nat.le_of_ble_eq_true rfl) ?_
  refine va_putF (D := g.1) (ci := 6) (v := .ref q_4) (ty := .object "EveningVow$Night") (C := RX6) (T := TX6) (N := 7) hx hb hts iX6_init_X6 tyX6 tyX6_ok nmX6 hown hK.1 hP hD hS 0 rfl rfl 6 (by decide) (hts _ kX6_init_36) (fun _ h9 => h9) rfl hin rfl (by decide +kernel) rfl rfl (Nat.le_of_ble_eq_true rfl) dX6_init_50 (fun H locs hP hD hS => ?_)
  have hP : va_P g.1 vwCl [(a_t, .inr (6, [.int (0 : Int32), .int (61 : Int32), .int (0 : Int32), .ref q_1, .ref q_2, .ref q_3, .ref q_4])), aI g q_1 4 zR, aI g q_2 4 zR, zN g q_3 5 (fun _ => none), oX2 q_4 v_5 zR, aI g (v_5 6) 7 zR, aI g (v_5 7) 7 zR, aI g (v_5 8) 7 zR] H := hP
  have hD : va_D A [(a_t, .inr (6, [.int (0 : Int32), .int (61 : Int32), .int (0 : Int32), .ref q_1, .ref q_2, .ref q_3, .ref q_4])), aI g q_1 4 zR, aI g q_2 4 zR, zN g q_3 5 (fun _ => none), oX2 q_4 v_5 zR, aI g (v_5 6) 7 zR, aI g (v_5 7) 7 zR, aI g (v_5 8) 7 zR] := hD
  refine lv_iconst (v := (0 : Int32)) hx hb dX6_init_53 (by decide) ?_
  refine lv_istore_n (lv' := [(1, .int (0 : Int32)), (0, .ref a_t)]) hx hb dX6_init_54 rfl hl (by decide) rfl (fun ls hl => ?_)
  refine lv_iload_n hx hb dX6_init_55 rfl (lv_at hl 0 rfl) ?_
  refine lv_iconst (v := (4 : Int32)) hx hb dX6_init_56 (by decide) ?_
  refine lv_icmp_gt (tgt := 79) hx hb dX6_init_57 (by decide) (fun c_6 => absurd c_6 (by decide)) (fun c_6 => ?_)
  refine lv_aload_n hx hb dX6_init_60 rfl (lv_at hl 1 rfl) ?_
  refine va_get (D := g.1) (ci := 6) (v := .ref q_3) (C := RX6) (T := TX6) (N := 7) hx hb hts iX6_init_X6 hown hK.1 hP 0 rfl rfl 5 (by decide) (hts _ kX6_init_31) (fun _ h9 => h9) rfl dX6_init_61 ?_
  refine lv_iload_n hx hb dX6_init_64 rfl (lv_at hl 0 rfl) ?_
  refine va_new (ci := 2) (fs := [.int 0, .int 0, .int 0, .int 0, .int 0, .int 0, .null, .null, .null]) (C := RX2) (T := TX2) (N := 9) hx hb hts iX6_init_X2 tyX2 tyX2_ok hown (hts _ kX6_init_cl_29) (hts _ kX6_init_in_X2) (hts _ kX6_init_ii_X2) hK.1 hP hD hS hA rfl dvX2 (Nat.le_of_ble_eq_true rfl) (Nat.le_of_ble_eq_true rfl) dX6_init_65 (fun q_7 H hP hD hS => ?_)
  refine W.widen (k := 8) (n := 52) (Nat.le_of_ble_eq_true rfl) (Nat.le_of_ble_eq_true rfl) ?_
  refine lv_dup hx hb dX6_init_68 rfl ?_
  refine call_cN (W0 := [(a_t, .inr (6, [.int (0 : Int32), .int (61 : Int32), .int (0 : Int32), .ref q_1, .ref q_2, .ref q_3, .ref q_4])), aI g q_1 4 zR, aI g q_2 4 zR, zN g q_3 5 (fun _ => none), oX2 q_4 v_5 zR, aI g (v_5 6) 7 zR, aI g (v_5 7) 7 zR, aI g (v_5 8) 7 zR]) (As := []) (rest := [.ref q_7, .int (0 : Int32), .ref q_3]) C0 (mX2_init l g q_7) ⟨va_cnB 0 hts gX6_init_X2_init_n35 rfl rfl rfl (hK.2.1.1 (RX6, 35, yX2_init, RX9) (List.mem_of_getElem? (i := 9) rfl)) (hts _ kX6_init_ii_X2) (by decide +kernel) ⟨Nat.le_of_ble_eq_true rfl, Nat.le_of_ble_eq_true rfl⟩, rfl, hts _ kX6_init_im_X2⟩ hP hD hS hl.1 rfl rfl (Nat.le_of_ble_eq_true rfl) ⟨Nat.le_of_ble_eq_true rfl, Nat.le_of_ble_eq_true rfl⟩ dX6_init_69 ?_
  intro v_8 H locs hP hD hS
  have hP : va_P g.1 vwCl [(a_t, .inr (6, [.int (0 : Int32), .int (61 : Int32), .int (0 : Int32), .ref q_1, .ref q_2, .ref q_3, .ref q_4])), aI g q_1 4 zR, aI g q_2 4 zR, zN g q_3 5 (fun _ => none), oX2 q_4 v_5 zR, aI g (v_5 6) 7 zR, aI g (v_5 7) 7 zR, aI g (v_5 8) 7 zR, oX2 q_7 v_8 zR, aI g (v_8 6) 7 zR, aI g (v_8 7) 7 zR, aI g (v_8 8) 7 zR] H := hP
  have hD : va_D A [(a_t, .inr (6, [.int (0 : Int32), .int (61 : Int32), .int (0 : Int32), .ref q_1, .ref q_2, .ref q_3, .ref q_4])), aI g q_1 4 zR, aI g q_2 4 zR, zN g q_3 5 (fun _ => none), oX2 q_4 v_5 zR, aI g (v_5 6) 7 zR, aI g (v_5 7) 7 zR, aI g (v_5 8) 7 zR, oX2 q_7 v_8 zR, aI g (v_8 6) 7 zR, aI g (v_8 7) 7 zR, aI g (v_8 8) 7 zR] := hD
  refine W.widen (k := 11) (n := 73) (Nat.le_of_ble_eq_true rfl) (Nat.le_of_ble_eq_true rfl) ?_
  refine va_astq (r := (RX2, TX2, 9)) hx hb hK.1 hP hD hS 3 2 8 2 rfl rfl rfl rfl (i := (0 : Int32)) (by unfold vp_in; decide) dX6_init_72 (fun H locs hP hD hS => ?_)
  have hP : va_P g.1 vwCl [(a_t, .inr (6, [.int (0 : Int32), .int (61 : Int32), .int (0 : Int32), .ref q_1, .ref q_2, .ref q_3, .ref q_4])), aI g q_1 4 zR, aI g q_2 4 zR, zN g q_3 5 (va_up (fun _ => none) 0 (some q_7)), oX2 q_4 v_5 zR, aI g (v_5 6) 7 zR, aI g (v_5 7) 7 zR, aI g (v_5 8) 7 zR, oX2 q_7 v_8 zR, aI g (v_8 6) 7 zR, aI g (v_8 7) 7 zR, aI g (v_8 8) 7 zR] H := hP
  have hD : va_D A [(a_t, .inr (6, [.int (0 : Int32), .int (61 : Int32), .int (0 : Int32), .ref q_1, .ref q_2, .ref q_3, .ref q_4])), aI g q_1 4 zR, aI g q_2 4 zR, zN g q_3 5 (va_up (fun _ => none) 0 (some q_7)), oX2 q_4 v_5 zR, aI g (v_5 6) 7 zR, aI g (v_5 7) 7 zR, aI g (v_5 8) 7 zR, oX2 q_7 v_8 zR, aI g (v_8 6) 7 zR, aI g (v_8 7) 7 zR, aI g (v_8 8) 7 zR] := hD
  refine lv_iinc (v := (1 : Int32)) (lv' := [(1, .int (1 : Int32)), (0, .ref a_t)]) hx hb dX6_init_73 hl (k := 0) rfl (by decide) (by decide) rfl (fun ls hl => ?_)
  refine lv_goto (tgt := 55) hx hb dX6_init_76 (by decide) ?_
  refine lv_iload_n hx hb dX6_init_55 rfl (lv_at hl 0 rfl) ?_
  refine lv_iconst (v := (4 : Int32)) hx hb dX6_init_56 (by decide) ?_
  refine lv_icmp_gt (tgt := 79) hx hb dX6_init_57 (by decide) (fun c_9 => absurd c_9 (by decide)) (fun c_9 => ?_)
  refine lv_aload_n hx hb dX6_init_60 rfl (lv_at hl 1 rfl) ?_
  refine va_get (D := g.1) (ci := 6) (v := .ref q_3) (C := RX6) (T := TX6) (N := 7) hx hb hts iX6_init_X6 hown hK.1 hP 0 rfl rfl 5 (by decide) (hts _ kX6_init_31) (fun _ h9 => h9) rfl dX6_init_61 ?_
  refine lv_iload_n hx hb dX6_init_64 rfl (lv_at hl 0 rfl) ?_
  refine va_new (ci := 2) (fs := [.int 0, .int 0, .int 0, .int 0, .int 0, .int 0, .null, .null, .null]) (C := RX2) (T := TX2) (N := 9) hx hb hts iX6_init_X2 tyX2 tyX2_ok hown (hts _ kX6_init_cl_29) (hts _ kX6_init_in_X2) (hts _ kX6_init_ii_X2) hK.1 hP hD hS hA rfl dvX2 (Nat.le_of_ble_eq_true rfl) (Nat.le_of_ble_eq_true rfl) dX6_init_65 (fun q_10 H hP hD hS => ?_)
  refine W.widen (k := 12) (n := 82) (Nat.le_of_ble_eq_true rfl) (Nat.le_of_ble_eq_true rfl) ?_
  refine lv_dup hx hb dX6_init_68 rfl ?_
  refine call_cN (W0 := [(a_t, .inr (6, [.int (0 : Int32), .int (61 : Int32), .int (0 : Int32), .ref q_1, .ref q_2, .ref q_3, .ref q_4])), aI g q_1 4 zR, aI g q_2 4 zR, zN g q_3 5 (va_up (fun _ => none) 0 (some q_7)), oX2 q_4 v_5 zR, aI g (v_5 6) 7 zR, aI g (v_5 7) 7 zR, aI g (v_5 8) 7 zR, oX2 q_7 v_8 zR, aI g (v_8 6) 7 zR, aI g (v_8 7) 7 zR, aI g (v_8 8) 7 zR]) (As := []) (rest := [.ref q_10, .int (1 : Int32), .ref q_3]) C0 (mX2_init l g q_10) ⟨va_cnB 0 hts gX6_init_X2_init_n35 rfl rfl rfl (hK.2.1.1 (RX6, 35, yX2_init, RX9) (List.mem_of_getElem? (i := 9) rfl)) (hts _ kX6_init_ii_X2) (by decide +kernel) ⟨Nat.le_of_ble_eq_true rfl, Nat.le_of_ble_eq_true rfl⟩, rfl, hts _ kX6_init_im_X2⟩ hP hD hS hl.1 rfl rfl (Nat.le_of_ble_eq_true rfl) ⟨Nat.le_of_ble_eq_true rfl, Nat.le_of_ble_eq_true rfl⟩ dX6_init_69 ?_
  intro v_11 H locs hP hD hS
  have hP : va_P g.1 vwCl [(a_t, .inr (6, [.int (0 : Int32), .int (61 : Int32), .int (0 : Int32), .ref q_1, .ref q_2, .ref q_3, .ref q_4])), aI g q_1 4 zR, aI g q_2 4 zR, zN g q_3 5 (va_up (fun _ => none) 0 (some q_7)), oX2 q_4 v_5 zR, aI g (v_5 6) 7 zR, aI g (v_5 7) 7 zR, aI g (v_5 8) 7 zR, oX2 q_7 v_8 zR, aI g (v_8 6) 7 zR, aI g (v_8 7) 7 zR, aI g (v_8 8) 7 zR, oX2 q_10 v_11 zR, aI g (v_11 6) 7 zR, aI g (v_11 7) 7 zR, aI g (v_11 8) 7 zR] H := hP
  have hD : va_D A [(a_t, .inr (6, [.int (0 : Int32), .int (61 : Int32), .int (0 : Int32), .ref q_1, .ref q_2, .ref q_3, .ref q_4])), aI g q_1 4 zR, aI g q_2 4 zR, zN g q_3 5 (va_up (fun _ => none) 0 (some q_7)), oX2 q_4 v_5 zR, aI g (v_5 6) 7 zR, aI g (v_5 7) 7 zR, aI g (v_5 8) 7 zR, oX2 q_7 v_8 zR, aI g (v_8 6) 7 zR, aI g (v_8 7) 7 zR, aI g (v_8 8) 7 zR, oX2 q_10 v_11 zR, aI g (v_11 6) 7 zR, aI g (v_11 7) 7 zR, aI g (v_11 8) 7 zR] := hD
  refine W.widen (k := 15) (n := 103) (Nat.le_of_ble_eq_true rfl) (Nat.le_of_ble_eq_true rfl) ?_
  refine va_astq (r := (RX2, TX2, 9)) hx hb hK.1 hP hD hS 3 2 12 2 rfl rfl rfl rfl (i := (1 : Int32)) (by unfold vp_in; decide) dX6_init_72 (fun H locs hP hD hS => ?_)
  have hP : va_P g.1 vwCl [(a_t, .inr (6, [.int (0 : Int32), .int (61 : Int32), .int (0 : Int32), .ref q_1, .ref q_2, .ref q_3, .ref q_4])), aI g q_1 4 zR, aI g q_2 4 zR, zN g q_3 5 (va_up (va_up (fun _ => none) 0 (some q_7)) 1 (some q_10)), oX2 q_4 v_5 zR, aI g (v_5 6) 7 zR, aI g (v_5 7) 7 zR, aI g (v_5 8) 7 zR, oX2 q_7 v_8 zR, aI g (v_8 6) 7 zR, aI g (v_8 7) 7 zR, aI g (v_8 8) 7 zR, oX2 q_10 v_11 zR, aI g (v_11 6) 7 zR, aI g (v_11 7) 7 zR, aI g (v_11 8) 7 zR] H := hP
  have hD : va_D A [(a_t, .inr (6, [.int (0 : Int32), .int (61 : Int32), .int (0 : Int32), .ref q_1, .ref q_2, .ref q_3, .ref q_4])), aI g q_1 4 zR, aI g q_2 4 zR, zN g q_3 5 (va_up (va_up (fun _ => none) 0 (some q_7)) 1 (some q_10)), oX2 q_4 v_5 zR, aI g (v_5 6) 7 zR, aI g (v_5 7) 7 zR, aI g (v_5 8) 7 zR, oX2 q_7 v_8 zR, aI g (v_8 6) 7 zR, aI g (v_8 7) 7 zR, aI g (v_8 8) 7 zR, oX2 q_10 v_11 zR, aI g (v_11 6) 7 zR, aI g (v_11 7) 7 zR, aI g (v_11 8) 7 zR] := hD
  refine lv_iinc (v := (2 : Int32)) (lv' := [(1, .int (2 : Int32)), (0, .ref a_t)]) hx hb dX6_init_73 hl (k := 0) rfl (by decide) (by decide) rfl (fun ls hl => ?_)
  refine lv_goto (tgt := 55) hx hb dX6_init_76 (by decide) ?_
  refine lv_iload_n hx hb dX6_init_55 rfl (lv_at hl 0 rfl) ?_
  refine lv_iconst (v := (4 : Int32)) hx hb dX6_init_56 (by decide) ?_
  refine lv_icmp_gt (tgt := 79) hx hb dX6_init_57 (by decide) (fun c_12 => absurd c_12 (by decide)) (fun c_12 => ?_)
  refine lv_aload_n hx hb dX6_init_60 rfl (lv_at hl 1 rfl) ?_
  refine va_get (D := g.1) (ci := 6) (v := .ref q_3) (C := RX6) (T := TX6) (N := 7) hx hb hts iX6_init_X6 hown hK.1 hP 0 rfl rfl 5 (by decide) (hts _ kX6_init_31) (fun _ h9 => h9) rfl dX6_init_61 ?_
  refine lv_iload_n hx hb dX6_init_64 rfl (lv_at hl 0 rfl) ?_
  refine va_new (ci := 2) (fs := [.int 0, .int 0, .int 0, .int 0, .int 0, .int 0, .null, .null, .null]) (C := RX2) (T := TX2) (N := 9) hx hb hts iX6_init_X2 tyX2 tyX2_ok hown (hts _ kX6_init_cl_29) (hts _ kX6_init_in_X2) (hts _ kX6_init_ii_X2) hK.1 hP hD hS hA rfl dvX2 (Nat.le_of_ble_eq_true rfl) (Nat.le_of_ble_eq_true rfl) dX6_init_65 (fun q_13 H hP hD hS => ?_)
  refine W.widen (k := 16) (n := 112) (Nat.le_of_ble_eq_true rfl) (Nat.le_of_ble_eq_true rfl) ?_
  refine lv_dup hx hb dX6_init_68 rfl ?_
  refine call_cN (W0 := [(a_t, .inr (6, [.int (0 : Int32), .int (61 : Int32), .int (0 : Int32), .ref q_1, .ref q_2, .ref q_3, .ref q_4])), aI g q_1 4 zR, aI g q_2 4 zR, zN g q_3 5 (va_up (va_up (fun _ => none) 0 (some q_7)) 1 (some q_10)), oX2 q_4 v_5 zR, aI g (v_5 6) 7 zR, aI g (v_5 7) 7 zR, aI g (v_5 8) 7 zR, oX2 q_7 v_8 zR, aI g (v_8 6) 7 zR, aI g (v_8 7) 7 zR, aI g (v_8 8) 7 zR, oX2 q_10 v_11 zR, aI g (v_11 6) 7 zR, aI g (v_11 7) 7 zR, aI g (v_11 8) 7 zR]) (As := []) (rest := [.ref q_13, .int (2 : Int32), .ref q_3]) C0 (mX2_init l g q_13) ⟨va_cnB 0 hts gX6_init_X2_init_n35 rfl rfl rfl (hK.2.1.1 (RX6, 35, yX2_init, RX9) (List.mem_of_getElem? (i := 9) rfl)) (hts _ kX6_init_ii_X2) (by decide +kernel) ⟨Nat.le_of_ble_eq_true rfl, Nat.le_of_ble_eq_true rfl⟩, rfl, hts _ kX6_init_im_X2⟩ hP hD hS hl.1 rfl rfl (Nat.le_of_ble_eq_true rfl) ⟨Nat.le_of_ble_eq_true rfl, Nat.le_of_ble_eq_true rfl⟩ dX6_init_69 ?_
  intro v_14 H locs hP hD hS
  have hP : va_P g.1 vwCl [(a_t, .inr (6, [.int (0 : Int32), .int (61 : Int32), .int (0 : Int32), .ref q_1, .ref q_2, .ref q_3, .ref q_4])), aI g q_1 4 zR, aI g q_2 4 zR, zN g q_3 5 (va_up (va_up (fun _ => none) 0 (some q_7)) 1 (some q_10)), oX2 q_4 v_5 zR, aI g (v_5 6) 7 zR, aI g (v_5 7) 7 zR, aI g (v_5 8) 7 zR, oX2 q_7 v_8 zR, aI g (v_8 6) 7 zR, aI g (v_8 7) 7 zR, aI g (v_8 8) 7 zR, oX2 q_10 v_11 zR, aI g (v_11 6) 7 zR, aI g (v_11 7) 7 zR, aI g (v_11 8) 7 zR, oX2 q_13 v_14 zR, aI g (v_14 6) 7 zR, aI g (v_14 7) 7 zR, aI g (v_14 8) 7 zR] H := hP
  have hD : va_D A [(a_t, .inr (6, [.int (0 : Int32), .int (61 : Int32), .int (0 : Int32), .ref q_1, .ref q_2, .ref q_3, .ref q_4])), aI g q_1 4 zR, aI g q_2 4 zR, zN g q_3 5 (va_up (va_up (fun _ => none) 0 (some q_7)) 1 (some q_10)), oX2 q_4 v_5 zR, aI g (v_5 6) 7 zR, aI g (v_5 7) 7 zR, aI g (v_5 8) 7 zR, oX2 q_7 v_8 zR, aI g (v_8 6) 7 zR, aI g (v_8 7) 7 zR, aI g (v_8 8) 7 zR, oX2 q_10 v_11 zR, aI g (v_11 6) 7 zR, aI g (v_11 7) 7 zR, aI g (v_11 8) 7 zR, oX2 q_13 v_14 zR, aI g (v_14 6) 7 zR, aI g (v_14 7) 7 zR, aI g (v_14 8) 7 zR] := hD
  refine W.widen (k := 19) (n := 133) (Nat.le_of_ble_eq_true rfl) (Nat.le_of_ble_eq_true rfl) ?_
  refine va_astq (r := (RX2, TX2, 9)) hx hb hK.1 hP hD hS 3 2 16 2 rfl rfl rfl rfl (i := (2 : Int32)) (by unfold vp_in; decide) dX6_init_72 (fun H locs hP hD hS => ?_)
  have hP : va_P g.1 vwCl [(a_t, .inr (6, [.int (0 : Int32), .int (61 : Int32), .int (0 : Int32), .ref q_1, .ref q_2, .ref q_3, .ref q_4])), aI g q_1 4 zR, aI g q_2 4 zR, zN g q_3 5 (va_up (va_up (va_up (fun _ => none) 0 (some q_7)) 1 (some q_10)) 2 (some q_13)), oX2 q_4 v_5 zR, aI g (v_5 6) 7 zR, aI g (v_5 7) 7 zR, aI g (v_5 8) 7 zR, oX2 q_7 v_8 zR, aI g (v_8 6) 7 zR, aI g (v_8 7) 7 zR, aI g (v_8 8) 7 zR, oX2 q_10 v_11 zR, aI g (v_11 6) 7 zR, aI g (v_11 7) 7 zR, aI g (v_11 8) 7 zR, oX2 q_13 v_14 zR, aI g (v_14 6) 7 zR, aI g (v_14 7) 7 zR, aI g (v_14 8) 7 zR] H := hP
  have hD : va_D A [(a_t, .inr (6, [.int (0 : Int32), .int (61 : Int32), .int (0 : Int32), .ref q_1, .ref q_2, .ref q_3, .ref q_4])), aI g q_1 4 zR, aI g q_2 4 zR, zN g q_3 5 (va_up (va_up (va_up (fun _ => none) 0 (some q_7)) 1 (some q_10)) 2 (some q_13)), oX2 q_4 v_5 zR, aI g (v_5 6) 7 zR, aI g (v_5 7) 7 zR, aI g (v_5 8) 7 zR, oX2 q_7 v_8 zR, aI g (v_8 6) 7 zR, aI g (v_8 7) 7 zR, aI g (v_8 8) 7 zR, oX2 q_10 v_11 zR, aI g (v_11 6) 7 zR, aI g (v_11 7) 7 zR, aI g (v_11 8) 7 zR, oX2 q_13 v_14 zR, aI g (v_14 6) 7 zR, aI g (v_14 7) 7 zR, aI g (v_14 8) 7 zR] := hD
  refine lv_iinc (v := (3 : Int32)) (lv' := [(1, .int (3 : Int32)), (0, .ref a_t)]) hx hb dX6_init_73 hl (k := 0) rfl (by decide) (by decide) rfl (fun ls hl => ?_)
  refine lv_goto (tgt := 55) hx hb dX6_init_76 (by decide) ?_
  refine lv_iload_n hx hb dX6_init_55 rfl (lv_at hl 0 rfl) ?_
  refine lv_iconst (v := (4 : Int32)) hx hb dX6_init_56 (by decide) ?_
  refine lv_icmp_gt (tgt := 79) hx hb dX6_init_57 (by decide) (fun c_15 => absurd c_15 (by decide)) (fun c_15 => ?_)
  refine lv_aload_n hx hb dX6_init_60 rfl (lv_at hl 1 rfl) ?_
  refine va_get (D := g.1) (ci := 6) (v := .ref q_3) (C := RX6) (T := TX6) (N := 7) hx hb hts iX6_init_X6 hown hK.1 hP 0 rfl rfl 5 (by decide) (hts _ kX6_init_31) (fun _ h9 => h9) rfl dX6_init_61 ?_
  refine lv_iload_n hx hb dX6_init_64 rfl (lv_at hl 0 rfl) ?_
  refine va_new (ci := 2) (fs := [.int 0, .int 0, .int 0, .int 0, .int 0, .int 0, .null, .null, .null]) (C := RX2) (T := TX2) (N := 9) hx hb hts iX6_init_X2 tyX2 tyX2_ok hown (hts _ kX6_init_cl_29) (hts _ kX6_init_in_X2) (hts _ kX6_init_ii_X2) hK.1 hP hD hS hA rfl dvX2 (Nat.le_of_ble_eq_true rfl) (Nat.le_of_ble_eq_true rfl) dX6_init_65 (fun q_16 H hP hD hS => ?_)
  refine W.widen (k := 20) (n := 142) (Nat.le_of_ble_eq_true rfl) (Nat.le_of_ble_eq_true rfl) ?_
  refine lv_dup hx hb dX6_init_68 rfl ?_
  refine call_cN (W0 := [(a_t, .inr (6, [.int (0 : Int32), .int (61 : Int32), .int (0 : Int32), .ref q_1, .ref q_2, .ref q_3, .ref q_4])), aI g q_1 4 zR, aI g q_2 4 zR, zN g q_3 5 (va_up (va_up (va_up (fun _ => none) 0 (some q_7)) 1 (some q_10)) 2 (some q_13)), oX2 q_4 v_5 zR, aI g (v_5 6) 7 zR, aI g (v_5 7) 7 zR, aI g (v_5 8) 7 zR, oX2 q_7 v_8 zR, aI g (v_8 6) 7 zR, aI g (v_8 7) 7 zR, aI g (v_8 8) 7 zR, oX2 q_10 v_11 zR, aI g (v_11 6) 7 zR, aI g (v_11 7) 7 zR, aI g (v_11 8) 7 zR, oX2 q_13 v_14 zR, aI g (v_14 6) 7 zR, aI g (v_14 7) 7 zR, aI g (v_14 8) 7 zR]) (As := []) (rest := [.ref q_16, .int (3 : Int32), .ref q_3]) C0 (mX2_init l g q_16) ⟨va_cnB 0 hts gX6_init_X2_init_n35 rfl rfl rfl (hK.2.1.1 (RX6, 35, yX2_init, RX9) (List.mem_of_getElem? (i := 9) rfl)) (hts _ kX6_init_ii_X2) (by decide +kernel) ⟨Nat.le_of_ble_eq_true rfl, Nat.le_of_ble_eq_true rfl⟩, rfl, hts _ kX6_init_im_X2⟩ hP hD hS hl.1 rfl rfl (Nat.le_of_ble_eq_true rfl) ⟨Nat.le_of_ble_eq_true rfl, Nat.le_of_ble_eq_true rfl⟩ dX6_init_69 ?_
  intro v_17 H locs hP hD hS
  have hP : va_P g.1 vwCl [(a_t, .inr (6, [.int (0 : Int32), .int (61 : Int32), .int (0 : Int32), .ref q_1, .ref q_2, .ref q_3, .ref q_4])), aI g q_1 4 zR, aI g q_2 4 zR, zN g q_3 5 (va_up (va_up (va_up (fun _ => none) 0 (some q_7)) 1 (some q_10)) 2 (some q_13)), oX2 q_4 v_5 zR, aI g (v_5 6) 7 zR, aI g (v_5 7) 7 zR, aI g (v_5 8) 7 zR, oX2 q_7 v_8 zR, aI g (v_8 6) 7 zR, aI g (v_8 7) 7 zR, aI g (v_8 8) 7 zR, oX2 q_10 v_11 zR, aI g (v_11 6) 7 zR, aI g (v_11 7) 7 zR, aI g (v_11 8) 7 zR, oX2 q_13 v_14 zR, aI g (v_14 6) 7 zR, aI g (v_14 7) 7 zR, aI g (v_14 8) 7 zR, oX2 q_16 v_17 zR, aI g (v_17 6) 7 zR, aI g (v_17 7) 7 zR, aI g (v_17 8) 7 zR] H := hP
  have hD : va_D A [(a_t, .inr (6, [.int (0 : Int32), .int (61 : Int32), .int (0 : Int32), .ref q_1, .ref q_2, .ref q_3, .ref q_4])), aI g q_1 4 zR, aI g q_2 4 zR, zN g q_3 5 (va_up (va_up (va_up (fun _ => none) 0 (some q_7)) 1 (some q_10)) 2 (some q_13)), oX2 q_4 v_5 zR, aI g (v_5 6) 7 zR, aI g (v_5 7) 7 zR, aI g (v_5 8) 7 zR, oX2 q_7 v_8 zR, aI g (v_8 6) 7 zR, aI g (v_8 7) 7 zR, aI g (v_8 8) 7 zR, oX2 q_10 v_11 zR, aI g (v_11 6) 7 zR, aI g (v_11 7) 7 zR, aI g (v_11 8) 7 zR, oX2 q_13 v_14 zR, aI g (v_14 6) 7 zR, aI g (v_14 7) 7 zR, aI g (v_14 8) 7 zR, oX2 q_16 v_17 zR, aI g (v_17 6) 7 zR, aI g (v_17 7) 7 zR, aI g (v_17 8) 7 zR] := hD
  refine W.widen (k := 23) (n := 163) (Nat.le_of_ble_eq_true rfl) (Nat.le_of_ble_eq_true rfl) ?_
  refine va_astq (r := (RX2, TX2, 9)) hx hb hK.1 hP hD hS 3 2 20 2 rfl rfl rfl rfl (i := (3 : Int32)) (by unfold vp_in; decide) dX6_init_72 (fun H locs hP hD hS => ?_)
  have hP : va_P g.1 vwCl [(a_t, .inr (6, [.int (0 : Int32), .int (61 : Int32), .int (0 : Int32), .ref q_1, .ref q_2, .ref q_3, .ref q_4])), aI g q_1 4 zR, aI g q_2 4 zR, zN g q_3 5 (va_up (va_up (va_up (va_up (fun _ => none) 0 (some q_7)) 1 (some q_10)) 2 (some q_13)) 3 (some q_16)), oX2 q_4 v_5 zR, aI g (v_5 6) 7 zR, aI g (v_5 7) 7 zR, aI g (v_5 8) 7 zR, oX2 q_7 v_8 zR, aI g (v_8 6) 7 zR, aI g (v_8 7) 7 zR, aI g (v_8 8) 7 zR, oX2 q_10 v_11 zR, aI g (v_11 6) 7 zR, aI g (v_11 7) 7 zR, aI g (v_11 8) 7 zR, oX2 q_13 v_14 zR, aI g (v_14 6) 7 zR, aI g (v_14 7) 7 zR, aI g (v_14 8) 7 zR, oX2 q_16 v_17 zR, aI g (v_17 6) 7 zR, aI g (v_17 7) 7 zR, aI g (v_17 8) 7 zR] H := hP
  have hD : va_D A [(a_t, .inr (6, [.int (0 : Int32), .int (61 : Int32), .int (0 : Int32), .ref q_1, .ref q_2, .ref q_3, .ref q_4])), aI g q_1 4 zR, aI g q_2 4 zR, zN g q_3 5 (va_up (va_up (va_up (va_up (fun _ => none) 0 (some q_7)) 1 (some q_10)) 2 (some q_13)) 3 (some q_16)), oX2 q_4 v_5 zR, aI g (v_5 6) 7 zR, aI g (v_5 7) 7 zR, aI g (v_5 8) 7 zR, oX2 q_7 v_8 zR, aI g (v_8 6) 7 zR, aI g (v_8 7) 7 zR, aI g (v_8 8) 7 zR, oX2 q_10 v_11 zR, aI g (v_11 6) 7 zR, aI g (v_11 7) 7 zR, aI g (v_11 8) 7 zR, oX2 q_13 v_14 zR, aI g (v_14 6) 7 zR, aI g (v_14 7) 7 zR, aI g (v_14 8) 7 zR, oX2 q_16 v_17 zR, aI g (v_17 6) 7 zR, aI g (v_17 7) 7 zR, aI g (v_17 8) 7 zR] := hD
  refine lv_iinc (v := (4 : Int32)) (lv' := [(1, .int (4 : Int32)), (0, .ref a_t)]) hx hb dX6_init_73 hl (k := 0) rfl (by decide) (by decide) rfl (fun ls hl => ?_)
  refine lv_goto (tgt := 55) hx hb dX6_init_76 (by decide) ?_
  refine lv_iload_n hx hb dX6_init_55 rfl (lv_at hl 0 rfl) ?_
  refine lv_iconst (v := (4 : Int32)) hx hb dX6_init_56 (by decide) ?_
  refine lv_icmp_gt (tgt := 79) hx hb dX6_init_57 (by decide) (fun c_18 => absurd c_18 (by decide)) (fun c_18 => ?_)
  refine lv_aload_n hx hb dX6_init_60 rfl (lv_at hl 1 rfl) ?_
  refine va_get (D := g.1) (ci := 6) (v := .ref q_3) (C := RX6) (T := TX6) (N := 7) hx hb hts iX6_init_X6 hown hK.1 hP 0 rfl rfl 5 (by decide) (hts _ kX6_init_31) (fun _ h9 => h9) rfl dX6_init_61 ?_
  refine lv_iload_n hx hb dX6_init_64 rfl (lv_at hl 0 rfl) ?_
  refine va_new (ci := 2) (fs := [.int 0, .int 0, .int 0, .int 0, .int 0, .int 0, .null, .null, .null]) (C := RX2) (T := TX2) (N := 9) hx hb hts iX6_init_X2 tyX2 tyX2_ok hown (hts _ kX6_init_cl_29) (hts _ kX6_init_in_X2) (hts _ kX6_init_ii_X2) hK.1 hP hD hS hA rfl dvX2 (Nat.le_of_ble_eq_true rfl) (Nat.le_of_ble_eq_true rfl) dX6_init_65 (fun q_19 H hP hD hS => ?_)
  refine W.widen (k := 24) (n := 172) (Nat.le_of_ble_eq_true rfl) (Nat.le_of_ble_eq_true rfl) ?_
  refine lv_dup hx hb dX6_init_68 rfl ?_
  refine call_cN (W0 := [(a_t, .inr (6, [.int (0 : Int32), .int (61 : Int32), .int (0 : Int32), .ref q_1, .ref q_2, .ref q_3, .ref q_4])), aI g q_1 4 zR, aI g q_2 4 zR, zN g q_3 5 (va_up (va_up (va_up (va_up (fun _ => none) 0 (some q_7)) 1 (some q_10)) 2 (some q_13)) 3 (some q_16)), oX2 q_4 v_5 zR, aI g (v_5 6) 7 zR, aI g (v_5 7) 7 zR, aI g (v_5 8) 7 zR, oX2 q_7 v_8 zR, aI g (v_8 6) 7 zR, aI g (v_8 7) 7 zR, aI g (v_8 8) 7 zR, oX2 q_10 v_11 zR, aI g (v_11 6) 7 zR, aI g (v_11 7) 7 zR, aI g (v_11 8) 7 zR, oX2 q_13 v_14 zR, aI g (v_14 6) 7 zR, aI g (v_14 7) 7 zR, aI g (v_14 8) 7 zR, oX2 q_16 v_17 zR, aI g (v_17 6) 7 zR, aI g (v_17 7) 7 zR, aI g (v_17 8) 7 zR]) (As := []) (rest := [.ref q_19, .int (4 : Int32), .ref q_3]) C0 (mX2_init l g q_19) ⟨va_cnB 0 hts gX6_init_X2_init_n35 rfl rfl rfl (hK.2.1.1 (RX6, 35, yX2_init, RX9) (List.mem_of_getElem? (i := 9) rfl)) (hts _ kX6_init_ii_X2) (by decide +kernel) ⟨Nat.le_of_ble_eq_true rfl, Nat.le_of_ble_eq_true rfl⟩, rfl, hts _ kX6_init_im_X2⟩ hP hD hS hl.1 rfl rfl (Nat.le_of_ble_eq_true rfl) ⟨Nat.le_of_ble_eq_true rfl, Nat.le_of_ble_eq_true rfl⟩ dX6_init_69 ?_
  intro v_20 H locs hP hD hS
  have hP : va_P g.1 vwCl [(a_t, .inr (6, [.int (0 : Int32), .int (61 : Int32), .int (0 : Int32), .ref q_1, .ref q_2, .ref q_3, .ref q_4])), aI g q_1 4 zR, aI g q_2 4 zR, zN g q_3 5 (va_up (va_up (va_up (va_up (fun _ => none) 0 (some q_7)) 1 (some q_10)) 2 (some q_13)) 3 (some q_16)), oX2 q_4 v_5 zR, aI g (v_5 6) 7 zR, aI g (v_5 7) 7 zR, aI g (v_5 8) 7 zR, oX2 q_7 v_8 zR, aI g (v_8 6) 7 zR, aI g (v_8 7) 7 zR, aI g (v_8 8) 7 zR, oX2 q_10 v_11 zR, aI g (v_11 6) 7 zR, aI g (v_11 7) 7 zR, aI g (v_11 8) 7 zR, oX2 q_13 v_14 zR, aI g (v_14 6) 7 zR, aI g (v_14 7) 7 zR, aI g (v_14 8) 7 zR, oX2 q_16 v_17 zR, aI g (v_17 6) 7 zR, aI g (v_17 7) 7 zR, aI g (v_17 8) 7 zR, oX2 q_19 v_20 zR, aI g (v_20 6) 7 zR, aI g (v_20 7) 7 zR, aI g (v_20 8) 7 zR] H := hP
  have hD : va_D A [(a_t, .inr (6, [.int (0 : Int32), .int (61 : Int32), .int (0 : Int32), .ref q_1, .ref q_2, .ref q_3, .ref q_4])), aI g q_1 4 zR, aI g q_2 4 zR, zN g q_3 5 (va_up (va_up (va_up (va_up (fun _ => none) 0 (some q_7)) 1 (some q_10)) 2 (some q_13)) 3 (some q_16)), oX2 q_4 v_5 zR, aI g (v_5 6) 7 zR, aI g (v_5 7) 7 zR, aI g (v_5 8) 7 zR, oX2 q_7 v_8 zR, aI g (v_8 6) 7 zR, aI g (v_8 7) 7 zR, aI g (v_8 8) 7 zR, oX2 q_10 v_11 zR, aI g (v_11 6) 7 zR, aI g (v_11 7) 7 zR, aI g (v_11 8) 7 zR, oX2 q_13 v_14 zR, aI g (v_14 6) 7 zR, aI g (v_14 7) 7 zR, aI g (v_14 8) 7 zR, oX2 q_16 v_17 zR, aI g (v_17 6) 7 zR, aI g (v_17 7) 7 zR, aI g (v_17 8) 7 zR, oX2 q_19 v_20 zR, aI g (v_20 6) 7 zR, aI g (v_20 7) 7 zR, aI g (v_20 8) 7 zR] := hD
  refine W.widen (k := 27) (n := 193) (Nat.le_of_ble_eq_true rfl) (Nat.le_of_ble_eq_true rfl) ?_
  refine va_astq (r := (RX2, TX2, 9)) hx hb hK.1 hP hD hS 3 2 24 2 rfl rfl rfl rfl (i := (4 : Int32)) (by unfold vp_in; decide) dX6_init_72 (fun H locs hP hD hS => ?_)
  have hP : va_P g.1 vwCl [(a_t, .inr (6, [.int (0 : Int32), .int (61 : Int32), .int (0 : Int32), .ref q_1, .ref q_2, .ref q_3, .ref q_4])), aI g q_1 4 zR, aI g q_2 4 zR, zN g q_3 5 (va_up (va_up (va_up (va_up (va_up (fun _ => none) 0 (some q_7)) 1 (some q_10)) 2 (some q_13)) 3 (some q_16)) 4 (some q_19)), oX2 q_4 v_5 zR, aI g (v_5 6) 7 zR, aI g (v_5 7) 7 zR, aI g (v_5 8) 7 zR, oX2 q_7 v_8 zR, aI g (v_8 6) 7 zR, aI g (v_8 7) 7 zR, aI g (v_8 8) 7 zR, oX2 q_10 v_11 zR, aI g (v_11 6) 7 zR, aI g (v_11 7) 7 zR, aI g (v_11 8) 7 zR, oX2 q_13 v_14 zR, aI g (v_14 6) 7 zR, aI g (v_14 7) 7 zR, aI g (v_14 8) 7 zR, oX2 q_16 v_17 zR, aI g (v_17 6) 7 zR, aI g (v_17 7) 7 zR, aI g (v_17 8) 7 zR, oX2 q_19 v_20 zR, aI g (v_20 6) 7 zR, aI g (v_20 7) 7 zR, aI g (v_20 8) 7 zR] H := hP
  have hD : va_D A [(a_t, .inr (6, [.int (0 : Int32), .int (61 : Int32), .int (0 : Int32), .ref q_1, .ref q_2, .ref q_3, .ref q_4])), aI g q_1 4 zR, aI g q_2 4 zR, zN g q_3 5 (va_up (va_up (va_up (va_up (va_up (fun _ => none) 0 (some q_7)) 1 (some q_10)) 2 (some q_13)) 3 (some q_16)) 4 (some q_19)), oX2 q_4 v_5 zR, aI g (v_5 6) 7 zR, aI g (v_5 7) 7 zR, aI g (v_5 8) 7 zR, oX2 q_7 v_8 zR, aI g (v_8 6) 7 zR, aI g (v_8 7) 7 zR, aI g (v_8 8) 7 zR, oX2 q_10 v_11 zR, aI g (v_11 6) 7 zR, aI g (v_11 7) 7 zR, aI g (v_11 8) 7 zR, oX2 q_13 v_14 zR, aI g (v_14 6) 7 zR, aI g (v_14 7) 7 zR, aI g (v_14 8) 7 zR, oX2 q_16 v_17 zR, aI g (v_17 6) 7 zR, aI g (v_17 7) 7 zR, aI g (v_17 8) 7 zR, oX2 q_19 v_20 zR, aI g (v_20 6) 7 zR, aI g (v_20 7) 7 zR, aI g (v_20 8) 7 zR] := hD
  refine lv_iinc (v := (5 : Int32)) (lv' := [(1, .int (5 : Int32)), (0, .ref a_t)]) hx hb dX6_init_73 hl (k := 0) rfl (by decide) (by decide) rfl (fun ls hl => ?_)
  refine lv_goto (tgt := 55) hx hb dX6_init_76 (by decide) ?_
  refine lv_iload_n hx hb dX6_init_55 rfl (lv_at hl 0 rfl) ?_
  refine lv_iconst (v := (4 : Int32)) hx hb dX6_init_56 (by decide) ?_
  refine lv_icmp_gt (tgt := 79) hx hb dX6_init_57 (by decide) (fun c_21 => ?_) (fun c_21 => absurd (by decide) c_21)
  obtain ⟨hP, hD⟩ := aN_set (q := (va_up (va_up (va_up (va_up (va_up (fun _ => 0) 0 q_7) 1 q_10) 2 q_13) 3 q_16) 4 q_19)) hP hD (k := 3) rfl (fun j hj => by rcases (show j = 0 ∨ j = 1 ∨ j = 2 ∨ j = 3 ∨ j = 4 by omega) with rfl | rfl | rfl | rfl | rfl <;> rfl)
  have hP : va_P g.1 vwCl [(a_t, .inr (6, [.int (0 : Int32), .int (61 : Int32), .int (0 : Int32), .ref q_1, .ref q_2, .ref q_3, .ref q_4])), aI g q_1 4 zR, aI g q_2 4 zR, aN g q_3 5 (va_up (va_up (va_up (va_up (va_up (fun _ => 0) 0 q_7) 1 q_10) 2 q_13) 3 q_16) 4 q_19), oX2 q_4 v_5 zR, aI g (v_5 6) 7 zR, aI g (v_5 7) 7 zR, aI g (v_5 8) 7 zR, oX2 q_7 v_8 zR, aI g (v_8 6) 7 zR, aI g (v_8 7) 7 zR, aI g (v_8 8) 7 zR, oX2 q_10 v_11 zR, aI g (v_11 6) 7 zR, aI g (v_11 7) 7 zR, aI g (v_11 8) 7 zR, oX2 q_13 v_14 zR, aI g (v_14 6) 7 zR, aI g (v_14 7) 7 zR, aI g (v_14 8) 7 zR, oX2 q_16 v_17 zR, aI g (v_17 6) 7 zR, aI g (v_17 7) 7 zR, aI g (v_17 8) 7 zR, oX2 q_19 v_20 zR, aI g (v_20 6) 7 zR, aI g (v_20 7) 7 zR, aI g (v_20 8) 7 zR] H := hP
  have hD : va_D A [(a_t, .inr (6, [.int (0 : Int32), .int (61 : Int32), .int (0 : Int32), .ref q_1, .ref q_2, .ref q_3, .ref q_4])), aI g q_1 4 zR, aI g q_2 4 zR, aN g q_3 5 (va_up (va_up (va_up (va_up (va_up (fun _ => 0) 0 q_7) 1 q_10) 2 q_13) 3 q_16) 4 q_19), oX2 q_4 v_5 zR, aI g (v_5 6) 7 zR, aI g (v_5 7) 7 zR, aI g (v_5 8) 7 zR, oX2 q_7 v_8 zR, aI g (v_8 6) 7 zR, aI g (v_8 7) 7 zR, aI g (v_8 8) 7 zR, oX2 q_10 v_11 zR, aI g (v_11 6) 7 zR, aI g (v_11 7) 7 zR, aI g (v_11 8) 7 zR, oX2 q_13 v_14 zR, aI g (v_14 6) 7 zR, aI g (v_14 7) 7 zR, aI g (v_14 8) 7 zR, oX2 q_16 v_17 zR, aI g (v_17 6) 7 zR, aI g (v_17 7) 7 zR, aI g (v_17 8) 7 zR, oX2 q_19 v_20 zR, aI g (v_20 6) 7 zR, aI g (v_20 7) 7 zR, aI g (v_20 8) 7 zR] := hD
  exact ret_c ((va_up (va_up (va_up (va_up (fun _ => 0) 3 q_1) 4 q_2) 5 q_3) 6 q_4), (va_up (va_up (va_up (va_up (va_up (fun _ => 0) 0 q_7) 1 q_10) 2 q_13) 3 q_16) 4 q_19), (va_up (va_up (va_up (va_up (va_up (fun _ _ => 0) 0 v_8) 1 v_11) 2 v_14) 3 v_17) 4 v_20), v_5) C0 hP hD hS [0, 1, 2, 3, 8, 9, 10, 11, 12, 13, 14, 15, 16, 17, 18, 19, 20, 21, 22, 23, 24, 25, 26, 27, 4, 5, 6, 7] rfl rfl rfl dX6_init_79

theorem dAX0_init : ∀ q ∈ ([(0, (.aload_n 0, 1)), (1, (.invokespecial 3, 3)), (4, (.aload_n 0, 1)), (5, (.iconst 0, 1)), (6, (.putfield 9, 3)), (9, (.aload_n 0, 1)), (10, (.iconst 0, 1)), (11, (.putfield 15, 3)), (14, (.aload_n 0, 1)), (15, (.bipush 7, 2)), (17, (.newarray .int, 2)), (19, (.putfield 19, 3)), (22, (.aload_n 0, 1)), (23, (.iconst 5, 1)), (24, (.newarray .int, 2)), (26, (.putfield 23, 3)), (29, (.aload_n 0, 1)), (30, (.bipush 7, 2)), (32, (.newarray .int, 2)), (34, (.putfield 26, 3)), (37, (.aload_n 0, 1)), (38, (.new 29, 3)), (41, (.dup, 1)), (42, (.invokespecial 31, 3)), (45, (.putfield 32, 3)), (48, (.return_, 1))] : List (Nat × (Instr × Nat))), decode cX0_init q.1 = .ok q.2 := by decide +kernel
theorem dX0_init_0 : decode cX0_init 0 = .ok (.aload_n 0, 1) := dAX0_init (0, (.aload_n 0, 1)) (List.mem_of_getElem? (i := 0) rfl)
theorem dX0_init_1 : decode cX0_init 1 = .ok (.invokespecial 3, 3) := dAX0_init (1, (.invokespecial 3, 3)) (List.mem_of_getElem? (i := 1) rfl)
theorem dX0_init_4 : decode cX0_init 4 = .ok (.aload_n 0, 1) := dAX0_init (4, (.aload_n 0, 1)) (List.mem_of_getElem? (i := 2) rfl)
theorem dX0_init_5 : decode cX0_init 5 = .ok (.iconst 0, 1) := dAX0_init (5, (.iconst 0, 1)) (List.mem_of_getElem? (i := 3) rfl)
theorem dX0_init_6 : decode cX0_init 6 = .ok (.putfield 9, 3) := dAX0_init (6, (.putfield 9, 3)) (List.mem_of_getElem? (i := 4) rfl)
theorem dX0_init_9 : decode cX0_init 9 = .ok (.aload_n 0, 1) := dAX0_init (9, (.aload_n 0, 1)) (List.mem_of_getElem? (i := 5) rfl)
theorem dX0_init_10 : decode cX0_init 10 = .ok (.iconst 0, 1) := dAX0_init (10, (.iconst 0, 1)) (List.mem_of_getElem? (i := 6) rfl)
theorem dX0_init_11 : decode cX0_init 11 = .ok (.putfield 15, 3) := dAX0_init (11, (.putfield 15, 3)) (List.mem_of_getElem? (i := 7) rfl)
theorem dX0_init_14 : decode cX0_init 14 = .ok (.aload_n 0, 1) := dAX0_init (14, (.aload_n 0, 1)) (List.mem_of_getElem? (i := 8) rfl)
theorem dX0_init_15 : decode cX0_init 15 = .ok (.bipush 7, 2) := dAX0_init (15, (.bipush 7, 2)) (List.mem_of_getElem? (i := 9) rfl)
theorem dX0_init_17 : decode cX0_init 17 = .ok (.newarray .int, 2) := dAX0_init (17, (.newarray .int, 2)) (List.mem_of_getElem? (i := 10) rfl)
theorem dX0_init_19 : decode cX0_init 19 = .ok (.putfield 19, 3) := dAX0_init (19, (.putfield 19, 3)) (List.mem_of_getElem? (i := 11) rfl)
theorem dX0_init_22 : decode cX0_init 22 = .ok (.aload_n 0, 1) := dAX0_init (22, (.aload_n 0, 1)) (List.mem_of_getElem? (i := 12) rfl)
theorem dX0_init_23 : decode cX0_init 23 = .ok (.iconst 5, 1) := dAX0_init (23, (.iconst 5, 1)) (List.mem_of_getElem? (i := 13) rfl)
theorem dX0_init_24 : decode cX0_init 24 = .ok (.newarray .int, 2) := dAX0_init (24, (.newarray .int, 2)) (List.mem_of_getElem? (i := 14) rfl)
theorem dX0_init_26 : decode cX0_init 26 = .ok (.putfield 23, 3) := dAX0_init (26, (.putfield 23, 3)) (List.mem_of_getElem? (i := 15) rfl)
theorem dX0_init_29 : decode cX0_init 29 = .ok (.aload_n 0, 1) := dAX0_init (29, (.aload_n 0, 1)) (List.mem_of_getElem? (i := 16) rfl)
theorem dX0_init_30 : decode cX0_init 30 = .ok (.bipush 7, 2) := dAX0_init (30, (.bipush 7, 2)) (List.mem_of_getElem? (i := 17) rfl)
theorem dX0_init_32 : decode cX0_init 32 = .ok (.newarray .int, 2) := dAX0_init (32, (.newarray .int, 2)) (List.mem_of_getElem? (i := 18) rfl)
theorem dX0_init_34 : decode cX0_init 34 = .ok (.putfield 26, 3) := dAX0_init (34, (.putfield 26, 3)) (List.mem_of_getElem? (i := 19) rfl)
theorem dX0_init_37 : decode cX0_init 37 = .ok (.aload_n 0, 1) := dAX0_init (37, (.aload_n 0, 1)) (List.mem_of_getElem? (i := 20) rfl)
theorem dX0_init_38 : decode cX0_init 38 = .ok (.new 29, 3) := dAX0_init (38, (.new 29, 3)) (List.mem_of_getElem? (i := 21) rfl)
theorem dX0_init_41 : decode cX0_init 41 = .ok (.dup, 1) := dAX0_init (41, (.dup, 1)) (List.mem_of_getElem? (i := 22) rfl)
theorem dX0_init_42 : decode cX0_init 42 = .ok (.invokespecial 31, 3) := dAX0_init (42, (.invokespecial 31, 3)) (List.mem_of_getElem? (i := 23) rfl)
theorem dX0_init_45 : decode cX0_init 45 = .ok (.putfield 32, 3) := dAX0_init (45, (.putfield 32, 3)) (List.mem_of_getElem? (i := 24) rfl)
theorem dX0_init_48 : decode cX0_init 48 = .ok (.return_, 1) := dAX0_init (48, (.return_, 1)) (List.mem_of_getElem? (i := 25) rfl)
set_option maxRecDepth 20000 in
theorem ggX0_init_X2_init : GoodIn wsX0_init wsX2_init := goodIn_r _ [15, 16, 2, 3, 17, 18, 19, 20, 21, 22, 6, 23, 24, 25, 32, 33, 34, 35, 36, 37, 38, 39, 40] rfl (by decide +kernel)
set_option maxRecDepth 20000 in
theorem gX0_init_X2_init_n31 : GoodIn wsX0_init (wsX2_init) := ggX0_init_X2_init
abbrev BX0 (g : GG) (a : Nat) (u : (Nat → Nat) × (Nat → Nat)) : va_W := [oX0 a u.1 zR, aI g (u.1 2) 7 zR, aI g (u.1 3) 5 zR, aI g (u.1 4) 7 zR, oX2 (u.1 5) u.2 zR, aI g (u.2 6) 7 zR, aI g (u.2 7) 7 zR, aI g (u.2 8) 7 zR]
theorem kX0_init_o1 : Cond.methodLink RX0 3 objectInit ∈ wsX0_init := List.mem_of_getElem? (i := 1) rfl
theorem kX0_init_o2 : Cond.instanceMethod objectInit ∈ wsX0_init := List.mem_of_getElem? (i := 2) rfl
theorem kX0_init_o3 : Cond.code objectInit ⟨#[0xb1]⟩ 1 none ∈ wsX0_init := List.mem_of_getElem? (i := 3) rfl
theorem kX0_init_9 : Cond.fieldLink RX0 9 "EveningVow$CupShares" "known" "Z" ∈ wsX0_init := List.mem_of_getElem? (i := 4) rfl
theorem iX0_init_X0 : ∀ w ∈ u_ws RX0 TX0 6, w ∈ wsX0_init := fun w h => (List.mem_cons_of_mem _ (List.mem_append_left _ (List.mem_append_right _ h)))
theorem kX0_init_15 : Cond.fieldLink RX0 15 "EveningVow$CupShares" "bestHours" "I" ∈ wsX0_init := List.mem_of_getElem? (i := 5) rfl
theorem kX0_init_ac_int : Cond.arrayClass .int ∈ wsX0_init := List.mem_of_getElem? (i := 6) rfl
theorem kX0_init_19 : Cond.fieldLink RX0 19 "EveningVow$CupShares" "bestRow" "[I" ∈ wsX0_init := List.mem_of_getElem? (i := 7) rfl
theorem kX0_init_23 : Cond.fieldLink RX0 23 "EveningVow$CupShares" "hoursBy" "[I" ∈ wsX0_init := List.mem_of_getElem? (i := 8) rfl
theorem kX0_init_26 : Cond.fieldLink RX0 26 "EveningVow$CupShares" "row" "[I" ∈ wsX0_init := List.mem_of_getElem? (i := 9) rfl
theorem kX0_init_cl_29 : Cond.classLink RX0 29 RX2 ∈ wsX0_init := List.mem_of_getElem? (i := 10) rfl
theorem kX0_init_in_X2 : Cond.instantiable RX2 9 ∈ wsX0_init := List.mem_of_getElem? (i := 11) rfl
theorem kX0_init_ii_X2 : Cond.initialized RX2 ∈ wsX0_init := List.mem_of_getElem? (i := 12) rfl
theorem iX0_init_X2 : ∀ w ∈ u_ws RX2 TX2 9, w ∈ wsX0_init := fun w h => (List.mem_cons_of_mem _ (List.mem_append_right _ h))
theorem kX0_init_im_X2 : Cond.instanceMethod yX2_init ∈ wsX0_init := List.mem_of_getElem? (i := 14) rfl
theorem kX0_init_32 : Cond.fieldLink RX0 32 "EveningVow$CupShares" "trial" "LEveningVow$Night;" ∈ wsX0_init := List.mem_of_getElem? (i := 13) rfl
set_option maxHeartbeats 8000000 in
set_option maxRecDepth 100000 in
theorem mX0_init (l : Launch) (g : GG) (a_t : Nat) : MC l g yX0_init wsX0_init ({ frames := 2, cells := 7, slots := 49, locals := 32 } : Room) 7 49 [.ref a_t] [(a_t, .inr (0, [.int 0, .int 0, .null, .null, .null, .null]))] (BX0 g a_t) := by
  refine MC.of (cc := cX0_init) (maxL := 1) (own := RX0) rfl rfl rfl (by decide) (Nat.le_of_ble_eq_true rfl) ?_
  intro p e s m args below meth c A C0 hin hP hD hS ls hl
  obtain ⟨hx, hb, hml, hown, hts, hr, hlk, hK, hA, hSW⟩ := id C0
  have hl : lv_has ls 1 [(0, .ref a_t)] := hl
  refine lv_aload_n hx hb dX0_init_0 rfl (lv_at hl 0 rfl) ?_
  refine W.objInit hx hb hown (hts _ kX0_init_o1) (hts _ kX0_init_o2) (hts _ kX0_init_o3) rfl (by rw [hml]; exact hl.1) rfl dX0_init_1 (Nat.le_of_ble_eq_true rfl) (Nat.le_of_ble_eq_true rfl) ?_
  refine W.eq (g2 := F0 m 4 ls []) rfl ?_
  refine lv_aload_n hx hb dX0_init_4 rfl (lv_at hl 0 rfl) ?_
  refine lv_iconst (v := (0 : Int32)) hx hb dX0_init_5 (by decide) ?_
  refine va_put (D := g.1) (ci := 0) (v := .int (0 : Int32)) (ty := .boolean) (C := RX0) (T := TX0) (N := 6) hx hb hts iX0_init_X0 tyX0 tyX0_ok nmX0 hown hK.1 hP hD hS 0 rfl rfl 0 (by decide) (hts _ kX0_init_9) (fun _ h9 => h9) rfl (by decide +kernel) rfl rfl (Nat.le_of_ble_eq_true rfl) dX0_init_6 (fun H locs hP hD hS => ?_)
  have hP : va_P g.1 vwCl [(a_t, .inr (0, [.int (0 : Int32), .int 0, .null, .null, .null, .null]))] H := hP
  have hD : va_D A [(a_t, .inr (0, [.int (0 : Int32), .int 0, .null, .null, .null, .null]))] := hD
  refine lv_aload_n hx hb dX0_init_9 rfl (lv_at hl 0 rfl) ?_
  refine lv_iconst (v := (0 : Int32)) hx hb dX0_init_10 (by decide) ?_
  refine va_put (D := g.1) (ci := 0) (v := .int (0 : Int32)) (ty := .int) (C := RX0) (T := TX0) (N := 6) hx hb hts iX0_init_X0 tyX0 tyX0_ok nmX0 hown hK.1 hP hD hS 0 rfl rfl 1 (by decide) (hts _ kX0_init_15) (fun _ h9 => h9) rfl (by decide +kernel) rfl rfl (Nat.le_of_ble_eq_true rfl) dX0_init_11 (fun H locs hP hD hS => ?_)
  have hP : va_P g.1 vwCl [(a_t, .inr (0, [.int (0 : Int32), .int (0 : Int32), .null, .null, .null, .null]))] H := hP
  have hD : va_D A [(a_t, .inr (0, [.int (0 : Int32), .int (0 : Int32), .null, .null, .null, .null]))] := hD
  refine lv_aload_n hx hb dX0_init_14 rfl (lv_at hl 0 rfl) ?_
  refine lv_bipush (v := (7 : Int32)) hx hb dX0_init_15 (by decide) ?_
  refine newI C0 kX0_init_ac_int hP hD hS (n := (7 : Int32)) (N := 7) (by decide) (by decide) (by decide) (Nat.le_of_ble_eq_true rfl) (Nat.le_of_ble_eq_true rfl) dX0_init_17 (fun q_1 H hP hD hS => ?_)
  have hP : va_P g.1 vwCl [(a_t, .inr (0, [.int (0 : Int32), .int (0 : Int32), .null, .null, .null, .null])), aI g q_1 7 zR] H := hP
  have hD : va_D A [(a_t, .inr (0, [.int (0 : Int32), .int (0 : Int32), .null, .null, .null, .null])), aI g q_1 7 zR] := hD
  refine W.widen (k := 1) (n := 7) (Nat.le_of_ble_eq_true rfl) (Nat.le_of_ble_eq_true rfl) ?_
  refine va_putF (D := g.1) (ci := 0) (v := .ref q_1) (ty := .array .int) (C := RX0) (T := TX0) (N := 6) hx hb hts iX0_init_X0 tyX0 tyX0_ok nmX0 hown hK.1 hP hD hS 0 rfl rfl 2 (by decide) (hts _ kX0_init_19) (fun _ h9 => h9) rfl hin rfl (by decide +kernel) rfl rfl (Nat.le_of_ble_eq_true rfl) dX0_init_19 (fun H locs hP hD hS => ?_)
  have hP : va_P g.1 vwCl [(a_t, .inr (0, [.int (0 : Int32), .int (0 : Int32), .ref q_1, .null, .null, .null])), aI g q_1 7 zR] H := hP
  have hD : va_D A [(a_t, .inr (0, [.int (0 : Int32), .int (0 : Int32), .ref q_1, .null, .null, .null])), aI g q_1 7 zR] := hD
  refine lv_aload_n hx hb dX0_init_22 rfl (lv_at hl 0 rfl) ?_
  refine lv_iconst (v := (5 : Int32)) hx hb dX0_init_23 (by decide) ?_
  refine newI C0 kX0_init_ac_int hP hD hS (n := (5 : Int32)) (N := 5) (by decide) (by decide) (by decide) (Nat.le_of_ble_eq_true rfl) (Nat.le_of_ble_eq_true rfl) dX0_init_24 (fun q_2 H hP hD hS => ?_)
  have hP : va_P g.1 vwCl [(a_t, .inr (0, [.int (0 : Int32), .int (0 : Int32), .ref q_1, .null, .null, .null])), aI g q_1 7 zR, aI g q_2 5 zR] H := hP
  have hD : va_D A [(a_t, .inr (0, [.int (0 : Int32), .int (0 : Int32), .ref q_1, .null, .null, .null])), aI g q_1 7 zR, aI g q_2 5 zR] := hD
  refine W.widen (k := 2) (n := 12) (Nat.le_of_ble_eq_true rfl) (Nat.le_of_ble_eq_true rfl) ?_
  refine va_putF (D := g.1) (ci := 0) (v := .ref q_2) (ty := .array .int) (C := RX0) (T := TX0) (N := 6) hx hb hts iX0_init_X0 tyX0 tyX0_ok nmX0 hown hK.1 hP hD hS 0 rfl rfl 3 (by decide) (hts _ kX0_init_23) (fun _ h9 => h9) rfl hin rfl (by decide +kernel) rfl rfl (Nat.le_of_ble_eq_true rfl) dX0_init_26 (fun H locs hP hD hS => ?_)
  have hP : va_P g.1 vwCl [(a_t, .inr (0, [.int (0 : Int32), .int (0 : Int32), .ref q_1, .ref q_2, .null, .null])), aI g q_1 7 zR, aI g q_2 5 zR] H := hP
  have hD : va_D A [(a_t, .inr (0, [.int (0 : Int32), .int (0 : Int32), .ref q_1, .ref q_2, .null, .null])), aI g q_1 7 zR, aI g q_2 5 zR] := hD
  refine lv_aload_n hx hb dX0_init_29 rfl (lv_at hl 0 rfl) ?_
  refine lv_bipush (v := (7 : Int32)) hx hb dX0_init_30 (by decide) ?_
  refine newI C0 kX0_init_ac_int hP hD hS (n := (7 : Int32)) (N := 7) (by decide) (by decide) (by decide) (Nat.le_of_ble_eq_true rfl) (Nat.le_of_ble_eq_true rfl) dX0_init_32 (fun q_3 H hP hD hS => ?_)
  have hP : va_P g.1 vwCl [(a_t, .inr (0, [.int (0 : Int32), .int (0 : Int32), .ref q_1, .ref q_2, .null, .null])), aI g q_1 7 zR, aI g q_2 5 zR, aI g q_3 7 zR] H := hP
  have hD : va_D A [(a_t, .inr (0, [.int (0 : Int32), .int (0 : Int32), .ref q_1, .ref q_2, .null, .null])), aI g q_1 7 zR, aI g q_2 5 zR, aI g q_3 7 zR] := hD
  refine W.widen (k := 3) (n := 19) (Nat.le_of_ble_eq_true rfl) (Nat.le_of_ble_eq_true rfl) ?_
  refine va_putF (D := g.1) (ci := 0) (v := .ref q_3) (ty := .array .int) (C := RX0) (T := TX0) (N := 6) hx hb hts iX0_init_X0 tyX0 tyX0_ok nmX0 hown hK.1 hP hD hS 0 rfl rfl 4 (by decide) (hts _ kX0_init_26) (fun _ h9 => h9) rfl hin rfl (by decide +kernel) rfl rfl (Nat.le_of_ble_eq_true rfl) dX0_init_34 (fun H locs hP hD hS => ?_)
  have hP : va_P g.1 vwCl [(a_t, .inr (0, [.int (0 : Int32), .int (0 : Int32), .ref q_1, .ref q_2, .ref q_3, .null])), aI g q_1 7 zR, aI g q_2 5 zR, aI g q_3 7 zR] H := hP
  have hD : va_D A [(a_t, .inr (0, [.int (0 : Int32), .int (0 : Int32), .ref q_1, .ref q_2, .ref q_3, .null])), aI g q_1 7 zR, aI g q_2 5 zR, aI g q_3 7 zR] := hD
  refine lv_aload_n hx hb dX0_init_37 rfl (lv_at hl 0 rfl) ?_
  refine va_new (ci := 2) (fs := [.int 0, .int 0, .int 0, .int 0, .int 0, .int 0, .null, .null, .null]) (C := RX2) (T := TX2) (N := 9) hx hb hts iX0_init_X2 tyX2 tyX2_ok hown (hts _ kX0_init_cl_29) (hts _ kX0_init_in_X2) (hts _ kX0_init_ii_X2) hK.1 hP hD hS hA rfl dvX2 (Nat.le_of_ble_eq_true rfl) (Nat.le_of_ble_eq_true rfl) dX0_init_38 (fun q_4 H hP hD hS => ?_)
  refine W.widen (k := 4) (n := 28) (Nat.le_of_ble_eq_true rfl) (Nat.le_of_ble_eq_true rfl) ?_
  refine lv_dup hx hb dX0_init_41 rfl ?_
  refine call_cN (W0 := [(a_t, .inr (0, [.int (0 : Int32), .int (0 : Int32), .ref q_1, .ref q_2, .ref q_3, .null])), aI g q_1 7 zR, aI g q_2 5 zR, aI g q_3 7 zR]) (As := []) (rest := [.ref q_4, .ref a_t]) C0 (mX2_init l g q_4) ⟨va_cnB 0 hts gX0_init_X2_init_n31 rfl rfl rfl (hK.2.1.1 (RX0, 31, yX2_init, RX9) (List.mem_of_getElem? (i := 6) rfl)) (hts _ kX0_init_ii_X2) (by decide +kernel) ⟨Nat.le_of_ble_eq_true rfl, Nat.le_of_ble_eq_true rfl⟩, rfl, hts _ kX0_init_im_X2⟩ hP hD hS hl.1 rfl rfl (Nat.le_of_ble_eq_true rfl) ⟨Nat.le_of_ble_eq_true rfl, Nat.le_of_ble_eq_true rfl⟩ dX0_init_42 ?_
  intro v_5 H locs hP hD hS
  have hP : va_P g.1 vwCl [(a_t, .inr (0, [.int (0 : Int32), .int (0 : Int32), .ref q_1, .ref q_2, .ref q_3, .null])), aI g q_1 7 zR, aI g q_2 5 zR, aI g q_3 7 zR, oX2 q_4 v_5 zR, aI g (v_5 6) 7 zR, aI g (v_5 7) 7 zR, aI g (v_5 8) 7 zR] H := hP
  have hD : va_D A [(a_t, .inr (0, [.int (0 : Int32), .int (0 : Int32), .ref q_1, .ref q_2, .ref q_3, .null])), aI g q_1 7 zR, aI g q_2 5 zR, aI g q_3 7 zR, oX2 q_4 v_5 zR, aI g (v_5 6) 7 zR, aI g (v_5 7) 7 zR, aI g (v_5 8) 7 zR] := hD
  refine W.widen (k := 7) (n := 49) (Nat.le_of_ble_eq_true rfl) (Nat.le_of_ble_eq_true rfl) ?_
  refine va_putF (D := g.1) (ci := 0) (v := .ref q_4) (ty := .object "EveningVow$Night") (C := RX0) (T := TX0) (N := 6) hx hb hts iX0_init_X0 tyX0 tyX0_ok nmX0 hown hK.1 hP hD hS 0 rfl rfl 5 (by decide) (hts _ kX0_init_32) (fun _ h9 => h9) rfl hin rfl (by decide +kernel) rfl rfl (Nat.le_of_ble_eq_true rfl) dX0_init_45 (fun H locs hP hD hS => ?_)
  have hP : va_P g.1 vwCl [(a_t, .inr (0, [.int (0 : Int32), .int (0 : Int32), .ref q_1, .ref q_2, .ref q_3, .ref q_4])), aI g q_1 7 zR, aI g q_2 5 zR, aI g q_3 7 zR, oX2 q_4 v_5 zR, aI g (v_5 6) 7 zR, aI g (v_5 7) 7 zR, aI g (v_5 8) 7 zR] H := hP
  have hD : va_D A [(a_t, .inr (0, [.int (0 : Int32), .int (0 : Int32), .ref q_1, .ref q_2, .ref q_3, .ref q_4])), aI g q_1 7 zR, aI g q_2 5 zR, aI g q_3 7 zR, oX2 q_4 v_5 zR, aI g (v_5 6) 7 zR, aI g (v_5 7) 7 zR, aI g (v_5 8) 7 zR] := hD
  exact ret_c ((va_up (va_up (va_up (va_up (fun _ => 0) 2 q_1) 3 q_2) 4 q_3) 5 q_4), v_5) C0 hP hD hS [0, 1, 2, 3, 4, 5, 6, 7] rfl rfl rfl dX0_init_48

theorem dAX8_init : ∀ q ∈ ([(0, (.aload_n 0, 1)), (1, (.invokespecial 3, 3)), (4, (.aload_n 0, 1)), (5, (.iconst 0, 1)), (6, (.putfield 9, 3)), (9, (.aload_n 0, 1)), (10, (.iconst 0, 1)), (11, (.putfield 15, 3)), (14, (.aload_n 0, 1)), (15, (.bipush (-2), 2)), (17, (.putfield 19, 3)), (20, (.aload_n 0, 1)), (21, (.sipush 218, 3)), (24, (.newarray .int, 2)), (26, (.putfield 22, 3)), (29, (.aload_n 0, 1)), (30, (.bipush 31, 2)), (32, (.newarray .int, 2)), (34, (.putfield 26, 3)), (37, (.aload_n 0, 1)), (38, (.new 29, 3)), (41, (.dup, 1)), (42, (.invokespecial 31, 3)), (45, (.putfield 32, 3)), (48, (.aload_n 0, 1)), (49, (.new 29, 3)), (52, (.dup, 1)), (53, (.invokespecial 31, 3)), (56, (.putfield 36, 3)), (59, (.return_, 1))] : List (Nat × (Instr × Nat))), decode cX8_init q.1 = .ok q.2 := by decide +kernel
theorem dX8_init_0 : decode cX8_init 0 = .ok (.aload_n 0, 1) := dAX8_init (0, (.aload_n 0, 1)) (List.mem_of_getElem? (i := 0) rfl)
theorem dX8_init_1 : decode cX8_init 1 = .ok (.invokespecial 3, 3) := dAX8_init (1, (.invokespecial 3, 3)) (List.mem_of_getElem? (i := 1) rfl)
theorem dX8_init_4 : decode cX8_init 4 = .ok (.aload_n 0, 1) := dAX8_init (4, (.aload_n 0, 1)) (List.mem_of_getElem? (i := 2) rfl)
theorem dX8_init_5 : decode cX8_init 5 = .ok (.iconst 0, 1) := dAX8_init (5, (.iconst 0, 1)) (List.mem_of_getElem? (i := 3) rfl)
theorem dX8_init_6 : decode cX8_init 6 = .ok (.putfield 9, 3) := dAX8_init (6, (.putfield 9, 3)) (List.mem_of_getElem? (i := 4) rfl)
theorem dX8_init_9 : decode cX8_init 9 = .ok (.aload_n 0, 1) := dAX8_init (9, (.aload_n 0, 1)) (List.mem_of_getElem? (i := 5) rfl)
theorem dX8_init_10 : decode cX8_init 10 = .ok (.iconst 0, 1) := dAX8_init (10, (.iconst 0, 1)) (List.mem_of_getElem? (i := 6) rfl)
theorem dX8_init_11 : decode cX8_init 11 = .ok (.putfield 15, 3) := dAX8_init (11, (.putfield 15, 3)) (List.mem_of_getElem? (i := 7) rfl)
theorem dX8_init_14 : decode cX8_init 14 = .ok (.aload_n 0, 1) := dAX8_init (14, (.aload_n 0, 1)) (List.mem_of_getElem? (i := 8) rfl)
theorem dX8_init_15 : decode cX8_init 15 = .ok (.bipush (-2), 2) := dAX8_init (15, (.bipush (-2), 2)) (List.mem_of_getElem? (i := 9) rfl)
theorem dX8_init_17 : decode cX8_init 17 = .ok (.putfield 19, 3) := dAX8_init (17, (.putfield 19, 3)) (List.mem_of_getElem? (i := 10) rfl)
theorem dX8_init_20 : decode cX8_init 20 = .ok (.aload_n 0, 1) := dAX8_init (20, (.aload_n 0, 1)) (List.mem_of_getElem? (i := 11) rfl)
theorem dX8_init_21 : decode cX8_init 21 = .ok (.sipush 218, 3) := dAX8_init (21, (.sipush 218, 3)) (List.mem_of_getElem? (i := 12) rfl)
theorem dX8_init_24 : decode cX8_init 24 = .ok (.newarray .int, 2) := dAX8_init (24, (.newarray .int, 2)) (List.mem_of_getElem? (i := 13) rfl)
theorem dX8_init_26 : decode cX8_init 26 = .ok (.putfield 22, 3) := dAX8_init (26, (.putfield 22, 3)) (List.mem_of_getElem? (i := 14) rfl)
theorem dX8_init_29 : decode cX8_init 29 = .ok (.aload_n 0, 1) := dAX8_init (29, (.aload_n 0, 1)) (List.mem_of_getElem? (i := 15) rfl)
theorem dX8_init_30 : decode cX8_init 30 = .ok (.bipush 31, 2) := dAX8_init (30, (.bipush 31, 2)) (List.mem_of_getElem? (i := 16) rfl)
theorem dX8_init_32 : decode cX8_init 32 = .ok (.newarray .int, 2) := dAX8_init (32, (.newarray .int, 2)) (List.mem_of_getElem? (i := 17) rfl)
theorem dX8_init_34 : decode cX8_init 34 = .ok (.putfield 26, 3) := dAX8_init (34, (.putfield 26, 3)) (List.mem_of_getElem? (i := 18) rfl)
theorem dX8_init_37 : decode cX8_init 37 = .ok (.aload_n 0, 1) := dAX8_init (37, (.aload_n 0, 1)) (List.mem_of_getElem? (i := 19) rfl)
theorem dX8_init_38 : decode cX8_init 38 = .ok (.new 29, 3) := dAX8_init (38, (.new 29, 3)) (List.mem_of_getElem? (i := 20) rfl)
theorem dX8_init_41 : decode cX8_init 41 = .ok (.dup, 1) := dAX8_init (41, (.dup, 1)) (List.mem_of_getElem? (i := 21) rfl)
theorem dX8_init_42 : decode cX8_init 42 = .ok (.invokespecial 31, 3) := dAX8_init (42, (.invokespecial 31, 3)) (List.mem_of_getElem? (i := 22) rfl)
theorem dX8_init_45 : decode cX8_init 45 = .ok (.putfield 32, 3) := dAX8_init (45, (.putfield 32, 3)) (List.mem_of_getElem? (i := 23) rfl)
theorem dX8_init_48 : decode cX8_init 48 = .ok (.aload_n 0, 1) := dAX8_init (48, (.aload_n 0, 1)) (List.mem_of_getElem? (i := 24) rfl)
theorem dX8_init_49 : decode cX8_init 49 = .ok (.new 29, 3) := dAX8_init (49, (.new 29, 3)) (List.mem_of_getElem? (i := 25) rfl)
theorem dX8_init_52 : decode cX8_init 52 = .ok (.dup, 1) := dAX8_init (52, (.dup, 1)) (List.mem_of_getElem? (i := 26) rfl)
theorem dX8_init_53 : decode cX8_init 53 = .ok (.invokespecial 31, 3) := dAX8_init (53, (.invokespecial 31, 3)) (List.mem_of_getElem? (i := 27) rfl)
theorem dX8_init_56 : decode cX8_init 56 = .ok (.putfield 36, 3) := dAX8_init (56, (.putfield 36, 3)) (List.mem_of_getElem? (i := 28) rfl)
theorem dX8_init_59 : decode cX8_init 59 = .ok (.return_, 1) := dAX8_init (59, (.return_, 1)) (List.mem_of_getElem? (i := 29) rfl)
set_option maxRecDepth 20000 in
theorem ggX8_init_X2_init : GoodIn wsX8_init wsX2_init := goodIn_r _ [16, 17, 2, 3, 18, 19, 20, 21, 22, 23, 7, 24, 25, 26, 34, 35, 36, 37, 38, 39, 40, 41, 42] rfl (by decide +kernel)
set_option maxRecDepth 20000 in
theorem gX8_init_X2_init_n31 : GoodIn wsX8_init (wsX2_init) := ggX8_init_X2_init
abbrev BX8 (g : GG) (a : Nat) (u : (Nat → Nat) × (Nat → Nat) × (Nat → Nat)) : va_W := [oX8 a u.1 (upd zR 2 (-2 : Int32)), aI g (u.1 3) 218 zR, aI g (u.1 4) 31 zR, oX2 (u.1 5) u.2.1 zR, aI g (u.2.1 6) 7 zR, aI g (u.2.1 7) 7 zR, aI g (u.2.1 8) 7 zR, oX2 (u.1 6) u.2.2 zR, aI g (u.2.2 6) 7 zR, aI g (u.2.2 7) 7 zR, aI g (u.2.2 8) 7 zR]
theorem kX8_init_o1 : Cond.methodLink RX8 3 objectInit ∈ wsX8_init := List.mem_of_getElem? (i := 1) rfl
theorem kX8_init_o2 : Cond.instanceMethod objectInit ∈ wsX8_init := List.mem_of_getElem? (i := 2) rfl
theorem kX8_init_o3 : Cond.code objectInit ⟨#[0xb1]⟩ 1 none ∈ wsX8_init := List.mem_of_getElem? (i := 3) rfl
theorem kX8_init_9 : Cond.fieldLink RX8 9 "EveningVow$Unseen" "known" "Z" ∈ wsX8_init := List.mem_of_getElem? (i := 4) rfl
theorem iX8_init_X8 : ∀ w ∈ u_ws RX8 TX8 7, w ∈ wsX8_init := fun w h => (List.mem_cons_of_mem _ (List.mem_append_left _ (List.mem_append_right _ h)))
theorem kX8_init_15 : Cond.fieldLink RX8 15 "EveningVow$Unseen" "ways" "I" ∈ wsX8_init := List.mem_of_getElem? (i := 5) rfl
theorem kX8_init_19 : Cond.fieldLink RX8 19 "EveningVow$Unseen" "wrongSight" "I" ∈ wsX8_init := List.mem_of_getElem? (i := 6) rfl
theorem kX8_init_ac_int : Cond.arrayClass .int ∈ wsX8_init := List.mem_of_getElem? (i := 7) rfl
theorem kX8_init_22 : Cond.fieldLink RX8 22 "EveningVow$Unseen" "way" "[I" ∈ wsX8_init := List.mem_of_getElem? (i := 8) rfl
theorem kX8_init_26 : Cond.fieldLink RX8 26 "EveningVow$Unseen" "thereAt" "[I" ∈ wsX8_init := List.mem_of_getElem? (i := 9) rfl
theorem kX8_init_cl_29 : Cond.classLink RX8 29 RX2 ∈ wsX8_init := List.mem_of_getElem? (i := 10) rfl
theorem kX8_init_in_X2 : Cond.instantiable RX2 9 ∈ wsX8_init := List.mem_of_getElem? (i := 11) rfl
theorem kX8_init_ii_X2 : Cond.initialized RX2 ∈ wsX8_init := List.mem_of_getElem? (i := 12) rfl
theorem iX8_init_X2 : ∀ w ∈ u_ws RX2 TX2 9, w ∈ wsX8_init := fun w h => (List.mem_cons_of_mem _ (List.mem_append_right _ h))
theorem kX8_init_im_X2 : Cond.instanceMethod yX2_init ∈ wsX8_init := List.mem_of_getElem? (i := 15) rfl
theorem kX8_init_32 : Cond.fieldLink RX8 32 "EveningVow$Unseen" "base" "LEveningVow$Night;" ∈ wsX8_init := List.mem_of_getElem? (i := 13) rfl
theorem kX8_init_36 : Cond.fieldLink RX8 36 "EveningVow$Unseen" "trial" "LEveningVow$Night;" ∈ wsX8_init := List.mem_of_getElem? (i := 14) rfl
set_option maxHeartbeats 8000000 in
set_option maxRecDepth 100000 in
theorem mX8_init (l : Launch) (g : GG) (a_t : Nat) : MC l g yX8_init wsX8_init ({ frames := 2, cells := 10, slots := 309, locals := 32 } : Room) 10 309 [.ref a_t] [(a_t, .inr (8, [.int 0, .int 0, .int 0, .null, .null, .null, .null]))] (BX8 g a_t) := by
  refine MC.of (cc := cX8_init) (maxL := 1) (own := RX8) rfl rfl rfl (by decide) (Nat.le_of_ble_eq_true rfl) ?_
  intro p e s m args below meth c A C0 hin hP hD hS ls hl
  obtain ⟨hx, hb, hml, hown, hts, hr, hlk, hK, hA, hSW⟩ := id C0
  have hl : lv_has ls 1 [(0, .ref a_t)] := hl
  refine lv_aload_n hx hb dX8_init_0 rfl (lv_at hl 0 rfl) ?_
  refine W.objInit hx hb hown (hts _ kX8_init_o1) (hts _ kX8_init_o2) (hts _ kX8_init_o3) rfl (by rw [hml]; exact hl.1) rfl dX8_init_1 (Nat.le_of_ble_eq_true rfl) (Nat.le_of_ble_eq_true rfl) ?_
  refine W.eq (g2 := F0 m 4 ls []) rfl ?_
  refine lv_aload_n hx hb dX8_init_4 rfl (lv_at hl 0 rfl) ?_
  refine lv_iconst (v := (0 : Int32)) hx hb dX8_init_5 (by decide) ?_
  refine va_put (D := g.1) (ci := 8) (v := .int (0 : Int32)) (ty := .boolean) (C := RX8) (T := TX8) (N := 7) hx hb hts iX8_init_X8 tyX8 tyX8_ok nmX8 hown hK.1 hP hD hS 0 rfl rfl 0 (by decide) (hts _ kX8_init_9) (fun _ h9 => h9) rfl (by decide +kernel) rfl rfl (Nat.le_of_ble_eq_true rfl) dX8_init_6 (fun H locs hP hD hS => ?_)
  have hP : va_P g.1 vwCl [(a_t, .inr (8, [.int (0 : Int32), .int 0, .int 0, .null, .null, .null, .null]))] H := hP
  have hD : va_D A [(a_t, .inr (8, [.int (0 : Int32), .int 0, .int 0, .null, .null, .null, .null]))] := hD
  refine lv_aload_n hx hb dX8_init_9 rfl (lv_at hl 0 rfl) ?_
  refine lv_iconst (v := (0 : Int32)) hx hb dX8_init_10 (by decide) ?_
  refine va_put (D := g.1) (ci := 8) (v := .int (0 : Int32)) (ty := .int) (C := RX8) (T := TX8) (N := 7) hx hb hts iX8_init_X8 tyX8 tyX8_ok nmX8 hown hK.1 hP hD hS 0 rfl rfl 1 (by decide) (hts _ kX8_init_15) (fun _ h9 => h9) rfl (by decide +kernel) rfl rfl (Nat.le_of_ble_eq_true rfl) dX8_init_11 (fun H locs hP hD hS => ?_)
  have hP : va_P g.1 vwCl [(a_t, .inr (8, [.int (0 : Int32), .int (0 : Int32), .int 0, .null, .null, .null, .null]))] H := hP
  have hD : va_D A [(a_t, .inr (8, [.int (0 : Int32), .int (0 : Int32), .int 0, .null, .null, .null, .null]))] := hD
  refine lv_aload_n hx hb dX8_init_14 rfl (lv_at hl 0 rfl) ?_
  refine lv_bipush (v := (-2 : Int32)) hx hb dX8_init_15 (by decide) ?_
  refine va_put (D := g.1) (ci := 8) (v := .int (-2 : Int32)) (ty := .int) (C := RX8) (T := TX8) (N := 7) hx hb hts iX8_init_X8 tyX8 tyX8_ok nmX8 hown hK.1 hP hD hS 0 rfl rfl 2 (by decide) (hts _ kX8_init_19) (fun _ h9 => h9) rfl (by decide +kernel) rfl rfl (Nat.le_of_ble_eq_true rfl) dX8_init_17 (fun H locs hP hD hS => ?_)
  have hP : va_P g.1 vwCl [(a_t, .inr (8, [.int (0 : Int32), .int (0 : Int32), .int (-2 : Int32), .null, .null, .null, .null]))] H := hP
  have hD : va_D A [(a_t, .inr (8, [.int (0 : Int32), .int (0 : Int32), .int (-2 : Int32), .null, .null, .null, .null]))] := hD
  refine lv_aload_n hx hb dX8_init_20 rfl (lv_at hl 0 rfl) ?_
  refine lv_sipush (v := (218 : Int32)) hx hb dX8_init_21 (by decide) ?_
  refine newI C0 kX8_init_ac_int hP hD hS (n := (218 : Int32)) (N := 218) (by decide) (by decide) (by decide) (Nat.le_of_ble_eq_true rfl) (Nat.le_of_ble_eq_true rfl) dX8_init_24 (fun q_1 H hP hD hS => ?_)
  have hP : va_P g.1 vwCl [(a_t, .inr (8, [.int (0 : Int32), .int (0 : Int32), .int (-2 : Int32), .null, .null, .null, .null])), aI g q_1 218 zR] H := hP
  have hD : va_D A [(a_t, .inr (8, [.int (0 : Int32), .int (0 : Int32), .int (-2 : Int32), .null, .null, .null, .null])), aI g q_1 218 zR] := hD
  refine W.widen (k := 1) (n := 218) (Nat.le_of_ble_eq_true rfl) (Nat.le_of_ble_eq_true rfl) ?_
  refine va_putF (D := g.1) (ci := 8) (v := .ref q_1) (ty := .array .int) (C := RX8) (T := TX8) (N := 7) hx hb hts iX8_init_X8 tyX8 tyX8_ok nmX8 hown hK.1 hP hD hS 0 rfl rfl 3 (by decide) (hts _ kX8_init_22) (fun _ h9 => h9) rfl hin rfl (by decide +kernel) rfl rfl (Nat.le_of_ble_eq_true rfl) dX8_init_26 (fun H locs hP hD hS => ?_)
  have hP : va_P g.1 vwCl [(a_t, .inr (8, [.int (0 : Int32), .int (0 : Int32), .int (-2 : Int32), .ref q_1, .null, .null, .null])), aI g q_1 218 zR] H := hP
  have hD : va_D A [(a_t, .inr (8, [.int (0 : Int32), .int (0 : Int32), .int (-2 : Int32), .ref q_1, .null, .null, .null])), aI g q_1 218 zR] := hD
  refine lv_aload_n hx hb dX8_init_29 rfl (lv_at hl 0 rfl) ?_
  refine lv_bipush (v := (31 : Int32)) hx hb dX8_init_30 (by decide) ?_
  refine newI C0 kX8_init_ac_int hP hD hS (n := (31 : Int32)) (N := 31) (by decide) (by decide) (by decide) (Nat.le_of_ble_eq_true rfl) (Nat.le_of_ble_eq_true rfl) dX8_init_32 (fun q_2 H hP hD hS => ?_)
  have hP : va_P g.1 vwCl [(a_t, .inr (8, [.int (0 : Int32), .int (0 : Int32), .int (-2 : Int32), .ref q_1, .null, .null, .null])), aI g q_1 218 zR, aI g q_2 31 zR] H := hP
  have hD : va_D A [(a_t, .inr (8, [.int (0 : Int32), .int (0 : Int32), .int (-2 : Int32), .ref q_1, .null, .null, .null])), aI g q_1 218 zR, aI g q_2 31 zR] := hD
  refine W.widen (k := 2) (n := 249) (Nat.le_of_ble_eq_true rfl) (Nat.le_of_ble_eq_true rfl) ?_
  refine va_putF (D := g.1) (ci := 8) (v := .ref q_2) (ty := .array .int) (C := RX8) (T := TX8) (N := 7) hx hb hts iX8_init_X8 tyX8 tyX8_ok nmX8 hown hK.1 hP hD hS 0 rfl rfl 4 (by decide) (hts _ kX8_init_26) (fun _ h9 => h9) rfl hin rfl (by decide +kernel) rfl rfl (Nat.le_of_ble_eq_true rfl) dX8_init_34 (fun H locs hP hD hS => ?_)
  have hP : va_P g.1 vwCl [(a_t, .inr (8, [.int (0 : Int32), .int (0 : Int32), .int (-2 : Int32), .ref q_1, .ref q_2, .null, .null])), aI g q_1 218 zR, aI g q_2 31 zR] H := hP
  have hD : va_D A [(a_t, .inr (8, [.int (0 : Int32), .int (0 : Int32), .int (-2 : Int32), .ref q_1, .ref q_2, .null, .null])), aI g q_1 218 zR, aI g q_2 31 zR] := hD
  refine lv_aload_n hx hb dX8_init_37 rfl (lv_at hl 0 rfl) ?_
  refine va_new (ci := 2) (fs := [.int 0, .int 0, .int 0, .int 0, .int 0, .int 0, .null, .null, .null]) (C := RX2) (T := TX2) (N := 9) hx hb hts iX8_init_X2 tyX2 tyX2_ok hown (hts _ kX8_init_cl_29) (hts _ kX8_init_in_X2) (hts _ kX8_init_ii_X2) hK.1 hP hD hS hA rfl dvX2 (Nat.le_of_ble_eq_true rfl) (Nat.le_of_ble_eq_true rfl) dX8_init_38 (fun q_3 H hP hD hS => ?_)
  refine W.widen (k := 3) (n := 258) (Nat.le_of_ble_eq_true rfl) (Nat.le_of_ble_eq_true rfl) ?_
  refine lv_dup hx hb dX8_init_41 rfl ?_
  refine call_cN (W0 := [(a_t, .inr (8, [.int (0 : Int32), .int (0 : Int32), .int (-2 : Int32), .ref q_1, .ref q_2, .null, .null])), aI g q_1 218 zR, aI g q_2 31 zR]) (As := []) (rest := [.ref q_3, .ref a_t]) C0 (mX2_init l g q_3) ⟨va_cnB 0 hts gX8_init_X2_init_n31 rfl rfl rfl (hK.2.1.1 (RX8, 31, yX2_init, RX9) (List.mem_of_getElem? (i := 10) rfl)) (hts _ kX8_init_ii_X2) (by decide +kernel) ⟨Nat.le_of_ble_eq_true rfl, Nat.le_of_ble_eq_true rfl⟩, rfl, hts _ kX8_init_im_X2⟩ hP hD hS hl.1 rfl rfl (Nat.le_of_ble_eq_true rfl) ⟨Nat.le_of_ble_eq_true rfl, Nat.le_of_ble_eq_true rfl⟩ dX8_init_42 ?_
  intro v_4 H locs hP hD hS
  have hP : va_P g.1 vwCl [(a_t, .inr (8, [.int (0 : Int32), .int (0 : Int32), .int (-2 : Int32), .ref q_1, .ref q_2, .null, .null])), aI g q_1 218 zR, aI g q_2 31 zR, oX2 q_3 v_4 zR, aI g (v_4 6) 7 zR, aI g (v_4 7) 7 zR, aI g (v_4 8) 7 zR] H := hP
  have hD : va_D A [(a_t, .inr (8, [.int (0 : Int32), .int (0 : Int32), .int (-2 : Int32), .ref q_1, .ref q_2, .null, .null])), aI g q_1 218 zR, aI g q_2 31 zR, oX2 q_3 v_4 zR, aI g (v_4 6) 7 zR, aI g (v_4 7) 7 zR, aI g (v_4 8) 7 zR] := hD
  refine W.widen (k := 6) (n := 279) (Nat.le_of_ble_eq_true rfl) (Nat.le_of_ble_eq_true rfl) ?_
  refine va_putF (D := g.1) (ci := 8) (v := .ref q_3) (ty := .object "EveningVow$Night") (C := RX8) (T := TX8) (N := 7) hx hb hts iX8_init_X8 tyX8 tyX8_ok nmX8 hown hK.1 hP hD hS 0 rfl rfl 5 (by decide) (hts _ kX8_init_32) (fun _ h9 => h9) rfl hin rfl (by decide +kernel) rfl rfl (Nat.le_of_ble_eq_true rfl) dX8_init_45 (fun H locs hP hD hS => ?_)
  have hP : va_P g.1 vwCl [(a_t, .inr (8, [.int (0 : Int32), .int (0 : Int32), .int (-2 : Int32), .ref q_1, .ref q_2, .ref q_3, .null])), aI g q_1 218 zR, aI g q_2 31 zR, oX2 q_3 v_4 zR, aI g (v_4 6) 7 zR, aI g (v_4 7) 7 zR, aI g (v_4 8) 7 zR] H := hP
  have hD : va_D A [(a_t, .inr (8, [.int (0 : Int32), .int (0 : Int32), .int (-2 : Int32), .ref q_1, .ref q_2, .ref q_3, .null])), aI g q_1 218 zR, aI g q_2 31 zR, oX2 q_3 v_4 zR, aI g (v_4 6) 7 zR, aI g (v_4 7) 7 zR, aI g (v_4 8) 7 zR] := hD
  refine lv_aload_n hx hb dX8_init_48 rfl (lv_at hl 0 rfl) ?_
  refine va_new (ci := 2) (fs := [.int 0, .int 0, .int 0, .int 0, .int 0, .int 0, .null, .null, .null]) (C := RX2) (T := TX2) (N := 9) hx hb hts iX8_init_X2 tyX2 tyX2_ok hown (hts _ kX8_init_cl_29) (hts _ kX8_init_in_X2) (hts _ kX8_init_ii_X2) hK.1 hP hD hS hA rfl dvX2 (Nat.le_of_ble_eq_true rfl) (Nat.le_of_ble_eq_true rfl) dX8_init_49 (fun q_5 H hP hD hS => ?_)
  refine W.widen (k := 7) (n := 288) (Nat.le_of_ble_eq_true rfl) (Nat.le_of_ble_eq_true rfl) ?_
  refine lv_dup hx hb dX8_init_52 rfl ?_
  refine call_cN (W0 := [(a_t, .inr (8, [.int (0 : Int32), .int (0 : Int32), .int (-2 : Int32), .ref q_1, .ref q_2, .ref q_3, .null])), aI g q_1 218 zR, aI g q_2 31 zR, oX2 q_3 v_4 zR, aI g (v_4 6) 7 zR, aI g (v_4 7) 7 zR, aI g (v_4 8) 7 zR]) (As := []) (rest := [.ref q_5, .ref a_t]) C0 (mX2_init l g q_5) ⟨va_cnB 0 hts gX8_init_X2_init_n31 rfl rfl rfl (hK.2.1.1 (RX8, 31, yX2_init, RX9) (List.mem_of_getElem? (i := 10) rfl)) (hts _ kX8_init_ii_X2) (by decide +kernel) ⟨Nat.le_of_ble_eq_true rfl, Nat.le_of_ble_eq_true rfl⟩, rfl, hts _ kX8_init_im_X2⟩ hP hD hS hl.1 rfl rfl (Nat.le_of_ble_eq_true rfl) ⟨Nat.le_of_ble_eq_true rfl, Nat.le_of_ble_eq_true rfl⟩ dX8_init_53 ?_
  intro v_6 H locs hP hD hS
  have hP : va_P g.1 vwCl [(a_t, .inr (8, [.int (0 : Int32), .int (0 : Int32), .int (-2 : Int32), .ref q_1, .ref q_2, .ref q_3, .null])), aI g q_1 218 zR, aI g q_2 31 zR, oX2 q_3 v_4 zR, aI g (v_4 6) 7 zR, aI g (v_4 7) 7 zR, aI g (v_4 8) 7 zR, oX2 q_5 v_6 zR, aI g (v_6 6) 7 zR, aI g (v_6 7) 7 zR, aI g (v_6 8) 7 zR] H := hP
  have hD : va_D A [(a_t, .inr (8, [.int (0 : Int32), .int (0 : Int32), .int (-2 : Int32), .ref q_1, .ref q_2, .ref q_3, .null])), aI g q_1 218 zR, aI g q_2 31 zR, oX2 q_3 v_4 zR, aI g (v_4 6) 7 zR, aI g (v_4 7) 7 zR, aI g (v_4 8) 7 zR, oX2 q_5 v_6 zR, aI g (v_6 6) 7 zR, aI g (v_6 7) 7 zR, aI g (v_6 8) 7 zR] := hD
  refine W.widen (k := 10) (n := 309) (Nat.le_of_ble_eq_true rfl) (Nat.le_of_ble_eq_true rfl) ?_
  refine va_putF (D := g.1) (ci := 8) (v := .ref q_5) (ty := .object "EveningVow$Night") (C := RX8) (T := TX8) (N := 7) hx hb hts iX8_init_X8 tyX8 tyX8_ok nmX8 hown hK.1 hP hD hS 0 rfl rfl 6 (by decide) (hts _ kX8_init_36) (fun _ h9 => h9) rfl hin rfl (by decide +kernel) rfl rfl (Nat.le_of_ble_eq_true rfl) dX8_init_56 (fun H locs hP hD hS => ?_)
  have hP : va_P g.1 vwCl [(a_t, .inr (8, [.int (0 : Int32), .int (0 : Int32), .int (-2 : Int32), .ref q_1, .ref q_2, .ref q_3, .ref q_5])), aI g q_1 218 zR, aI g q_2 31 zR, oX2 q_3 v_4 zR, aI g (v_4 6) 7 zR, aI g (v_4 7) 7 zR, aI g (v_4 8) 7 zR, oX2 q_5 v_6 zR, aI g (v_6 6) 7 zR, aI g (v_6 7) 7 zR, aI g (v_6 8) 7 zR] H := hP
  have hD : va_D A [(a_t, .inr (8, [.int (0 : Int32), .int (0 : Int32), .int (-2 : Int32), .ref q_1, .ref q_2, .ref q_3, .ref q_5])), aI g q_1 218 zR, aI g q_2 31 zR, oX2 q_3 v_4 zR, aI g (v_4 6) 7 zR, aI g (v_4 7) 7 zR, aI g (v_4 8) 7 zR, oX2 q_5 v_6 zR, aI g (v_6 6) 7 zR, aI g (v_6 7) 7 zR, aI g (v_6 8) 7 zR] := hD
  exact ret_c ((va_up (va_up (va_up (va_up (fun _ => 0) 3 q_1) 4 q_2) 5 q_3) 6 q_5), v_4, v_6) C0 hP hD hS [0, 1, 2, 3, 4, 5, 6, 7, 8, 9, 10] rfl rfl rfl dX8_init_59

theorem dAX10_init : ∀ q ∈ ([(0, (.aload_n 0, 1)), (1, (.invokespecial 1, 3)), (4, (.aload_n 0, 1)), (5, (.sipush 800, 3)), (8, (.newarray .int, 2)), (10, (.putfield 7, 3)), (13, (.aload_n 0, 1)), (14, (.iconst (-1), 1)), (15, (.putfield 13, 3)), (18, (.aload_n 0, 1)), (19, (.bipush 8, 2)), (21, (.newarray .int, 2)), (23, (.putfield 17, 3)), (26, (.aload_n 0, 1)), (27, (.sipush 266, 3)), (30, (.newarray .int, 2)), (32, (.putfield 20, 3)), (35, (.aload_n 0, 1)), (36, (.sipush 266, 3)), (39, (.newarray .int, 2)), (41, (.putfield 23, 3)), (44, (.aload_n 0, 1)), (45, (.bipush 17, 2)), (47, (.newarray .int, 2)), (49, (.putfield 26, 3)), (52, (.aload_n 0, 1)), (53, (.sipush 272, 3)), (56, (.newarray .int, 2)), (58, (.putfield 29, 3)), (61, (.aload_n 0, 1)), (62, (.bipush 51, 2)), (64, (.newarray .int, 2)), (66, (.putfield 32, 3)), (69, (.aload_n 0, 1)), (70, (.bipush 17, 2)), (72, (.newarray .int, 2)), (74, (.putfield 35, 3)), (77, (.aload_n 0, 1)), (78, (.iconst 4, 1)), (79, (.newarray .int, 2)), (81, (.putfield 38, 3)), (84, (.aload_n 0, 1)), (85, (.iconst 4, 1)), (86, (.newarray .int, 2)), (88, (.putfield 41, 3)), (91, (.aload_n 0, 1)), (92, (.bipush 7, 2)), (94, (.newarray .int, 2)), (96, (.putfield 44, 3)), (99, (.aload_n 0, 1)), (100, (.bipush 7, 2)), (102, (.newarray .int, 2)), (104, (.putfield 47, 3)), (107, (.aload_n 0, 1)), (108, (.sipush 218, 3)), (111, (.newarray .int, 2)), (113, (.putfield 50, 3)), (116, (.return_, 1))] : List (Nat × (Instr × Nat))), decode cX10_init q.1 = .ok q.2 := by decide +kernel
theorem dX10_init_0 : decode cX10_init 0 = .ok (.aload_n 0, 1) := dAX10_init (0, (.aload_n 0, 1)) (List.mem_of_getElem? (i := 0) rfl)
theorem dX10_init_1 : decode cX10_init 1 = .ok (.invokespecial 1, 3) := dAX10_init (1, (.invokespecial 1, 3)) (List.mem_of_getElem? (i := 1) rfl)
theorem dX10_init_4 : decode cX10_init 4 = .ok (.aload_n 0, 1) := dAX10_init (4, (.aload_n 0, 1)) (List.mem_of_getElem? (i := 2) rfl)
theorem dX10_init_5 : decode cX10_init 5 = .ok (.sipush 800, 3) := dAX10_init (5, (.sipush 800, 3)) (List.mem_of_getElem? (i := 3) rfl)
theorem dX10_init_8 : decode cX10_init 8 = .ok (.newarray .int, 2) := dAX10_init (8, (.newarray .int, 2)) (List.mem_of_getElem? (i := 4) rfl)
theorem dX10_init_10 : decode cX10_init 10 = .ok (.putfield 7, 3) := dAX10_init (10, (.putfield 7, 3)) (List.mem_of_getElem? (i := 5) rfl)
theorem dX10_init_13 : decode cX10_init 13 = .ok (.aload_n 0, 1) := dAX10_init (13, (.aload_n 0, 1)) (List.mem_of_getElem? (i := 6) rfl)
theorem dX10_init_14 : decode cX10_init 14 = .ok (.iconst (-1), 1) := dAX10_init (14, (.iconst (-1), 1)) (List.mem_of_getElem? (i := 7) rfl)
theorem dX10_init_15 : decode cX10_init 15 = .ok (.putfield 13, 3) := dAX10_init (15, (.putfield 13, 3)) (List.mem_of_getElem? (i := 8) rfl)
theorem dX10_init_18 : decode cX10_init 18 = .ok (.aload_n 0, 1) := dAX10_init (18, (.aload_n 0, 1)) (List.mem_of_getElem? (i := 9) rfl)
theorem dX10_init_19 : decode cX10_init 19 = .ok (.bipush 8, 2) := dAX10_init (19, (.bipush 8, 2)) (List.mem_of_getElem? (i := 10) rfl)
theorem dX10_init_21 : decode cX10_init 21 = .ok (.newarray .int, 2) := dAX10_init (21, (.newarray .int, 2)) (List.mem_of_getElem? (i := 11) rfl)
theorem dX10_init_23 : decode cX10_init 23 = .ok (.putfield 17, 3) := dAX10_init (23, (.putfield 17, 3)) (List.mem_of_getElem? (i := 12) rfl)
theorem dX10_init_26 : decode cX10_init 26 = .ok (.aload_n 0, 1) := dAX10_init (26, (.aload_n 0, 1)) (List.mem_of_getElem? (i := 13) rfl)
theorem dX10_init_27 : decode cX10_init 27 = .ok (.sipush 266, 3) := dAX10_init (27, (.sipush 266, 3)) (List.mem_of_getElem? (i := 14) rfl)
theorem dX10_init_30 : decode cX10_init 30 = .ok (.newarray .int, 2) := dAX10_init (30, (.newarray .int, 2)) (List.mem_of_getElem? (i := 15) rfl)
theorem dX10_init_32 : decode cX10_init 32 = .ok (.putfield 20, 3) := dAX10_init (32, (.putfield 20, 3)) (List.mem_of_getElem? (i := 16) rfl)
theorem dX10_init_35 : decode cX10_init 35 = .ok (.aload_n 0, 1) := dAX10_init (35, (.aload_n 0, 1)) (List.mem_of_getElem? (i := 17) rfl)
theorem dX10_init_36 : decode cX10_init 36 = .ok (.sipush 266, 3) := dAX10_init (36, (.sipush 266, 3)) (List.mem_of_getElem? (i := 18) rfl)
theorem dX10_init_39 : decode cX10_init 39 = .ok (.newarray .int, 2) := dAX10_init (39, (.newarray .int, 2)) (List.mem_of_getElem? (i := 19) rfl)
theorem dX10_init_41 : decode cX10_init 41 = .ok (.putfield 23, 3) := dAX10_init (41, (.putfield 23, 3)) (List.mem_of_getElem? (i := 20) rfl)
theorem dX10_init_44 : decode cX10_init 44 = .ok (.aload_n 0, 1) := dAX10_init (44, (.aload_n 0, 1)) (List.mem_of_getElem? (i := 21) rfl)
theorem dX10_init_45 : decode cX10_init 45 = .ok (.bipush 17, 2) := dAX10_init (45, (.bipush 17, 2)) (List.mem_of_getElem? (i := 22) rfl)
theorem dX10_init_47 : decode cX10_init 47 = .ok (.newarray .int, 2) := dAX10_init (47, (.newarray .int, 2)) (List.mem_of_getElem? (i := 23) rfl)
theorem dX10_init_49 : decode cX10_init 49 = .ok (.putfield 26, 3) := dAX10_init (49, (.putfield 26, 3)) (List.mem_of_getElem? (i := 24) rfl)
theorem dX10_init_52 : decode cX10_init 52 = .ok (.aload_n 0, 1) := dAX10_init (52, (.aload_n 0, 1)) (List.mem_of_getElem? (i := 25) rfl)
theorem dX10_init_53 : decode cX10_init 53 = .ok (.sipush 272, 3) := dAX10_init (53, (.sipush 272, 3)) (List.mem_of_getElem? (i := 26) rfl)
theorem dX10_init_56 : decode cX10_init 56 = .ok (.newarray .int, 2) := dAX10_init (56, (.newarray .int, 2)) (List.mem_of_getElem? (i := 27) rfl)
theorem dX10_init_58 : decode cX10_init 58 = .ok (.putfield 29, 3) := dAX10_init (58, (.putfield 29, 3)) (List.mem_of_getElem? (i := 28) rfl)
theorem dX10_init_61 : decode cX10_init 61 = .ok (.aload_n 0, 1) := dAX10_init (61, (.aload_n 0, 1)) (List.mem_of_getElem? (i := 29) rfl)
theorem dX10_init_62 : decode cX10_init 62 = .ok (.bipush 51, 2) := dAX10_init (62, (.bipush 51, 2)) (List.mem_of_getElem? (i := 30) rfl)
theorem dX10_init_64 : decode cX10_init 64 = .ok (.newarray .int, 2) := dAX10_init (64, (.newarray .int, 2)) (List.mem_of_getElem? (i := 31) rfl)
theorem dX10_init_66 : decode cX10_init 66 = .ok (.putfield 32, 3) := dAX10_init (66, (.putfield 32, 3)) (List.mem_of_getElem? (i := 32) rfl)
theorem dX10_init_69 : decode cX10_init 69 = .ok (.aload_n 0, 1) := dAX10_init (69, (.aload_n 0, 1)) (List.mem_of_getElem? (i := 33) rfl)
theorem dX10_init_70 : decode cX10_init 70 = .ok (.bipush 17, 2) := dAX10_init (70, (.bipush 17, 2)) (List.mem_of_getElem? (i := 34) rfl)
theorem dX10_init_72 : decode cX10_init 72 = .ok (.newarray .int, 2) := dAX10_init (72, (.newarray .int, 2)) (List.mem_of_getElem? (i := 35) rfl)
theorem dX10_init_74 : decode cX10_init 74 = .ok (.putfield 35, 3) := dAX10_init (74, (.putfield 35, 3)) (List.mem_of_getElem? (i := 36) rfl)
theorem dX10_init_77 : decode cX10_init 77 = .ok (.aload_n 0, 1) := dAX10_init (77, (.aload_n 0, 1)) (List.mem_of_getElem? (i := 37) rfl)
theorem dX10_init_78 : decode cX10_init 78 = .ok (.iconst 4, 1) := dAX10_init (78, (.iconst 4, 1)) (List.mem_of_getElem? (i := 38) rfl)
theorem dX10_init_79 : decode cX10_init 79 = .ok (.newarray .int, 2) := dAX10_init (79, (.newarray .int, 2)) (List.mem_of_getElem? (i := 39) rfl)
theorem dX10_init_81 : decode cX10_init 81 = .ok (.putfield 38, 3) := dAX10_init (81, (.putfield 38, 3)) (List.mem_of_getElem? (i := 40) rfl)
theorem dX10_init_84 : decode cX10_init 84 = .ok (.aload_n 0, 1) := dAX10_init (84, (.aload_n 0, 1)) (List.mem_of_getElem? (i := 41) rfl)
theorem dX10_init_85 : decode cX10_init 85 = .ok (.iconst 4, 1) := dAX10_init (85, (.iconst 4, 1)) (List.mem_of_getElem? (i := 42) rfl)
theorem dX10_init_86 : decode cX10_init 86 = .ok (.newarray .int, 2) := dAX10_init (86, (.newarray .int, 2)) (List.mem_of_getElem? (i := 43) rfl)
theorem dX10_init_88 : decode cX10_init 88 = .ok (.putfield 41, 3) := dAX10_init (88, (.putfield 41, 3)) (List.mem_of_getElem? (i := 44) rfl)
theorem dX10_init_91 : decode cX10_init 91 = .ok (.aload_n 0, 1) := dAX10_init (91, (.aload_n 0, 1)) (List.mem_of_getElem? (i := 45) rfl)
theorem dX10_init_92 : decode cX10_init 92 = .ok (.bipush 7, 2) := dAX10_init (92, (.bipush 7, 2)) (List.mem_of_getElem? (i := 46) rfl)
theorem dX10_init_94 : decode cX10_init 94 = .ok (.newarray .int, 2) := dAX10_init (94, (.newarray .int, 2)) (List.mem_of_getElem? (i := 47) rfl)
theorem dX10_init_96 : decode cX10_init 96 = .ok (.putfield 44, 3) := dAX10_init (96, (.putfield 44, 3)) (List.mem_of_getElem? (i := 48) rfl)
theorem dX10_init_99 : decode cX10_init 99 = .ok (.aload_n 0, 1) := dAX10_init (99, (.aload_n 0, 1)) (List.mem_of_getElem? (i := 49) rfl)
theorem dX10_init_100 : decode cX10_init 100 = .ok (.bipush 7, 2) := dAX10_init (100, (.bipush 7, 2)) (List.mem_of_getElem? (i := 50) rfl)
theorem dX10_init_102 : decode cX10_init 102 = .ok (.newarray .int, 2) := dAX10_init (102, (.newarray .int, 2)) (List.mem_of_getElem? (i := 51) rfl)
theorem dX10_init_104 : decode cX10_init 104 = .ok (.putfield 47, 3) := dAX10_init (104, (.putfield 47, 3)) (List.mem_of_getElem? (i := 52) rfl)
theorem dX10_init_107 : decode cX10_init 107 = .ok (.aload_n 0, 1) := dAX10_init (107, (.aload_n 0, 1)) (List.mem_of_getElem? (i := 53) rfl)
theorem dX10_init_108 : decode cX10_init 108 = .ok (.sipush 218, 3) := dAX10_init (108, (.sipush 218, 3)) (List.mem_of_getElem? (i := 54) rfl)
theorem dX10_init_111 : decode cX10_init 111 = .ok (.newarray .int, 2) := dAX10_init (111, (.newarray .int, 2)) (List.mem_of_getElem? (i := 55) rfl)
theorem dX10_init_113 : decode cX10_init 113 = .ok (.putfield 50, 3) := dAX10_init (113, (.putfield 50, 3)) (List.mem_of_getElem? (i := 56) rfl)
theorem dX10_init_116 : decode cX10_init 116 = .ok (.return_, 1) := dAX10_init (116, (.return_, 1)) (List.mem_of_getElem? (i := 57) rfl)
abbrev BX10 (g : GG) (a : Nat) (u : (Nat → Nat)) : va_W := [oX10 a u (upd zR 10 (-1 : Int32)), aI g (u 1) 800 zR, aI g (u 12) 8 zR, aI g (u 15) 266 zR, aI g (u 16) 266 zR, aI g (u 17) 17 zR, aI g (u 18) 272 zR, aI g (u 19) 51 zR, aI g (u 25) 17 zR, aI g (u 26) 4 zR, aI g (u 27) 4 zR, aI g (u 30) 7 zR, aI g (u 31) 7 zR, aI g (u 33) 218 zR]
theorem kX10_init_o1 : Cond.methodLink RX10 1 objectInit ∈ wsX10_init := List.mem_of_getElem? (i := 1) rfl
theorem kX10_init_o2 : Cond.instanceMethod objectInit ∈ wsX10_init := List.mem_of_getElem? (i := 2) rfl
theorem kX10_init_o3 : Cond.code objectInit ⟨#[0xb1]⟩ 1 none ∈ wsX10_init := List.mem_of_getElem? (i := 3) rfl
theorem kX10_init_ac_int : Cond.arrayClass .int ∈ wsX10_init := List.mem_of_getElem? (i := 4) rfl
theorem kX10_init_7 : Cond.fieldLink RX10 7 "EveningVowModel" "tape" "[I" ∈ wsX10_init := List.mem_of_getElem? (i := 5) rfl
theorem iX10_init_X10 : ∀ w ∈ u_ws RX10 TX10 35, w ∈ wsX10_init := fun w h => (List.mem_cons_of_mem _ (List.mem_append_right _ h))
theorem kX10_init_13 : Cond.fieldLink RX10 13 "EveningVowModel" "place" "I" ∈ wsX10_init := List.mem_of_getElem? (i := 6) rfl
theorem kX10_init_17 : Cond.fieldLink RX10 17 "EveningVowModel" "letters" "[I" ∈ wsX10_init := List.mem_of_getElem? (i := 7) rfl
theorem kX10_init_20 : Cond.fieldLink RX10 20 "EveningVowModel" "\x72" "[I" ∈ wsX10_init := List.mem_of_getElem? (i := 8) rfl
theorem kX10_init_23 : Cond.fieldLink RX10 23 "EveningVowModel" "fresh" "[I" ∈ wsX10_init := List.mem_of_getElem? (i := 9) rfl
theorem kX10_init_26 : Cond.fieldLink RX10 26 "EveningVowModel" "st" "[I" ∈ wsX10_init := List.mem_of_getElem? (i := 10) rfl
theorem kX10_init_29 : Cond.fieldLink RX10 29 "EveningVowModel" "undone" "[I" ∈ wsX10_init := List.mem_of_getElem? (i := 11) rfl
theorem kX10_init_32 : Cond.fieldLink RX10 32 "EveningVowModel" "kept" "[I" ∈ wsX10_init := List.mem_of_getElem? (i := 12) rfl
theorem kX10_init_35 : Cond.fieldLink RX10 35 "EveningVowModel" "trial" "[I" ∈ wsX10_init := List.mem_of_getElem? (i := 13) rfl
theorem kX10_init_38 : Cond.fieldLink RX10 38 "EveningVowModel" "tales" "[I" ∈ wsX10_init := List.mem_of_getElem? (i := 14) rfl
theorem kX10_init_41 : Cond.fieldLink RX10 41 "EveningVowModel" "bestTales" "[I" ∈ wsX10_init := List.mem_of_getElem? (i := 15) rfl
theorem kX10_init_44 : Cond.fieldLink RX10 44 "EveningVowModel" "cups" "[I" ∈ wsX10_init := List.mem_of_getElem? (i := 16) rfl
theorem kX10_init_47 : Cond.fieldLink RX10 47 "EveningVowModel" "bestCups" "[I" ∈ wsX10_init := List.mem_of_getElem? (i := 17) rfl
theorem kX10_init_50 : Cond.fieldLink RX10 50 "EveningVowModel" "wayCodes" "[I" ∈ wsX10_init := List.mem_of_getElem? (i := 18) rfl
set_option maxHeartbeats 8000000 in
set_option maxRecDepth 100000 in
theorem mX10_init (l : Launch) (g : GG) (a_t : Nat) : MC l g yX10_init wsX10_init ({ frames := 1, cells := 13, slots := 1937, locals := 12 } : Room) 13 1937 [.ref a_t] [(a_t, .inr (10, [.int 0, .null, .int 0, .int 0, .int 0, .int 0, .int 0, .int 0, .int 0, .int 0, .int 0, .int 0, .null, .int 0, .int 0, .null, .null, .null, .null, .null, .int 0, .int 0, .int 0, .int 0, .int 0, .null, .null, .null, .int 0, .int 0, .null, .null, .int 0, .null, .int 0]))] (BX10 g a_t) := by
  refine MC.of (cc := cX10_init) (maxL := 1) (own := RX10) rfl rfl rfl (by decide) (Nat.le_of_ble_eq_true rfl) ?_
  intro p e s m args below meth c A C0 hin hP hD hS ls hl
  obtain ⟨hx, hb, hml, hown, hts, hr, hlk, hK, hA, hSW⟩ := id C0
  have hl : lv_has ls 1 [(0, .ref a_t)] := hl
  refine lv_aload_n hx hb dX10_init_0 rfl (lv_at hl 0 rfl) ?_
  refine W.objInit hx hb hown (hts _ kX10_init_o1) (hts _ kX10_init_o2) (hts _ kX10_init_o3) rfl (by rw [hml]; exact hl.1) rfl dX10_init_1 (Nat.le_of_ble_eq_true rfl) (Nat.le_of_ble_eq_true rfl) ?_
  refine W.eq (g2 := F0 m 4 ls []) rfl ?_
  refine lv_aload_n hx hb dX10_init_4 rfl (lv_at hl 0 rfl) ?_
  refine lv_sipush (v := (800 : Int32)) hx hb dX10_init_5 (by decide) ?_
  refine newI C0 kX10_init_ac_int hP hD hS (n := (800 : Int32)) (N := 800) (by decide) (by decide) (by decide) (Nat.le_of_ble_eq_true rfl) (Nat.le_of_ble_eq_true rfl) dX10_init_8 (fun q_1 H hP hD hS => ?_)
  have hP : va_P g.1 vwCl [(a_t, .inr (10, [.int 0, .null, .int 0, .int 0, .int 0, .int 0, .int 0, .int 0, .int 0, .int 0, .int 0, .int 0, .null, .int 0, .int 0, .null, .null, .null, .null, .null, .int 0, .int 0, .int 0, .int 0, .int 0, .null, .null, .null, .int 0, .int 0, .null, .null, .int 0, .null, .int 0])), aI g q_1 800 zR] H := hP
  have hD : va_D A [(a_t, .inr (10, [.int 0, .null, .int 0, .int 0, .int 0, .int 0, .int 0, .int 0, .int 0, .int 0, .int 0, .int 0, .null, .int 0, .int 0, .null, .null, .null, .null, .null, .int 0, .int 0, .int 0, .int 0, .int 0, .null, .null, .null, .int 0, .int 0, .null, .null, .int 0, .null, .int 0])), aI g q_1 800 zR] := hD
  refine W.widen (k := 1) (n := 800) (Nat.le_of_ble_eq_true rfl) (Nat.le_of_ble_eq_true rfl) ?_
  refine va_putF (D := g.1) (ci := 10) (v := .ref q_1) (ty := .array .int) (C := RX10) (T := TX10) (N := 35) hx hb hts iX10_init_X10 tyX10 tyX10_ok nmX10 hown hK.1 hP hD hS 0 rfl rfl 1 (by decide) (hts _ kX10_init_7) (fun _ h9 => h9) rfl hin rfl (by decide +kernel) rfl rfl (Nat.le_of_ble_eq_true rfl) dX10_init_10 (fun H locs hP hD hS => ?_)
  have hP : va_P g.1 vwCl [(a_t, .inr (10, [.int 0, .ref q_1, .int 0, .int 0, .int 0, .int 0, .int 0, .int 0, .int 0, .int 0, .int 0, .int 0, .null, .int 0, .int 0, .null, .null, .null, .null, .null, .int 0, .int 0, .int 0, .int 0, .int 0, .null, .null, .null, .int 0, .int 0, .null, .null, .int 0, .null, .int 0])), aI g q_1 800 zR] H := hP
  have hD : va_D A [(a_t, .inr (10, [.int 0, .ref q_1, .int 0, .int 0, .int 0, .int 0, .int 0, .int 0, .int 0, .int 0, .int 0, .int 0, .null, .int 0, .int 0, .null, .null, .null, .null, .null, .int 0, .int 0, .int 0, .int 0, .int 0, .null, .null, .null, .int 0, .int 0, .null, .null, .int 0, .null, .int 0])), aI g q_1 800 zR] := hD
  refine lv_aload_n hx hb dX10_init_13 rfl (lv_at hl 0 rfl) ?_
  refine lv_iconst (v := (-1 : Int32)) hx hb dX10_init_14 (by decide) ?_
  refine va_put (D := g.1) (ci := 10) (v := .int (-1 : Int32)) (ty := .int) (C := RX10) (T := TX10) (N := 35) hx hb hts iX10_init_X10 tyX10 tyX10_ok nmX10 hown hK.1 hP hD hS 0 rfl rfl 10 (by decide) (hts _ kX10_init_13) (fun _ h9 => h9) rfl (by decide +kernel) rfl rfl (Nat.le_of_ble_eq_true rfl) dX10_init_15 (fun H locs hP hD hS => ?_)
  have hP : va_P g.1 vwCl [(a_t, .inr (10, [.int 0, .ref q_1, .int 0, .int 0, .int 0, .int 0, .int 0, .int 0, .int 0, .int 0, .int (-1 : Int32), .int 0, .null, .int 0, .int 0, .null, .null, .null, .null, .null, .int 0, .int 0, .int 0, .int 0, .int 0, .null, .null, .null, .int 0, .int 0, .null, .null, .int 0, .null, .int 0])), aI g q_1 800 zR] H := hP
  have hD : va_D A [(a_t, .inr (10, [.int 0, .ref q_1, .int 0, .int 0, .int 0, .int 0, .int 0, .int 0, .int 0, .int 0, .int (-1 : Int32), .int 0, .null, .int 0, .int 0, .null, .null, .null, .null, .null, .int 0, .int 0, .int 0, .int 0, .int 0, .null, .null, .null, .int 0, .int 0, .null, .null, .int 0, .null, .int 0])), aI g q_1 800 zR] := hD
  refine lv_aload_n hx hb dX10_init_18 rfl (lv_at hl 0 rfl) ?_
  refine lv_bipush (v := (8 : Int32)) hx hb dX10_init_19 (by decide) ?_
  refine newI C0 kX10_init_ac_int hP hD hS (n := (8 : Int32)) (N := 8) (by decide) (by decide) (by decide) (Nat.le_of_ble_eq_true rfl) (Nat.le_of_ble_eq_true rfl) dX10_init_21 (fun q_2 H hP hD hS => ?_)
  have hP : va_P g.1 vwCl [(a_t, .inr (10, [.int 0, .ref q_1, .int 0, .int 0, .int 0, .int 0, .int 0, .int 0, .int 0, .int 0, .int (-1 : Int32), .int 0, .null, .int 0, .int 0, .null, .null, .null, .null, .null, .int 0, .int 0, .int 0, .int 0, .int 0, .null, .null, .null, .int 0, .int 0, .null, .null, .int 0, .null, .int 0])), aI g q_1 800 zR, aI g q_2 8 zR] H := hP
  have hD : va_D A [(a_t, .inr (10, [.int 0, .ref q_1, .int 0, .int 0, .int 0, .int 0, .int 0, .int 0, .int 0, .int 0, .int (-1 : Int32), .int 0, .null, .int 0, .int 0, .null, .null, .null, .null, .null, .int 0, .int 0, .int 0, .int 0, .int 0, .null, .null, .null, .int 0, .int 0, .null, .null, .int 0, .null, .int 0])), aI g q_1 800 zR, aI g q_2 8 zR] := hD
  refine W.widen (k := 2) (n := 808) (Nat.le_of_ble_eq_true rfl) (Nat.le_of_ble_eq_true rfl) ?_
  refine va_putF (D := g.1) (ci := 10) (v := .ref q_2) (ty := .array .int) (C := RX10) (T := TX10) (N := 35) hx hb hts iX10_init_X10 tyX10 tyX10_ok nmX10 hown hK.1 hP hD hS 0 rfl rfl 12 (by decide) (hts _ kX10_init_17) (fun _ h9 => h9) rfl hin rfl (by decide +kernel) rfl rfl (Nat.le_of_ble_eq_true rfl) dX10_init_23 (fun H locs hP hD hS => ?_)
  have hP : va_P g.1 vwCl [(a_t, .inr (10, [.int 0, .ref q_1, .int 0, .int 0, .int 0, .int 0, .int 0, .int 0, .int 0, .int 0, .int (-1 : Int32), .int 0, .ref q_2, .int 0, .int 0, .null, .null, .null, .null, .null, .int 0, .int 0, .int 0, .int 0, .int 0, .null, .null, .null, .int 0, .int 0, .null, .null, .int 0, .null, .int 0])), aI g q_1 800 zR, aI g q_2 8 zR] H := hP
  have hD : va_D A [(a_t, .inr (10, [.int 0, .ref q_1, .int 0, .int 0, .int 0, .int 0, .int 0, .int 0, .int 0, .int 0, .int (-1 : Int32), .int 0, .ref q_2, .int 0, .int 0, .null, .null, .null, .null, .null, .int 0, .int 0, .int 0, .int 0, .int 0, .null, .null, .null, .int 0, .int 0, .null, .null, .int 0, .null, .int 0])), aI g q_1 800 zR, aI g q_2 8 zR] := hD
  refine lv_aload_n hx hb dX10_init_26 rfl (lv_at hl 0 rfl) ?_
  refine lv_sipush (v := (266 : Int32)) hx hb dX10_init_27 (by decide) ?_
  refine newI C0 kX10_init_ac_int hP hD hS (n := (266 : Int32)) (N := 266) (by decide) (by decide) (by decide) (Nat.le_of_ble_eq_true rfl) (Nat.le_of_ble_eq_true rfl) dX10_init_30 (fun q_3 H hP hD hS => ?_)
  have hP : va_P g.1 vwCl [(a_t, .inr (10, [.int 0, .ref q_1, .int 0, .int 0, .int 0, .int 0, .int 0, .int 0, .int 0, .int 0, .int (-1 : Int32), .int 0, .ref q_2, .int 0, .int 0, .null, .null, .null, .null, .null, .int 0, .int 0, .int 0, .int 0, .int 0, .null, .null, .null, .int 0, .int 0, .null, .null, .int 0, .null, .int 0])), aI g q_1 800 zR, aI g q_2 8 zR, aI g q_3 266 zR] H := hP
  have hD : va_D A [(a_t, .inr (10, [.int 0, .ref q_1, .int 0, .int 0, .int 0, .int 0, .int 0, .int 0, .int 0, .int 0, .int (-1 : Int32), .int 0, .ref q_2, .int 0, .int 0, .null, .null, .null, .null, .null, .int 0, .int 0, .int 0, .int 0, .int 0, .null, .null, .null, .int 0, .int 0, .null, .null, .int 0, .null, .int 0])), aI g q_1 800 zR, aI g q_2 8 zR, aI g q_3 266 zR] := hD
  refine W.widen (k := 3) (n := 1074) (Nat.le_of_ble_eq_true rfl) (Nat.le_of_ble_eq_true rfl) ?_
  refine va_putF (D := g.1) (ci := 10) (v := .ref q_3) (ty := .array .int) (C := RX10) (T := TX10) (N := 35) hx hb hts iX10_init_X10 tyX10 tyX10_ok nmX10 hown hK.1 hP hD hS 0 rfl rfl 15 (by decide) (hts _ kX10_init_20) (fun _ h9 => h9) rfl hin rfl (by decide +kernel) rfl rfl (Nat.le_of_ble_eq_true rfl) dX10_init_32 (fun H locs hP hD hS => ?_)
  have hP : va_P g.1 vwCl [(a_t, .inr (10, [.int 0, .ref q_1, .int 0, .int 0, .int 0, .int 0, .int 0, .int 0, .int 0, .int 0, .int (-1 : Int32), .int 0, .ref q_2, .int 0, .int 0, .ref q_3, .null, .null, .null, .null, .int 0, .int 0, .int 0, .int 0, .int 0, .null, .null, .null, .int 0, .int 0, .null, .null, .int 0, .null, .int 0])), aI g q_1 800 zR, aI g q_2 8 zR, aI g q_3 266 zR] H := hP
  have hD : va_D A [(a_t, .inr (10, [.int 0, .ref q_1, .int 0, .int 0, .int 0, .int 0, .int 0, .int 0, .int 0, .int 0, .int (-1 : Int32), .int 0, .ref q_2, .int 0, .int 0, .ref q_3, .null, .null, .null, .null, .int 0, .int 0, .int 0, .int 0, .int 0, .null, .null, .null, .int 0, .int 0, .null, .null, .int 0, .null, .int 0])), aI g q_1 800 zR, aI g q_2 8 zR, aI g q_3 266 zR] := hD
  refine lv_aload_n hx hb dX10_init_35 rfl (lv_at hl 0 rfl) ?_
  refine lv_sipush (v := (266 : Int32)) hx hb dX10_init_36 (by decide) ?_
  refine newI C0 kX10_init_ac_int hP hD hS (n := (266 : Int32)) (N := 266) (by decide) (by decide) (by decide) (Nat.le_of_ble_eq_true rfl) (Nat.le_of_ble_eq_true rfl) dX10_init_39 (fun q_4 H hP hD hS => ?_)
  have hP : va_P g.1 vwCl [(a_t, .inr (10, [.int 0, .ref q_1, .int 0, .int 0, .int 0, .int 0, .int 0, .int 0, .int 0, .int 0, .int (-1 : Int32), .int 0, .ref q_2, .int 0, .int 0, .ref q_3, .null, .null, .null, .null, .int 0, .int 0, .int 0, .int 0, .int 0, .null, .null, .null, .int 0, .int 0, .null, .null, .int 0, .null, .int 0])), aI g q_1 800 zR, aI g q_2 8 zR, aI g q_3 266 zR, aI g q_4 266 zR] H := hP
  have hD : va_D A [(a_t, .inr (10, [.int 0, .ref q_1, .int 0, .int 0, .int 0, .int 0, .int 0, .int 0, .int 0, .int 0, .int (-1 : Int32), .int 0, .ref q_2, .int 0, .int 0, .ref q_3, .null, .null, .null, .null, .int 0, .int 0, .int 0, .int 0, .int 0, .null, .null, .null, .int 0, .int 0, .null, .null, .int 0, .null, .int 0])), aI g q_1 800 zR, aI g q_2 8 zR, aI g q_3 266 zR, aI g q_4 266 zR] := hD
  refine W.widen (k := 4) (n := 1340) (Nat.le_of_ble_eq_true rfl) (Nat.le_of_ble_eq_true rfl) ?_
  refine va_putF (D := g.1) (ci := 10) (v := .ref q_4) (ty := .array .int) (C := RX10) (T := TX10) (N := 35) hx hb hts iX10_init_X10 tyX10 tyX10_ok nmX10 hown hK.1 hP hD hS 0 rfl rfl 16 (by decide) (hts _ kX10_init_23) (fun _ h9 => h9) rfl hin rfl (by decide +kernel) rfl rfl (Nat.le_of_ble_eq_true rfl) dX10_init_41 (fun H locs hP hD hS => ?_)
  have hP : va_P g.1 vwCl [(a_t, .inr (10, [.int 0, .ref q_1, .int 0, .int 0, .int 0, .int 0, .int 0, .int 0, .int 0, .int 0, .int (-1 : Int32), .int 0, .ref q_2, .int 0, .int 0, .ref q_3, .ref q_4, .null, .null, .null, .int 0, .int 0, .int 0, .int 0, .int 0, .null, .null, .null, .int 0, .int 0, .null, .null, .int 0, .null, .int 0])), aI g q_1 800 zR, aI g q_2 8 zR, aI g q_3 266 zR, aI g q_4 266 zR] H := hP
  have hD : va_D A [(a_t, .inr (10, [.int 0, .ref q_1, .int 0, .int 0, .int 0, .int 0, .int 0, .int 0, .int 0, .int 0, .int (-1 : Int32), .int 0, .ref q_2, .int 0, .int 0, .ref q_3, .ref q_4, .null, .null, .null, .int 0, .int 0, .int 0, .int 0, .int 0, .null, .null, .null, .int 0, .int 0, .null, .null, .int 0, .null, .int 0])), aI g q_1 800 zR, aI g q_2 8 zR, aI g q_3 266 zR, aI g q_4 266 zR] := hD
  refine lv_aload_n hx hb dX10_init_44 rfl (lv_at hl 0 rfl) ?_
  refine lv_bipush (v := (17 : Int32)) hx hb dX10_init_45 (by decide) ?_
  refine newI C0 kX10_init_ac_int hP hD hS (n := (17 : Int32)) (N := 17) (by decide) (by decide) (by decide) (Nat.le_of_ble_eq_true rfl) (Nat.le_of_ble_eq_true rfl) dX10_init_47 (fun q_5 H hP hD hS => ?_)
  have hP : va_P g.1 vwCl [(a_t, .inr (10, [.int 0, .ref q_1, .int 0, .int 0, .int 0, .int 0, .int 0, .int 0, .int 0, .int 0, .int (-1 : Int32), .int 0, .ref q_2, .int 0, .int 0, .ref q_3, .ref q_4, .null, .null, .null, .int 0, .int 0, .int 0, .int 0, .int 0, .null, .null, .null, .int 0, .int 0, .null, .null, .int 0, .null, .int 0])), aI g q_1 800 zR, aI g q_2 8 zR, aI g q_3 266 zR, aI g q_4 266 zR, aI g q_5 17 zR] H := hP
  have hD : va_D A [(a_t, .inr (10, [.int 0, .ref q_1, .int 0, .int 0, .int 0, .int 0, .int 0, .int 0, .int 0, .int 0, .int (-1 : Int32), .int 0, .ref q_2, .int 0, .int 0, .ref q_3, .ref q_4, .null, .null, .null, .int 0, .int 0, .int 0, .int 0, .int 0, .null, .null, .null, .int 0, .int 0, .null, .null, .int 0, .null, .int 0])), aI g q_1 800 zR, aI g q_2 8 zR, aI g q_3 266 zR, aI g q_4 266 zR, aI g q_5 17 zR] := hD
  refine W.widen (k := 5) (n := 1357) (Nat.le_of_ble_eq_true rfl) (Nat.le_of_ble_eq_true rfl) ?_
  refine va_putF (D := g.1) (ci := 10) (v := .ref q_5) (ty := .array .int) (C := RX10) (T := TX10) (N := 35) hx hb hts iX10_init_X10 tyX10 tyX10_ok nmX10 hown hK.1 hP hD hS 0 rfl rfl 17 (by decide) (hts _ kX10_init_26) (fun _ h9 => h9) rfl hin rfl (by decide +kernel) rfl rfl (Nat.le_of_ble_eq_true rfl) dX10_init_49 (fun H locs hP hD hS => ?_)
  have hP : va_P g.1 vwCl [(a_t, .inr (10, [.int 0, .ref q_1, .int 0, .int 0, .int 0, .int 0, .int 0, .int 0, .int 0, .int 0, .int (-1 : Int32), .int 0, .ref q_2, .int 0, .int 0, .ref q_3, .ref q_4, .ref q_5, .null, .null, .int 0, .int 0, .int 0, .int 0, .int 0, .null, .null, .null, .int 0, .int 0, .null, .null, .int 0, .null, .int 0])), aI g q_1 800 zR, aI g q_2 8 zR, aI g q_3 266 zR, aI g q_4 266 zR, aI g q_5 17 zR] H := hP
  have hD : va_D A [(a_t, .inr (10, [.int 0, .ref q_1, .int 0, .int 0, .int 0, .int 0, .int 0, .int 0, .int 0, .int 0, .int (-1 : Int32), .int 0, .ref q_2, .int 0, .int 0, .ref q_3, .ref q_4, .ref q_5, .null, .null, .int 0, .int 0, .int 0, .int 0, .int 0, .null, .null, .null, .int 0, .int 0, .null, .null, .int 0, .null, .int 0])), aI g q_1 800 zR, aI g q_2 8 zR, aI g q_3 266 zR, aI g q_4 266 zR, aI g q_5 17 zR] := hD
  refine lv_aload_n hx hb dX10_init_52 rfl (lv_at hl 0 rfl) ?_
  refine lv_sipush (v := (272 : Int32)) hx hb dX10_init_53 (by decide) ?_
  refine newI C0 kX10_init_ac_int hP hD hS (n := (272 : Int32)) (N := 272) (by decide) (by decide) (by decide) (Nat.le_of_ble_eq_true rfl) (Nat.le_of_ble_eq_true rfl) dX10_init_56 (fun q_6 H hP hD hS => ?_)
  have hP : va_P g.1 vwCl [(a_t, .inr (10, [.int 0, .ref q_1, .int 0, .int 0, .int 0, .int 0, .int 0, .int 0, .int 0, .int 0, .int (-1 : Int32), .int 0, .ref q_2, .int 0, .int 0, .ref q_3, .ref q_4, .ref q_5, .null, .null, .int 0, .int 0, .int 0, .int 0, .int 0, .null, .null, .null, .int 0, .int 0, .null, .null, .int 0, .null, .int 0])), aI g q_1 800 zR, aI g q_2 8 zR, aI g q_3 266 zR, aI g q_4 266 zR, aI g q_5 17 zR, aI g q_6 272 zR] H := hP
  have hD : va_D A [(a_t, .inr (10, [.int 0, .ref q_1, .int 0, .int 0, .int 0, .int 0, .int 0, .int 0, .int 0, .int 0, .int (-1 : Int32), .int 0, .ref q_2, .int 0, .int 0, .ref q_3, .ref q_4, .ref q_5, .null, .null, .int 0, .int 0, .int 0, .int 0, .int 0, .null, .null, .null, .int 0, .int 0, .null, .null, .int 0, .null, .int 0])), aI g q_1 800 zR, aI g q_2 8 zR, aI g q_3 266 zR, aI g q_4 266 zR, aI g q_5 17 zR, aI g q_6 272 zR] := hD
  refine W.widen (k := 6) (n := 1629) (Nat.le_of_ble_eq_true rfl) (Nat.le_of_ble_eq_true rfl) ?_
  refine va_putF (D := g.1) (ci := 10) (v := .ref q_6) (ty := .array .int) (C := RX10) (T := TX10) (N := 35) hx hb hts iX10_init_X10 tyX10 tyX10_ok nmX10 hown hK.1 hP hD hS 0 rfl rfl 18 (by decide) (hts _ kX10_init_29) (fun _ h9 => h9) rfl hin rfl (by decide +kernel) rfl rfl (Nat.le_of_ble_eq_true rfl) dX10_init_58 (fun H locs hP hD hS => ?_)
  have hP : va_P g.1 vwCl [(a_t, .inr (10, [.int 0, .ref q_1, .int 0, .int 0, .int 0, .int 0, .int 0, .int 0, .int 0, .int 0, .int (-1 : Int32), .int 0, .ref q_2, .int 0, .int 0, .ref q_3, .ref q_4, .ref q_5, .ref q_6, .null, .int 0, .int 0, .int 0, .int 0, .int 0, .null, .null, .null, .int 0, .int 0, .null, .null, .int 0, .null, .int 0])), aI g q_1 800 zR, aI g q_2 8 zR, aI g q_3 266 zR, aI g q_4 266 zR, aI g q_5 17 zR, aI g q_6 272 zR] H := hP
  have hD : va_D A [(a_t, .inr (10, [.int 0, .ref q_1, .int 0, .int 0, .int 0, .int 0, .int 0, .int 0, .int 0, .int 0, .int (-1 : Int32), .int 0, .ref q_2, .int 0, .int 0, .ref q_3, .ref q_4, .ref q_5, .ref q_6, .null, .int 0, .int 0, .int 0, .int 0, .int 0, .null, .null, .null, .int 0, .int 0, .null, .null, .int 0, .null, .int 0])), aI g q_1 800 zR, aI g q_2 8 zR, aI g q_3 266 zR, aI g q_4 266 zR, aI g q_5 17 zR, aI g q_6 272 zR] := hD
  refine lv_aload_n hx hb dX10_init_61 rfl (lv_at hl 0 rfl) ?_
  refine lv_bipush (v := (51 : Int32)) hx hb dX10_init_62 (by decide) ?_
  refine newI C0 kX10_init_ac_int hP hD hS (n := (51 : Int32)) (N := 51) (by decide) (by decide) (by decide) (Nat.le_of_ble_eq_true rfl) (Nat.le_of_ble_eq_true rfl) dX10_init_64 (fun q_7 H hP hD hS => ?_)
  have hP : va_P g.1 vwCl [(a_t, .inr (10, [.int 0, .ref q_1, .int 0, .int 0, .int 0, .int 0, .int 0, .int 0, .int 0, .int 0, .int (-1 : Int32), .int 0, .ref q_2, .int 0, .int 0, .ref q_3, .ref q_4, .ref q_5, .ref q_6, .null, .int 0, .int 0, .int 0, .int 0, .int 0, .null, .null, .null, .int 0, .int 0, .null, .null, .int 0, .null, .int 0])), aI g q_1 800 zR, aI g q_2 8 zR, aI g q_3 266 zR, aI g q_4 266 zR, aI g q_5 17 zR, aI g q_6 272 zR, aI g q_7 51 zR] H := hP
  have hD : va_D A [(a_t, .inr (10, [.int 0, .ref q_1, .int 0, .int 0, .int 0, .int 0, .int 0, .int 0, .int 0, .int 0, .int (-1 : Int32), .int 0, .ref q_2, .int 0, .int 0, .ref q_3, .ref q_4, .ref q_5, .ref q_6, .null, .int 0, .int 0, .int 0, .int 0, .int 0, .null, .null, .null, .int 0, .int 0, .null, .null, .int 0, .null, .int 0])), aI g q_1 800 zR, aI g q_2 8 zR, aI g q_3 266 zR, aI g q_4 266 zR, aI g q_5 17 zR, aI g q_6 272 zR, aI g q_7 51 zR] := hD
  refine W.widen (k := 7) (n := 1680) (Nat.le_of_ble_eq_true rfl) (Nat.le_of_ble_eq_true rfl) ?_
  refine va_putF (D := g.1) (ci := 10) (v := .ref q_7) (ty := .array .int) (C := RX10) (T := TX10) (N := 35) hx hb hts iX10_init_X10 tyX10 tyX10_ok nmX10 hown hK.1 hP hD hS 0 rfl rfl 19 (by decide) (hts _ kX10_init_32) (fun _ h9 => h9) rfl hin rfl (by decide +kernel) rfl rfl (Nat.le_of_ble_eq_true rfl) dX10_init_66 (fun H locs hP hD hS => ?_)
  have hP : va_P g.1 vwCl [(a_t, .inr (10, [.int 0, .ref q_1, .int 0, .int 0, .int 0, .int 0, .int 0, .int 0, .int 0, .int 0, .int (-1 : Int32), .int 0, .ref q_2, .int 0, .int 0, .ref q_3, .ref q_4, .ref q_5, .ref q_6, .ref q_7, .int 0, .int 0, .int 0, .int 0, .int 0, .null, .null, .null, .int 0, .int 0, .null, .null, .int 0, .null, .int 0])), aI g q_1 800 zR, aI g q_2 8 zR, aI g q_3 266 zR, aI g q_4 266 zR, aI g q_5 17 zR, aI g q_6 272 zR, aI g q_7 51 zR] H := hP
  have hD : va_D A [(a_t, .inr (10, [.int 0, .ref q_1, .int 0, .int 0, .int 0, .int 0, .int 0, .int 0, .int 0, .int 0, .int (-1 : Int32), .int 0, .ref q_2, .int 0, .int 0, .ref q_3, .ref q_4, .ref q_5, .ref q_6, .ref q_7, .int 0, .int 0, .int 0, .int 0, .int 0, .null, .null, .null, .int 0, .int 0, .null, .null, .int 0, .null, .int 0])), aI g q_1 800 zR, aI g q_2 8 zR, aI g q_3 266 zR, aI g q_4 266 zR, aI g q_5 17 zR, aI g q_6 272 zR, aI g q_7 51 zR] := hD
  refine lv_aload_n hx hb dX10_init_69 rfl (lv_at hl 0 rfl) ?_
  refine lv_bipush (v := (17 : Int32)) hx hb dX10_init_70 (by decide) ?_
  refine newI C0 kX10_init_ac_int hP hD hS (n := (17 : Int32)) (N := 17) (by decide) (by decide) (by decide) (Nat.le_of_ble_eq_true rfl) (Nat.le_of_ble_eq_true rfl) dX10_init_72 (fun q_8 H hP hD hS => ?_)
  have hP : va_P g.1 vwCl [(a_t, .inr (10, [.int 0, .ref q_1, .int 0, .int 0, .int 0, .int 0, .int 0, .int 0, .int 0, .int 0, .int (-1 : Int32), .int 0, .ref q_2, .int 0, .int 0, .ref q_3, .ref q_4, .ref q_5, .ref q_6, .ref q_7, .int 0, .int 0, .int 0, .int 0, .int 0, .null, .null, .null, .int 0, .int 0, .null, .null, .int 0, .null, .int 0])), aI g q_1 800 zR, aI g q_2 8 zR, aI g q_3 266 zR, aI g q_4 266 zR, aI g q_5 17 zR, aI g q_6 272 zR, aI g q_7 51 zR, aI g q_8 17 zR] H := hP
  have hD : va_D A [(a_t, .inr (10, [.int 0, .ref q_1, .int 0, .int 0, .int 0, .int 0, .int 0, .int 0, .int 0, .int 0, .int (-1 : Int32), .int 0, .ref q_2, .int 0, .int 0, .ref q_3, .ref q_4, .ref q_5, .ref q_6, .ref q_7, .int 0, .int 0, .int 0, .int 0, .int 0, .null, .null, .null, .int 0, .int 0, .null, .null, .int 0, .null, .int 0])), aI g q_1 800 zR, aI g q_2 8 zR, aI g q_3 266 zR, aI g q_4 266 zR, aI g q_5 17 zR, aI g q_6 272 zR, aI g q_7 51 zR, aI g q_8 17 zR] := hD
  refine W.widen (k := 8) (n := 1697) (Nat.le_of_ble_eq_true rfl) (Nat.le_of_ble_eq_true rfl) ?_
  refine va_putF (D := g.1) (ci := 10) (v := .ref q_8) (ty := .array .int) (C := RX10) (T := TX10) (N := 35) hx hb hts iX10_init_X10 tyX10 tyX10_ok nmX10 hown hK.1 hP hD hS 0 rfl rfl 25 (by decide) (hts _ kX10_init_35) (fun _ h9 => h9) rfl hin rfl (by decide +kernel) rfl rfl (Nat.le_of_ble_eq_true rfl) dX10_init_74 (fun H locs hP hD hS => ?_)
  have hP : va_P g.1 vwCl [(a_t, .inr (10, [.int 0, .ref q_1, .int 0, .int 0, .int 0, .int 0, .int 0, .int 0, .int 0, .int 0, .int (-1 : Int32), .int 0, .ref q_2, .int 0, .int 0, .ref q_3, .ref q_4, .ref q_5, .ref q_6, .ref q_7, .int 0, .int 0, .int 0, .int 0, .int 0, .ref q_8, .null, .null, .int 0, .int 0, .null, .null, .int 0, .null, .int 0])), aI g q_1 800 zR, aI g q_2 8 zR, aI g q_3 266 zR, aI g q_4 266 zR, aI g q_5 17 zR, aI g q_6 272 zR, aI g q_7 51 zR, aI g q_8 17 zR] H := hP
  have hD : va_D A [(a_t, .inr (10, [.int 0, .ref q_1, .int 0, .int 0, .int 0, .int 0, .int 0, .int 0, .int 0, .int 0, .int (-1 : Int32), .int 0, .ref q_2, .int 0, .int 0, .ref q_3, .ref q_4, .ref q_5, .ref q_6, .ref q_7, .int 0, .int 0, .int 0, .int 0, .int 0, .ref q_8, .null, .null, .int 0, .int 0, .null, .null, .int 0, .null, .int 0])), aI g q_1 800 zR, aI g q_2 8 zR, aI g q_3 266 zR, aI g q_4 266 zR, aI g q_5 17 zR, aI g q_6 272 zR, aI g q_7 51 zR, aI g q_8 17 zR] := hD
  refine lv_aload_n hx hb dX10_init_77 rfl (lv_at hl 0 rfl) ?_
  refine lv_iconst (v := (4 : Int32)) hx hb dX10_init_78 (by decide) ?_
  refine newI C0 kX10_init_ac_int hP hD hS (n := (4 : Int32)) (N := 4) (by decide) (by decide) (by decide) (Nat.le_of_ble_eq_true rfl) (Nat.le_of_ble_eq_true rfl) dX10_init_79 (fun q_9 H hP hD hS => ?_)
  have hP : va_P g.1 vwCl [(a_t, .inr (10, [.int 0, .ref q_1, .int 0, .int 0, .int 0, .int 0, .int 0, .int 0, .int 0, .int 0, .int (-1 : Int32), .int 0, .ref q_2, .int 0, .int 0, .ref q_3, .ref q_4, .ref q_5, .ref q_6, .ref q_7, .int 0, .int 0, .int 0, .int 0, .int 0, .ref q_8, .null, .null, .int 0, .int 0, .null, .null, .int 0, .null, .int 0])), aI g q_1 800 zR, aI g q_2 8 zR, aI g q_3 266 zR, aI g q_4 266 zR, aI g q_5 17 zR, aI g q_6 272 zR, aI g q_7 51 zR, aI g q_8 17 zR, aI g q_9 4 zR] H := hP
  have hD : va_D A [(a_t, .inr (10, [.int 0, .ref q_1, .int 0, .int 0, .int 0, .int 0, .int 0, .int 0, .int 0, .int 0, .int (-1 : Int32), .int 0, .ref q_2, .int 0, .int 0, .ref q_3, .ref q_4, .ref q_5, .ref q_6, .ref q_7, .int 0, .int 0, .int 0, .int 0, .int 0, .ref q_8, .null, .null, .int 0, .int 0, .null, .null, .int 0, .null, .int 0])), aI g q_1 800 zR, aI g q_2 8 zR, aI g q_3 266 zR, aI g q_4 266 zR, aI g q_5 17 zR, aI g q_6 272 zR, aI g q_7 51 zR, aI g q_8 17 zR, aI g q_9 4 zR] := hD
  refine W.widen (k := 9) (n := 1701) (Nat.le_of_ble_eq_true rfl) (Nat.le_of_ble_eq_true rfl) ?_
  refine va_putF (D := g.1) (ci := 10) (v := .ref q_9) (ty := .array .int) (C := RX10) (T := TX10) (N := 35) hx hb hts iX10_init_X10 tyX10 tyX10_ok nmX10 hown hK.1 hP hD hS 0 rfl rfl 26 (by decide) (hts _ kX10_init_38) (fun _ h9 => h9) rfl hin rfl (by decide +kernel) rfl rfl (Nat.le_of_ble_eq_true rfl) dX10_init_81 (fun H locs hP hD hS => ?_)
  have hP : va_P g.1 vwCl [(a_t, .inr (10, [.int 0, .ref q_1, .int 0, .int 0, .int 0, .int 0, .int 0, .int 0, .int 0, .int 0, .int (-1 : Int32), .int 0, .ref q_2, .int 0, .int 0, .ref q_3, .ref q_4, .ref q_5, .ref q_6, .ref q_7, .int 0, .int 0, .int 0, .int 0, .int 0, .ref q_8, .ref q_9, .null, .int 0, .int 0, .null, .null, .int 0, .null, .int 0])), aI g q_1 800 zR, aI g q_2 8 zR, aI g q_3 266 zR, aI g q_4 266 zR, aI g q_5 17 zR, aI g q_6 272 zR, aI g q_7 51 zR, aI g q_8 17 zR, aI g q_9 4 zR] H := hP
  have hD : va_D A [(a_t, .inr (10, [.int 0, .ref q_1, .int 0, .int 0, .int 0, .int 0, .int 0, .int 0, .int 0, .int 0, .int (-1 : Int32), .int 0, .ref q_2, .int 0, .int 0, .ref q_3, .ref q_4, .ref q_5, .ref q_6, .ref q_7, .int 0, .int 0, .int 0, .int 0, .int 0, .ref q_8, .ref q_9, .null, .int 0, .int 0, .null, .null, .int 0, .null, .int 0])), aI g q_1 800 zR, aI g q_2 8 zR, aI g q_3 266 zR, aI g q_4 266 zR, aI g q_5 17 zR, aI g q_6 272 zR, aI g q_7 51 zR, aI g q_8 17 zR, aI g q_9 4 zR] := hD
  refine lv_aload_n hx hb dX10_init_84 rfl (lv_at hl 0 rfl) ?_
  refine lv_iconst (v := (4 : Int32)) hx hb dX10_init_85 (by decide) ?_
  refine newI C0 kX10_init_ac_int hP hD hS (n := (4 : Int32)) (N := 4) (by decide) (by decide) (by decide) (Nat.le_of_ble_eq_true rfl) (Nat.le_of_ble_eq_true rfl) dX10_init_86 (fun q_10 H hP hD hS => ?_)
  have hP : va_P g.1 vwCl [(a_t, .inr (10, [.int 0, .ref q_1, .int 0, .int 0, .int 0, .int 0, .int 0, .int 0, .int 0, .int 0, .int (-1 : Int32), .int 0, .ref q_2, .int 0, .int 0, .ref q_3, .ref q_4, .ref q_5, .ref q_6, .ref q_7, .int 0, .int 0, .int 0, .int 0, .int 0, .ref q_8, .ref q_9, .null, .int 0, .int 0, .null, .null, .int 0, .null, .int 0])), aI g q_1 800 zR, aI g q_2 8 zR, aI g q_3 266 zR, aI g q_4 266 zR, aI g q_5 17 zR, aI g q_6 272 zR, aI g q_7 51 zR, aI g q_8 17 zR, aI g q_9 4 zR, aI g q_10 4 zR] H := hP
  have hD : va_D A [(a_t, .inr (10, [.int 0, .ref q_1, .int 0, .int 0, .int 0, .int 0, .int 0, .int 0, .int 0, .int 0, .int (-1 : Int32), .int 0, .ref q_2, .int 0, .int 0, .ref q_3, .ref q_4, .ref q_5, .ref q_6, .ref q_7, .int 0, .int 0, .int 0, .int 0, .int 0, .ref q_8, .ref q_9, .null, .int 0, .int 0, .null, .null, .int 0, .null, .int 0])), aI g q_1 800 zR, aI g q_2 8 zR, aI g q_3 266 zR, aI g q_4 266 zR, aI g q_5 17 zR, aI g q_6 272 zR, aI g q_7 51 zR, aI g q_8 17 zR, aI g q_9 4 zR, aI g q_10 4 zR] := hD
  refine W.widen (k := 10) (n := 1705) (Nat.le_of_ble_eq_true rfl) (Nat.le_of_ble_eq_true rfl) ?_
  refine va_putF (D := g.1) (ci := 10) (v := .ref q_10) (ty := .array .int) (C := RX10) (T := TX10) (N := 35) hx hb hts iX10_init_X10 tyX10 tyX10_ok nmX10 hown hK.1 hP hD hS 0 rfl rfl 27 (by decide) (hts _ kX10_init_41) (fun _ h9 => h9) rfl hin rfl (by decide +kernel) rfl rfl (Nat.le_of_ble_eq_true rfl) dX10_init_88 (fun H locs hP hD hS => ?_)
  have hP : va_P g.1 vwCl [(a_t, .inr (10, [.int 0, .ref q_1, .int 0, .int 0, .int 0, .int 0, .int 0, .int 0, .int 0, .int 0, .int (-1 : Int32), .int 0, .ref q_2, .int 0, .int 0, .ref q_3, .ref q_4, .ref q_5, .ref q_6, .ref q_7, .int 0, .int 0, .int 0, .int 0, .int 0, .ref q_8, .ref q_9, .ref q_10, .int 0, .int 0, .null, .null, .int 0, .null, .int 0])), aI g q_1 800 zR, aI g q_2 8 zR, aI g q_3 266 zR, aI g q_4 266 zR, aI g q_5 17 zR, aI g q_6 272 zR, aI g q_7 51 zR, aI g q_8 17 zR, aI g q_9 4 zR, aI g q_10 4 zR] H := hP
  have hD : va_D A [(a_t, .inr (10, [.int 0, .ref q_1, .int 0, .int 0, .int 0, .int 0, .int 0, .int 0, .int 0, .int 0, .int (-1 : Int32), .int 0, .ref q_2, .int 0, .int 0, .ref q_3, .ref q_4, .ref q_5, .ref q_6, .ref q_7, .int 0, .int 0, .int 0, .int 0, .int 0, .ref q_8, .ref q_9, .ref q_10, .int 0, .int 0, .null, .null, .int 0, .null, .int 0])), aI g q_1 800 zR, aI g q_2 8 zR, aI g q_3 266 zR, aI g q_4 266 zR, aI g q_5 17 zR, aI g q_6 272 zR, aI g q_7 51 zR, aI g q_8 17 zR, aI g q_9 4 zR, aI g q_10 4 zR] := hD
  refine lv_aload_n hx hb dX10_init_91 rfl (lv_at hl 0 rfl) ?_
  refine lv_bipush (v := (7 : Int32)) hx hb dX10_init_92 (by decide) ?_
  refine newI C0 kX10_init_ac_int hP hD hS (n := (7 : Int32)) (N := 7) (by decide) (by decide) (by decide) (Nat.le_of_ble_eq_true rfl) (Nat.le_of_ble_eq_true rfl) dX10_init_94 (fun q_11 H hP hD hS => ?_)
  have hP : va_P g.1 vwCl [(a_t, .inr (10, [.int 0, .ref q_1, .int 0, .int 0, .int 0, .int 0, .int 0, .int 0, .int 0, .int 0, .int (-1 : Int32), .int 0, .ref q_2, .int 0, .int 0, .ref q_3, .ref q_4, .ref q_5, .ref q_6, .ref q_7, .int 0, .int 0, .int 0, .int 0, .int 0, .ref q_8, .ref q_9, .ref q_10, .int 0, .int 0, .null, .null, .int 0, .null, .int 0])), aI g q_1 800 zR, aI g q_2 8 zR, aI g q_3 266 zR, aI g q_4 266 zR, aI g q_5 17 zR, aI g q_6 272 zR, aI g q_7 51 zR, aI g q_8 17 zR, aI g q_9 4 zR, aI g q_10 4 zR, aI g q_11 7 zR] H := hP
  have hD : va_D A [(a_t, .inr (10, [.int 0, .ref q_1, .int 0, .int 0, .int 0, .int 0, .int 0, .int 0, .int 0, .int 0, .int (-1 : Int32), .int 0, .ref q_2, .int 0, .int 0, .ref q_3, .ref q_4, .ref q_5, .ref q_6, .ref q_7, .int 0, .int 0, .int 0, .int 0, .int 0, .ref q_8, .ref q_9, .ref q_10, .int 0, .int 0, .null, .null, .int 0, .null, .int 0])), aI g q_1 800 zR, aI g q_2 8 zR, aI g q_3 266 zR, aI g q_4 266 zR, aI g q_5 17 zR, aI g q_6 272 zR, aI g q_7 51 zR, aI g q_8 17 zR, aI g q_9 4 zR, aI g q_10 4 zR, aI g q_11 7 zR] := hD
  refine W.widen (k := 11) (n := 1712) (Nat.le_of_ble_eq_true rfl) (Nat.le_of_ble_eq_true rfl) ?_
  refine va_putF (D := g.1) (ci := 10) (v := .ref q_11) (ty := .array .int) (C := RX10) (T := TX10) (N := 35) hx hb hts iX10_init_X10 tyX10 tyX10_ok nmX10 hown hK.1 hP hD hS 0 rfl rfl 30 (by decide) (hts _ kX10_init_44) (fun _ h9 => h9) rfl hin rfl (by decide +kernel) rfl rfl (Nat.le_of_ble_eq_true rfl) dX10_init_96 (fun H locs hP hD hS => ?_)
  have hP : va_P g.1 vwCl [(a_t, .inr (10, [.int 0, .ref q_1, .int 0, .int 0, .int 0, .int 0, .int 0, .int 0, .int 0, .int 0, .int (-1 : Int32), .int 0, .ref q_2, .int 0, .int 0, .ref q_3, .ref q_4, .ref q_5, .ref q_6, .ref q_7, .int 0, .int 0, .int 0, .int 0, .int 0, .ref q_8, .ref q_9, .ref q_10, .int 0, .int 0, .ref q_11, .null, .int 0, .null, .int 0])), aI g q_1 800 zR, aI g q_2 8 zR, aI g q_3 266 zR, aI g q_4 266 zR, aI g q_5 17 zR, aI g q_6 272 zR, aI g q_7 51 zR, aI g q_8 17 zR, aI g q_9 4 zR, aI g q_10 4 zR, aI g q_11 7 zR] H := hP
  have hD : va_D A [(a_t, .inr (10, [.int 0, .ref q_1, .int 0, .int 0, .int 0, .int 0, .int 0, .int 0, .int 0, .int 0, .int (-1 : Int32), .int 0, .ref q_2, .int 0, .int 0, .ref q_3, .ref q_4, .ref q_5, .ref q_6, .ref q_7, .int 0, .int 0, .int 0, .int 0, .int 0, .ref q_8, .ref q_9, .ref q_10, .int 0, .int 0, .ref q_11, .null, .int 0, .null, .int 0])), aI g q_1 800 zR, aI g q_2 8 zR, aI g q_3 266 zR, aI g q_4 266 zR, aI g q_5 17 zR, aI g q_6 272 zR, aI g q_7 51 zR, aI g q_8 17 zR, aI g q_9 4 zR, aI g q_10 4 zR, aI g q_11 7 zR] := hD
  refine lv_aload_n hx hb dX10_init_99 rfl (lv_at hl 0 rfl) ?_
  refine lv_bipush (v := (7 : Int32)) hx hb dX10_init_100 (by decide) ?_
  refine newI C0 kX10_init_ac_int hP hD hS (n := (7 : Int32)) (N := 7) (by decide) (by decide) (by decide) (Nat.le_of_ble_eq_true rfl) (Nat.le_of_ble_eq_true rfl) dX10_init_102 (fun q_12 H hP hD hS => ?_)
  have hP : va_P g.1 vwCl [(a_t, .inr (10, [.int 0, .ref q_1, .int 0, .int 0, .int 0, .int 0, .int 0, .int 0, .int 0, .int 0, .int (-1 : Int32), .int 0, .ref q_2, .int 0, .int 0, .ref q_3, .ref q_4, .ref q_5, .ref q_6, .ref q_7, .int 0, .int 0, .int 0, .int 0, .int 0, .ref q_8, .ref q_9, .ref q_10, .int 0, .int 0, .ref q_11, .null, .int 0, .null, .int 0])), aI g q_1 800 zR, aI g q_2 8 zR, aI g q_3 266 zR, aI g q_4 266 zR, aI g q_5 17 zR, aI g q_6 272 zR, aI g q_7 51 zR, aI g q_8 17 zR, aI g q_9 4 zR, aI g q_10 4 zR, aI g q_11 7 zR, aI g q_12 7 zR] H := hP
  have hD : va_D A [(a_t, .inr (10, [.int 0, .ref q_1, .int 0, .int 0, .int 0, .int 0, .int 0, .int 0, .int 0, .int 0, .int (-1 : Int32), .int 0, .ref q_2, .int 0, .int 0, .ref q_3, .ref q_4, .ref q_5, .ref q_6, .ref q_7, .int 0, .int 0, .int 0, .int 0, .int 0, .ref q_8, .ref q_9, .ref q_10, .int 0, .int 0, .ref q_11, .null, .int 0, .null, .int 0])), aI g q_1 800 zR, aI g q_2 8 zR, aI g q_3 266 zR, aI g q_4 266 zR, aI g q_5 17 zR, aI g q_6 272 zR, aI g q_7 51 zR, aI g q_8 17 zR, aI g q_9 4 zR, aI g q_10 4 zR, aI g q_11 7 zR, aI g q_12 7 zR] := hD
  refine W.widen (k := 12) (n := 1719) (Nat.le_of_ble_eq_true rfl) (Nat.le_of_ble_eq_true rfl) ?_
  refine va_putF (D := g.1) (ci := 10) (v := .ref q_12) (ty := .array .int) (C := RX10) (T := TX10) (N := 35) hx hb hts iX10_init_X10 tyX10 tyX10_ok nmX10 hown hK.1 hP hD hS 0 rfl rfl 31 (by decide) (hts _ kX10_init_47) (fun _ h9 => h9) rfl hin rfl (by decide +kernel) rfl rfl (Nat.le_of_ble_eq_true rfl) dX10_init_104 (fun H locs hP hD hS => ?_)
  have hP : va_P g.1 vwCl [(a_t, .inr (10, [.int 0, .ref q_1, .int 0, .int 0, .int 0, .int 0, .int 0, .int 0, .int 0, .int 0, .int (-1 : Int32), .int 0, .ref q_2, .int 0, .int 0, .ref q_3, .ref q_4, .ref q_5, .ref q_6, .ref q_7, .int 0, .int 0, .int 0, .int 0, .int 0, .ref q_8, .ref q_9, .ref q_10, .int 0, .int 0, .ref q_11, .ref q_12, .int 0, .null, .int 0])), aI g q_1 800 zR, aI g q_2 8 zR, aI g q_3 266 zR, aI g q_4 266 zR, aI g q_5 17 zR, aI g q_6 272 zR, aI g q_7 51 zR, aI g q_8 17 zR, aI g q_9 4 zR, aI g q_10 4 zR, aI g q_11 7 zR, aI g q_12 7 zR] H := hP
  have hD : va_D A [(a_t, .inr (10, [.int 0, .ref q_1, .int 0, .int 0, .int 0, .int 0, .int 0, .int 0, .int 0, .int 0, .int (-1 : Int32), .int 0, .ref q_2, .int 0, .int 0, .ref q_3, .ref q_4, .ref q_5, .ref q_6, .ref q_7, .int 0, .int 0, .int 0, .int 0, .int 0, .ref q_8, .ref q_9, .ref q_10, .int 0, .int 0, .ref q_11, .ref q_12, .int 0, .null, .int 0])), aI g q_1 800 zR, aI g q_2 8 zR, aI g q_3 266 zR, aI g q_4 266 zR, aI g q_5 17 zR, aI g q_6 272 zR, aI g q_7 51 zR, aI g q_8 17 zR, aI g q_9 4 zR, aI g q_10 4 zR, aI g q_11 7 zR, aI g q_12 7 zR] := hD
  refine lv_aload_n hx hb dX10_init_107 rfl (lv_at hl 0 rfl) ?_
  refine lv_sipush (v := (218 : Int32)) hx hb dX10_init_108 (by decide) ?_
  refine newI C0 kX10_init_ac_int hP hD hS (n := (218 : Int32)) (N := 218) (by decide) (by decide) (by decide) (Nat.le_of_ble_eq_true rfl) (Nat.le_of_ble_eq_true rfl) dX10_init_111 (fun q_13 H hP hD hS => ?_)
  have hP : va_P g.1 vwCl [(a_t, .inr (10, [.int 0, .ref q_1, .int 0, .int 0, .int 0, .int 0, .int 0, .int 0, .int 0, .int 0, .int (-1 : Int32), .int 0, .ref q_2, .int 0, .int 0, .ref q_3, .ref q_4, .ref q_5, .ref q_6, .ref q_7, .int 0, .int 0, .int 0, .int 0, .int 0, .ref q_8, .ref q_9, .ref q_10, .int 0, .int 0, .ref q_11, .ref q_12, .int 0, .null, .int 0])), aI g q_1 800 zR, aI g q_2 8 zR, aI g q_3 266 zR, aI g q_4 266 zR, aI g q_5 17 zR, aI g q_6 272 zR, aI g q_7 51 zR, aI g q_8 17 zR, aI g q_9 4 zR, aI g q_10 4 zR, aI g q_11 7 zR, aI g q_12 7 zR, aI g q_13 218 zR] H := hP
  have hD : va_D A [(a_t, .inr (10, [.int 0, .ref q_1, .int 0, .int 0, .int 0, .int 0, .int 0, .int 0, .int 0, .int 0, .int (-1 : Int32), .int 0, .ref q_2, .int 0, .int 0, .ref q_3, .ref q_4, .ref q_5, .ref q_6, .ref q_7, .int 0, .int 0, .int 0, .int 0, .int 0, .ref q_8, .ref q_9, .ref q_10, .int 0, .int 0, .ref q_11, .ref q_12, .int 0, .null, .int 0])), aI g q_1 800 zR, aI g q_2 8 zR, aI g q_3 266 zR, aI g q_4 266 zR, aI g q_5 17 zR, aI g q_6 272 zR, aI g q_7 51 zR, aI g q_8 17 zR, aI g q_9 4 zR, aI g q_10 4 zR, aI g q_11 7 zR, aI g q_12 7 zR, aI g q_13 218 zR] := hD
  refine W.widen (k := 13) (n := 1937) (Nat.le_of_ble_eq_true rfl) (Nat.le_of_ble_eq_true rfl) ?_
  refine va_putF (D := g.1) (ci := 10) (v := .ref q_13) (ty := .array .int) (C := RX10) (T := TX10) (N := 35) hx hb hts iX10_init_X10 tyX10 tyX10_ok nmX10 hown hK.1 hP hD hS 0 rfl rfl 33 (by decide) (hts _ kX10_init_50) (fun _ h9 => h9) rfl hin rfl (by decide +kernel) rfl rfl (Nat.le_of_ble_eq_true rfl) dX10_init_113 (fun H locs hP hD hS => ?_)
  have hP : va_P g.1 vwCl [(a_t, .inr (10, [.int 0, .ref q_1, .int 0, .int 0, .int 0, .int 0, .int 0, .int 0, .int 0, .int 0, .int (-1 : Int32), .int 0, .ref q_2, .int 0, .int 0, .ref q_3, .ref q_4, .ref q_5, .ref q_6, .ref q_7, .int 0, .int 0, .int 0, .int 0, .int 0, .ref q_8, .ref q_9, .ref q_10, .int 0, .int 0, .ref q_11, .ref q_12, .int 0, .ref q_13, .int 0])), aI g q_1 800 zR, aI g q_2 8 zR, aI g q_3 266 zR, aI g q_4 266 zR, aI g q_5 17 zR, aI g q_6 272 zR, aI g q_7 51 zR, aI g q_8 17 zR, aI g q_9 4 zR, aI g q_10 4 zR, aI g q_11 7 zR, aI g q_12 7 zR, aI g q_13 218 zR] H := hP
  have hD : va_D A [(a_t, .inr (10, [.int 0, .ref q_1, .int 0, .int 0, .int 0, .int 0, .int 0, .int 0, .int 0, .int 0, .int (-1 : Int32), .int 0, .ref q_2, .int 0, .int 0, .ref q_3, .ref q_4, .ref q_5, .ref q_6, .ref q_7, .int 0, .int 0, .int 0, .int 0, .int 0, .ref q_8, .ref q_9, .ref q_10, .int 0, .int 0, .ref q_11, .ref q_12, .int 0, .ref q_13, .int 0])), aI g q_1 800 zR, aI g q_2 8 zR, aI g q_3 266 zR, aI g q_4 266 zR, aI g q_5 17 zR, aI g q_6 272 zR, aI g q_7 51 zR, aI g q_8 17 zR, aI g q_9 4 zR, aI g q_10 4 zR, aI g q_11 7 zR, aI g q_12 7 zR, aI g q_13 218 zR] := hD
  exact ret_c ((va_up (va_up (va_up (va_up (va_up (va_up (va_up (va_up (va_up (va_up (va_up (va_up (va_up (fun _ => 0) 1 q_1) 12 q_2) 15 q_3) 16 q_4) 17 q_5) 18 q_6) 19 q_7) 25 q_8) 26 q_9) 27 q_10) 30 q_11) 31 q_12) 33 q_13)) C0 hP hD hS [0, 1, 2, 3, 4, 5, 6, 7, 8, 9, 10, 11, 12, 13] rfl rfl rfl dX10_init_116

