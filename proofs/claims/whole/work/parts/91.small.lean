theorem dAX1_clear : ∀ q ∈ ([(0, (.aload_n 0, 1)), (1, (.iconst 0, 1)), (2, (.putfield 21, 3)), (5, (.aload_n 0, 1)), (6, (.iconst 0, 1)), (7, (.putfield 37, 3)), (10, (.aload_n 0, 1)), (11, (.iconst 0, 1)), (12, (.putfield 40, 3)), (15, (.aload_n 0, 1)), (16, (.iconst 0, 1)), (17, (.putfield 52, 3)), (20, (.aload_n 0, 1)), (21, (.getfield 64, 3)), (24, (.iconst 0, 1)), (25, (.putfield 68, 3)), (28, (.aload_n 0, 1)), (29, (.getfield 64, 3)), (32, (.iconst 0, 1)), (33, (.putfield 71, 3)), (36, (.return_, 1))] : List (Nat × (Instr × Nat))), decode cX1_clear q.1 = .ok q.2 := by decide +kernel
theorem dX1_clear_0 : decode cX1_clear 0 = .ok (.aload_n 0, 1) := dAX1_clear (0, (.aload_n 0, 1)) (List.mem_of_getElem? (i := 0) rfl)
theorem dX1_clear_1 : decode cX1_clear 1 = .ok (.iconst 0, 1) := dAX1_clear (1, (.iconst 0, 1)) (List.mem_of_getElem? (i := 1) rfl)
theorem dX1_clear_2 : decode cX1_clear 2 = .ok (.putfield 21, 3) := dAX1_clear (2, (.putfield 21, 3)) (List.mem_of_getElem? (i := 2) rfl)
theorem dX1_clear_5 : decode cX1_clear 5 = .ok (.aload_n 0, 1) := dAX1_clear (5, (.aload_n 0, 1)) (List.mem_of_getElem? (i := 3) rfl)
theorem dX1_clear_6 : decode cX1_clear 6 = .ok (.iconst 0, 1) := dAX1_clear (6, (.iconst 0, 1)) (List.mem_of_getElem? (i := 4) rfl)
theorem dX1_clear_7 : decode cX1_clear 7 = .ok (.putfield 37, 3) := dAX1_clear (7, (.putfield 37, 3)) (List.mem_of_getElem? (i := 5) rfl)
theorem dX1_clear_10 : decode cX1_clear 10 = .ok (.aload_n 0, 1) := dAX1_clear (10, (.aload_n 0, 1)) (List.mem_of_getElem? (i := 6) rfl)
theorem dX1_clear_11 : decode cX1_clear 11 = .ok (.iconst 0, 1) := dAX1_clear (11, (.iconst 0, 1)) (List.mem_of_getElem? (i := 7) rfl)
theorem dX1_clear_12 : decode cX1_clear 12 = .ok (.putfield 40, 3) := dAX1_clear (12, (.putfield 40, 3)) (List.mem_of_getElem? (i := 8) rfl)
theorem dX1_clear_15 : decode cX1_clear 15 = .ok (.aload_n 0, 1) := dAX1_clear (15, (.aload_n 0, 1)) (List.mem_of_getElem? (i := 9) rfl)
theorem dX1_clear_16 : decode cX1_clear 16 = .ok (.iconst 0, 1) := dAX1_clear (16, (.iconst 0, 1)) (List.mem_of_getElem? (i := 10) rfl)
theorem dX1_clear_17 : decode cX1_clear 17 = .ok (.putfield 52, 3) := dAX1_clear (17, (.putfield 52, 3)) (List.mem_of_getElem? (i := 11) rfl)
theorem dX1_clear_20 : decode cX1_clear 20 = .ok (.aload_n 0, 1) := dAX1_clear (20, (.aload_n 0, 1)) (List.mem_of_getElem? (i := 12) rfl)
theorem dX1_clear_21 : decode cX1_clear 21 = .ok (.getfield 64, 3) := dAX1_clear (21, (.getfield 64, 3)) (List.mem_of_getElem? (i := 13) rfl)
theorem dX1_clear_24 : decode cX1_clear 24 = .ok (.iconst 0, 1) := dAX1_clear (24, (.iconst 0, 1)) (List.mem_of_getElem? (i := 14) rfl)
theorem dX1_clear_25 : decode cX1_clear 25 = .ok (.putfield 68, 3) := dAX1_clear (25, (.putfield 68, 3)) (List.mem_of_getElem? (i := 15) rfl)
theorem dX1_clear_28 : decode cX1_clear 28 = .ok (.aload_n 0, 1) := dAX1_clear (28, (.aload_n 0, 1)) (List.mem_of_getElem? (i := 16) rfl)
theorem dX1_clear_29 : decode cX1_clear 29 = .ok (.getfield 64, 3) := dAX1_clear (29, (.getfield 64, 3)) (List.mem_of_getElem? (i := 17) rfl)
theorem dX1_clear_32 : decode cX1_clear 32 = .ok (.iconst 0, 1) := dAX1_clear (32, (.iconst 0, 1)) (List.mem_of_getElem? (i := 18) rfl)
theorem dX1_clear_33 : decode cX1_clear 33 = .ok (.putfield 71, 3) := dAX1_clear (33, (.putfield 71, 3)) (List.mem_of_getElem? (i := 19) rfl)
theorem dX1_clear_36 : decode cX1_clear 36 = .ok (.return_, 1) := dAX1_clear (36, (.return_, 1)) (List.mem_of_getElem? (i := 20) rfl)
theorem kX1_clear_21 : Cond.fieldLink RX1 21 "EveningVow$House" "guests" "I" ∈ wsX1_clear := List.mem_of_getElem? (i := 1) rfl
theorem iX1_clear_X1 : ∀ w ∈ u_ws RX1 TX1 17, w ∈ wsX1_clear := fun w h => (List.mem_cons_of_mem _ (List.mem_append_left _ (List.mem_append_right _ h)))
theorem kX1_clear_37 : Cond.fieldLink RX1 37 "EveningVow$House" "pairs" "I" ∈ wsX1_clear := List.mem_of_getElem? (i := 2) rfl
theorem kX1_clear_40 : Cond.fieldLink RX1 40 "EveningVow$House" "draws" "I" ∈ wsX1_clear := List.mem_of_getElem? (i := 3) rfl
theorem kX1_clear_52 : Cond.fieldLink RX1 52 "EveningVow$House" "tales" "I" ∈ wsX1_clear := List.mem_of_getElem? (i := 4) rfl
theorem kX1_clear_64 : Cond.fieldLink RX1 64 "EveningVow$House" "town" "LEveningVow$Town;" ∈ wsX1_clear := List.mem_of_getElem? (i := 5) rfl
theorem kX1_clear_68 : Cond.fieldLink RX1 68 "EveningVow$Town" "needs" "I" ∈ wsX1_clear := List.mem_of_getElem? (i := 6) rfl
theorem iX1_clear_X7 : ∀ w ∈ u_ws RX7 TX7 7, w ∈ wsX1_clear := fun w h => (List.mem_cons_of_mem _ (List.mem_append_right _ h))
theorem kX1_clear_71 : Cond.fieldLink RX1 71 "EveningVow$Town" "sights" "I" ∈ wsX1_clear := List.mem_of_getElem? (i := 7) rfl
set_option maxHeartbeats 4000000 in
set_option maxRecDepth 100000 in
theorem mX1_clear (l : Launch) (g : GG) (a_t : Nat) (p_t : Nat → Nat) (p_t_16 : Nat → Nat) (n : Nat) (o_t : Nat → Int32) (o_t_16 : Nat → Int32) (o_t' : Nat → Int32) (o_t_16' : Nat → Int32) (hF : fX1_clear n o_t o_t_16 = some (o_t', o_t_16')) : MV l g yX1_clear wsX1_clear ({ frames := 0, cells := 0, slots := 0, locals := 0 } : Room) [.ref a_t] [oX1 a_t p_t o_t, oX7 (p_t 16) p_t_16 o_t_16] [oX1 a_t p_t o_t', oX7 (p_t 16) p_t_16 o_t_16'] := by
  refine MV.of (cc := cX1_clear) (maxL := 1) (own := RX1) rfl rfl (by decide) (Nat.le_of_ble_eq_true rfl) ?_
  intro p e s m args below meth c A C0 hP hD hS ls hl
  obtain ⟨hx, hb, hml, hown, hts, hr, hlk, hK, hA, hSW⟩ := id C0
  have hl : lv_has ls 1 [(0, .ref a_t)] := hl
  rw [fX1_clear] at hF
  refine lv_aload_n hx hb dX1_clear_0 rfl (lv_at hl 0 rfl) ?_
  refine lv_iconst (v := (0 : Int32)) hx hb dX1_clear_1 (by decide) ?_
  refine va_put (D := g.1) (ci := 1) (v := .int (0 : Int32)) (ty := .int) (C := RX1) (T := TX1) (N := 17) hx hb hts iX1_clear_X1 tyX1 tyX1_ok nmX1 hown hK.1 hP hD hS 0 rfl rfl 3 (by decide) (hts _ kX1_clear_21) (fun _ h9 => h9) rfl (by decide +kernel) rfl rfl (Nat.le_of_ble_eq_true rfl) dX1_clear_2 (fun H locs hP hD hS => ?_)
  have hP : va_P g.1 vwCl [oX1 a_t p_t (upd o_t 3 (0 : Int32)), oX7 (p_t 16) p_t_16 o_t_16] H := hP
  have hD : va_D A [oX1 a_t p_t (upd o_t 3 (0 : Int32)), oX7 (p_t 16) p_t_16 o_t_16] := hD
  refine lv_aload_n hx hb dX1_clear_5 rfl (lv_at hl 0 rfl) ?_
  refine lv_iconst (v := (0 : Int32)) hx hb dX1_clear_6 (by decide) ?_
  refine va_put (D := g.1) (ci := 1) (v := .int (0 : Int32)) (ty := .int) (C := RX1) (T := TX1) (N := 17) hx hb hts iX1_clear_X1 tyX1 tyX1_ok nmX1 hown hK.1 hP hD hS 0 rfl rfl 8 (by decide) (hts _ kX1_clear_37) (fun _ h9 => h9) rfl (by decide +kernel) rfl rfl (Nat.le_of_ble_eq_true rfl) dX1_clear_7 (fun H locs hP hD hS => ?_)
  have hP : va_P g.1 vwCl [oX1 a_t p_t (upd (upd o_t 3 (0 : Int32)) 8 (0 : Int32)), oX7 (p_t 16) p_t_16 o_t_16] H := hP
  have hD : va_D A [oX1 a_t p_t (upd (upd o_t 3 (0 : Int32)) 8 (0 : Int32)), oX7 (p_t 16) p_t_16 o_t_16] := hD
  refine lv_aload_n hx hb dX1_clear_10 rfl (lv_at hl 0 rfl) ?_
  refine lv_iconst (v := (0 : Int32)) hx hb dX1_clear_11 (by decide) ?_
  refine va_put (D := g.1) (ci := 1) (v := .int (0 : Int32)) (ty := .int) (C := RX1) (T := TX1) (N := 17) hx hb hts iX1_clear_X1 tyX1 tyX1_ok nmX1 hown hK.1 hP hD hS 0 rfl rfl 9 (by decide) (hts _ kX1_clear_40) (fun _ h9 => h9) rfl (by decide +kernel) rfl rfl (Nat.le_of_ble_eq_true rfl) dX1_clear_12 (fun H locs hP hD hS => ?_)
  have hP : va_P g.1 vwCl [oX1 a_t p_t (upd (upd (upd o_t 3 (0 : Int32)) 8 (0 : Int32)) 9 (0 : Int32)), oX7 (p_t 16) p_t_16 o_t_16] H := hP
  have hD : va_D A [oX1 a_t p_t (upd (upd (upd o_t 3 (0 : Int32)) 8 (0 : Int32)) 9 (0 : Int32)), oX7 (p_t 16) p_t_16 o_t_16] := hD
  refine lv_aload_n hx hb dX1_clear_15 rfl (lv_at hl 0 rfl) ?_
  refine lv_iconst (v := (0 : Int32)) hx hb dX1_clear_16 (by decide) ?_
  refine va_put (D := g.1) (ci := 1) (v := .int (0 : Int32)) (ty := .int) (C := RX1) (T := TX1) (N := 17) hx hb hts iX1_clear_X1 tyX1 tyX1_ok nmX1 hown hK.1 hP hD hS 0 rfl rfl 13 (by decide) (hts _ kX1_clear_52) (fun _ h9 => h9) rfl (by decide +kernel) rfl rfl (Nat.le_of_ble_eq_true rfl) dX1_clear_17 (fun H locs hP hD hS => ?_)
  have hP : va_P g.1 vwCl [oX1 a_t p_t (upd (upd (upd (upd o_t 3 (0 : Int32)) 8 (0 : Int32)) 9 (0 : Int32)) 13 (0 : Int32)), oX7 (p_t 16) p_t_16 o_t_16] H := hP
  have hD : va_D A [oX1 a_t p_t (upd (upd (upd (upd o_t 3 (0 : Int32)) 8 (0 : Int32)) 9 (0 : Int32)) 13 (0 : Int32)), oX7 (p_t 16) p_t_16 o_t_16] := hD
  refine lv_aload_n hx hb dX1_clear_20 rfl (lv_at hl 0 rfl) ?_
  refine va_get (D := g.1) (ci := 1) (v := .ref (p_t 16)) (C := RX1) (T := TX1) (N := 17) hx hb hts iX1_clear_X1 hown hK.1 hP 0 rfl rfl 16 (by decide) (hts _ kX1_clear_64) (fun _ h9 => h9) rfl dX1_clear_21 ?_
  refine lv_iconst (v := (0 : Int32)) hx hb dX1_clear_24 (by decide) ?_
  refine va_put (D := g.1) (ci := 7) (v := .int (0 : Int32)) (ty := .int) (C := RX7) (T := TX7) (N := 7) hx hb hts iX1_clear_X7 tyX7 tyX7_ok nmX7 hown hK.1 hP hD hS 1 rfl rfl 0 (by decide) (hts _ kX1_clear_68) (fun _ h9 => h9) rfl (by decide +kernel) rfl rfl (Nat.le_of_ble_eq_true rfl) dX1_clear_25 (fun H locs hP hD hS => ?_)
  have hP : va_P g.1 vwCl [oX1 a_t p_t (upd (upd (upd (upd o_t 3 (0 : Int32)) 8 (0 : Int32)) 9 (0 : Int32)) 13 (0 : Int32)), oX7 (p_t 16) p_t_16 (upd o_t_16 0 (0 : Int32))] H := hP
  have hD : va_D A [oX1 a_t p_t (upd (upd (upd (upd o_t 3 (0 : Int32)) 8 (0 : Int32)) 9 (0 : Int32)) 13 (0 : Int32)), oX7 (p_t 16) p_t_16 (upd o_t_16 0 (0 : Int32))] := hD
  refine lv_aload_n hx hb dX1_clear_28 rfl (lv_at hl 0 rfl) ?_
  refine va_get (D := g.1) (ci := 1) (v := .ref (p_t 16)) (C := RX1) (T := TX1) (N := 17) hx hb hts iX1_clear_X1 hown hK.1 hP 0 rfl rfl 16 (by decide) (hts _ kX1_clear_64) (fun _ h9 => h9) rfl dX1_clear_29 ?_
  refine lv_iconst (v := (0 : Int32)) hx hb dX1_clear_32 (by decide) ?_
  refine va_put (D := g.1) (ci := 7) (v := .int (0 : Int32)) (ty := .int) (C := RX7) (T := TX7) (N := 7) hx hb hts iX1_clear_X7 tyX7 tyX7_ok nmX7 hown hK.1 hP hD hS 1 rfl rfl 3 (by decide) (hts _ kX1_clear_71) (fun _ h9 => h9) rfl (by decide +kernel) rfl rfl (Nat.le_of_ble_eq_true rfl) dX1_clear_33 (fun H locs hP hD hS => ?_)
  have hP : va_P g.1 vwCl [oX1 a_t p_t (upd (upd (upd (upd o_t 3 (0 : Int32)) 8 (0 : Int32)) 9 (0 : Int32)) 13 (0 : Int32)), oX7 (p_t 16) p_t_16 (upd (upd o_t_16 0 (0 : Int32)) 3 (0 : Int32))] H := hP
  have hD : va_D A [oX1 a_t p_t (upd (upd (upd (upd o_t 3 (0 : Int32)) 8 (0 : Int32)) 9 (0 : Int32)) 13 (0 : Int32)), oX7 (p_t 16) p_t_16 (upd (upd o_t_16 0 (0 : Int32)) 3 (0 : Int32))] := hD
  cases hF
  exact ret_v C0 hP hD hS [0, 1] rfl rfl rfl dX1_clear_36

theorem dAX1_drawLine : ∀ q ∈ ([(0, (.iconst 0, 1)), (1, (.istore_n 3, 1)), (2, (.iload_n 3, 1)), (3, (.aload_n 0, 1)), (4, (.getfield 40, 3)), (7, (.if_icmp .ge 31, 3)), (10, (.aload_n 0, 1)), (11, (.getfield 43, 3)), (14, (.iload_n 3, 1)), (15, (.iaload, 1)), (16, (.iload_n 1, 1)), (17, (.if_icmp .ne 15, 3)), (20, (.aload_n 0, 1)), (21, (.getfield 46, 3)), (24, (.iload_n 3, 1)), (25, (.iaload, 1)), (26, (.iload_n 2, 1)), (27, (.if_icmp .ne 5, 3)), (30, (.iload_n 3, 1)), (31, (.ireturn, 1)), (32, (.iinc 3 1, 3)), (35, (.goto (-33), 3)), (38, (.iconst (-1), 1)), (39, (.ireturn, 1))] : List (Nat × (Instr × Nat))), decode cX1_drawLine q.1 = .ok q.2 := by decide +kernel
theorem dX1_drawLine_0 : decode cX1_drawLine 0 = .ok (.iconst 0, 1) := dAX1_drawLine (0, (.iconst 0, 1)) (List.mem_of_getElem? (i := 0) rfl)
theorem dX1_drawLine_1 : decode cX1_drawLine 1 = .ok (.istore_n 3, 1) := dAX1_drawLine (1, (.istore_n 3, 1)) (List.mem_of_getElem? (i := 1) rfl)
theorem dX1_drawLine_2 : decode cX1_drawLine 2 = .ok (.iload_n 3, 1) := dAX1_drawLine (2, (.iload_n 3, 1)) (List.mem_of_getElem? (i := 2) rfl)
theorem dX1_drawLine_3 : decode cX1_drawLine 3 = .ok (.aload_n 0, 1) := dAX1_drawLine (3, (.aload_n 0, 1)) (List.mem_of_getElem? (i := 3) rfl)
theorem dX1_drawLine_4 : decode cX1_drawLine 4 = .ok (.getfield 40, 3) := dAX1_drawLine (4, (.getfield 40, 3)) (List.mem_of_getElem? (i := 4) rfl)
theorem dX1_drawLine_7 : decode cX1_drawLine 7 = .ok (.if_icmp .ge 31, 3) := dAX1_drawLine (7, (.if_icmp .ge 31, 3)) (List.mem_of_getElem? (i := 5) rfl)
theorem dX1_drawLine_10 : decode cX1_drawLine 10 = .ok (.aload_n 0, 1) := dAX1_drawLine (10, (.aload_n 0, 1)) (List.mem_of_getElem? (i := 6) rfl)
theorem dX1_drawLine_11 : decode cX1_drawLine 11 = .ok (.getfield 43, 3) := dAX1_drawLine (11, (.getfield 43, 3)) (List.mem_of_getElem? (i := 7) rfl)
theorem dX1_drawLine_14 : decode cX1_drawLine 14 = .ok (.iload_n 3, 1) := dAX1_drawLine (14, (.iload_n 3, 1)) (List.mem_of_getElem? (i := 8) rfl)
theorem dX1_drawLine_15 : decode cX1_drawLine 15 = .ok (.iaload, 1) := dAX1_drawLine (15, (.iaload, 1)) (List.mem_of_getElem? (i := 9) rfl)
theorem dX1_drawLine_16 : decode cX1_drawLine 16 = .ok (.iload_n 1, 1) := dAX1_drawLine (16, (.iload_n 1, 1)) (List.mem_of_getElem? (i := 10) rfl)
theorem dX1_drawLine_17 : decode cX1_drawLine 17 = .ok (.if_icmp .ne 15, 3) := dAX1_drawLine (17, (.if_icmp .ne 15, 3)) (List.mem_of_getElem? (i := 11) rfl)
theorem dX1_drawLine_20 : decode cX1_drawLine 20 = .ok (.aload_n 0, 1) := dAX1_drawLine (20, (.aload_n 0, 1)) (List.mem_of_getElem? (i := 12) rfl)
theorem dX1_drawLine_21 : decode cX1_drawLine 21 = .ok (.getfield 46, 3) := dAX1_drawLine (21, (.getfield 46, 3)) (List.mem_of_getElem? (i := 13) rfl)
theorem dX1_drawLine_24 : decode cX1_drawLine 24 = .ok (.iload_n 3, 1) := dAX1_drawLine (24, (.iload_n 3, 1)) (List.mem_of_getElem? (i := 14) rfl)
theorem dX1_drawLine_25 : decode cX1_drawLine 25 = .ok (.iaload, 1) := dAX1_drawLine (25, (.iaload, 1)) (List.mem_of_getElem? (i := 15) rfl)
theorem dX1_drawLine_26 : decode cX1_drawLine 26 = .ok (.iload_n 2, 1) := dAX1_drawLine (26, (.iload_n 2, 1)) (List.mem_of_getElem? (i := 16) rfl)
theorem dX1_drawLine_27 : decode cX1_drawLine 27 = .ok (.if_icmp .ne 5, 3) := dAX1_drawLine (27, (.if_icmp .ne 5, 3)) (List.mem_of_getElem? (i := 17) rfl)
theorem dX1_drawLine_30 : decode cX1_drawLine 30 = .ok (.iload_n 3, 1) := dAX1_drawLine (30, (.iload_n 3, 1)) (List.mem_of_getElem? (i := 18) rfl)
theorem dX1_drawLine_31 : decode cX1_drawLine 31 = .ok (.ireturn, 1) := dAX1_drawLine (31, (.ireturn, 1)) (List.mem_of_getElem? (i := 19) rfl)
theorem dX1_drawLine_32 : decode cX1_drawLine 32 = .ok (.iinc 3 1, 3) := dAX1_drawLine (32, (.iinc 3 1, 3)) (List.mem_of_getElem? (i := 20) rfl)
theorem dX1_drawLine_35 : decode cX1_drawLine 35 = .ok (.goto (-33), 3) := dAX1_drawLine (35, (.goto (-33), 3)) (List.mem_of_getElem? (i := 21) rfl)
theorem dX1_drawLine_38 : decode cX1_drawLine 38 = .ok (.iconst (-1), 1) := dAX1_drawLine (38, (.iconst (-1), 1)) (List.mem_of_getElem? (i := 22) rfl)
theorem dX1_drawLine_39 : decode cX1_drawLine 39 = .ok (.ireturn, 1) := dAX1_drawLine (39, (.ireturn, 1)) (List.mem_of_getElem? (i := 23) rfl)
theorem kX1_drawLine_40 : Cond.fieldLink RX1 40 "EveningVow$House" "draws" "I" ∈ wsX1_drawLine := List.mem_of_getElem? (i := 1) rfl
theorem iX1_drawLine_X1 : ∀ w ∈ u_ws RX1 TX1 17, w ∈ wsX1_drawLine := fun w h => (List.mem_cons_of_mem _ (List.mem_append_right _ h))
theorem kX1_drawLine_43 : Cond.fieldLink RX1 43 "EveningVow$House" "drawnGuest" "[I" ∈ wsX1_drawLine := List.mem_of_getElem? (i := 2) rfl
theorem kX1_drawLine_46 : Cond.fieldLink RX1 46 "EveningVow$House" "drawer" "[I" ∈ wsX1_drawLine := List.mem_of_getElem? (i := 3) rfl
set_option maxHeartbeats 4000000 in
set_option maxRecDepth 100000 in
theorem wX1_drawLine_L2 {p : Program} {l : Launch} {e : Env} {s : State} {m : MethodId} {args : Array Value} {below : List Frame} {meth : Method} {c : Code} {g : GG} {A : Nat → Prop} (C0 : Cx p s m args meth c cX1_drawLine 4 (some .int) RX1 wsX1_drawLine g A) (a_t : Nat) (p_t : Nat → Nat) (n : Nat) (x1 : Int32) (x2 : Int32) (o_t : Nat → Int32) (f_t_10 : Nat → Int32) (f_t_11 : Nat → Int32)  (r : Int32) (K : Unit → Option (Int32)) (hKx : ∀  (H : Heap) (locs : List Loc) (ls : Array Slot), K () = some (r) → va_P g.1 vwCl [oX1 a_t p_t o_t, aI g (p_t 10) 8 f_t_10, aI g (p_t 11) 8 f_t_11] H → va_D A [oX1 a_t p_t o_t, aI g (p_t 10) 8 f_t_10, aI g (p_t 11) 8 f_t_11] → va_S A s.heap H locs → lv_has ls 4 [] → W p l e ({ frames := 0, cells := 0, slots := 0, locals := 0 } : Room) s m args below meth c H locs 0 0 (MQ below (EndI g r [oX1 a_t p_t o_t, aI g (p_t 10) 8 f_t_10, aI g (p_t 11) 8 f_t_11] A) args s 0 0 A) (F0 m 38 ls [])) : ∀ (k : Nat) (x3 : Int32), fX1_drawLine_L2 n x1 x2 o_t f_t_10 f_t_11 K k x3 = some (r) → ∀ (H : Heap) (locs : List Loc) (ls : Array Slot), va_P g.1 vwCl [oX1 a_t p_t o_t, aI g (p_t 10) 8 f_t_10, aI g (p_t 11) 8 f_t_11] H → va_D A [oX1 a_t p_t o_t, aI g (p_t 10) 8 f_t_10, aI g (p_t 11) 8 f_t_11] → va_S A s.heap H locs → lv_has ls 4 [(0, .ref a_t), (1, .int x1), (2, .int x2), (3, .int x3)] → W p l e ({ frames := 0, cells := 0, slots := 0, locals := 0 } : Room) s m args below meth c H locs 0 0 (MQ below (EndI g r [oX1 a_t p_t o_t, aI g (p_t 10) 8 f_t_10, aI g (p_t 11) 8 f_t_11] A) args s 0 0 A) (F0 m 2 ls []) := by
  obtain ⟨hx, hb, hml, hown, hts, hr, hlk, hK, hA, hSW⟩ := id C0
  intro k
  induction k with
  | zero =>
    intro x3 hF
    exact absurd hF (by simp [fX1_drawLine_L2])
  | succ k ih =>
    intro x3 hF H locs ls hP hD hS hl
    rw [fX1_drawLine_L2] at hF
    refine lv_iload_n hx hb dX1_drawLine_2 rfl (lv_at hl 3 rfl) ?_
    refine lv_aload_n hx hb dX1_drawLine_3 rfl (lv_at hl 0 rfl) ?_
    refine va_get (D := g.1) (ci := 1) (v := .int (o_t 9)) (C := RX1) (T := TX1) (N := 17) hx hb hts iX1_drawLine_X1 hown hK.1 hP 0 rfl rfl 9 (by decide) (hts _ kX1_drawLine_40) (fun _ h9 => h9) rfl dX1_drawLine_4 ?_
    refine lv_icmp_ge (tgt := 38) hx hb dX1_drawLine_7 (by decide) (fun c_1 => ?_) (fun c_1 => ?_)
    · have hF := it_p c_1 hF
      exact hKx  _ _ _ hF (hP.sub [0, 1, 2] rfl) (hD.sub [0, 1, 2] rfl rfl) hS (lv_sub hl [] rfl)
    · have hF := it_n c_1 hF
      refine lv_aload_n hx hb dX1_drawLine_10 rfl (lv_at hl 0 rfl) ?_
      refine va_get (D := g.1) (ci := 1) (v := .ref (p_t 10)) (C := RX1) (T := TX1) (N := 17) hx hb hts iX1_drawLine_X1 hown hK.1 hP 0 rfl rfl 10 (by decide) (hts _ kX1_drawLine_43) (fun _ h9 => h9) rfl dX1_drawLine_11 ?_
      refine lv_iload_n hx hb dX1_drawLine_14 rfl (lv_at hl 3 rfl) ?_
      obtain ⟨h_2, hF⟩ := it_ck hF
      refine va_iald hx hb hK.1 hP 1 0 rfl rfl h_2 dX1_drawLine_15 ?_
      refine lv_iload_n hx hb dX1_drawLine_16 rfl (lv_at hl 1 rfl) ?_
      refine lv_icmp_ne (tgt := 32) hx hb dX1_drawLine_17 (by decide) (fun c_3 => ?_) (fun c_3 => ?_)
      · have hF := it_n c_3 hF
        refine lv_iinc (v := (x3 + (1 : Int32))) (lv' := [(3, .int (x3 + (1 : Int32))), (0, .ref a_t), (1, .int x1), (2, .int x2)]) hx hb dX1_drawLine_32 hl (k := 3) rfl rfl (by decide) rfl (fun ls hl => ?_)
        refine lv_goto (tgt := 2) hx hb dX1_drawLine_35 (by decide) ?_
        exact ih (x3 + (1 : Int32)) hF _ _ _ (hP.sub [0, 1, 2] rfl) (hD.sub [0, 1, 2] rfl rfl) hS (lv_sub hl [1, 2, 3, 0] rfl)
      · have hF := it_p c_3 hF
        refine lv_aload_n hx hb dX1_drawLine_20 rfl (lv_at hl 0 rfl) ?_
        refine va_get (D := g.1) (ci := 1) (v := .ref (p_t 11)) (C := RX1) (T := TX1) (N := 17) hx hb hts iX1_drawLine_X1 hown hK.1 hP 0 rfl rfl 11 (by decide) (hts _ kX1_drawLine_46) (fun _ h9 => h9) rfl dX1_drawLine_21 ?_
        refine lv_iload_n hx hb dX1_drawLine_24 rfl (lv_at hl 3 rfl) ?_
        obtain ⟨h_4, hF⟩ := it_ck hF
        refine va_iald hx hb hK.1 hP 2 0 rfl rfl h_4 dX1_drawLine_25 ?_
        refine lv_iload_n hx hb dX1_drawLine_26 rfl (lv_at hl 2 rfl) ?_
        refine lv_icmp_ne (tgt := 32) hx hb dX1_drawLine_27 (by decide) (fun c_5 => ?_) (fun c_5 => ?_)
        · have hF := it_n c_5 hF
          refine lv_iinc (v := (x3 + (1 : Int32))) (lv' := [(3, .int (x3 + (1 : Int32))), (0, .ref a_t), (1, .int x1), (2, .int x2)]) hx hb dX1_drawLine_32 hl (k := 3) rfl rfl (by decide) rfl (fun ls hl => ?_)
          refine lv_goto (tgt := 2) hx hb dX1_drawLine_35 (by decide) ?_
          exact ih (x3 + (1 : Int32)) hF _ _ _ (hP.sub [0, 1, 2] rfl) (hD.sub [0, 1, 2] rfl rfl) hS (lv_sub hl [1, 2, 3, 0] rfl)
        · have hF := it_p c_5 hF
          refine lv_iload_n hx hb dX1_drawLine_30 rfl (lv_at hl 3 rfl) ?_
          cases hF
          exact ret_i C0 hP hD hS [0, 1, 2] rfl rfl rfl dX1_drawLine_31 rfl
set_option maxHeartbeats 4000000 in
set_option maxRecDepth 100000 in
theorem mX1_drawLine (l : Launch) (g : GG) (a_t : Nat) (p_t : Nat → Nat) (n : Nat) (x1 : Int32) (x2 : Int32) (o_t : Nat → Int32) (f_t_10 : Nat → Int32) (f_t_11 : Nat → Int32) (r : Int32) (hF : fX1_drawLine n x1 x2 o_t f_t_10 f_t_11 = some (r)) : MI l g yX1_drawLine wsX1_drawLine ({ frames := 0, cells := 0, slots := 0, locals := 0 } : Room) [.ref a_t, .int x1, .int x2] [oX1 a_t p_t o_t, aI g (p_t 10) 8 f_t_10, aI g (p_t 11) 8 f_t_11] r [oX1 a_t p_t o_t, aI g (p_t 10) 8 f_t_10, aI g (p_t 11) 8 f_t_11] := by
  refine MI.of (cc := cX1_drawLine) (maxL := 4) (rt := .int) (own := RX1) rfl rfl (by decide) (Nat.le_of_ble_eq_true rfl) ?_
  intro p e s m args below meth c A C0 hP hD hS ls hl
  obtain ⟨hx, hb, hml, hown, hts, hr, hlk, hK, hA, hSW⟩ := id C0
  have hl : lv_has ls 4 [(0, .ref a_t), (1, .int x1), (2, .int x2)] := hl
  rw [fX1_drawLine] at hF
  refine lv_iconst (v := (0 : Int32)) hx hb dX1_drawLine_0 (by decide) ?_
  refine lv_istore_n (lv' := [(3, .int (0 : Int32)), (0, .ref a_t), (1, .int x1), (2, .int x2)]) hx hb dX1_drawLine_1 rfl hl (by decide) rfl (fun ls hl => ?_)
  refine wX1_drawLine_L2 C0 a_t p_t n x1 x2 o_t f_t_10 f_t_11 r _ ?_ n (0 : Int32) hF _ _ _ (hP.sub [0, 1, 2] rfl) (hD.sub [0, 1, 2] rfl rfl) hS (lv_sub hl [1, 2, 3, 0] rfl)
  · intro  H locs ls hF hP hD hS hl
    refine lv_iconst (v := (-1 : Int32)) hx hb dX1_drawLine_38 (by decide) ?_
    cases hF
    exact ret_i C0 hP hD hS [0, 1, 2] rfl rfl rfl dX1_drawLine_39 rfl

theorem dAX7_payAt : ∀ q ∈ ([(0, (.iconst 0, 1)), (1, (.istore_n 2, 1)), (2, (.iconst 0, 1)), (3, (.istore_n 3, 1)), (4, (.iload_n 3, 1)), (5, (.aload_n 0, 1)), (6, (.getfield 9, 3)), (9, (.if_icmp .ge 28, 3)), (12, (.aload_n 0, 1)), (13, (.getfield 15, 3)), (16, (.iload_n 3, 1)), (17, (.iaload, 1)), (18, (.iload_n 1, 1)), (19, (.if_icmp .lt 12, 3)), (22, (.iload_n 2, 1)), (23, (.aload_n 0, 1)), (24, (.getfield 19, 3)), (27, (.iload_n 3, 1)), (28, (.iaload, 1)), (29, (.iadd, 1)), (30, (.istore_n 2, 1)), (31, (.iinc 3 1, 3)), (34, (.goto (-30), 3)), (37, (.iload_n 2, 1)), (38, (.ireturn, 1))] : List (Nat × (Instr × Nat))), decode cX7_payAt q.1 = .ok q.2 := by decide +kernel
theorem dX7_payAt_0 : decode cX7_payAt 0 = .ok (.iconst 0, 1) := dAX7_payAt (0, (.iconst 0, 1)) (List.mem_of_getElem? (i := 0) rfl)
theorem dX7_payAt_1 : decode cX7_payAt 1 = .ok (.istore_n 2, 1) := dAX7_payAt (1, (.istore_n 2, 1)) (List.mem_of_getElem? (i := 1) rfl)
theorem dX7_payAt_2 : decode cX7_payAt 2 = .ok (.iconst 0, 1) := dAX7_payAt (2, (.iconst 0, 1)) (List.mem_of_getElem? (i := 2) rfl)
theorem dX7_payAt_3 : decode cX7_payAt 3 = .ok (.istore_n 3, 1) := dAX7_payAt (3, (.istore_n 3, 1)) (List.mem_of_getElem? (i := 3) rfl)
theorem dX7_payAt_4 : decode cX7_payAt 4 = .ok (.iload_n 3, 1) := dAX7_payAt (4, (.iload_n 3, 1)) (List.mem_of_getElem? (i := 4) rfl)
theorem dX7_payAt_5 : decode cX7_payAt 5 = .ok (.aload_n 0, 1) := dAX7_payAt (5, (.aload_n 0, 1)) (List.mem_of_getElem? (i := 5) rfl)
theorem dX7_payAt_6 : decode cX7_payAt 6 = .ok (.getfield 9, 3) := dAX7_payAt (6, (.getfield 9, 3)) (List.mem_of_getElem? (i := 6) rfl)
theorem dX7_payAt_9 : decode cX7_payAt 9 = .ok (.if_icmp .ge 28, 3) := dAX7_payAt (9, (.if_icmp .ge 28, 3)) (List.mem_of_getElem? (i := 7) rfl)
theorem dX7_payAt_12 : decode cX7_payAt 12 = .ok (.aload_n 0, 1) := dAX7_payAt (12, (.aload_n 0, 1)) (List.mem_of_getElem? (i := 8) rfl)
theorem dX7_payAt_13 : decode cX7_payAt 13 = .ok (.getfield 15, 3) := dAX7_payAt (13, (.getfield 15, 3)) (List.mem_of_getElem? (i := 9) rfl)
theorem dX7_payAt_16 : decode cX7_payAt 16 = .ok (.iload_n 3, 1) := dAX7_payAt (16, (.iload_n 3, 1)) (List.mem_of_getElem? (i := 10) rfl)
theorem dX7_payAt_17 : decode cX7_payAt 17 = .ok (.iaload, 1) := dAX7_payAt (17, (.iaload, 1)) (List.mem_of_getElem? (i := 11) rfl)
theorem dX7_payAt_18 : decode cX7_payAt 18 = .ok (.iload_n 1, 1) := dAX7_payAt (18, (.iload_n 1, 1)) (List.mem_of_getElem? (i := 12) rfl)
theorem dX7_payAt_19 : decode cX7_payAt 19 = .ok (.if_icmp .lt 12, 3) := dAX7_payAt (19, (.if_icmp .lt 12, 3)) (List.mem_of_getElem? (i := 13) rfl)
theorem dX7_payAt_22 : decode cX7_payAt 22 = .ok (.iload_n 2, 1) := dAX7_payAt (22, (.iload_n 2, 1)) (List.mem_of_getElem? (i := 14) rfl)
theorem dX7_payAt_23 : decode cX7_payAt 23 = .ok (.aload_n 0, 1) := dAX7_payAt (23, (.aload_n 0, 1)) (List.mem_of_getElem? (i := 15) rfl)
theorem dX7_payAt_24 : decode cX7_payAt 24 = .ok (.getfield 19, 3) := dAX7_payAt (24, (.getfield 19, 3)) (List.mem_of_getElem? (i := 16) rfl)
theorem dX7_payAt_27 : decode cX7_payAt 27 = .ok (.iload_n 3, 1) := dAX7_payAt (27, (.iload_n 3, 1)) (List.mem_of_getElem? (i := 17) rfl)
theorem dX7_payAt_28 : decode cX7_payAt 28 = .ok (.iaload, 1) := dAX7_payAt (28, (.iaload, 1)) (List.mem_of_getElem? (i := 18) rfl)
theorem dX7_payAt_29 : decode cX7_payAt 29 = .ok (.iadd, 1) := dAX7_payAt (29, (.iadd, 1)) (List.mem_of_getElem? (i := 19) rfl)
theorem dX7_payAt_30 : decode cX7_payAt 30 = .ok (.istore_n 2, 1) := dAX7_payAt (30, (.istore_n 2, 1)) (List.mem_of_getElem? (i := 20) rfl)
theorem dX7_payAt_31 : decode cX7_payAt 31 = .ok (.iinc 3 1, 3) := dAX7_payAt (31, (.iinc 3 1, 3)) (List.mem_of_getElem? (i := 21) rfl)
theorem dX7_payAt_34 : decode cX7_payAt 34 = .ok (.goto (-30), 3) := dAX7_payAt (34, (.goto (-30), 3)) (List.mem_of_getElem? (i := 22) rfl)
theorem dX7_payAt_37 : decode cX7_payAt 37 = .ok (.iload_n 2, 1) := dAX7_payAt (37, (.iload_n 2, 1)) (List.mem_of_getElem? (i := 23) rfl)
theorem dX7_payAt_38 : decode cX7_payAt 38 = .ok (.ireturn, 1) := dAX7_payAt (38, (.ireturn, 1)) (List.mem_of_getElem? (i := 24) rfl)
theorem kX7_payAt_9 : Cond.fieldLink RX7 9 "EveningVow$Town" "needs" "I" ∈ wsX7_payAt := List.mem_of_getElem? (i := 1) rfl
theorem iX7_payAt_X7 : ∀ w ∈ u_ws RX7 TX7 7, w ∈ wsX7_payAt := fun w h => (List.mem_cons_of_mem _ (List.mem_append_right _ h))
theorem kX7_payAt_15 : Cond.fieldLink RX7 15 "EveningVow$Town" "needHour" "[I" ∈ wsX7_payAt := List.mem_of_getElem? (i := 2) rfl
theorem kX7_payAt_19 : Cond.fieldLink RX7 19 "EveningVow$Town" "needPays" "[I" ∈ wsX7_payAt := List.mem_of_getElem? (i := 3) rfl
set_option maxHeartbeats 4000000 in
set_option maxRecDepth 100000 in
theorem wX7_payAt_L4 {p : Program} {l : Launch} {e : Env} {s : State} {m : MethodId} {args : Array Value} {below : List Frame} {meth : Method} {c : Code} {g : GG} {A : Nat → Prop} (C0 : Cx p s m args meth c cX7_payAt 4 (some .int) RX7 wsX7_payAt g A) (a_t : Nat) (p_t : Nat → Nat) (n : Nat) (x1 : Int32) (o_t : Nat → Int32) (f_t_1 : Nat → Int32) (f_t_2 : Nat → Int32)  (r : Int32) (K : Int32 → Option (Int32)) (hKx : ∀ (x2 : Int32) (H : Heap) (locs : List Loc) (ls : Array Slot), K x2 = some (r) → va_P g.1 vwCl [oX7 a_t p_t o_t, aI g (p_t 1) 5 f_t_1, aI g (p_t 2) 5 f_t_2] H → va_D A [oX7 a_t p_t o_t, aI g (p_t 1) 5 f_t_1, aI g (p_t 2) 5 f_t_2] → va_S A s.heap H locs → lv_has ls 4 [(2, .int x2)] → W p l e ({ frames := 0, cells := 0, slots := 0, locals := 0 } : Room) s m args below meth c H locs 0 0 (MQ below (EndI g r [oX7 a_t p_t o_t, aI g (p_t 1) 5 f_t_1, aI g (p_t 2) 5 f_t_2] A) args s 0 0 A) (F0 m 37 ls [])) : ∀ (k : Nat) (x2 : Int32) (x3 : Int32), fX7_payAt_L4 n x1 o_t f_t_1 f_t_2 K k x2 x3 = some (r) → ∀ (H : Heap) (locs : List Loc) (ls : Array Slot), va_P g.1 vwCl [oX7 a_t p_t o_t, aI g (p_t 1) 5 f_t_1, aI g (p_t 2) 5 f_t_2] H → va_D A [oX7 a_t p_t o_t, aI g (p_t 1) 5 f_t_1, aI g (p_t 2) 5 f_t_2] → va_S A s.heap H locs → lv_has ls 4 [(0, .ref a_t), (1, .int x1), (2, .int x2), (3, .int x3)] → W p l e ({ frames := 0, cells := 0, slots := 0, locals := 0 } : Room) s m args below meth c H locs 0 0 (MQ below (EndI g r [oX7 a_t p_t o_t, aI g (p_t 1) 5 f_t_1, aI g (p_t 2) 5 f_t_2] A) args s 0 0 A) (F0 m 4 ls []) := by
  obtain ⟨hx, hb, hml, hown, hts, hr, hlk, hK, hA, hSW⟩ := id C0
  intro k
  induction k with
  | zero =>
    intro x2 x3 hF
    exact absurd hF (by simp [fX7_payAt_L4])
  | succ k ih =>
    intro x2 x3 hF H locs ls hP hD hS hl
    rw [fX7_payAt_L4] at hF
    refine lv_iload_n hx hb dX7_payAt_4 rfl (lv_at hl 3 rfl) ?_
    refine lv_aload_n hx hb dX7_payAt_5 rfl (lv_at hl 0 rfl) ?_
    refine va_get (D := g.1) (ci := 7) (v := .int (o_t 0)) (C := RX7) (T := TX7) (N := 7) hx hb hts iX7_payAt_X7 hown hK.1 hP 0 rfl rfl 0 (by decide) (hts _ kX7_payAt_9) (fun _ h9 => h9) rfl dX7_payAt_6 ?_
    refine lv_icmp_ge (tgt := 37) hx hb dX7_payAt_9 (by decide) (fun c_1 => ?_) (fun c_1 => ?_)
    · have hF := it_p c_1 hF
      exact hKx x2 _ _ _ hF (hP.sub [0, 1, 2] rfl) (hD.sub [0, 1, 2] rfl rfl) hS (lv_sub hl [2] rfl)
    · have hF := it_n c_1 hF
      refine lv_aload_n hx hb dX7_payAt_12 rfl (lv_at hl 0 rfl) ?_
      refine va_get (D := g.1) (ci := 7) (v := .ref (p_t 1)) (C := RX7) (T := TX7) (N := 7) hx hb hts iX7_payAt_X7 hown hK.1 hP 0 rfl rfl 1 (by decide) (hts _ kX7_payAt_15) (fun _ h9 => h9) rfl dX7_payAt_13 ?_
      refine lv_iload_n hx hb dX7_payAt_16 rfl (lv_at hl 3 rfl) ?_
      obtain ⟨h_2, hF⟩ := it_ck hF
      refine va_iald hx hb hK.1 hP 1 0 rfl rfl h_2 dX7_payAt_17 ?_
      refine lv_iload_n hx hb dX7_payAt_18 rfl (lv_at hl 1 rfl) ?_
      refine lv_icmp_lt (tgt := 31) hx hb dX7_payAt_19 (by decide) (fun c_3 => ?_) (fun c_3 => ?_)
      · have hF := it_p c_3 hF
        refine lv_iinc (v := (x3 + (1 : Int32))) (lv' := [(3, .int (x3 + (1 : Int32))), (0, .ref a_t), (1, .int x1), (2, .int x2)]) hx hb dX7_payAt_31 hl (k := 3) rfl rfl (by decide) rfl (fun ls hl => ?_)
        refine lv_goto (tgt := 4) hx hb dX7_payAt_34 (by decide) ?_
        exact ih x2 (x3 + (1 : Int32)) hF _ _ _ (hP.sub [0, 1, 2] rfl) (hD.sub [0, 1, 2] rfl rfl) hS (lv_sub hl [1, 2, 3, 0] rfl)
      · have hF := it_n c_3 hF
        refine lv_iload_n hx hb dX7_payAt_22 rfl (lv_at hl 2 rfl) ?_
        refine lv_aload_n hx hb dX7_payAt_23 rfl (lv_at hl 0 rfl) ?_
        refine va_get (D := g.1) (ci := 7) (v := .ref (p_t 2)) (C := RX7) (T := TX7) (N := 7) hx hb hts iX7_payAt_X7 hown hK.1 hP 0 rfl rfl 2 (by decide) (hts _ kX7_payAt_19) (fun _ h9 => h9) rfl dX7_payAt_24 ?_
        refine lv_iload_n hx hb dX7_payAt_27 rfl (lv_at hl 3 rfl) ?_
        obtain ⟨h_4, hF⟩ := it_ck hF
        refine va_iald hx hb hK.1 hP 2 0 rfl rfl h_4 dX7_payAt_28 ?_
        refine lv_iadd hx hb dX7_payAt_29 ?_
        refine lv_istore_n (lv' := [(2, .int (x2 + (f_t_2 (x3).toNatClampNeg))), (0, .ref a_t), (1, .int x1), (3, .int x3)]) hx hb dX7_payAt_30 rfl hl (by decide) rfl (fun ls hl => ?_)
        refine lv_iinc (v := (x3 + (1 : Int32))) (lv' := [(3, .int (x3 + (1 : Int32))), (2, .int (x2 + (f_t_2 (x3).toNatClampNeg))), (0, .ref a_t), (1, .int x1)]) hx hb dX7_payAt_31 hl (k := 3) rfl rfl (by decide) rfl (fun ls hl => ?_)
        refine lv_goto (tgt := 4) hx hb dX7_payAt_34 (by decide) ?_
        exact ih (x2 + (f_t_2 (x3).toNatClampNeg)) (x3 + (1 : Int32)) hF _ _ _ (hP.sub [0, 1, 2] rfl) (hD.sub [0, 1, 2] rfl rfl) hS (lv_sub hl [2, 3, 1, 0] rfl)
set_option maxHeartbeats 4000000 in
set_option maxRecDepth 100000 in
theorem mX7_payAt (l : Launch) (g : GG) (a_t : Nat) (p_t : Nat → Nat) (n : Nat) (x1 : Int32) (o_t : Nat → Int32) (f_t_1 : Nat → Int32) (f_t_2 : Nat → Int32) (r : Int32) (hF : fX7_payAt n x1 o_t f_t_1 f_t_2 = some (r)) : MI l g yX7_payAt wsX7_payAt ({ frames := 0, cells := 0, slots := 0, locals := 0 } : Room) [.ref a_t, .int x1] [oX7 a_t p_t o_t, aI g (p_t 1) 5 f_t_1, aI g (p_t 2) 5 f_t_2] r [oX7 a_t p_t o_t, aI g (p_t 1) 5 f_t_1, aI g (p_t 2) 5 f_t_2] := by
  refine MI.of (cc := cX7_payAt) (maxL := 4) (rt := .int) (own := RX7) rfl rfl (by decide) (Nat.le_of_ble_eq_true rfl) ?_
  intro p e s m args below meth c A C0 hP hD hS ls hl
  obtain ⟨hx, hb, hml, hown, hts, hr, hlk, hK, hA, hSW⟩ := id C0
  have hl : lv_has ls 4 [(0, .ref a_t), (1, .int x1)] := hl
  rw [fX7_payAt] at hF
  refine lv_iconst (v := (0 : Int32)) hx hb dX7_payAt_0 (by decide) ?_
  refine lv_istore_n (lv' := [(2, .int (0 : Int32)), (0, .ref a_t), (1, .int x1)]) hx hb dX7_payAt_1 rfl hl (by decide) rfl (fun ls hl => ?_)
  refine lv_iconst (v := (0 : Int32)) hx hb dX7_payAt_2 (by decide) ?_
  refine lv_istore_n (lv' := [(3, .int (0 : Int32)), (2, .int (0 : Int32)), (0, .ref a_t), (1, .int x1)]) hx hb dX7_payAt_3 rfl hl (by decide) rfl (fun ls hl => ?_)
  refine wX7_payAt_L4 C0 a_t p_t n x1 o_t f_t_1 f_t_2 r _ ?_ n (0 : Int32) (0 : Int32) hF _ _ _ (hP.sub [0, 1, 2] rfl) (hD.sub [0, 1, 2] rfl rfl) hS (lv_sub hl [2, 3, 1, 0] rfl)
  · intro x2_x4 H locs ls hF hP hD hS hl
    refine lv_iload_n hx hb dX7_payAt_37 rfl (lv_at hl 0 rfl) ?_
    cases hF
    exact ret_i C0 hP hD hS [0, 1, 2] rfl rfl rfl dX7_payAt_38 rfl

theorem dAX8_follow : ∀ q ∈ ([(0, (.aload_n 1, 1)), (1, (.getfield 89, 3)), (4, (.istore 4, 2)), (6, (.iload 4, 2)), (8, (.ifCond .lt 34, 3)), (11, (.iload 4, 2)), (13, (.bipush 30, 2)), (15, (.if_icmp .gt 27, 3)), (18, (.aload_n 0, 1)), (19, (.getfield 26, 3)), (22, (.iload 4, 2)), (24, (.aload_n 1, 1)), (25, (.getfield 65, 3)), (28, (.iastore, 1)), (29, (.aload_n 1, 1)), (30, (.aload_n 2, 1)), (31, (.aload_n 3, 1)), (32, (.invokevirtual 72, 3)), (35, (.pop, 1)), (36, (.iinc 4 1, 3)), (39, (.goto (-33), 3)), (42, (.return_, 1))] : List (Nat × (Instr × Nat))), decode cX8_follow q.1 = .ok q.2 := by decide +kernel
theorem dX8_follow_0 : decode cX8_follow 0 = .ok (.aload_n 1, 1) := dAX8_follow (0, (.aload_n 1, 1)) (List.mem_of_getElem? (i := 0) rfl)
theorem dX8_follow_1 : decode cX8_follow 1 = .ok (.getfield 89, 3) := dAX8_follow (1, (.getfield 89, 3)) (List.mem_of_getElem? (i := 1) rfl)
theorem dX8_follow_4 : decode cX8_follow 4 = .ok (.istore 4, 2) := dAX8_follow (4, (.istore 4, 2)) (List.mem_of_getElem? (i := 2) rfl)
theorem dX8_follow_6 : decode cX8_follow 6 = .ok (.iload 4, 2) := dAX8_follow (6, (.iload 4, 2)) (List.mem_of_getElem? (i := 3) rfl)
theorem dX8_follow_8 : decode cX8_follow 8 = .ok (.ifCond .lt 34, 3) := dAX8_follow (8, (.ifCond .lt 34, 3)) (List.mem_of_getElem? (i := 4) rfl)
theorem dX8_follow_11 : decode cX8_follow 11 = .ok (.iload 4, 2) := dAX8_follow (11, (.iload 4, 2)) (List.mem_of_getElem? (i := 5) rfl)
theorem dX8_follow_13 : decode cX8_follow 13 = .ok (.bipush 30, 2) := dAX8_follow (13, (.bipush 30, 2)) (List.mem_of_getElem? (i := 6) rfl)
theorem dX8_follow_15 : decode cX8_follow 15 = .ok (.if_icmp .gt 27, 3) := dAX8_follow (15, (.if_icmp .gt 27, 3)) (List.mem_of_getElem? (i := 7) rfl)
theorem dX8_follow_18 : decode cX8_follow 18 = .ok (.aload_n 0, 1) := dAX8_follow (18, (.aload_n 0, 1)) (List.mem_of_getElem? (i := 8) rfl)
theorem dX8_follow_19 : decode cX8_follow 19 = .ok (.getfield 26, 3) := dAX8_follow (19, (.getfield 26, 3)) (List.mem_of_getElem? (i := 9) rfl)
theorem dX8_follow_22 : decode cX8_follow 22 = .ok (.iload 4, 2) := dAX8_follow (22, (.iload 4, 2)) (List.mem_of_getElem? (i := 10) rfl)
theorem dX8_follow_24 : decode cX8_follow 24 = .ok (.aload_n 1, 1) := dAX8_follow (24, (.aload_n 1, 1)) (List.mem_of_getElem? (i := 11) rfl)
theorem dX8_follow_25 : decode cX8_follow 25 = .ok (.getfield 65, 3) := dAX8_follow (25, (.getfield 65, 3)) (List.mem_of_getElem? (i := 12) rfl)
theorem dX8_follow_28 : decode cX8_follow 28 = .ok (.iastore, 1) := dAX8_follow (28, (.iastore, 1)) (List.mem_of_getElem? (i := 13) rfl)
theorem dX8_follow_29 : decode cX8_follow 29 = .ok (.aload_n 1, 1) := dAX8_follow (29, (.aload_n 1, 1)) (List.mem_of_getElem? (i := 14) rfl)
theorem dX8_follow_30 : decode cX8_follow 30 = .ok (.aload_n 2, 1) := dAX8_follow (30, (.aload_n 2, 1)) (List.mem_of_getElem? (i := 15) rfl)
theorem dX8_follow_31 : decode cX8_follow 31 = .ok (.aload_n 3, 1) := dAX8_follow (31, (.aload_n 3, 1)) (List.mem_of_getElem? (i := 16) rfl)
theorem dX8_follow_32 : decode cX8_follow 32 = .ok (.invokevirtual 72, 3) := dAX8_follow (32, (.invokevirtual 72, 3)) (List.mem_of_getElem? (i := 17) rfl)
theorem dX8_follow_35 : decode cX8_follow 35 = .ok (.pop, 1) := dAX8_follow (35, (.pop, 1)) (List.mem_of_getElem? (i := 18) rfl)
theorem dX8_follow_36 : decode cX8_follow 36 = .ok (.iinc 4 1, 3) := dAX8_follow (36, (.iinc 4 1, 3)) (List.mem_of_getElem? (i := 19) rfl)
theorem dX8_follow_39 : decode cX8_follow 39 = .ok (.goto (-33), 3) := dAX8_follow (39, (.goto (-33), 3)) (List.mem_of_getElem? (i := 20) rfl)
theorem dX8_follow_42 : decode cX8_follow 42 = .ok (.return_, 1) := dAX8_follow (42, (.return_, 1)) (List.mem_of_getElem? (i := 21) rfl)
set_option maxRecDepth 20000 in
theorem ggX8_follow_X2_pass : GoodIn wsX8_follow wsX2_pass := goodIn_r _ [8, 9, 10, 11, 12, 7, 13, 14, 15, 16, 17, 18, 19, 20, 21, 22, 23, 24, 25, 26, 27, 28, 29, 30, 31, 32, 33, 34, 35, 36, 37, 38, 39, 40, 41, 42, 43, 44, 45, 46, 47, 48, 49, 50, 51, 52, 53, 54, 55, 56, 57, 58, 59, 60, 68, 69, 70, 71, 72, 73, 74, 75, 76, 77, 78, 79, 80, 81, 82, 83, 84, 85, 86] rfl (by decide +kernel)
set_option maxRecDepth 20000 in
theorem gX8_follow_X2_pass : GoodIn wsX8_follow (wsV RX8 72 RX2 yX2_pass wsX2_pass) := goodIn_app (goodIn_of _ (by decide +kernel)) ggX8_follow_X2_pass
theorem kX8_follow_89 : Cond.fieldLink RX8 89 "EveningVow$Night" "clock" "I" ∈ wsX8_follow := List.mem_of_getElem? (i := 1) rfl
theorem iX8_follow_X2 : ∀ w ∈ u_ws RX2 TX2 9, w ∈ wsX8_follow := fun w h => (List.mem_cons_of_mem _ (List.mem_append_left _ (List.mem_append_left _ (List.mem_append_left _ (List.mem_append_right _ h)))))
theorem kX8_follow_26 : Cond.fieldLink RX8 26 "EveningVow$Unseen" "thereAt" "[I" ∈ wsX8_follow := List.mem_of_getElem? (i := 2) rfl
theorem iX8_follow_X8 : ∀ w ∈ u_ws RX8 TX8 7, w ∈ wsX8_follow := fun w h => (List.mem_cons_of_mem _ (List.mem_append_left _ (List.mem_append_left _ (List.mem_append_right _ h))))
theorem kX8_follow_65 : Cond.fieldLink RX8 65 "EveningVow$Night" "there" "I" ∈ wsX8_follow := List.mem_of_getElem? (i := 3) rfl
set_option maxHeartbeats 4000000 in
set_option maxRecDepth 100000 in
theorem wX8_follow_L6 {p : Program} {l : Launch} {e : Env} {s : State} {m : MethodId} {args : Array Value} {below : List Frame} {meth : Method} {c : Code} {g : GG} {A : Nat → Prop} (C0 : Cx p s m args meth c cX8_follow 5 none RX8 wsX8_follow g A) (a_t : Nat) (a_r1 : Nat) (a_r2 : Nat) (a_r3 : Nat) (p_t : Nat → Nat) (p_r1 : Nat → Nat) (p_r2 : Nat → Nat) (p_r3 : Nat → Nat) (n : Nat) (o_t : Nat → Int32) (o_r2 : Nat → Int32) (f_r2_4 : Nat → Int32) (f_r2_6 : Nat → Int32) (f_r2_7 : Nat → Int32) (f_r2_10 : Nat → Int32) (f_r2_11 : Nat → Int32) (f_r2_12 : Nat → Int32)  (f_t_4' : Nat → Int32) (o_r1' : Nat → Int32) (f_r1_6' : Nat → Int32) (f_r1_7' : Nat → Int32) (f_r1_8' : Nat → Int32) (o_r3' : Nat → Int32) (K : (Nat → Int32) → (Nat → Int32) → (Nat → Int32) → (Nat → Int32) → (Nat → Int32) → (Nat → Int32) → Option ((Nat → Int32) × (Nat → Int32) × (Nat → Int32) × (Nat → Int32) × (Nat → Int32) × (Nat → Int32))) (hKx : ∀ (f_t_4 : Nat → Int32) (o_r1 : Nat → Int32) (f_r1_6 : Nat → Int32) (f_r1_7 : Nat → Int32) (f_r1_8 : Nat → Int32) (o_r3 : Nat → Int32) (H : Heap) (locs : List Loc) (ls : Array Slot), K f_t_4 o_r1 f_r1_6 f_r1_7 f_r1_8 o_r3 = some (f_t_4', o_r1', f_r1_6', f_r1_7', f_r1_8', o_r3') → va_P g.1 vwCl [oX8 a_t p_t o_t, aI g (p_t 4) 31 f_t_4, oX2 a_r1 p_r1 o_r1, aI g (p_r1 6) 7 f_r1_6, aI g (p_r1 7) 7 f_r1_7, aI g (p_r1 8) 7 f_r1_8, oX1 a_r2 p_r2 o_r2, aI g (p_r2 4) 7 f_r2_4, aI g (p_r2 6) 7 f_r2_6, aI g (p_r2 7) 7 f_r2_7, aI g (p_r2 10) 8 f_r2_10, aI g (p_r2 11) 8 f_r2_11, aI g (p_r2 12) 8 f_r2_12, oX3 a_r3 p_r3 o_r3] H → va_D A [oX8 a_t p_t o_t, aI g (p_t 4) 31 f_t_4, oX2 a_r1 p_r1 o_r1, aI g (p_r1 6) 7 f_r1_6, aI g (p_r1 7) 7 f_r1_7, aI g (p_r1 8) 7 f_r1_8, oX1 a_r2 p_r2 o_r2, aI g (p_r2 4) 7 f_r2_4, aI g (p_r2 6) 7 f_r2_6, aI g (p_r2 7) 7 f_r2_7, aI g (p_r2 10) 8 f_r2_10, aI g (p_r2 11) 8 f_r2_11, aI g (p_r2 12) 8 f_r2_12, oX3 a_r3 p_r3 o_r3] → va_S A s.heap H locs → lv_has ls 5 [] → W p l e ({ frames := 3, cells := 0, slots := 0, locals := 71 } : Room) s m args below meth c H locs 0 0 (MQ below (EndV g [oX8 a_t p_t o_t, aI g (p_t 4) 31 f_t_4', oX2 a_r1 p_r1 o_r1', aI g (p_r1 6) 7 f_r1_6', aI g (p_r1 7) 7 f_r1_7', aI g (p_r1 8) 7 f_r1_8', oX1 a_r2 p_r2 o_r2, aI g (p_r2 4) 7 f_r2_4, aI g (p_r2 6) 7 f_r2_6, aI g (p_r2 7) 7 f_r2_7, aI g (p_r2 10) 8 f_r2_10, aI g (p_r2 11) 8 f_r2_11, aI g (p_r2 12) 8 f_r2_12, oX3 a_r3 p_r3 o_r3'] A) args s 0 0 A) (F0 m 42 ls [])) : ∀ (k : Nat) (x4 : Int32) (f_t_4 : Nat → Int32) (o_r1 : Nat → Int32) (f_r1_6 : Nat → Int32) (f_r1_7 : Nat → Int32) (f_r1_8 : Nat → Int32) (o_r3 : Nat → Int32), fX8_follow_L6 n o_t o_r2 f_r2_4 f_r2_6 f_r2_7 f_r2_10 f_r2_11 f_r2_12 K k x4 f_t_4 o_r1 f_r1_6 f_r1_7 f_r1_8 o_r3 = some (f_t_4', o_r1', f_r1_6', f_r1_7', f_r1_8', o_r3') → ∀ (H : Heap) (locs : List Loc) (ls : Array Slot), va_P g.1 vwCl [oX8 a_t p_t o_t, aI g (p_t 4) 31 f_t_4, oX2 a_r1 p_r1 o_r1, aI g (p_r1 6) 7 f_r1_6, aI g (p_r1 7) 7 f_r1_7, aI g (p_r1 8) 7 f_r1_8, oX1 a_r2 p_r2 o_r2, aI g (p_r2 4) 7 f_r2_4, aI g (p_r2 6) 7 f_r2_6, aI g (p_r2 7) 7 f_r2_7, aI g (p_r2 10) 8 f_r2_10, aI g (p_r2 11) 8 f_r2_11, aI g (p_r2 12) 8 f_r2_12, oX3 a_r3 p_r3 o_r3] H → va_D A [oX8 a_t p_t o_t, aI g (p_t 4) 31 f_t_4, oX2 a_r1 p_r1 o_r1, aI g (p_r1 6) 7 f_r1_6, aI g (p_r1 7) 7 f_r1_7, aI g (p_r1 8) 7 f_r1_8, oX1 a_r2 p_r2 o_r2, aI g (p_r2 4) 7 f_r2_4, aI g (p_r2 6) 7 f_r2_6, aI g (p_r2 7) 7 f_r2_7, aI g (p_r2 10) 8 f_r2_10, aI g (p_r2 11) 8 f_r2_11, aI g (p_r2 12) 8 f_r2_12, oX3 a_r3 p_r3 o_r3] → va_S A s.heap H locs → lv_has ls 5 [(0, .ref a_t), (1, .ref a_r1), (2, .ref a_r2), (3, .ref a_r3), (4, .int x4)] → W p l e ({ frames := 3, cells := 0, slots := 0, locals := 71 } : Room) s m args below meth c H locs 0 0 (MQ below (EndV g [oX8 a_t p_t o_t, aI g (p_t 4) 31 f_t_4', oX2 a_r1 p_r1 o_r1', aI g (p_r1 6) 7 f_r1_6', aI g (p_r1 7) 7 f_r1_7', aI g (p_r1 8) 7 f_r1_8', oX1 a_r2 p_r2 o_r2, aI g (p_r2 4) 7 f_r2_4, aI g (p_r2 6) 7 f_r2_6, aI g (p_r2 7) 7 f_r2_7, aI g (p_r2 10) 8 f_r2_10, aI g (p_r2 11) 8 f_r2_11, aI g (p_r2 12) 8 f_r2_12, oX3 a_r3 p_r3 o_r3'] A) args s 0 0 A) (F0 m 6 ls []) := by
  obtain ⟨hx, hb, hml, hown, hts, hr, hlk, hK, hA, hSW⟩ := id C0
  intro k
  induction k with
  | zero =>
    intro x4 f_t_4 o_r1 f_r1_6 f_r1_7 f_r1_8 o_r3 hF
    exact absurd hF (by simp [fX8_follow_L6])
  | succ k ih =>
    intro x4 f_t_4 o_r1 f_r1_6 f_r1_7 f_r1_8 o_r3 hF H locs ls hP hD hS hl
    rw [fX8_follow_L6] at hF
    refine lv_iload hx hb dX8_follow_6 (lv_at hl 4 rfl) ?_
    refine lv_if_lt (tgt := 42) hx hb dX8_follow_8 (by decide) (fun c_1 => ?_) (fun c_1 => ?_)
    · have hF := it_p c_1 hF
      exact hKx f_t_4 o_r1 f_r1_6 f_r1_7 f_r1_8 o_r3 _ _ _ hF (hP.sub [0, 1, 2, 3, 4, 5, 6, 7, 8, 9, 10, 11, 12, 13] rfl) (hD.sub [0, 1, 2, 3, 4, 5, 6, 7, 8, 9, 10, 11, 12, 13] rfl rfl) hS (lv_sub hl [] rfl)
    · have hF := it_n c_1 hF
      refine lv_iload hx hb dX8_follow_11 (lv_at hl 4 rfl) ?_
      refine lv_bipush (v := (30 : Int32)) hx hb dX8_follow_13 (by decide) ?_
      refine lv_icmp_gt (tgt := 42) hx hb dX8_follow_15 (by decide) (fun c_2 => ?_) (fun c_2 => ?_)
      · have hF := it_p c_2 hF
        exact hKx f_t_4 o_r1 f_r1_6 f_r1_7 f_r1_8 o_r3 _ _ _ hF (hP.sub [0, 1, 2, 3, 4, 5, 6, 7, 8, 9, 10, 11, 12, 13] rfl) (hD.sub [0, 1, 2, 3, 4, 5, 6, 7, 8, 9, 10, 11, 12, 13] rfl rfl) hS (lv_sub hl [] rfl)
      · have hF := it_n c_2 hF
        refine lv_aload_n hx hb dX8_follow_18 rfl (lv_at hl 0 rfl) ?_
        refine va_get (D := g.1) (ci := 8) (v := .ref (p_t 4)) (C := RX8) (T := TX8) (N := 7) hx hb hts iX8_follow_X8 hown hK.1 hP 0 rfl rfl 4 (by decide) (hts _ kX8_follow_26) (fun _ h9 => h9) rfl dX8_follow_19 ?_
        refine lv_iload hx hb dX8_follow_22 (lv_at hl 4 rfl) ?_
        refine lv_aload_n hx hb dX8_follow_24 rfl (lv_at hl 1 rfl) ?_
        refine va_get (D := g.1) (ci := 2) (v := .int (o_r1 1)) (C := RX2) (T := TX2) (N := 9) hx hb hts iX8_follow_X2 hown hK.1 hP 2 rfl rfl 1 (by decide) (hts _ kX8_follow_65) (fun _ h9 => h9) rfl dX8_follow_25 ?_
        obtain ⟨h_3, hF⟩ := it_ck hF
        refine va_iast hx hb hK.1 hP hD hS 1 0 rfl rfl h_3 dX8_follow_28 (fun H locs hP hD hS => ?_)
        have hP : va_P g.1 vwCl [oX8 a_t p_t o_t, aI g (p_t 4) 31 (upd f_t_4 (x4).toNatClampNeg (o_r1 1)), oX2 a_r1 p_r1 o_r1, aI g (p_r1 6) 7 f_r1_6, aI g (p_r1 7) 7 f_r1_7, aI g (p_r1 8) 7 f_r1_8, oX1 a_r2 p_r2 o_r2, aI g (p_r2 4) 7 f_r2_4, aI g (p_r2 6) 7 f_r2_6, aI g (p_r2 7) 7 f_r2_7, aI g (p_r2 10) 8 f_r2_10, aI g (p_r2 11) 8 f_r2_11, aI g (p_r2 12) 8 f_r2_12, oX3 a_r3 p_r3 o_r3] H := hP
        have hD : va_D A [oX8 a_t p_t o_t, aI g (p_t 4) 31 (upd f_t_4 (x4).toNatClampNeg (o_r1 1)), oX2 a_r1 p_r1 o_r1, aI g (p_r1 6) 7 f_r1_6, aI g (p_r1 7) 7 f_r1_7, aI g (p_r1 8) 7 f_r1_8, oX1 a_r2 p_r2 o_r2, aI g (p_r2 4) 7 f_r2_4, aI g (p_r2 6) 7 f_r2_6, aI g (p_r2 7) 7 f_r2_7, aI g (p_r2 10) 8 f_r2_10, aI g (p_r2 11) 8 f_r2_11, aI g (p_r2 12) 8 f_r2_12, oX3 a_r3 p_r3 o_r3] := hD
        refine lv_aload_n hx hb dX8_follow_29 rfl (lv_at hl 1 rfl) ?_
        refine lv_aload_n hx hb dX8_follow_30 rfl (lv_at hl 2 rfl) ?_
        refine lv_aload_n hx hb dX8_follow_31 rfl (lv_at hl 3 rfl) ?_
        obtain ⟨u_4, u_5, u_6, u_7, u_8, u_9, hu_10, hF⟩ := ob6_some hF
        refine call_i (wr := [oX8 a_t p_t o_t, aI g (p_t 4) 31 (upd f_t_4 (x4).toNatClampNeg (o_r1 1))]) (As := [.ref a_r2, .ref a_r3]) (rest := []) (ci := 2) (q0 := 0) C0 (mX2_pass l g a_r1 a_r2 a_r3 p_r1 p_r2 p_r3 n o_r1 f_r1_6 f_r1_7 f_r1_8 o_r2 f_r2_4 f_r2_6 f_r2_7 f_r2_10 f_r2_11 f_r2_12 o_r3 u_4 u_5 u_6 u_7 u_8 u_9 hu_10) (cwV 2 hts gX8_follow_X2_pass rfl rfl rfl (by decide +kernel) ⟨Nat.le_of_ble_eq_true rfl, Nat.le_of_ble_eq_true rfl⟩) hP hD hS [2, 3, 4, 5, 6, 7, 8, 9, 10, 11, 12, 13] [0, 1] rfl rfl rfl rfl rfl (by decide) rfl rfl hl.1 rfl rfl (Nat.le_of_ble_eq_true rfl) ⟨Nat.zero_le _, Nat.zero_le _⟩ dX8_follow_32 ?_
        intro H locs hP hD hS
        refine lv_pop hx hb dX8_follow_35 rfl ?_
        refine lv_iinc (v := (x4 + (1 : Int32))) (lv' := [(4, .int (x4 + (1 : Int32))), (0, .ref a_t), (1, .ref a_r1), (2, .ref a_r2), (3, .ref a_r3)]) hx hb dX8_follow_36 hl (k := 4) rfl rfl (by decide) rfl (fun ls hl => ?_)
        refine lv_goto (tgt := 6) hx hb dX8_follow_39 (by decide) ?_
        exact ih (x4 + (1 : Int32)) (upd f_t_4 (x4).toNatClampNeg (o_r1 1)) u_5 u_6 u_7 u_8 u_9 hF _ _ _ (hP.sub [0, 1, 2, 3, 4, 5, 6, 7, 8, 9, 10, 11, 12, 13] rfl) (hD.sub [0, 1, 2, 3, 4, 5, 6, 7, 8, 9, 10, 11, 12, 13] rfl rfl) hS (lv_sub hl [1, 2, 3, 4, 0] rfl)
set_option maxHeartbeats 4000000 in
set_option maxRecDepth 100000 in
theorem mX8_follow (l : Launch) (g : GG) (a_t : Nat) (a_r1 : Nat) (a_r2 : Nat) (a_r3 : Nat) (p_t : Nat → Nat) (p_r1 : Nat → Nat) (p_r2 : Nat → Nat) (p_r3 : Nat → Nat) (n : Nat) (o_t : Nat → Int32) (f_t_4 : Nat → Int32) (o_r1 : Nat → Int32) (f_r1_6 : Nat → Int32) (f_r1_7 : Nat → Int32) (f_r1_8 : Nat → Int32) (o_r2 : Nat → Int32) (f_r2_4 : Nat → Int32) (f_r2_6 : Nat → Int32) (f_r2_7 : Nat → Int32) (f_r2_10 : Nat → Int32) (f_r2_11 : Nat → Int32) (f_r2_12 : Nat → Int32) (o_r3 : Nat → Int32) (f_t_4' : Nat → Int32) (o_r1' : Nat → Int32) (f_r1_6' : Nat → Int32) (f_r1_7' : Nat → Int32) (f_r1_8' : Nat → Int32) (o_r3' : Nat → Int32) (hF : fX8_follow n o_t f_t_4 o_r1 f_r1_6 f_r1_7 f_r1_8 o_r2 f_r2_4 f_r2_6 f_r2_7 f_r2_10 f_r2_11 f_r2_12 o_r3 = some (f_t_4', o_r1', f_r1_6', f_r1_7', f_r1_8', o_r3')) : MV l g yX8_follow wsX8_follow ({ frames := 3, cells := 0, slots := 0, locals := 71 } : Room) [.ref a_t, .ref a_r1, .ref a_r2, .ref a_r3] [oX8 a_t p_t o_t, aI g (p_t 4) 31 f_t_4, oX2 a_r1 p_r1 o_r1, aI g (p_r1 6) 7 f_r1_6, aI g (p_r1 7) 7 f_r1_7, aI g (p_r1 8) 7 f_r1_8, oX1 a_r2 p_r2 o_r2, aI g (p_r2 4) 7 f_r2_4, aI g (p_r2 6) 7 f_r2_6, aI g (p_r2 7) 7 f_r2_7, aI g (p_r2 10) 8 f_r2_10, aI g (p_r2 11) 8 f_r2_11, aI g (p_r2 12) 8 f_r2_12, oX3 a_r3 p_r3 o_r3] [oX8 a_t p_t o_t, aI g (p_t 4) 31 f_t_4', oX2 a_r1 p_r1 o_r1', aI g (p_r1 6) 7 f_r1_6', aI g (p_r1 7) 7 f_r1_7', aI g (p_r1 8) 7 f_r1_8', oX1 a_r2 p_r2 o_r2, aI g (p_r2 4) 7 f_r2_4, aI g (p_r2 6) 7 f_r2_6, aI g (p_r2 7) 7 f_r2_7, aI g (p_r2 10) 8 f_r2_10, aI g (p_r2 11) 8 f_r2_11, aI g (p_r2 12) 8 f_r2_12, oX3 a_r3 p_r3 o_r3'] := by
  refine MV.of (cc := cX8_follow) (maxL := 5) (own := RX8) rfl rfl (by decide) (Nat.le_of_ble_eq_true rfl) ?_
  intro p e s m args below meth c A C0 hP hD hS ls hl
  obtain ⟨hx, hb, hml, hown, hts, hr, hlk, hK, hA, hSW⟩ := id C0
  have hl : lv_has ls 5 [(0, .ref a_t), (1, .ref a_r1), (2, .ref a_r2), (3, .ref a_r3)] := hl
  rw [fX8_follow] at hF
  refine lv_aload_n hx hb dX8_follow_0 rfl (lv_at hl 1 rfl) ?_
  refine va_get (D := g.1) (ci := 2) (v := .int (o_r1 0)) (C := RX2) (T := TX2) (N := 9) hx hb hts iX8_follow_X2 hown hK.1 hP 2 rfl rfl 0 (by decide) (hts _ kX8_follow_89) (fun _ h9 => h9) rfl dX8_follow_1 ?_
  refine lv_istore (lv' := [(4, .int (o_r1 0)), (0, .ref a_t), (1, .ref a_r1), (2, .ref a_r2), (3, .ref a_r3)]) hx hb dX8_follow_4 hl (by decide) rfl (fun ls hl => ?_)
  refine wX8_follow_L6 C0 a_t a_r1 a_r2 a_r3 p_t p_r1 p_r2 p_r3 n o_t o_r2 f_r2_4 f_r2_6 f_r2_7 f_r2_10 f_r2_11 f_r2_12 f_t_4' o_r1' f_r1_6' f_r1_7' f_r1_8' o_r3' _ ?_ n (o_r1 0) f_t_4 o_r1 f_r1_6 f_r1_7 f_r1_8 o_r3 hF _ _ _ (hP.sub [0, 1, 2, 3, 4, 5, 6, 7, 8, 9, 10, 11, 12, 13] rfl) (hD.sub [0, 1, 2, 3, 4, 5, 6, 7, 8, 9, 10, 11, 12, 13] rfl rfl) hS (lv_sub hl [1, 2, 3, 4, 0] rfl)
  · intro f_t_4_x6 o_r1_x6 f_r1_6_x6 f_r1_7_x6 f_r1_8_x6 o_r3_x6 H locs ls hF hP hD hS hl
    cases hF
    exact ret_v C0 hP hD hS [0, 1, 2, 3, 4, 5, 6, 7, 8, 9, 10, 11, 12, 13] rfl rfl rfl dX8_follow_42

theorem dAX8_firstWrong : ∀ q ∈ ([(0, (.iconst 0, 1)), (1, (.istore_n 2, 1)), (2, (.iload_n 2, 1)), (3, (.aload_n 1, 1)), (4, (.getfield 92, 3)), (7, (.if_icmp .ge 64, 3)), (10, (.aload_n 1, 1)), (11, (.getfield 97, 3)), (14, (.iload_n 2, 1)), (15, (.iaload, 1)), (16, (.istore_n 3, 1)), (17, (.iload_n 3, 1)), (18, (.ifCond .lt 13, 3)), (21, (.iload_n 3, 1)), (22, (.bipush 30, 2)), (24, (.if_icmp .gt 7, 3)), (27, (.iconst 1, 1)), (28, (.goto 4, 3)), (31, (.iconst 0, 1)), (32, (.istore 4, 2)), (34, (.iload 4, 2)), (36, (.ifCond .eq 29, 3)), (39, (.aload_n 0, 1)), (40, (.getfield 26, 3)), (43, (.iload_n 3, 1)), (44, (.iaload, 1)), (45, (.aload_n 1, 1)), (46, (.getfield 100, 3)), (49, (.iload_n 2, 1)), (50, (.iaload, 1)), (51, (.ishr, 1)), (52, (.iconst 1, 1)), (53, (.iand, 1)), (54, (.aload_n 1, 1)), (55, (.getfield 103, 3)), (58, (.iload_n 2, 1)), (59, (.iaload, 1)), (60, (.if_icmp .eq 5, 3)), (63, (.iload_n 2, 1)), (64, (.ireturn, 1)), (65, (.iinc 2 1, 3)), (68, (.goto (-66), 3)), (71, (.bipush (-2), 2)), (73, (.ireturn, 1))] : List (Nat × (Instr × Nat))), decode cX8_firstWrong q.1 = .ok q.2 := by decide +kernel
theorem dX8_firstWrong_0 : decode cX8_firstWrong 0 = .ok (.iconst 0, 1) := dAX8_firstWrong (0, (.iconst 0, 1)) (List.mem_of_getElem? (i := 0) rfl)
theorem dX8_firstWrong_1 : decode cX8_firstWrong 1 = .ok (.istore_n 2, 1) := dAX8_firstWrong (1, (.istore_n 2, 1)) (List.mem_of_getElem? (i := 1) rfl)
theorem dX8_firstWrong_2 : decode cX8_firstWrong 2 = .ok (.iload_n 2, 1) := dAX8_firstWrong (2, (.iload_n 2, 1)) (List.mem_of_getElem? (i := 2) rfl)
theorem dX8_firstWrong_3 : decode cX8_firstWrong 3 = .ok (.aload_n 1, 1) := dAX8_firstWrong (3, (.aload_n 1, 1)) (List.mem_of_getElem? (i := 3) rfl)
theorem dX8_firstWrong_4 : decode cX8_firstWrong 4 = .ok (.getfield 92, 3) := dAX8_firstWrong (4, (.getfield 92, 3)) (List.mem_of_getElem? (i := 4) rfl)
theorem dX8_firstWrong_7 : decode cX8_firstWrong 7 = .ok (.if_icmp .ge 64, 3) := dAX8_firstWrong (7, (.if_icmp .ge 64, 3)) (List.mem_of_getElem? (i := 5) rfl)
theorem dX8_firstWrong_10 : decode cX8_firstWrong 10 = .ok (.aload_n 1, 1) := dAX8_firstWrong (10, (.aload_n 1, 1)) (List.mem_of_getElem? (i := 6) rfl)
theorem dX8_firstWrong_11 : decode cX8_firstWrong 11 = .ok (.getfield 97, 3) := dAX8_firstWrong (11, (.getfield 97, 3)) (List.mem_of_getElem? (i := 7) rfl)
theorem dX8_firstWrong_14 : decode cX8_firstWrong 14 = .ok (.iload_n 2, 1) := dAX8_firstWrong (14, (.iload_n 2, 1)) (List.mem_of_getElem? (i := 8) rfl)
theorem dX8_firstWrong_15 : decode cX8_firstWrong 15 = .ok (.iaload, 1) := dAX8_firstWrong (15, (.iaload, 1)) (List.mem_of_getElem? (i := 9) rfl)
theorem dX8_firstWrong_16 : decode cX8_firstWrong 16 = .ok (.istore_n 3, 1) := dAX8_firstWrong (16, (.istore_n 3, 1)) (List.mem_of_getElem? (i := 10) rfl)
theorem dX8_firstWrong_17 : decode cX8_firstWrong 17 = .ok (.iload_n 3, 1) := dAX8_firstWrong (17, (.iload_n 3, 1)) (List.mem_of_getElem? (i := 11) rfl)
theorem dX8_firstWrong_18 : decode cX8_firstWrong 18 = .ok (.ifCond .lt 13, 3) := dAX8_firstWrong (18, (.ifCond .lt 13, 3)) (List.mem_of_getElem? (i := 12) rfl)
theorem dX8_firstWrong_21 : decode cX8_firstWrong 21 = .ok (.iload_n 3, 1) := dAX8_firstWrong (21, (.iload_n 3, 1)) (List.mem_of_getElem? (i := 13) rfl)
theorem dX8_firstWrong_22 : decode cX8_firstWrong 22 = .ok (.bipush 30, 2) := dAX8_firstWrong (22, (.bipush 30, 2)) (List.mem_of_getElem? (i := 14) rfl)
theorem dX8_firstWrong_24 : decode cX8_firstWrong 24 = .ok (.if_icmp .gt 7, 3) := dAX8_firstWrong (24, (.if_icmp .gt 7, 3)) (List.mem_of_getElem? (i := 15) rfl)
theorem dX8_firstWrong_27 : decode cX8_firstWrong 27 = .ok (.iconst 1, 1) := dAX8_firstWrong (27, (.iconst 1, 1)) (List.mem_of_getElem? (i := 16) rfl)
theorem dX8_firstWrong_28 : decode cX8_firstWrong 28 = .ok (.goto 4, 3) := dAX8_firstWrong (28, (.goto 4, 3)) (List.mem_of_getElem? (i := 17) rfl)
theorem dX8_firstWrong_31 : decode cX8_firstWrong 31 = .ok (.iconst 0, 1) := dAX8_firstWrong (31, (.iconst 0, 1)) (List.mem_of_getElem? (i := 18) rfl)
theorem dX8_firstWrong_32 : decode cX8_firstWrong 32 = .ok (.istore 4, 2) := dAX8_firstWrong (32, (.istore 4, 2)) (List.mem_of_getElem? (i := 19) rfl)
theorem dX8_firstWrong_34 : decode cX8_firstWrong 34 = .ok (.iload 4, 2) := dAX8_firstWrong (34, (.iload 4, 2)) (List.mem_of_getElem? (i := 20) rfl)
theorem dX8_firstWrong_36 : decode cX8_firstWrong 36 = .ok (.ifCond .eq 29, 3) := dAX8_firstWrong (36, (.ifCond .eq 29, 3)) (List.mem_of_getElem? (i := 21) rfl)
theorem dX8_firstWrong_39 : decode cX8_firstWrong 39 = .ok (.aload_n 0, 1) := dAX8_firstWrong (39, (.aload_n 0, 1)) (List.mem_of_getElem? (i := 22) rfl)
theorem dX8_firstWrong_40 : decode cX8_firstWrong 40 = .ok (.getfield 26, 3) := dAX8_firstWrong (40, (.getfield 26, 3)) (List.mem_of_getElem? (i := 23) rfl)
theorem dX8_firstWrong_43 : decode cX8_firstWrong 43 = .ok (.iload_n 3, 1) := dAX8_firstWrong (43, (.iload_n 3, 1)) (List.mem_of_getElem? (i := 24) rfl)
theorem dX8_firstWrong_44 : decode cX8_firstWrong 44 = .ok (.iaload, 1) := dAX8_firstWrong (44, (.iaload, 1)) (List.mem_of_getElem? (i := 25) rfl)
theorem dX8_firstWrong_45 : decode cX8_firstWrong 45 = .ok (.aload_n 1, 1) := dAX8_firstWrong (45, (.aload_n 1, 1)) (List.mem_of_getElem? (i := 26) rfl)
theorem dX8_firstWrong_46 : decode cX8_firstWrong 46 = .ok (.getfield 100, 3) := dAX8_firstWrong (46, (.getfield 100, 3)) (List.mem_of_getElem? (i := 27) rfl)
theorem dX8_firstWrong_49 : decode cX8_firstWrong 49 = .ok (.iload_n 2, 1) := dAX8_firstWrong (49, (.iload_n 2, 1)) (List.mem_of_getElem? (i := 28) rfl)
theorem dX8_firstWrong_50 : decode cX8_firstWrong 50 = .ok (.iaload, 1) := dAX8_firstWrong (50, (.iaload, 1)) (List.mem_of_getElem? (i := 29) rfl)
theorem dX8_firstWrong_51 : decode cX8_firstWrong 51 = .ok (.ishr, 1) := dAX8_firstWrong (51, (.ishr, 1)) (List.mem_of_getElem? (i := 30) rfl)
theorem dX8_firstWrong_52 : decode cX8_firstWrong 52 = .ok (.iconst 1, 1) := dAX8_firstWrong (52, (.iconst 1, 1)) (List.mem_of_getElem? (i := 31) rfl)
theorem dX8_firstWrong_53 : decode cX8_firstWrong 53 = .ok (.iand, 1) := dAX8_firstWrong (53, (.iand, 1)) (List.mem_of_getElem? (i := 32) rfl)
theorem dX8_firstWrong_54 : decode cX8_firstWrong 54 = .ok (.aload_n 1, 1) := dAX8_firstWrong (54, (.aload_n 1, 1)) (List.mem_of_getElem? (i := 33) rfl)
theorem dX8_firstWrong_55 : decode cX8_firstWrong 55 = .ok (.getfield 103, 3) := dAX8_firstWrong (55, (.getfield 103, 3)) (List.mem_of_getElem? (i := 34) rfl)
theorem dX8_firstWrong_58 : decode cX8_firstWrong 58 = .ok (.iload_n 2, 1) := dAX8_firstWrong (58, (.iload_n 2, 1)) (List.mem_of_getElem? (i := 35) rfl)
theorem dX8_firstWrong_59 : decode cX8_firstWrong 59 = .ok (.iaload, 1) := dAX8_firstWrong (59, (.iaload, 1)) (List.mem_of_getElem? (i := 36) rfl)
theorem dX8_firstWrong_60 : decode cX8_firstWrong 60 = .ok (.if_icmp .eq 5, 3) := dAX8_firstWrong (60, (.if_icmp .eq 5, 3)) (List.mem_of_getElem? (i := 37) rfl)
theorem dX8_firstWrong_63 : decode cX8_firstWrong 63 = .ok (.iload_n 2, 1) := dAX8_firstWrong (63, (.iload_n 2, 1)) (List.mem_of_getElem? (i := 38) rfl)
theorem dX8_firstWrong_64 : decode cX8_firstWrong 64 = .ok (.ireturn, 1) := dAX8_firstWrong (64, (.ireturn, 1)) (List.mem_of_getElem? (i := 39) rfl)
theorem dX8_firstWrong_65 : decode cX8_firstWrong 65 = .ok (.iinc 2 1, 3) := dAX8_firstWrong (65, (.iinc 2 1, 3)) (List.mem_of_getElem? (i := 40) rfl)
theorem dX8_firstWrong_68 : decode cX8_firstWrong 68 = .ok (.goto (-66), 3) := dAX8_firstWrong (68, (.goto (-66), 3)) (List.mem_of_getElem? (i := 41) rfl)
theorem dX8_firstWrong_71 : decode cX8_firstWrong 71 = .ok (.bipush (-2), 2) := dAX8_firstWrong (71, (.bipush (-2), 2)) (List.mem_of_getElem? (i := 42) rfl)
theorem dX8_firstWrong_73 : decode cX8_firstWrong 73 = .ok (.ireturn, 1) := dAX8_firstWrong (73, (.ireturn, 1)) (List.mem_of_getElem? (i := 43) rfl)
theorem kX8_firstWrong_92 : Cond.fieldLink RX8 92 "EveningVow$Town" "sights" "I" ∈ wsX8_firstWrong := List.mem_of_getElem? (i := 1) rfl
theorem iX8_firstWrong_X7 : ∀ w ∈ u_ws RX7 TX7 7, w ∈ wsX8_firstWrong := fun w h => (List.mem_cons_of_mem _ (List.mem_append_left _ (List.mem_append_right _ h)))
theorem kX8_firstWrong_97 : Cond.fieldLink RX8 97 "EveningVow$Town" "sightHour" "[I" ∈ wsX8_firstWrong := List.mem_of_getElem? (i := 2) rfl
theorem kX8_firstWrong_26 : Cond.fieldLink RX8 26 "EveningVow$Unseen" "thereAt" "[I" ∈ wsX8_firstWrong := List.mem_of_getElem? (i := 3) rfl
theorem iX8_firstWrong_X8 : ∀ w ∈ u_ws RX8 TX8 7, w ∈ wsX8_firstWrong := fun w h => (List.mem_cons_of_mem _ (List.mem_append_right _ h))
theorem kX8_firstWrong_100 : Cond.fieldLink RX8 100 "EveningVow$Town" "sightGuest" "[I" ∈ wsX8_firstWrong := List.mem_of_getElem? (i := 4) rfl
theorem kX8_firstWrong_103 : Cond.fieldLink RX8 103 "EveningVow$Town" "sightThere" "[I" ∈ wsX8_firstWrong := List.mem_of_getElem? (i := 5) rfl
set_option maxHeartbeats 4000000 in
set_option maxRecDepth 100000 in
theorem wX8_firstWrong_L2 {p : Program} {l : Launch} {e : Env} {s : State} {m : MethodId} {args : Array Value} {below : List Frame} {meth : Method} {c : Code} {g : GG} {A : Nat → Prop} (C0 : Cx p s m args meth c cX8_firstWrong 5 (some .int) RX8 wsX8_firstWrong g A) (a_t : Nat) (a_r1 : Nat) (p_t : Nat → Nat) (p_r1 : Nat → Nat) (n : Nat) (o_t : Nat → Int32) (f_t_4 : Nat → Int32) (o_r1 : Nat → Int32) (f_r1_4 : Nat → Int32) (f_r1_5 : Nat → Int32) (f_r1_6 : Nat → Int32)  (r : Int32) (K : Unit → Option (Int32)) (hKx : ∀  (H : Heap) (locs : List Loc) (ls : Array Slot), K () = some (r) → va_P g.1 vwCl [oX8 a_t p_t o_t, aI g (p_t 4) 31 f_t_4, oX7 a_r1 p_r1 o_r1, aI g (p_r1 4) 6 f_r1_4, aI g (p_r1 5) 6 f_r1_5, aI g (p_r1 6) 6 f_r1_6] H → va_D A [oX8 a_t p_t o_t, aI g (p_t 4) 31 f_t_4, oX7 a_r1 p_r1 o_r1, aI g (p_r1 4) 6 f_r1_4, aI g (p_r1 5) 6 f_r1_5, aI g (p_r1 6) 6 f_r1_6] → va_S A s.heap H locs → lv_has ls 5 [] → W p l e ({ frames := 0, cells := 0, slots := 0, locals := 0 } : Room) s m args below meth c H locs 0 0 (MQ below (EndI g r [oX8 a_t p_t o_t, aI g (p_t 4) 31 f_t_4, oX7 a_r1 p_r1 o_r1, aI g (p_r1 4) 6 f_r1_4, aI g (p_r1 5) 6 f_r1_5, aI g (p_r1 6) 6 f_r1_6] A) args s 0 0 A) (F0 m 71 ls [])) : ∀ (k : Nat) (x2 : Int32), fX8_firstWrong_L2 n o_t f_t_4 o_r1 f_r1_4 f_r1_5 f_r1_6 K k x2 = some (r) → ∀ (H : Heap) (locs : List Loc) (ls : Array Slot), va_P g.1 vwCl [oX8 a_t p_t o_t, aI g (p_t 4) 31 f_t_4, oX7 a_r1 p_r1 o_r1, aI g (p_r1 4) 6 f_r1_4, aI g (p_r1 5) 6 f_r1_5, aI g (p_r1 6) 6 f_r1_6] H → va_D A [oX8 a_t p_t o_t, aI g (p_t 4) 31 f_t_4, oX7 a_r1 p_r1 o_r1, aI g (p_r1 4) 6 f_r1_4, aI g (p_r1 5) 6 f_r1_5, aI g (p_r1 6) 6 f_r1_6] → va_S A s.heap H locs → lv_has ls 5 [(0, .ref a_t), (1, .ref a_r1), (2, .int x2)] → W p l e ({ frames := 0, cells := 0, slots := 0, locals := 0 } : Room) s m args below meth c H locs 0 0 (MQ below (EndI g r [oX8 a_t p_t o_t, aI g (p_t 4) 31 f_t_4, oX7 a_r1 p_r1 o_r1, aI g (p_r1 4) 6 f_r1_4, aI g (p_r1 5) 6 f_r1_5, aI g (p_r1 6) 6 f_r1_6] A) args s 0 0 A) (F0 m 2 ls []) := by
  obtain ⟨hx, hb, hml, hown, hts, hr, hlk, hK, hA, hSW⟩ := id C0
  intro k
  induction k with
  | zero =>
    intro x2 hF
    exact absurd hF (by simp [fX8_firstWrong_L2])
  | succ k ih =>
    intro x2 hF H locs ls hP hD hS hl
    rw [fX8_firstWrong_L2] at hF
    refine lv_iload_n hx hb dX8_firstWrong_2 rfl (lv_at hl 2 rfl) ?_
    refine lv_aload_n hx hb dX8_firstWrong_3 rfl (lv_at hl 1 rfl) ?_
    refine va_get (D := g.1) (ci := 7) (v := .int (o_r1 3)) (C := RX7) (T := TX7) (N := 7) hx hb hts iX8_firstWrong_X7 hown hK.1 hP 2 rfl rfl 3 (by decide) (hts _ kX8_firstWrong_92) (fun _ h9 => h9) rfl dX8_firstWrong_4 ?_
    refine lv_icmp_ge (tgt := 71) hx hb dX8_firstWrong_7 (by decide) (fun c_1 => ?_) (fun c_1 => ?_)
    · have hF := it_p c_1 hF
      exact hKx  _ _ _ hF (hP.sub [0, 1, 2, 3, 4, 5] rfl) (hD.sub [0, 1, 2, 3, 4, 5] rfl rfl) hS (lv_sub hl [] rfl)
    · have hF := it_n c_1 hF
      refine lv_aload_n hx hb dX8_firstWrong_10 rfl (lv_at hl 1 rfl) ?_
      refine va_get (D := g.1) (ci := 7) (v := .ref (p_r1 5)) (C := RX7) (T := TX7) (N := 7) hx hb hts iX8_firstWrong_X7 hown hK.1 hP 2 rfl rfl 5 (by decide) (hts _ kX8_firstWrong_97) (fun _ h9 => h9) rfl dX8_firstWrong_11 ?_
      refine lv_iload_n hx hb dX8_firstWrong_14 rfl (lv_at hl 2 rfl) ?_
      obtain ⟨h_2, hF⟩ := it_ck hF
      refine va_iald hx hb hK.1 hP 4 0 rfl rfl h_2 dX8_firstWrong_15 ?_
      refine lv_istore_n (lv' := [(3, .int (f_r1_5 (x2).toNatClampNeg)), (0, .ref a_t), (1, .ref a_r1), (2, .int x2)]) hx hb dX8_firstWrong_16 rfl hl (by decide) rfl (fun ls hl => ?_)
      refine lv_iload_n hx hb dX8_firstWrong_17 rfl (lv_at hl 0 rfl) ?_
      obtain ⟨J32, eJ32, hF⟩ := jn_some hF
      have hJ32 : ∀ (s0_32 : Int32) (H : Heap) (locs : List Loc) (ls : Array Slot), J32 s0_32 = some (r) → va_P g.1 vwCl [oX8 a_t p_t o_t, aI g (p_t 4) 31 f_t_4, oX7 a_r1 p_r1 o_r1, aI g (p_r1 4) 6 f_r1_4, aI g (p_r1 5) 6 f_r1_5, aI g (p_r1 6) 6 f_r1_6] H → va_D A [oX8 a_t p_t o_t, aI g (p_t 4) 31 f_t_4, oX7 a_r1 p_r1 o_r1, aI g (p_r1 4) 6 f_r1_4, aI g (p_r1 5) 6 f_r1_5, aI g (p_r1 6) 6 f_r1_6] → va_S A s.heap H locs → lv_has ls 5 [(0, .ref a_t), (1, .ref a_r1), (2, .int x2), (3, .int (f_r1_5 (x2).toNatClampNeg))] → W p l e ({ frames := 0, cells := 0, slots := 0, locals := 0 } : Room) s m args below meth c H locs 0 0 (MQ below (EndI g r [oX8 a_t p_t o_t, aI g (p_t 4) 31 f_t_4, oX7 a_r1 p_r1 o_r1, aI g (p_r1 4) 6 f_r1_4, aI g (p_r1 5) 6 f_r1_5, aI g (p_r1 6) 6 f_r1_6] A) args s 0 0 A) (F0 m 32 ls [.int s0_32]) := by
        intro s0_32 H locs ls hF hP hD hS hl
        have hF := jj1 eJ32 hF
        refine lv_istore (lv' := [(4, .int s0_32), (0, .ref a_t), (1, .ref a_r1), (2, .int x2), (3, .int (f_r1_5 (x2).toNatClampNeg))]) hx hb dX8_firstWrong_32 hl (by decide) rfl (fun ls hl => ?_)
        refine lv_iload hx hb dX8_firstWrong_34 (lv_at hl 0 rfl) ?_
        refine lv_if_eq (tgt := 65) hx hb dX8_firstWrong_36 (by decide) (fun c_3 => ?_) (fun c_3 => ?_)
        · have hF := it_p c_3 hF
          refine lv_iinc (v := (x2 + (1 : Int32))) (lv' := [(2, .int (x2 + (1 : Int32))), (4, .int s0_32), (0, .ref a_t), (1, .ref a_r1), (3, .int (f_r1_5 (x2).toNatClampNeg))]) hx hb dX8_firstWrong_65 hl (k := 3) rfl rfl (by decide) rfl (fun ls hl => ?_)
          refine lv_goto (tgt := 2) hx hb dX8_firstWrong_68 (by decide) ?_
          exact ih (x2 + (1 : Int32)) hF _ _ _ (hP.sub [0, 1, 2, 3, 4, 5] rfl) (hD.sub [0, 1, 2, 3, 4, 5] rfl rfl) hS (lv_sub hl [2, 3, 0] rfl)
        · have hF := it_n c_3 hF
          refine lv_aload_n hx hb dX8_firstWrong_39 rfl (lv_at hl 1 rfl) ?_
          refine va_get (D := g.1) (ci := 8) (v := .ref (p_t 4)) (C := RX8) (T := TX8) (N := 7) hx hb hts iX8_firstWrong_X8 hown hK.1 hP 0 rfl rfl 4 (by decide) (hts _ kX8_firstWrong_26) (fun _ h9 => h9) rfl dX8_firstWrong_40 ?_
          refine lv_iload_n hx hb dX8_firstWrong_43 rfl (lv_at hl 4 rfl) ?_
          obtain ⟨h_4, hF⟩ := it_ck hF
          refine va_iald hx hb hK.1 hP 1 0 rfl rfl h_4 dX8_firstWrong_44 ?_
          refine lv_aload_n hx hb dX8_firstWrong_45 rfl (lv_at hl 2 rfl) ?_
          refine va_get (D := g.1) (ci := 7) (v := .ref (p_r1 4)) (C := RX7) (T := TX7) (N := 7) hx hb hts iX8_firstWrong_X7 hown hK.1 hP 2 rfl rfl 4 (by decide) (hts _ kX8_firstWrong_100) (fun _ h9 => h9) rfl dX8_firstWrong_46 ?_
          refine lv_iload_n hx hb dX8_firstWrong_49 rfl (lv_at hl 3 rfl) ?_
          obtain ⟨h_5, hF⟩ := it_ck hF
          refine va_iald hx hb hK.1 hP 3 0 rfl rfl h_5 dX8_firstWrong_50 ?_
          refine lv_ishr hx hb dX8_firstWrong_51 ?_
          refine lv_iconst (v := (1 : Int32)) hx hb dX8_firstWrong_52 (by decide) ?_
          refine lv_iand hx hb dX8_firstWrong_53 ?_
          refine lv_aload_n hx hb dX8_firstWrong_54 rfl (lv_at hl 2 rfl) ?_
          refine va_get (D := g.1) (ci := 7) (v := .ref (p_r1 6)) (C := RX7) (T := TX7) (N := 7) hx hb hts iX8_firstWrong_X7 hown hK.1 hP 2 rfl rfl 6 (by decide) (hts _ kX8_firstWrong_103) (fun _ h9 => h9) rfl dX8_firstWrong_55 ?_
          refine lv_iload_n hx hb dX8_firstWrong_58 rfl (lv_at hl 3 rfl) ?_
          obtain ⟨h_6, hF⟩ := it_ck hF
          refine va_iald hx hb hK.1 hP 5 0 rfl rfl h_6 dX8_firstWrong_59 ?_
          refine lv_icmp_eq (tgt := 65) hx hb dX8_firstWrong_60 (by decide) (fun c_7 => ?_) (fun c_7 => ?_)
          · have hF := it_p c_7 hF
            refine lv_iinc (v := (x2 + (1 : Int32))) (lv' := [(2, .int (x2 + (1 : Int32))), (4, .int s0_32), (0, .ref a_t), (1, .ref a_r1), (3, .int (f_r1_5 (x2).toNatClampNeg))]) hx hb dX8_firstWrong_65 hl (k := 3) rfl rfl (by decide) rfl (fun ls hl => ?_)
            refine lv_goto (tgt := 2) hx hb dX8_firstWrong_68 (by decide) ?_
            exact ih (x2 + (1 : Int32)) hF _ _ _ (hP.sub [0, 1, 2, 3, 4, 5] rfl) (hD.sub [0, 1, 2, 3, 4, 5] rfl rfl) hS (lv_sub hl [2, 3, 0] rfl)
          · have hF := it_n c_7 hF
            refine lv_iload_n hx hb dX8_firstWrong_63 rfl (lv_at hl 3 rfl) ?_
            cases hF
            exact ret_i C0 hP hD hS [0, 1, 2, 3, 4, 5] rfl rfl rfl dX8_firstWrong_64 rfl
      refine lv_if_lt (tgt := 31) hx hb dX8_firstWrong_18 (by decide) (fun c_8 => ?_) (fun c_8 => ?_)
      · have hF := it_p c_8 hF
        refine lv_iconst (v := (0 : Int32)) hx hb dX8_firstWrong_31 (by decide) ?_
        exact hJ32 (0 : Int32) _ _ _ hF (hP.sub [0, 1, 2, 3, 4, 5] rfl) (hD.sub [0, 1, 2, 3, 4, 5] rfl rfl) hS (lv_sub hl [1, 2, 3, 0] rfl)
      · have hF := it_n c_8 hF
        refine lv_iload_n hx hb dX8_firstWrong_21 rfl (lv_at hl 0 rfl) ?_
        refine lv_bipush (v := (30 : Int32)) hx hb dX8_firstWrong_22 (by decide) ?_
        refine lv_icmp_gt (tgt := 31) hx hb dX8_firstWrong_24 (by decide) (fun c_9 => ?_) (fun c_9 => ?_)
        · have hF := it_p c_9 hF
          refine lv_iconst (v := (0 : Int32)) hx hb dX8_firstWrong_31 (by decide) ?_
          exact hJ32 (0 : Int32) _ _ _ hF (hP.sub [0, 1, 2, 3, 4, 5] rfl) (hD.sub [0, 1, 2, 3, 4, 5] rfl rfl) hS (lv_sub hl [1, 2, 3, 0] rfl)
        · have hF := it_n c_9 hF
          refine lv_iconst (v := (1 : Int32)) hx hb dX8_firstWrong_27 (by decide) ?_
          refine lv_goto (tgt := 32) hx hb dX8_firstWrong_28 (by decide) ?_
          exact hJ32 (1 : Int32) _ _ _ hF (hP.sub [0, 1, 2, 3, 4, 5] rfl) (hD.sub [0, 1, 2, 3, 4, 5] rfl rfl) hS (lv_sub hl [1, 2, 3, 0] rfl)
set_option maxHeartbeats 4000000 in
set_option maxRecDepth 100000 in
theorem mX8_firstWrong (l : Launch) (g : GG) (a_t : Nat) (a_r1 : Nat) (p_t : Nat → Nat) (p_r1 : Nat → Nat) (n : Nat) (o_t : Nat → Int32) (f_t_4 : Nat → Int32) (o_r1 : Nat → Int32) (f_r1_4 : Nat → Int32) (f_r1_5 : Nat → Int32) (f_r1_6 : Nat → Int32) (r : Int32) (hF : fX8_firstWrong n o_t f_t_4 o_r1 f_r1_4 f_r1_5 f_r1_6 = some (r)) : MI l g yX8_firstWrong wsX8_firstWrong ({ frames := 0, cells := 0, slots := 0, locals := 0 } : Room) [.ref a_t, .ref a_r1] [oX8 a_t p_t o_t, aI g (p_t 4) 31 f_t_4, oX7 a_r1 p_r1 o_r1, aI g (p_r1 4) 6 f_r1_4, aI g (p_r1 5) 6 f_r1_5, aI g (p_r1 6) 6 f_r1_6] r [oX8 a_t p_t o_t, aI g (p_t 4) 31 f_t_4, oX7 a_r1 p_r1 o_r1, aI g (p_r1 4) 6 f_r1_4, aI g (p_r1 5) 6 f_r1_5, aI g (p_r1 6) 6 f_r1_6] := by
  refine MI.of (cc := cX8_firstWrong) (maxL := 5) (rt := .int) (own := RX8) rfl rfl (by decide) (Nat.le_of_ble_eq_true rfl) ?_
  intro p e s m args below meth c A C0 hP hD hS ls hl
  obtain ⟨hx, hb, hml, hown, hts, hr, hlk, hK, hA, hSW⟩ := id C0
  have hl : lv_has ls 5 [(0, .ref a_t), (1, .ref a_r1)] := hl
  rw [fX8_firstWrong] at hF
  refine lv_iconst (v := (0 : Int32)) hx hb dX8_firstWrong_0 (by decide) ?_
  refine lv_istore_n (lv' := [(2, .int (0 : Int32)), (0, .ref a_t), (1, .ref a_r1)]) hx hb dX8_firstWrong_1 rfl hl (by decide) rfl (fun ls hl => ?_)
  refine wX8_firstWrong_L2 C0 a_t a_r1 p_t p_r1 n o_t f_t_4 o_r1 f_r1_4 f_r1_5 f_r1_6 r _ ?_ n (0 : Int32) hF _ _ _ (hP.sub [0, 1, 2, 3, 4, 5] rfl) (hD.sub [0, 1, 2, 3, 4, 5] rfl rfl) hS (lv_sub hl [1, 2, 0] rfl)
  · intro  H locs ls hF hP hD hS hl
    refine lv_bipush (v := (-2 : Int32)) hx hb dX8_firstWrong_71 (by decide) ?_
    cases hF
    exact ret_i C0 hP hD hS [0, 1, 2, 3, 4, 5] rfl rfl rfl dX8_firstWrong_73 rfl

theorem dAX8_addIf : ∀ q ∈ ([(0, (.iload_n 1, 1)), (1, (.ifCond .eq 35, 3)), (4, (.aload_n 0, 1)), (5, (.getfield 15, 3)), (8, (.aload_n 0, 1)), (9, (.getfield 22, 3)), (12, (.arraylength, 1)), (13, (.if_icmp .ge 23, 3)), (16, (.aload_n 0, 1)), (17, (.getfield 22, 3)), (20, (.aload_n 0, 1)), (21, (.getfield 15, 3)), (24, (.iload_n 2, 1)), (25, (.iastore, 1)), (26, (.aload_n 0, 1)), (27, (.dup, 1)), (28, (.getfield 15, 3)), (31, (.iconst 1, 1)), (32, (.iadd, 1)), (33, (.putfield 15, 3)), (36, (.return_, 1))] : List (Nat × (Instr × Nat))), decode cX8_addIf q.1 = .ok q.2 := by decide +kernel
theorem dX8_addIf_0 : decode cX8_addIf 0 = .ok (.iload_n 1, 1) := dAX8_addIf (0, (.iload_n 1, 1)) (List.mem_of_getElem? (i := 0) rfl)
theorem dX8_addIf_1 : decode cX8_addIf 1 = .ok (.ifCond .eq 35, 3) := dAX8_addIf (1, (.ifCond .eq 35, 3)) (List.mem_of_getElem? (i := 1) rfl)
theorem dX8_addIf_4 : decode cX8_addIf 4 = .ok (.aload_n 0, 1) := dAX8_addIf (4, (.aload_n 0, 1)) (List.mem_of_getElem? (i := 2) rfl)
theorem dX8_addIf_5 : decode cX8_addIf 5 = .ok (.getfield 15, 3) := dAX8_addIf (5, (.getfield 15, 3)) (List.mem_of_getElem? (i := 3) rfl)
theorem dX8_addIf_8 : decode cX8_addIf 8 = .ok (.aload_n 0, 1) := dAX8_addIf (8, (.aload_n 0, 1)) (List.mem_of_getElem? (i := 4) rfl)
theorem dX8_addIf_9 : decode cX8_addIf 9 = .ok (.getfield 22, 3) := dAX8_addIf (9, (.getfield 22, 3)) (List.mem_of_getElem? (i := 5) rfl)
theorem dX8_addIf_12 : decode cX8_addIf 12 = .ok (.arraylength, 1) := dAX8_addIf (12, (.arraylength, 1)) (List.mem_of_getElem? (i := 6) rfl)
theorem dX8_addIf_13 : decode cX8_addIf 13 = .ok (.if_icmp .ge 23, 3) := dAX8_addIf (13, (.if_icmp .ge 23, 3)) (List.mem_of_getElem? (i := 7) rfl)
theorem dX8_addIf_16 : decode cX8_addIf 16 = .ok (.aload_n 0, 1) := dAX8_addIf (16, (.aload_n 0, 1)) (List.mem_of_getElem? (i := 8) rfl)
theorem dX8_addIf_17 : decode cX8_addIf 17 = .ok (.getfield 22, 3) := dAX8_addIf (17, (.getfield 22, 3)) (List.mem_of_getElem? (i := 9) rfl)
theorem dX8_addIf_20 : decode cX8_addIf 20 = .ok (.aload_n 0, 1) := dAX8_addIf (20, (.aload_n 0, 1)) (List.mem_of_getElem? (i := 10) rfl)
theorem dX8_addIf_21 : decode cX8_addIf 21 = .ok (.getfield 15, 3) := dAX8_addIf (21, (.getfield 15, 3)) (List.mem_of_getElem? (i := 11) rfl)
theorem dX8_addIf_24 : decode cX8_addIf 24 = .ok (.iload_n 2, 1) := dAX8_addIf (24, (.iload_n 2, 1)) (List.mem_of_getElem? (i := 12) rfl)
theorem dX8_addIf_25 : decode cX8_addIf 25 = .ok (.iastore, 1) := dAX8_addIf (25, (.iastore, 1)) (List.mem_of_getElem? (i := 13) rfl)
theorem dX8_addIf_26 : decode cX8_addIf 26 = .ok (.aload_n 0, 1) := dAX8_addIf (26, (.aload_n 0, 1)) (List.mem_of_getElem? (i := 14) rfl)
theorem dX8_addIf_27 : decode cX8_addIf 27 = .ok (.dup, 1) := dAX8_addIf (27, (.dup, 1)) (List.mem_of_getElem? (i := 15) rfl)
theorem dX8_addIf_28 : decode cX8_addIf 28 = .ok (.getfield 15, 3) := dAX8_addIf (28, (.getfield 15, 3)) (List.mem_of_getElem? (i := 16) rfl)
theorem dX8_addIf_31 : decode cX8_addIf 31 = .ok (.iconst 1, 1) := dAX8_addIf (31, (.iconst 1, 1)) (List.mem_of_getElem? (i := 17) rfl)
theorem dX8_addIf_32 : decode cX8_addIf 32 = .ok (.iadd, 1) := dAX8_addIf (32, (.iadd, 1)) (List.mem_of_getElem? (i := 18) rfl)
theorem dX8_addIf_33 : decode cX8_addIf 33 = .ok (.putfield 15, 3) := dAX8_addIf (33, (.putfield 15, 3)) (List.mem_of_getElem? (i := 19) rfl)
theorem dX8_addIf_36 : decode cX8_addIf 36 = .ok (.return_, 1) := dAX8_addIf (36, (.return_, 1)) (List.mem_of_getElem? (i := 20) rfl)
theorem kX8_addIf_15 : Cond.fieldLink RX8 15 "EveningVow$Unseen" "ways" "I" ∈ wsX8_addIf := List.mem_of_getElem? (i := 1) rfl
theorem iX8_addIf_X8 : ∀ w ∈ u_ws RX8 TX8 7, w ∈ wsX8_addIf := fun w h => (List.mem_cons_of_mem _ (List.mem_append_right _ h))
theorem kX8_addIf_22 : Cond.fieldLink RX8 22 "EveningVow$Unseen" "way" "[I" ∈ wsX8_addIf := List.mem_of_getElem? (i := 2) rfl
set_option maxHeartbeats 4000000 in
set_option maxRecDepth 100000 in
theorem mX8_addIf (l : Launch) (g : GG) (a_t : Nat) (p_t : Nat → Nat) (n : Nat) (x1 : Int32) (x2 : Int32) (o_t : Nat → Int32) (f_t_3 : Nat → Int32) (o_t' : Nat → Int32) (f_t_3' : Nat → Int32) (hF : fX8_addIf n x1 x2 o_t f_t_3 = some (o_t', f_t_3')) : MV l g yX8_addIf wsX8_addIf ({ frames := 0, cells := 0, slots := 0, locals := 0 } : Room) [.ref a_t, .int x1, .int x2] [oX8 a_t p_t o_t, aI g (p_t 3) 218 f_t_3] [oX8 a_t p_t o_t', aI g (p_t 3) 218 f_t_3'] := by
  refine MV.of (cc := cX8_addIf) (maxL := 3) (own := RX8) rfl rfl (by decide) (Nat.le_of_ble_eq_true rfl) ?_
  intro p e s m args below meth c A C0 hP hD hS ls hl
  obtain ⟨hx, hb, hml, hown, hts, hr, hlk, hK, hA, hSW⟩ := id C0
  have hl : lv_has ls 3 [(0, .ref a_t), (1, .int x1), (2, .int x2)] := hl
  rw [fX8_addIf] at hF
  refine lv_iload_n hx hb dX8_addIf_0 rfl (lv_at hl 1 rfl) ?_
  refine lv_if_eq (tgt := 36) hx hb dX8_addIf_1 (by decide) (fun c_1 => ?_) (fun c_1 => ?_)
  · have hF := it_p c_1 hF
    cases hF
    exact ret_v C0 hP hD hS [0, 1] rfl rfl rfl dX8_addIf_36
  · have hF := it_n c_1 hF
    refine lv_aload_n hx hb dX8_addIf_4 rfl (lv_at hl 0 rfl) ?_
    refine va_get (D := g.1) (ci := 8) (v := .int (o_t 1)) (C := RX8) (T := TX8) (N := 7) hx hb hts iX8_addIf_X8 hown hK.1 hP 0 rfl rfl 1 (by decide) (hts _ kX8_addIf_15) (fun _ h9 => h9) rfl dX8_addIf_5 ?_
    refine lv_aload_n hx hb dX8_addIf_8 rfl (lv_at hl 0 rfl) ?_
    refine va_get (D := g.1) (ci := 8) (v := .ref (p_t 3)) (C := RX8) (T := TX8) (N := 7) hx hb hts iX8_addIf_X8 hown hK.1 hP 0 rfl rfl 3 (by decide) (hts _ kX8_addIf_22) (fun _ h9 => h9) rfl dX8_addIf_9 ?_
    refine va_alen (v := (218 : Int32)) hx hb hK.1 hP 1 0 rfl rfl rfl dX8_addIf_12 ?_
    refine lv_icmp_ge (tgt := 36) hx hb dX8_addIf_13 (by decide) (fun c_2 => ?_) (fun c_2 => ?_)
    · have hF := it_p c_2 hF
      cases hF
      exact ret_v C0 hP hD hS [0, 1] rfl rfl rfl dX8_addIf_36
    · have hF := it_n c_2 hF
      refine lv_aload_n hx hb dX8_addIf_16 rfl (lv_at hl 0 rfl) ?_
      refine va_get (D := g.1) (ci := 8) (v := .ref (p_t 3)) (C := RX8) (T := TX8) (N := 7) hx hb hts iX8_addIf_X8 hown hK.1 hP 0 rfl rfl 3 (by decide) (hts _ kX8_addIf_22) (fun _ h9 => h9) rfl dX8_addIf_17 ?_
      refine lv_aload_n hx hb dX8_addIf_20 rfl (lv_at hl 0 rfl) ?_
      refine va_get (D := g.1) (ci := 8) (v := .int (o_t 1)) (C := RX8) (T := TX8) (N := 7) hx hb hts iX8_addIf_X8 hown hK.1 hP 0 rfl rfl 1 (by decide) (hts _ kX8_addIf_15) (fun _ h9 => h9) rfl dX8_addIf_21 ?_
      refine lv_iload_n hx hb dX8_addIf_24 rfl (lv_at hl 2 rfl) ?_
      obtain ⟨h_3, hF⟩ := it_ck hF
      refine va_iast hx hb hK.1 hP hD hS 1 0 rfl rfl h_3 dX8_addIf_25 (fun H locs hP hD hS => ?_)
      have hP : va_P g.1 vwCl [oX8 a_t p_t o_t, aI g (p_t 3) 218 (upd f_t_3 ((o_t 1)).toNatClampNeg x2)] H := hP
      have hD : va_D A [oX8 a_t p_t o_t, aI g (p_t 3) 218 (upd f_t_3 ((o_t 1)).toNatClampNeg x2)] := hD
      refine lv_aload_n hx hb dX8_addIf_26 rfl (lv_at hl 0 rfl) ?_
      refine lv_dup hx hb dX8_addIf_27 rfl ?_
      refine va_get (D := g.1) (ci := 8) (v := .int (o_t 1)) (C := RX8) (T := TX8) (N := 7) hx hb hts iX8_addIf_X8 hown hK.1 hP 0 rfl rfl 1 (by decide) (hts _ kX8_addIf_15) (fun _ h9 => h9) rfl dX8_addIf_28 ?_
      refine lv_iconst (v := (1 : Int32)) hx hb dX8_addIf_31 (by decide) ?_
      refine lv_iadd hx hb dX8_addIf_32 ?_
      refine va_put (D := g.1) (ci := 8) (v := .int ((o_t 1) + (1 : Int32))) (ty := .int) (C := RX8) (T := TX8) (N := 7) hx hb hts iX8_addIf_X8 tyX8 tyX8_ok nmX8 hown hK.1 hP hD hS 0 rfl rfl 1 (by decide) (hts _ kX8_addIf_15) (fun _ h9 => h9) rfl (by decide +kernel) rfl rfl (Nat.le_of_ble_eq_true rfl) dX8_addIf_33 (fun H locs hP hD hS => ?_)
      have hP : va_P g.1 vwCl [oX8 a_t p_t (upd o_t 1 ((o_t 1) + (1 : Int32))), aI g (p_t 3) 218 (upd f_t_3 ((o_t 1)).toNatClampNeg x2)] H := hP
      have hD : va_D A [oX8 a_t p_t (upd o_t 1 ((o_t 1) + (1 : Int32))), aI g (p_t 3) 218 (upd f_t_3 ((o_t 1)).toNatClampNeg x2)] := hD
      cases hF
      exact ret_v C0 hP hD hS [0, 1] rfl rfl rfl dX8_addIf_36

theorem dAX8_tryCups : ∀ q ∈ ([(0, (.iconst 0, 1)), (1, (.istore_n 3, 1)), (2, (.iload_n 3, 1)), (3, (.aload_n 1, 1)), (4, (.getfield 76, 3)), (7, (.if_icmp .ge 91, 3)), (10, (.aload_n 0, 1)), (11, (.getfield 32, 3)), (14, (.iload_n 3, 1)), (15, (.invokevirtual 79, 3)), (18, (.ifCond .eq 74, 3)), (21, (.aload_n 0, 1)), (22, (.getfield 36, 3)), (25, (.aload_n 0, 1)), (26, (.getfield 32, 3)), (29, (.invokevirtual 43, 3)), (32, (.aload_n 0, 1)), (33, (.getfield 36, 3)), (36, (.getfield 83, 3)), (39, (.iload_n 3, 1)), (40, (.dup2, 1)), (41, (.iaload, 1)), (42, (.aload_n 1, 1)), (43, (.getfield 86, 3)), (46, (.iadd, 1)), (47, (.iastore, 1)), (48, (.aload_n 0, 1)), (49, (.aload_n 0, 1)), (50, (.getfield 36, 3)), (53, (.aload_n 1, 1)), (54, (.aload_n 2, 1)), (55, (.invokevirtual 47, 3)), (58, (.aload_n 0, 1)), (59, (.aload_n 0, 1)), (60, (.aload_n 1, 1)), (61, (.getfield 51, 3)), (64, (.invokevirtual 57, 3)), (67, (.bipush (-2), 2)), (69, (.if_icmp .ne 7, 3)), (72, (.iconst 1, 1)), (73, (.goto 4, 3)), (76, (.iconst 0, 1)), (77, (.bipush 10, 2)), (79, (.aload_n 0, 1)), (80, (.getfield 32, 3)), (83, (.getfield 89, 3)), (86, (.imul, 1)), (87, (.iload_n 3, 1)), (88, (.iadd, 1)), (89, (.invokevirtual 61, 3)), (92, (.iinc 3 1, 3)), (95, (.goto (-93), 3)), (98, (.return_, 1))] : List (Nat × (Instr × Nat))), decode cX8_tryCups q.1 = .ok q.2 := by decide +kernel
theorem dX8_tryCups_0 : decode cX8_tryCups 0 = .ok (.iconst 0, 1) := dAX8_tryCups (0, (.iconst 0, 1)) (List.mem_of_getElem? (i := 0) rfl)
theorem dX8_tryCups_1 : decode cX8_tryCups 1 = .ok (.istore_n 3, 1) := dAX8_tryCups (1, (.istore_n 3, 1)) (List.mem_of_getElem? (i := 1) rfl)
theorem dX8_tryCups_2 : decode cX8_tryCups 2 = .ok (.iload_n 3, 1) := dAX8_tryCups (2, (.iload_n 3, 1)) (List.mem_of_getElem? (i := 2) rfl)
theorem dX8_tryCups_3 : decode cX8_tryCups 3 = .ok (.aload_n 1, 1) := dAX8_tryCups (3, (.aload_n 1, 1)) (List.mem_of_getElem? (i := 3) rfl)
theorem dX8_tryCups_4 : decode cX8_tryCups 4 = .ok (.getfield 76, 3) := dAX8_tryCups (4, (.getfield 76, 3)) (List.mem_of_getElem? (i := 4) rfl)
theorem dX8_tryCups_7 : decode cX8_tryCups 7 = .ok (.if_icmp .ge 91, 3) := dAX8_tryCups (7, (.if_icmp .ge 91, 3)) (List.mem_of_getElem? (i := 5) rfl)
theorem dX8_tryCups_10 : decode cX8_tryCups 10 = .ok (.aload_n 0, 1) := dAX8_tryCups (10, (.aload_n 0, 1)) (List.mem_of_getElem? (i := 6) rfl)
theorem dX8_tryCups_11 : decode cX8_tryCups 11 = .ok (.getfield 32, 3) := dAX8_tryCups (11, (.getfield 32, 3)) (List.mem_of_getElem? (i := 7) rfl)
theorem dX8_tryCups_14 : decode cX8_tryCups 14 = .ok (.iload_n 3, 1) := dAX8_tryCups (14, (.iload_n 3, 1)) (List.mem_of_getElem? (i := 8) rfl)
theorem dX8_tryCups_15 : decode cX8_tryCups 15 = .ok (.invokevirtual 79, 3) := dAX8_tryCups (15, (.invokevirtual 79, 3)) (List.mem_of_getElem? (i := 9) rfl)
theorem dX8_tryCups_18 : decode cX8_tryCups 18 = .ok (.ifCond .eq 74, 3) := dAX8_tryCups (18, (.ifCond .eq 74, 3)) (List.mem_of_getElem? (i := 10) rfl)
theorem dX8_tryCups_21 : decode cX8_tryCups 21 = .ok (.aload_n 0, 1) := dAX8_tryCups (21, (.aload_n 0, 1)) (List.mem_of_getElem? (i := 11) rfl)
theorem dX8_tryCups_22 : decode cX8_tryCups 22 = .ok (.getfield 36, 3) := dAX8_tryCups (22, (.getfield 36, 3)) (List.mem_of_getElem? (i := 12) rfl)
theorem dX8_tryCups_25 : decode cX8_tryCups 25 = .ok (.aload_n 0, 1) := dAX8_tryCups (25, (.aload_n 0, 1)) (List.mem_of_getElem? (i := 13) rfl)
theorem dX8_tryCups_26 : decode cX8_tryCups 26 = .ok (.getfield 32, 3) := dAX8_tryCups (26, (.getfield 32, 3)) (List.mem_of_getElem? (i := 14) rfl)
theorem dX8_tryCups_29 : decode cX8_tryCups 29 = .ok (.invokevirtual 43, 3) := dAX8_tryCups (29, (.invokevirtual 43, 3)) (List.mem_of_getElem? (i := 15) rfl)
theorem dX8_tryCups_32 : decode cX8_tryCups 32 = .ok (.aload_n 0, 1) := dAX8_tryCups (32, (.aload_n 0, 1)) (List.mem_of_getElem? (i := 16) rfl)
theorem dX8_tryCups_33 : decode cX8_tryCups 33 = .ok (.getfield 36, 3) := dAX8_tryCups (33, (.getfield 36, 3)) (List.mem_of_getElem? (i := 17) rfl)
theorem dX8_tryCups_36 : decode cX8_tryCups 36 = .ok (.getfield 83, 3) := dAX8_tryCups (36, (.getfield 83, 3)) (List.mem_of_getElem? (i := 18) rfl)
theorem dX8_tryCups_39 : decode cX8_tryCups 39 = .ok (.iload_n 3, 1) := dAX8_tryCups (39, (.iload_n 3, 1)) (List.mem_of_getElem? (i := 19) rfl)
theorem dX8_tryCups_40 : decode cX8_tryCups 40 = .ok (.dup2, 1) := dAX8_tryCups (40, (.dup2, 1)) (List.mem_of_getElem? (i := 20) rfl)
theorem dX8_tryCups_41 : decode cX8_tryCups 41 = .ok (.iaload, 1) := dAX8_tryCups (41, (.iaload, 1)) (List.mem_of_getElem? (i := 21) rfl)
theorem dX8_tryCups_42 : decode cX8_tryCups 42 = .ok (.aload_n 1, 1) := dAX8_tryCups (42, (.aload_n 1, 1)) (List.mem_of_getElem? (i := 22) rfl)
theorem dX8_tryCups_43 : decode cX8_tryCups 43 = .ok (.getfield 86, 3) := dAX8_tryCups (43, (.getfield 86, 3)) (List.mem_of_getElem? (i := 23) rfl)
theorem dX8_tryCups_46 : decode cX8_tryCups 46 = .ok (.iadd, 1) := dAX8_tryCups (46, (.iadd, 1)) (List.mem_of_getElem? (i := 24) rfl)
theorem dX8_tryCups_47 : decode cX8_tryCups 47 = .ok (.iastore, 1) := dAX8_tryCups (47, (.iastore, 1)) (List.mem_of_getElem? (i := 25) rfl)
theorem dX8_tryCups_48 : decode cX8_tryCups 48 = .ok (.aload_n 0, 1) := dAX8_tryCups (48, (.aload_n 0, 1)) (List.mem_of_getElem? (i := 26) rfl)
theorem dX8_tryCups_49 : decode cX8_tryCups 49 = .ok (.aload_n 0, 1) := dAX8_tryCups (49, (.aload_n 0, 1)) (List.mem_of_getElem? (i := 27) rfl)
theorem dX8_tryCups_50 : decode cX8_tryCups 50 = .ok (.getfield 36, 3) := dAX8_tryCups (50, (.getfield 36, 3)) (List.mem_of_getElem? (i := 28) rfl)
theorem dX8_tryCups_53 : decode cX8_tryCups 53 = .ok (.aload_n 1, 1) := dAX8_tryCups (53, (.aload_n 1, 1)) (List.mem_of_getElem? (i := 29) rfl)
theorem dX8_tryCups_54 : decode cX8_tryCups 54 = .ok (.aload_n 2, 1) := dAX8_tryCups (54, (.aload_n 2, 1)) (List.mem_of_getElem? (i := 30) rfl)
theorem dX8_tryCups_55 : decode cX8_tryCups 55 = .ok (.invokevirtual 47, 3) := dAX8_tryCups (55, (.invokevirtual 47, 3)) (List.mem_of_getElem? (i := 31) rfl)
theorem dX8_tryCups_58 : decode cX8_tryCups 58 = .ok (.aload_n 0, 1) := dAX8_tryCups (58, (.aload_n 0, 1)) (List.mem_of_getElem? (i := 32) rfl)
theorem dX8_tryCups_59 : decode cX8_tryCups 59 = .ok (.aload_n 0, 1) := dAX8_tryCups (59, (.aload_n 0, 1)) (List.mem_of_getElem? (i := 33) rfl)
theorem dX8_tryCups_60 : decode cX8_tryCups 60 = .ok (.aload_n 1, 1) := dAX8_tryCups (60, (.aload_n 1, 1)) (List.mem_of_getElem? (i := 34) rfl)
theorem dX8_tryCups_61 : decode cX8_tryCups 61 = .ok (.getfield 51, 3) := dAX8_tryCups (61, (.getfield 51, 3)) (List.mem_of_getElem? (i := 35) rfl)
theorem dX8_tryCups_64 : decode cX8_tryCups 64 = .ok (.invokevirtual 57, 3) := dAX8_tryCups (64, (.invokevirtual 57, 3)) (List.mem_of_getElem? (i := 36) rfl)
theorem dX8_tryCups_67 : decode cX8_tryCups 67 = .ok (.bipush (-2), 2) := dAX8_tryCups (67, (.bipush (-2), 2)) (List.mem_of_getElem? (i := 37) rfl)
theorem dX8_tryCups_69 : decode cX8_tryCups 69 = .ok (.if_icmp .ne 7, 3) := dAX8_tryCups (69, (.if_icmp .ne 7, 3)) (List.mem_of_getElem? (i := 38) rfl)
theorem dX8_tryCups_72 : decode cX8_tryCups 72 = .ok (.iconst 1, 1) := dAX8_tryCups (72, (.iconst 1, 1)) (List.mem_of_getElem? (i := 39) rfl)
theorem dX8_tryCups_73 : decode cX8_tryCups 73 = .ok (.goto 4, 3) := dAX8_tryCups (73, (.goto 4, 3)) (List.mem_of_getElem? (i := 40) rfl)
theorem dX8_tryCups_76 : decode cX8_tryCups 76 = .ok (.iconst 0, 1) := dAX8_tryCups (76, (.iconst 0, 1)) (List.mem_of_getElem? (i := 41) rfl)
theorem dX8_tryCups_77 : decode cX8_tryCups 77 = .ok (.bipush 10, 2) := dAX8_tryCups (77, (.bipush 10, 2)) (List.mem_of_getElem? (i := 42) rfl)
theorem dX8_tryCups_79 : decode cX8_tryCups 79 = .ok (.aload_n 0, 1) := dAX8_tryCups (79, (.aload_n 0, 1)) (List.mem_of_getElem? (i := 43) rfl)
theorem dX8_tryCups_80 : decode cX8_tryCups 80 = .ok (.getfield 32, 3) := dAX8_tryCups (80, (.getfield 32, 3)) (List.mem_of_getElem? (i := 44) rfl)
theorem dX8_tryCups_83 : decode cX8_tryCups 83 = .ok (.getfield 89, 3) := dAX8_tryCups (83, (.getfield 89, 3)) (List.mem_of_getElem? (i := 45) rfl)
theorem dX8_tryCups_86 : decode cX8_tryCups 86 = .ok (.imul, 1) := dAX8_tryCups (86, (.imul, 1)) (List.mem_of_getElem? (i := 46) rfl)
theorem dX8_tryCups_87 : decode cX8_tryCups 87 = .ok (.iload_n 3, 1) := dAX8_tryCups (87, (.iload_n 3, 1)) (List.mem_of_getElem? (i := 47) rfl)
theorem dX8_tryCups_88 : decode cX8_tryCups 88 = .ok (.iadd, 1) := dAX8_tryCups (88, (.iadd, 1)) (List.mem_of_getElem? (i := 48) rfl)
theorem dX8_tryCups_89 : decode cX8_tryCups 89 = .ok (.invokevirtual 61, 3) := dAX8_tryCups (89, (.invokevirtual 61, 3)) (List.mem_of_getElem? (i := 49) rfl)
theorem dX8_tryCups_92 : decode cX8_tryCups 92 = .ok (.iinc 3 1, 3) := dAX8_tryCups (92, (.iinc 3 1, 3)) (List.mem_of_getElem? (i := 50) rfl)
theorem dX8_tryCups_95 : decode cX8_tryCups 95 = .ok (.goto (-93), 3) := dAX8_tryCups (95, (.goto (-93), 3)) (List.mem_of_getElem? (i := 51) rfl)
theorem dX8_tryCups_98 : decode cX8_tryCups 98 = .ok (.return_, 1) := dAX8_tryCups (98, (.return_, 1)) (List.mem_of_getElem? (i := 52) rfl)
set_option maxRecDepth 20000 in
theorem ggX8_tryCups_X2_has : GoodIn wsX8_tryCups wsX2_has := goodIn_r _ [12, 13, 14, 15, 16, 118, 119, 120, 121, 122, 123, 124, 125, 126] rfl (by decide +kernel)
set_option maxRecDepth 20000 in
theorem gX8_tryCups_X2_has : GoodIn wsX8_tryCups (wsV RX8 79 RX2 yX2_has wsX2_has) := goodIn_app (goodIn_of _ (by decide +kernel)) ggX8_tryCups_X2_has
set_option maxRecDepth 20000 in
theorem ggX8_tryCups_X2_become : GoodIn wsX8_tryCups wsX2_become := goodIn_r _ [20, 21, 13, 22, 23, 24, 25, 26, 27, 28, 29, 118, 119, 120, 121, 122, 123, 124, 125, 126] rfl (by decide +kernel)
set_option maxRecDepth 20000 in
theorem gX8_tryCups_X2_become : GoodIn wsX8_tryCups (wsV RX8 43 RX2 yX2_become wsX2_become) := goodIn_app (goodIn_of _ (by decide +kernel)) ggX8_tryCups_X2_become
set_option maxRecDepth 20000 in
theorem ggX8_tryCups_X8_follow : GoodIn wsX8_tryCups wsX8_follow := goodIn_r _ [34, 7, 35, 36, 37, 38, 39, 11, 40, 21, 41, 42, 43, 44, 45, 46, 13, 24, 47, 48, 49, 50, 51, 52, 53, 54, 55, 56, 57, 58, 59, 60, 61, 62, 63, 64, 65, 66, 67, 68, 69, 70, 71, 72, 73, 74, 75, 76, 77, 29, 78, 79, 118, 119, 120, 121, 122, 123, 124, 125, 126, 111, 112, 113, 114, 115, 116, 117, 94, 95, 96, 97, 98, 99, 100, 101, 102, 103, 104, 105, 106, 107, 108, 109, 110, 127, 128] rfl (by decide +kernel)
set_option maxRecDepth 20000 in
theorem gX8_tryCups_X8_follow : GoodIn wsX8_tryCups (wsV RX8 47 RX8 yX8_follow wsX8_follow) := goodIn_app (goodIn_of _ (by decide +kernel)) ggX8_tryCups_X8_follow
set_option maxRecDepth 20000 in
theorem ggX8_tryCups_X8_firstWrong : GoodIn wsX8_tryCups wsX8_firstWrong := goodIn_r _ [83, 84, 85, 35, 86, 87, 129, 130, 131, 132, 133, 134, 135, 111, 112, 113, 114, 115, 116, 117] rfl (by decide +kernel)
set_option maxRecDepth 20000 in
theorem gX8_tryCups_X8_firstWrong : GoodIn wsX8_tryCups (wsV RX8 57 RX8 yX8_firstWrong wsX8_firstWrong) := goodIn_app (goodIn_of _ (by decide +kernel)) ggX8_tryCups_X8_firstWrong
set_option maxRecDepth 20000 in
theorem ggX8_tryCups_X8_addIf : GoodIn wsX8_tryCups wsX8_addIf := goodIn_r _ [91, 92, 93, 111, 112, 113, 114, 115, 116, 117] rfl (by decide +kernel)
set_option maxRecDepth 20000 in
theorem gX8_tryCups_X8_addIf : GoodIn wsX8_tryCups (wsV RX8 61 RX8 yX8_addIf wsX8_addIf) := goodIn_app (goodIn_of _ (by decide +kernel)) ggX8_tryCups_X8_addIf
theorem kX8_tryCups_76 : Cond.fieldLink RX8 76 "EveningVow$House" "guests" "I" ∈ wsX8_tryCups := List.mem_of_getElem? (i := 1) rfl
theorem iX8_tryCups_X1 : ∀ w ∈ u_ws RX1 TX1 17, w ∈ wsX8_tryCups := fun w h => (List.mem_cons_of_mem _ (List.mem_append_left _ (List.mem_append_left _ (List.mem_append_left _ (List.mem_append_left _ (List.mem_append_right _ h))))))
theorem kX8_tryCups_32 : Cond.fieldLink RX8 32 "EveningVow$Unseen" "base" "LEveningVow$Night;" ∈ wsX8_tryCups := List.mem_of_getElem? (i := 2) rfl
theorem iX8_tryCups_X8 : ∀ w ∈ u_ws RX8 TX8 7, w ∈ wsX8_tryCups := fun w h => (List.mem_cons_of_mem _ (List.mem_append_left _ (List.mem_append_left _ (List.mem_append_left _ (List.mem_append_right _ h)))))
theorem kX8_tryCups_36 : Cond.fieldLink RX8 36 "EveningVow$Unseen" "trial" "LEveningVow$Night;" ∈ wsX8_tryCups := List.mem_of_getElem? (i := 3) rfl
theorem kX8_tryCups_83 : Cond.fieldLink RX8 83 "EveningVow$Night" "want" "[I" ∈ wsX8_tryCups := List.mem_of_getElem? (i := 4) rfl
theorem iX8_tryCups_X2 : ∀ w ∈ u_ws RX2 TX2 9, w ∈ wsX8_tryCups := fun w h => (List.mem_cons_of_mem _ (List.mem_append_left _ (List.mem_append_left _ (List.mem_append_right _ h))))
theorem kX8_tryCups_86 : Cond.fieldLink RX8 86 "EveningVow$House" "wakes" "I" ∈ wsX8_tryCups := List.mem_of_getElem? (i := 5) rfl
theorem kX8_tryCups_51 : Cond.fieldLink RX8 51 "EveningVow$House" "town" "LEveningVow$Town;" ∈ wsX8_tryCups := List.mem_of_getElem? (i := 6) rfl
theorem kX8_tryCups_89 : Cond.fieldLink RX8 89 "EveningVow$Night" "clock" "I" ∈ wsX8_tryCups := List.mem_of_getElem? (i := 7) rfl
set_option maxHeartbeats 4000000 in
set_option maxRecDepth 100000 in
theorem wX8_tryCups_L2 {p : Program} {l : Launch} {e : Env} {s : State} {m : MethodId} {args : Array Value} {below : List Frame} {meth : Method} {c : Code} {g : GG} {A : Nat → Prop} (C0 : Cx p s m args meth c cX8_tryCups 4 none RX8 wsX8_tryCups g A) (a_t : Nat) (a_r1 : Nat) (a_r2 : Nat) (p_t : Nat → Nat) (p_t_5 : Nat → Nat) (p_t_6 : Nat → Nat) (p_r1 : Nat → Nat) (p_r1_16 : Nat → Nat) (p_r2 : Nat → Nat) (n : Nat) (o_t_5 : Nat → Int32) (f_t_5_6 : Nat → Int32) (f_t_5_7 : Nat → Int32) (o_r1 : Nat → Int32) (f_r1_4 : Nat → Int32) (f_r1_6 : Nat → Int32) (f_r1_7 : Nat → Int32) (f_r1_10 : Nat → Int32) (f_r1_11 : Nat → Int32) (f_r1_12 : Nat → Int32) (o_r1_16 : Nat → Int32) (f_r1_16_4 : Nat → Int32) (f_r1_16_5 : Nat → Int32) (f_r1_16_6 : Nat → Int32)  (o_t' : Nat → Int32) (f_t_3' : Nat → Int32) (f_t_4' : Nat → Int32) (o_t_6' : Nat → Int32) (f_t_6_6' : Nat → Int32) (f_t_6_7' : Nat → Int32) (f_t_6_8' : Nat → Int32) (o_r2' : Nat → Int32) (K : (Nat → Int32) → (Nat → Int32) → (Nat → Int32) → (Nat → Int32) → (Nat → Int32) → (Nat → Int32) → (Nat → Int32) → (Nat → Int32) → Option ((Nat → Int32) × (Nat → Int32) × (Nat → Int32) × (Nat → Int32) × (Nat → Int32) × (Nat → Int32) × (Nat → Int32) × (Nat → Int32))) (hKx : ∀ (o_t : Nat → Int32) (f_t_3 : Nat → Int32) (f_t_4 : Nat → Int32) (o_t_6 : Nat → Int32) (f_t_6_6 : Nat → Int32) (f_t_6_7 : Nat → Int32) (f_t_6_8 : Nat → Int32) (o_r2 : Nat → Int32) (H : Heap) (locs : List Loc) (ls : Array Slot), K o_t f_t_3 f_t_4 o_t_6 f_t_6_6 f_t_6_7 f_t_6_8 o_r2 = some (o_t', f_t_3', f_t_4', o_t_6', f_t_6_6', f_t_6_7', f_t_6_8', o_r2') → va_P g.1 vwCl [oX8 a_t p_t o_t, aI g (p_t 3) 218 f_t_3, aI g (p_t 4) 31 f_t_4, oX2 (p_t 5) p_t_5 o_t_5, aI g (p_t_5 6) 7 f_t_5_6, aI g (p_t_5 7) 7 f_t_5_7, oX2 (p_t 6) p_t_6 o_t_6, aI g (p_t_6 6) 7 f_t_6_6, aI g (p_t_6 7) 7 f_t_6_7, aI g (p_t_6 8) 7 f_t_6_8, oX1 a_r1 p_r1 o_r1, aI g (p_r1 4) 7 f_r1_4, aI g (p_r1 6) 7 f_r1_6, aI g (p_r1 7) 7 f_r1_7, aI g (p_r1 10) 8 f_r1_10, aI g (p_r1 11) 8 f_r1_11, aI g (p_r1 12) 8 f_r1_12, oX7 (p_r1 16) p_r1_16 o_r1_16, aI g (p_r1_16 4) 6 f_r1_16_4, aI g (p_r1_16 5) 6 f_r1_16_5, aI g (p_r1_16 6) 6 f_r1_16_6, oX3 a_r2 p_r2 o_r2] H → va_D A [oX8 a_t p_t o_t, aI g (p_t 3) 218 f_t_3, aI g (p_t 4) 31 f_t_4, oX2 (p_t 5) p_t_5 o_t_5, aI g (p_t_5 6) 7 f_t_5_6, aI g (p_t_5 7) 7 f_t_5_7, oX2 (p_t 6) p_t_6 o_t_6, aI g (p_t_6 6) 7 f_t_6_6, aI g (p_t_6 7) 7 f_t_6_7, aI g (p_t_6 8) 7 f_t_6_8, oX1 a_r1 p_r1 o_r1, aI g (p_r1 4) 7 f_r1_4, aI g (p_r1 6) 7 f_r1_6, aI g (p_r1 7) 7 f_r1_7, aI g (p_r1 10) 8 f_r1_10, aI g (p_r1 11) 8 f_r1_11, aI g (p_r1 12) 8 f_r1_12, oX7 (p_r1 16) p_r1_16 o_r1_16, aI g (p_r1_16 4) 6 f_r1_16_4, aI g (p_r1_16 5) 6 f_r1_16_5, aI g (p_r1_16 6) 6 f_r1_16_6, oX3 a_r2 p_r2 o_r2] → va_S A s.heap H locs → lv_has ls 4 [] → W p l e ({ frames := 4, cells := 0, slots := 0, locals := 95 } : Room) s m args below meth c H locs 0 0 (MQ below (EndV g [oX8 a_t p_t o_t', aI g (p_t 3) 218 f_t_3', aI g (p_t 4) 31 f_t_4', oX2 (p_t 5) p_t_5 o_t_5, aI g (p_t_5 6) 7 f_t_5_6, aI g (p_t_5 7) 7 f_t_5_7, oX2 (p_t 6) p_t_6 o_t_6', aI g (p_t_6 6) 7 f_t_6_6', aI g (p_t_6 7) 7 f_t_6_7', aI g (p_t_6 8) 7 f_t_6_8', oX1 a_r1 p_r1 o_r1, aI g (p_r1 4) 7 f_r1_4, aI g (p_r1 6) 7 f_r1_6, aI g (p_r1 7) 7 f_r1_7, aI g (p_r1 10) 8 f_r1_10, aI g (p_r1 11) 8 f_r1_11, aI g (p_r1 12) 8 f_r1_12, oX7 (p_r1 16) p_r1_16 o_r1_16, aI g (p_r1_16 4) 6 f_r1_16_4, aI g (p_r1_16 5) 6 f_r1_16_5, aI g (p_r1_16 6) 6 f_r1_16_6, oX3 a_r2 p_r2 o_r2'] A) args s 0 0 A) (F0 m 98 ls [])) : ∀ (k : Nat) (x3 : Int32) (o_t : Nat → Int32) (f_t_3 : Nat → Int32) (f_t_4 : Nat → Int32) (o_t_6 : Nat → Int32) (f_t_6_6 : Nat → Int32) (f_t_6_7 : Nat → Int32) (f_t_6_8 : Nat → Int32) (o_r2 : Nat → Int32), fX8_tryCups_L2 n o_t_5 f_t_5_6 f_t_5_7 o_r1 f_r1_4 f_r1_6 f_r1_7 f_r1_10 f_r1_11 f_r1_12 o_r1_16 f_r1_16_4 f_r1_16_5 f_r1_16_6 K k x3 o_t f_t_3 f_t_4 o_t_6 f_t_6_6 f_t_6_7 f_t_6_8 o_r2 = some (o_t', f_t_3', f_t_4', o_t_6', f_t_6_6', f_t_6_7', f_t_6_8', o_r2') → ∀ (H : Heap) (locs : List Loc) (ls : Array Slot), va_P g.1 vwCl [oX8 a_t p_t o_t, aI g (p_t 3) 218 f_t_3, aI g (p_t 4) 31 f_t_4, oX2 (p_t 5) p_t_5 o_t_5, aI g (p_t_5 6) 7 f_t_5_6, aI g (p_t_5 7) 7 f_t_5_7, oX2 (p_t 6) p_t_6 o_t_6, aI g (p_t_6 6) 7 f_t_6_6, aI g (p_t_6 7) 7 f_t_6_7, aI g (p_t_6 8) 7 f_t_6_8, oX1 a_r1 p_r1 o_r1, aI g (p_r1 4) 7 f_r1_4, aI g (p_r1 6) 7 f_r1_6, aI g (p_r1 7) 7 f_r1_7, aI g (p_r1 10) 8 f_r1_10, aI g (p_r1 11) 8 f_r1_11, aI g (p_r1 12) 8 f_r1_12, oX7 (p_r1 16) p_r1_16 o_r1_16, aI g (p_r1_16 4) 6 f_r1_16_4, aI g (p_r1_16 5) 6 f_r1_16_5, aI g (p_r1_16 6) 6 f_r1_16_6, oX3 a_r2 p_r2 o_r2] H → va_D A [oX8 a_t p_t o_t, aI g (p_t 3) 218 f_t_3, aI g (p_t 4) 31 f_t_4, oX2 (p_t 5) p_t_5 o_t_5, aI g (p_t_5 6) 7 f_t_5_6, aI g (p_t_5 7) 7 f_t_5_7, oX2 (p_t 6) p_t_6 o_t_6, aI g (p_t_6 6) 7 f_t_6_6, aI g (p_t_6 7) 7 f_t_6_7, aI g (p_t_6 8) 7 f_t_6_8, oX1 a_r1 p_r1 o_r1, aI g (p_r1 4) 7 f_r1_4, aI g (p_r1 6) 7 f_r1_6, aI g (p_r1 7) 7 f_r1_7, aI g (p_r1 10) 8 f_r1_10, aI g (p_r1 11) 8 f_r1_11, aI g (p_r1 12) 8 f_r1_12, oX7 (p_r1 16) p_r1_16 o_r1_16, aI g (p_r1_16 4) 6 f_r1_16_4, aI g (p_r1_16 5) 6 f_r1_16_5, aI g (p_r1_16 6) 6 f_r1_16_6, oX3 a_r2 p_r2 o_r2] → va_S A s.heap H locs → lv_has ls 4 [(0, .ref a_t), (1, .ref a_r1), (2, .ref a_r2), (3, .int x3)] → W p l e ({ frames := 4, cells := 0, slots := 0, locals := 95 } : Room) s m args below meth c H locs 0 0 (MQ below (EndV g [oX8 a_t p_t o_t', aI g (p_t 3) 218 f_t_3', aI g (p_t 4) 31 f_t_4', oX2 (p_t 5) p_t_5 o_t_5, aI g (p_t_5 6) 7 f_t_5_6, aI g (p_t_5 7) 7 f_t_5_7, oX2 (p_t 6) p_t_6 o_t_6', aI g (p_t_6 6) 7 f_t_6_6', aI g (p_t_6 7) 7 f_t_6_7', aI g (p_t_6 8) 7 f_t_6_8', oX1 a_r1 p_r1 o_r1, aI g (p_r1 4) 7 f_r1_4, aI g (p_r1 6) 7 f_r1_6, aI g (p_r1 7) 7 f_r1_7, aI g (p_r1 10) 8 f_r1_10, aI g (p_r1 11) 8 f_r1_11, aI g (p_r1 12) 8 f_r1_12, oX7 (p_r1 16) p_r1_16 o_r1_16, aI g (p_r1_16 4) 6 f_r1_16_4, aI g (p_r1_16 5) 6 f_r1_16_5, aI g (p_r1_16 6) 6 f_r1_16_6, oX3 a_r2 p_r2 o_r2'] A) args s 0 0 A) (F0 m 2 ls []) := by
  obtain ⟨hx, hb, hml, hown, hts, hr, hlk, hK, hA, hSW⟩ := id C0
  intro k
  induction k with
  | zero =>
    intro x3 o_t f_t_3 f_t_4 o_t_6 f_t_6_6 f_t_6_7 f_t_6_8 o_r2 hF
    exact absurd hF (by simp [fX8_tryCups_L2])
  | succ k ih =>
    intro x3 o_t f_t_3 f_t_4 o_t_6 f_t_6_6 f_t_6_7 f_t_6_8 o_r2 hF H locs ls hP hD hS hl
    rw [fX8_tryCups_L2] at hF
    refine lv_iload_n hx hb dX8_tryCups_2 rfl (lv_at hl 3 rfl) ?_
    refine lv_aload_n hx hb dX8_tryCups_3 rfl (lv_at hl 1 rfl) ?_
    refine va_get (D := g.1) (ci := 1) (v := .int (o_r1 3)) (C := RX1) (T := TX1) (N := 17) hx hb hts iX8_tryCups_X1 hown hK.1 hP 10 rfl rfl 3 (by decide) (hts _ kX8_tryCups_76) (fun _ h9 => h9) rfl dX8_tryCups_4 ?_
    refine lv_icmp_ge (tgt := 98) hx hb dX8_tryCups_7 (by decide) (fun c_1 => ?_) (fun c_1 => ?_)
    · have hF := it_p c_1 hF
      exact hKx o_t f_t_3 f_t_4 o_t_6 f_t_6_6 f_t_6_7 f_t_6_8 o_r2 _ _ _ hF (hP.sub [0, 1, 2, 3, 4, 5, 6, 7, 8, 9, 10, 11, 12, 13, 14, 15, 16, 17, 18, 19, 20, 21] rfl) (hD.sub [0, 1, 2, 3, 4, 5, 6, 7, 8, 9, 10, 11, 12, 13, 14, 15, 16, 17, 18, 19, 20, 21] rfl rfl) hS (lv_sub hl [] rfl)
    · have hF := it_n c_1 hF
      refine lv_aload_n hx hb dX8_tryCups_10 rfl (lv_at hl 0 rfl) ?_
      refine va_get (D := g.1) (ci := 8) (v := .ref (p_t 5)) (C := RX8) (T := TX8) (N := 7) hx hb hts iX8_tryCups_X8 hown hK.1 hP 0 rfl rfl 5 (by decide) (hts _ kX8_tryCups_32) (fun _ h9 => h9) rfl dX8_tryCups_11 ?_
      refine lv_iload_n hx hb dX8_tryCups_14 rfl (lv_at hl 3 rfl) ?_
      obtain ⟨u_2, hu_3, hF⟩ := ob1_some hF
      refine call_i (wr := [oX8 a_t p_t o_t, aI g (p_t 3) 218 f_t_3, aI g (p_t 4) 31 f_t_4, aI g (p_t_5 6) 7 f_t_5_6, aI g (p_t_5 7) 7 f_t_5_7, oX2 (p_t 6) p_t_6 o_t_6, aI g (p_t_6 6) 7 f_t_6_6, aI g (p_t_6 7) 7 f_t_6_7, aI g (p_t_6 8) 7 f_t_6_8, oX1 a_r1 p_r1 o_r1, aI g (p_r1 4) 7 f_r1_4, aI g (p_r1 6) 7 f_r1_6, aI g (p_r1 7) 7 f_r1_7, aI g (p_r1 10) 8 f_r1_10, aI g (p_r1 11) 8 f_r1_11, aI g (p_r1 12) 8 f_r1_12, oX7 (p_r1 16) p_r1_16 o_r1_16, aI g (p_r1_16 4) 6 f_r1_16_4, aI g (p_r1_16 5) 6 f_r1_16_5, aI g (p_r1_16 6) 6 f_r1_16_6, oX3 a_r2 p_r2 o_r2]) (As := [.int x3]) (rest := []) (ci := 2) (q0 := 0) C0 (mX2_has l g (p_t 5) p_t_5 n x3 o_t_5 u_2 hu_3) (cwV 1 hts gX8_tryCups_X2_has rfl rfl rfl (by decide +kernel) ⟨Nat.le_of_ble_eq_true rfl, Nat.le_of_ble_eq_true rfl⟩) hP hD hS [3] [0, 1, 2, 4, 5, 6, 7, 8, 9, 10, 11, 12, 13, 14, 15, 16, 17, 18, 19, 20, 21] rfl rfl rfl rfl rfl (by decide) rfl rfl hl.1 rfl rfl (Nat.le_of_ble_eq_true rfl) ⟨Nat.zero_le _, Nat.zero_le _⟩ dX8_tryCups_15 ?_
      intro H locs hP hD hS
      refine lv_if_eq (tgt := 92) hx hb dX8_tryCups_18 (by decide) (fun c_4 => ?_) (fun c_4 => ?_)
      · have hF := it_p c_4 hF
        refine lv_iinc (v := (x3 + (1 : Int32))) (lv' := [(3, .int (x3 + (1 : Int32))), (0, .ref a_t), (1, .ref a_r1), (2, .ref a_r2)]) hx hb dX8_tryCups_92 hl (k := 3) rfl rfl (by decide) rfl (fun ls hl => ?_)
        refine lv_goto (tgt := 2) hx hb dX8_tryCups_95 (by decide) ?_
        exact ih (x3 + (1 : Int32)) o_t f_t_3 f_t_4 o_t_6 f_t_6_6 f_t_6_7 f_t_6_8 o_r2 hF _ _ _ (hP.sub [0, 1, 2, 21, 3, 4, 5, 6, 7, 8, 9, 10, 11, 12, 13, 14, 15, 16, 17, 18, 19, 20] rfl) (hD.sub [0, 1, 2, 21, 3, 4, 5, 6, 7, 8, 9, 10, 11, 12, 13, 14, 15, 16, 17, 18, 19, 20] rfl rfl) hS (lv_sub hl [1, 2, 3, 0] rfl)
      · have hF := it_n c_4 hF
        refine lv_aload_n hx hb dX8_tryCups_21 rfl (lv_at hl 0 rfl) ?_
        refine va_get (D := g.1) (ci := 8) (v := .ref (p_t 6)) (C := RX8) (T := TX8) (N := 7) hx hb hts iX8_tryCups_X8 hown hK.1 hP 0 rfl rfl 6 (by decide) (hts _ kX8_tryCups_36) (fun _ h9 => h9) rfl dX8_tryCups_22 ?_
        refine lv_aload_n hx hb dX8_tryCups_25 rfl (lv_at hl 0 rfl) ?_
        refine va_get (D := g.1) (ci := 8) (v := .ref (p_t 5)) (C := RX8) (T := TX8) (N := 7) hx hb hts iX8_tryCups_X8 hown hK.1 hP 0 rfl rfl 5 (by decide) (hts _ kX8_tryCups_32) (fun _ h9 => h9) rfl dX8_tryCups_26 ?_
        obtain ⟨u_5, u_6, u_7, hu_8, hF⟩ := ob3_some hF
        refine call_v (wr := [oX8 a_t p_t o_t, aI g (p_t 3) 218 f_t_3, aI g (p_t 4) 31 f_t_4, aI g (p_t_6 8) 7 f_t_6_8, oX1 a_r1 p_r1 o_r1, aI g (p_r1 4) 7 f_r1_4, aI g (p_r1 6) 7 f_r1_6, aI g (p_r1 7) 7 f_r1_7, aI g (p_r1 10) 8 f_r1_10, aI g (p_r1 11) 8 f_r1_11, aI g (p_r1 12) 8 f_r1_12, oX7 (p_r1 16) p_r1_16 o_r1_16, aI g (p_r1_16 4) 6 f_r1_16_4, aI g (p_r1_16 5) 6 f_r1_16_5, aI g (p_r1_16 6) 6 f_r1_16_6, oX3 a_r2 p_r2 o_r2]) (As := [.ref (p_t 5)]) (rest := []) (ci := 2) (q0 := 0) C0 (mX2_become l g (p_t 6) (p_t 5) p_t_6 p_t_5 n o_t_6 f_t_6_6 f_t_6_7 o_t_5 f_t_5_6 f_t_5_7 u_5 u_6 u_7 hu_8) (cwV 1 hts gX8_tryCups_X2_become rfl rfl rfl (by decide +kernel) ⟨Nat.le_of_ble_eq_true rfl, Nat.le_of_ble_eq_true rfl⟩) hP hD hS [5, 6, 7, 21, 3, 4] [0, 1, 2, 8, 9, 10, 11, 12, 13, 14, 15, 16, 17, 18, 19, 20] rfl rfl rfl rfl rfl (by decide) rfl rfl hl.1 rfl rfl (Nat.le_of_ble_eq_true rfl) ⟨Nat.zero_le _, Nat.zero_le _⟩ dX8_tryCups_29 ?_
        intro H locs hP hD hS
        refine lv_aload_n hx hb dX8_tryCups_32 rfl (lv_at hl 0 rfl) ?_
        refine va_get (D := g.1) (ci := 8) (v := .ref (p_t 6)) (C := RX8) (T := TX8) (N := 7) hx hb hts iX8_tryCups_X8 hown hK.1 hP 0 rfl rfl 6 (by decide) (hts _ kX8_tryCups_36) (fun _ h9 => h9) rfl dX8_tryCups_33 ?_
        refine va_get (D := g.1) (ci := 2) (v := .ref (p_t_6 6)) (C := RX2) (T := TX2) (N := 9) hx hb hts iX8_tryCups_X2 hown hK.1 hP 16 rfl rfl 6 (by decide) (hts _ kX8_tryCups_83) (fun _ h9 => h9) rfl dX8_tryCups_36 ?_
        refine lv_iload_n hx hb dX8_tryCups_39 rfl (lv_at hl 3 rfl) ?_
        refine lv_dup2_11 hx hb dX8_tryCups_40 rfl rfl ?_
        obtain ⟨h_9, hF⟩ := it_ck hF
        refine va_iald hx hb hK.1 hP 17 0 rfl rfl h_9 dX8_tryCups_41 ?_
        refine lv_aload_n hx hb dX8_tryCups_42 rfl (lv_at hl 1 rfl) ?_
        refine va_get (D := g.1) (ci := 1) (v := .int (o_r1 1)) (C := RX1) (T := TX1) (N := 17) hx hb hts iX8_tryCups_X1 hown hK.1 hP 4 rfl rfl 1 (by decide) (hts _ kX8_tryCups_86) (fun _ h9 => h9) rfl dX8_tryCups_43 ?_
        refine lv_iadd hx hb dX8_tryCups_46 ?_
        obtain ⟨h_10, hF⟩ := it_ck hF
        refine va_iast hx hb hK.1 hP hD hS 17 0 rfl rfl h_10 dX8_tryCups_47 (fun H locs hP hD hS => ?_)
        have hP : va_P g.1 vwCl [oX8 a_t p_t o_t, aI g (p_t 3) 218 f_t_3, aI g (p_t 4) 31 f_t_4, aI g (p_t_6 8) 7 f_t_6_8, oX1 a_r1 p_r1 o_r1, aI g (p_r1 4) 7 f_r1_4, aI g (p_r1 6) 7 f_r1_6, aI g (p_r1 7) 7 f_r1_7, aI g (p_r1 10) 8 f_r1_10, aI g (p_r1 11) 8 f_r1_11, aI g (p_r1 12) 8 f_r1_12, oX7 (p_r1 16) p_r1_16 o_r1_16, aI g (p_r1_16 4) 6 f_r1_16_4, aI g (p_r1_16 5) 6 f_r1_16_5, aI g (p_r1_16 6) 6 f_r1_16_6, oX3 a_r2 p_r2 o_r2, oX2 (p_t 6) p_t_6 u_5, aI g (p_t_6 6) 7 (upd u_6 (x3).toNatClampNeg ((u_6 (x3).toNatClampNeg) + (o_r1 1))), aI g (p_t_6 7) 7 u_7, oX2 (p_t 5) p_t_5 o_t_5, aI g (p_t_5 6) 7 f_t_5_6, aI g (p_t_5 7) 7 f_t_5_7] H := hP
        have hD : va_D A [oX8 a_t p_t o_t, aI g (p_t 3) 218 f_t_3, aI g (p_t 4) 31 f_t_4, aI g (p_t_6 8) 7 f_t_6_8, oX1 a_r1 p_r1 o_r1, aI g (p_r1 4) 7 f_r1_4, aI g (p_r1 6) 7 f_r1_6, aI g (p_r1 7) 7 f_r1_7, aI g (p_r1 10) 8 f_r1_10, aI g (p_r1 11) 8 f_r1_11, aI g (p_r1 12) 8 f_r1_12, oX7 (p_r1 16) p_r1_16 o_r1_16, aI g (p_r1_16 4) 6 f_r1_16_4, aI g (p_r1_16 5) 6 f_r1_16_5, aI g (p_r1_16 6) 6 f_r1_16_6, oX3 a_r2 p_r2 o_r2, oX2 (p_t 6) p_t_6 u_5, aI g (p_t_6 6) 7 (upd u_6 (x3).toNatClampNeg ((u_6 (x3).toNatClampNeg) + (o_r1 1))), aI g (p_t_6 7) 7 u_7, oX2 (p_t 5) p_t_5 o_t_5, aI g (p_t_5 6) 7 f_t_5_6, aI g (p_t_5 7) 7 f_t_5_7] := hD
        refine lv_aload_n hx hb dX8_tryCups_48 rfl (lv_at hl 0 rfl) ?_
        refine lv_aload_n hx hb dX8_tryCups_49 rfl (lv_at hl 0 rfl) ?_
        refine va_get (D := g.1) (ci := 8) (v := .ref (p_t 6)) (C := RX8) (T := TX8) (N := 7) hx hb hts iX8_tryCups_X8 hown hK.1 hP 0 rfl rfl 6 (by decide) (hts _ kX8_tryCups_36) (fun _ h9 => h9) rfl dX8_tryCups_50 ?_
        refine lv_aload_n hx hb dX8_tryCups_53 rfl (lv_at hl 1 rfl) ?_
        refine lv_aload_n hx hb dX8_tryCups_54 rfl (lv_at hl 2 rfl) ?_
        obtain ⟨u_11, u_12, u_13, u_14, u_15, u_16, hu_17, hF⟩ := ob6_some hF
        refine call_v (wr := [aI g (p_t 3) 218 f_t_3, oX7 (p_r1 16) p_r1_16 o_r1_16, aI g (p_r1_16 4) 6 f_r1_16_4, aI g (p_r1_16 5) 6 f_r1_16_5, aI g (p_r1_16 6) 6 f_r1_16_6, oX2 (p_t 5) p_t_5 o_t_5, aI g (p_t_5 6) 7 f_t_5_6, aI g (p_t_5 7) 7 f_t_5_7]) (As := [.ref (p_t 6), .ref a_r1, .ref a_r2]) (rest := []) (ci := 8) (q0 := 0) C0 (mX8_follow l g a_t (p_t 6) a_r1 a_r2 p_t p_t_6 p_r1 p_r2 n o_t f_t_4 u_5 (upd u_6 (x3).toNatClampNeg ((u_6 (x3).toNatClampNeg) + (o_r1 1))) u_7 f_t_6_8 o_r1 f_r1_4 f_r1_6 f_r1_7 f_r1_10 f_r1_11 f_r1_12 o_r2 u_11 u_12 u_13 u_14 u_15 u_16 hu_17) (cwV 3 hts gX8_tryCups_X8_follow rfl rfl rfl (by decide +kernel) ⟨Nat.le_of_ble_eq_true rfl, Nat.le_of_ble_eq_true rfl⟩) hP hD hS [0, 2, 16, 17, 18, 3, 4, 5, 6, 7, 8, 9, 10, 15] [1, 11, 12, 13, 14, 19, 20, 21] rfl rfl rfl rfl rfl (by decide) rfl rfl hl.1 rfl rfl (Nat.le_of_ble_eq_true rfl) ⟨Nat.zero_le _, Nat.zero_le _⟩ dX8_tryCups_55 ?_
        intro H locs hP hD hS
        refine lv_aload_n hx hb dX8_tryCups_58 rfl (lv_at hl 0 rfl) ?_
        refine lv_aload_n hx hb dX8_tryCups_59 rfl (lv_at hl 0 rfl) ?_
        refine lv_aload_n hx hb dX8_tryCups_60 rfl (lv_at hl 1 rfl) ?_
        refine va_get (D := g.1) (ci := 1) (v := .ref (p_r1 16)) (C := RX1) (T := TX1) (N := 17) hx hb hts iX8_tryCups_X1 hown hK.1 hP 14 rfl rfl 16 (by decide) (hts _ kX8_tryCups_51) (fun _ h9 => h9) rfl dX8_tryCups_61 ?_
        obtain ⟨u_18, hu_19, hF⟩ := ob1_some hF
        refine call_i (wr := [aI g (p_t 3) 218 f_t_3, oX2 (p_t 5) p_t_5 o_t_5, aI g (p_t_5 6) 7 f_t_5_6, aI g (p_t_5 7) 7 f_t_5_7, oX2 (p_t 6) p_t_6 u_12, aI g (p_t_6 6) 7 u_13, aI g (p_t_6 7) 7 u_14, aI g (p_t_6 8) 7 u_15, oX1 a_r1 p_r1 o_r1, aI g (p_r1 4) 7 f_r1_4, aI g (p_r1 6) 7 f_r1_6, aI g (p_r1 7) 7 f_r1_7, aI g (p_r1 10) 8 f_r1_10, aI g (p_r1 11) 8 f_r1_11, aI g (p_r1 12) 8 f_r1_12, oX3 a_r2 p_r2 u_16]) (As := [.ref (p_r1 16)]) (rest := [.ref a_t]) (ci := 8) (q0 := 0) C0 (mX8_firstWrong l g a_t (p_r1 16) p_t p_r1_16 n o_t u_11 o_r1_16 f_r1_16_4 f_r1_16_5 f_r1_16_6 u_18 hu_19) (cwV 1 hts gX8_tryCups_X8_firstWrong rfl rfl rfl (by decide +kernel) ⟨Nat.le_of_ble_eq_true rfl, Nat.le_of_ble_eq_true rfl⟩) hP hD hS [8, 9, 1, 2, 3, 4] [0, 5, 6, 7, 10, 11, 12, 13, 14, 15, 16, 17, 18, 19, 20, 21] rfl rfl rfl rfl rfl (by decide) rfl rfl hl.1 rfl rfl (Nat.le_of_ble_eq_true rfl) ⟨Nat.zero_le _, Nat.zero_le _⟩ dX8_tryCups_64 ?_
        intro H locs hP hD hS
        refine lv_bipush (v := (-2 : Int32)) hx hb dX8_tryCups_67 (by decide) ?_
        refine lv_icmp_ne (tgt := 76) hx hb dX8_tryCups_69 (by decide) (fun c_20 => ?_) (fun c_20 => ?_)
        · have hF := it_n c_20 hF
          refine lv_iconst (v := (0 : Int32)) hx hb dX8_tryCups_76 (by decide) ?_
          refine lv_bipush (v := (10 : Int32)) hx hb dX8_tryCups_77 (by decide) ?_
          refine lv_aload_n hx hb dX8_tryCups_79 rfl (lv_at hl 0 rfl) ?_
          refine va_get (D := g.1) (ci := 8) (v := .ref (p_t 5)) (C := RX8) (T := TX8) (N := 7) hx hb hts iX8_tryCups_X8 hown hK.1 hP 16 rfl rfl 5 (by decide) (hts _ kX8_tryCups_32) (fun _ h9 => h9) rfl dX8_tryCups_80 ?_
          refine va_get (D := g.1) (ci := 2) (v := .int (o_t_5 0)) (C := RX2) (T := TX2) (N := 9) hx hb hts iX8_tryCups_X2 hown hK.1 hP 1 rfl rfl 0 (by decide) (hts _ kX8_tryCups_89) (fun _ h9 => h9) rfl dX8_tryCups_83 ?_
          refine lv_imul hx hb dX8_tryCups_86 ?_
          refine lv_iload_n hx hb dX8_tryCups_87 rfl (lv_at hl 3 rfl) ?_
          refine lv_iadd hx hb dX8_tryCups_88 ?_
          obtain ⟨u_21, u_22, hu_23, hF⟩ := ob2_some hF
          refine call_v (wr := [oX2 (p_t 5) p_t_5 o_t_5, aI g (p_t_5 6) 7 f_t_5_6, aI g (p_t_5 7) 7 f_t_5_7, oX2 (p_t 6) p_t_6 u_12, aI g (p_t_6 6) 7 u_13, aI g (p_t_6 7) 7 u_14, aI g (p_t_6 8) 7 u_15, oX1 a_r1 p_r1 o_r1, aI g (p_r1 4) 7 f_r1_4, aI g (p_r1 6) 7 f_r1_6, aI g (p_r1 7) 7 f_r1_7, aI g (p_r1 10) 8 f_r1_10, aI g (p_r1 11) 8 f_r1_11, aI g (p_r1 12) 8 f_r1_12, oX3 a_r2 p_r2 u_16, aI g (p_t 4) 31 u_11, oX7 (p_r1 16) p_r1_16 o_r1_16, aI g (p_r1_16 4) 6 f_r1_16_4, aI g (p_r1_16 5) 6 f_r1_16_5, aI g (p_r1_16 6) 6 f_r1_16_6]) (As := [.int (0 : Int32), .int (((10 : Int32) * (o_t_5 0)) + x3)]) (rest := []) (ci := 8) (q0 := 0) C0 (mX8_addIf l g a_t p_t n (0 : Int32) (((10 : Int32) * (o_t_5 0)) + x3) o_t f_t_3 u_21 u_22 hu_23) (cwV 2 hts gX8_tryCups_X8_addIf rfl rfl rfl (by decide +kernel) ⟨Nat.le_of_ble_eq_true rfl, Nat.le_of_ble_eq_true rfl⟩) hP hD hS [16, 0] [1, 2, 3, 4, 5, 6, 7, 8, 9, 10, 11, 12, 13, 14, 15, 17, 18, 19, 20, 21] rfl rfl rfl rfl rfl (by decide) rfl rfl hl.1 rfl rfl (Nat.le_of_ble_eq_true rfl) ⟨Nat.zero_le _, Nat.zero_le _⟩ dX8_tryCups_89 ?_
          intro H locs hP hD hS
          refine lv_iinc (v := (x3 + (1 : Int32))) (lv' := [(3, .int (x3 + (1 : Int32))), (0, .ref a_t), (1, .ref a_r1), (2, .ref a_r2)]) hx hb dX8_tryCups_92 hl (k := 3) rfl rfl (by decide) rfl (fun ls hl => ?_)
          refine lv_goto (tgt := 2) hx hb dX8_tryCups_95 (by decide) ?_
          exact ih (x3 + (1 : Int32)) u_21 u_22 u_11 u_12 u_13 u_14 u_15 u_16 hF _ _ _ (hP.sub [20, 21, 15, 0, 1, 2, 3, 4, 5, 6, 7, 8, 9, 10, 11, 12, 13, 16, 17, 18, 19, 14] rfl) (hD.sub [20, 21, 15, 0, 1, 2, 3, 4, 5, 6, 7, 8, 9, 10, 11, 12, 13, 16, 17, 18, 19, 14] rfl rfl) hS (lv_sub hl [1, 2, 3, 0] rfl)
        · have hF := it_p c_20 hF
          refine lv_iconst (v := (1 : Int32)) hx hb dX8_tryCups_72 (by decide) ?_
          refine lv_goto (tgt := 77) hx hb dX8_tryCups_73 (by decide) ?_
          refine lv_bipush (v := (10 : Int32)) hx hb dX8_tryCups_77 (by decide) ?_
          refine lv_aload_n hx hb dX8_tryCups_79 rfl (lv_at hl 0 rfl) ?_
          refine va_get (D := g.1) (ci := 8) (v := .ref (p_t 5)) (C := RX8) (T := TX8) (N := 7) hx hb hts iX8_tryCups_X8 hown hK.1 hP 16 rfl rfl 5 (by decide) (hts _ kX8_tryCups_32) (fun _ h9 => h9) rfl dX8_tryCups_80 ?_
          refine va_get (D := g.1) (ci := 2) (v := .int (o_t_5 0)) (C := RX2) (T := TX2) (N := 9) hx hb hts iX8_tryCups_X2 hown hK.1 hP 1 rfl rfl 0 (by decide) (hts _ kX8_tryCups_89) (fun _ h9 => h9) rfl dX8_tryCups_83 ?_
          refine lv_imul hx hb dX8_tryCups_86 ?_
          refine lv_iload_n hx hb dX8_tryCups_87 rfl (lv_at hl 3 rfl) ?_
          refine lv_iadd hx hb dX8_tryCups_88 ?_
          obtain ⟨u_24, u_25, hu_26, hF⟩ := ob2_some hF
          refine call_v (wr := [oX2 (p_t 5) p_t_5 o_t_5, aI g (p_t_5 6) 7 f_t_5_6, aI g (p_t_5 7) 7 f_t_5_7, oX2 (p_t 6) p_t_6 u_12, aI g (p_t_6 6) 7 u_13, aI g (p_t_6 7) 7 u_14, aI g (p_t_6 8) 7 u_15, oX1 a_r1 p_r1 o_r1, aI g (p_r1 4) 7 f_r1_4, aI g (p_r1 6) 7 f_r1_6, aI g (p_r1 7) 7 f_r1_7, aI g (p_r1 10) 8 f_r1_10, aI g (p_r1 11) 8 f_r1_11, aI g (p_r1 12) 8 f_r1_12, oX3 a_r2 p_r2 u_16, aI g (p_t 4) 31 u_11, oX7 (p_r1 16) p_r1_16 o_r1_16, aI g (p_r1_16 4) 6 f_r1_16_4, aI g (p_r1_16 5) 6 f_r1_16_5, aI g (p_r1_16 6) 6 f_r1_16_6]) (As := [.int (1 : Int32), .int (((10 : Int32) * (o_t_5 0)) + x3)]) (rest := []) (ci := 8) (q0 := 0) C0 (mX8_addIf l g a_t p_t n (1 : Int32) (((10 : Int32) * (o_t_5 0)) + x3) o_t f_t_3 u_24 u_25 hu_26) (cwV 2 hts gX8_tryCups_X8_addIf rfl rfl rfl (by decide +kernel) ⟨Nat.le_of_ble_eq_true rfl, Nat.le_of_ble_eq_true rfl⟩) hP hD hS [16, 0] [1, 2, 3, 4, 5, 6, 7, 8, 9, 10, 11, 12, 13, 14, 15, 17, 18, 19, 20, 21] rfl rfl rfl rfl rfl (by decide) rfl rfl hl.1 rfl rfl (Nat.le_of_ble_eq_true rfl) ⟨Nat.zero_le _, Nat.zero_le _⟩ dX8_tryCups_89 ?_
          intro H locs hP hD hS
          refine lv_iinc (v := (x3 + (1 : Int32))) (lv' := [(3, .int (x3 + (1 : Int32))), (0, .ref a_t), (1, .ref a_r1), (2, .ref a_r2)]) hx hb dX8_tryCups_92 hl (k := 3) rfl rfl (by decide) rfl (fun ls hl => ?_)
          refine lv_goto (tgt := 2) hx hb dX8_tryCups_95 (by decide) ?_
          exact ih (x3 + (1 : Int32)) u_24 u_25 u_11 u_12 u_13 u_14 u_15 u_16 hF _ _ _ (hP.sub [20, 21, 15, 0, 1, 2, 3, 4, 5, 6, 7, 8, 9, 10, 11, 12, 13, 16, 17, 18, 19, 14] rfl) (hD.sub [20, 21, 15, 0, 1, 2, 3, 4, 5, 6, 7, 8, 9, 10, 11, 12, 13, 16, 17, 18, 19, 14] rfl rfl) hS (lv_sub hl [1, 2, 3, 0] rfl)
set_option maxHeartbeats 4000000 in
set_option maxRecDepth 100000 in
theorem mX8_tryCups (l : Launch) (g : GG) (a_t : Nat) (a_r1 : Nat) (a_r2 : Nat) (p_t : Nat → Nat) (p_t_5 : Nat → Nat) (p_t_6 : Nat → Nat) (p_r1 : Nat → Nat) (p_r1_16 : Nat → Nat) (p_r2 : Nat → Nat) (n : Nat) (o_t : Nat → Int32) (f_t_3 : Nat → Int32) (f_t_4 : Nat → Int32) (o_t_5 : Nat → Int32) (f_t_5_6 : Nat → Int32) (f_t_5_7 : Nat → Int32) (o_t_6 : Nat → Int32) (f_t_6_6 : Nat → Int32) (f_t_6_7 : Nat → Int32) (f_t_6_8 : Nat → Int32) (o_r1 : Nat → Int32) (f_r1_4 : Nat → Int32) (f_r1_6 : Nat → Int32) (f_r1_7 : Nat → Int32) (f_r1_10 : Nat → Int32) (f_r1_11 : Nat → Int32) (f_r1_12 : Nat → Int32) (o_r1_16 : Nat → Int32) (f_r1_16_4 : Nat → Int32) (f_r1_16_5 : Nat → Int32) (f_r1_16_6 : Nat → Int32) (o_r2 : Nat → Int32) (o_t' : Nat → Int32) (f_t_3' : Nat → Int32) (f_t_4' : Nat → Int32) (o_t_6' : Nat → Int32) (f_t_6_6' : Nat → Int32) (f_t_6_7' : Nat → Int32) (f_t_6_8' : Nat → Int32) (o_r2' : Nat → Int32) (hF : fX8_tryCups n o_t f_t_3 f_t_4 o_t_5 f_t_5_6 f_t_5_7 o_t_6 f_t_6_6 f_t_6_7 f_t_6_8 o_r1 f_r1_4 f_r1_6 f_r1_7 f_r1_10 f_r1_11 f_r1_12 o_r1_16 f_r1_16_4 f_r1_16_5 f_r1_16_6 o_r2 = some (o_t', f_t_3', f_t_4', o_t_6', f_t_6_6', f_t_6_7', f_t_6_8', o_r2')) : MV l g yX8_tryCups wsX8_tryCups ({ frames := 4, cells := 0, slots := 0, locals := 95 } : Room) [.ref a_t, .ref a_r1, .ref a_r2] [oX8 a_t p_t o_t, aI g (p_t 3) 218 f_t_3, aI g (p_t 4) 31 f_t_4, oX2 (p_t 5) p_t_5 o_t_5, aI g (p_t_5 6) 7 f_t_5_6, aI g (p_t_5 7) 7 f_t_5_7, oX2 (p_t 6) p_t_6 o_t_6, aI g (p_t_6 6) 7 f_t_6_6, aI g (p_t_6 7) 7 f_t_6_7, aI g (p_t_6 8) 7 f_t_6_8, oX1 a_r1 p_r1 o_r1, aI g (p_r1 4) 7 f_r1_4, aI g (p_r1 6) 7 f_r1_6, aI g (p_r1 7) 7 f_r1_7, aI g (p_r1 10) 8 f_r1_10, aI g (p_r1 11) 8 f_r1_11, aI g (p_r1 12) 8 f_r1_12, oX7 (p_r1 16) p_r1_16 o_r1_16, aI g (p_r1_16 4) 6 f_r1_16_4, aI g (p_r1_16 5) 6 f_r1_16_5, aI g (p_r1_16 6) 6 f_r1_16_6, oX3 a_r2 p_r2 o_r2] [oX8 a_t p_t o_t', aI g (p_t 3) 218 f_t_3', aI g (p_t 4) 31 f_t_4', oX2 (p_t 5) p_t_5 o_t_5, aI g (p_t_5 6) 7 f_t_5_6, aI g (p_t_5 7) 7 f_t_5_7, oX2 (p_t 6) p_t_6 o_t_6', aI g (p_t_6 6) 7 f_t_6_6', aI g (p_t_6 7) 7 f_t_6_7', aI g (p_t_6 8) 7 f_t_6_8', oX1 a_r1 p_r1 o_r1, aI g (p_r1 4) 7 f_r1_4, aI g (p_r1 6) 7 f_r1_6, aI g (p_r1 7) 7 f_r1_7, aI g (p_r1 10) 8 f_r1_10, aI g (p_r1 11) 8 f_r1_11, aI g (p_r1 12) 8 f_r1_12, oX7 (p_r1 16) p_r1_16 o_r1_16, aI g (p_r1_16 4) 6 f_r1_16_4, aI g (p_r1_16 5) 6 f_r1_16_5, aI g (p_r1_16 6) 6 f_r1_16_6, oX3 a_r2 p_r2 o_r2'] := by
  refine MV.of (cc := cX8_tryCups) (maxL := 4) (own := RX8) rfl rfl (by decide) (Nat.le_of_ble_eq_true rfl) ?_
  intro p e s m args below meth c A C0 hP hD hS ls hl
  obtain ⟨hx, hb, hml, hown, hts, hr, hlk, hK, hA, hSW⟩ := id C0
  have hl : lv_has ls 4 [(0, .ref a_t), (1, .ref a_r1), (2, .ref a_r2)] := hl
  rw [fX8_tryCups] at hF
  refine lv_iconst (v := (0 : Int32)) hx hb dX8_tryCups_0 (by decide) ?_
  refine lv_istore_n (lv' := [(3, .int (0 : Int32)), (0, .ref a_t), (1, .ref a_r1), (2, .ref a_r2)]) hx hb dX8_tryCups_1 rfl hl (by decide) rfl (fun ls hl => ?_)
  refine wX8_tryCups_L2 C0 a_t a_r1 a_r2 p_t p_t_5 p_t_6 p_r1 p_r1_16 p_r2 n o_t_5 f_t_5_6 f_t_5_7 o_r1 f_r1_4 f_r1_6 f_r1_7 f_r1_10 f_r1_11 f_r1_12 o_r1_16 f_r1_16_4 f_r1_16_5 f_r1_16_6 o_t' f_t_3' f_t_4' o_t_6' f_t_6_6' f_t_6_7' f_t_6_8' o_r2' _ ?_ n (0 : Int32) o_t f_t_3 f_t_4 o_t_6 f_t_6_6 f_t_6_7 f_t_6_8 o_r2 hF _ _ _ (hP.sub [0, 1, 2, 3, 4, 5, 6, 7, 8, 9, 10, 11, 12, 13, 14, 15, 16, 17, 18, 19, 20, 21] rfl) (hD.sub [0, 1, 2, 3, 4, 5, 6, 7, 8, 9, 10, 11, 12, 13, 14, 15, 16, 17, 18, 19, 20, 21] rfl rfl) hS (lv_sub hl [1, 2, 3, 0] rfl)
  · intro o_t_x2 f_t_3_x2 f_t_4_x2 o_t_6_x2 f_t_6_6_x2 f_t_6_7_x2 f_t_6_8_x2 o_r2_x2 H locs ls hF hP hD hS hl
    cases hF
    exact ret_v C0 hP hD hS [0, 1, 2, 3, 4, 5, 6, 7, 8, 9, 10, 11, 12, 13, 14, 15, 16, 17, 18, 19, 20, 21] rfl rfl rfl dX8_tryCups_98

theorem dAX8_search : ∀ q ∈ ([(0, (.aload_n 0, 1)), (1, (.getfield 9, 3)), (4, (.ifCond .eq 4, 3)), (7, (.return_, 1)), (8, (.aload_n 0, 1)), (9, (.iconst 0, 1)), (10, (.putfield 15, 3)), (13, (.aload_n 0, 1)), (14, (.getfield 32, 3)), (17, (.aload_n 1, 1)), (18, (.invokevirtual 39, 3)), (21, (.aload_n 0, 1)), (22, (.getfield 36, 3)), (25, (.aload_n 0, 1)), (26, (.getfield 32, 3)), (29, (.invokevirtual 43, 3)), (32, (.aload_n 0, 1)), (33, (.aload_n 0, 1)), (34, (.getfield 36, 3)), (37, (.aload_n 1, 1)), (38, (.aload_n 2, 1)), (39, (.invokevirtual 47, 3)), (42, (.aload_n 0, 1)), (43, (.aload_n 0, 1)), (44, (.aload_n 1, 1)), (45, (.getfield 51, 3)), (48, (.invokevirtual 57, 3)), (51, (.putfield 19, 3)), (54, (.aload_n 0, 1)), (55, (.aload_n 0, 1)), (56, (.getfield 19, 3)), (59, (.bipush (-2), 2)), (61, (.if_icmp .ne 7, 3)), (64, (.iconst 1, 1)), (65, (.goto 4, 3)), (68, (.iconst 0, 1)), (69, (.bipush (-2), 2)), (71, (.invokevirtual 61, 3)), (74, (.iconst 0, 1)), (75, (.istore_n 3, 1)), (76, (.iload_n 3, 1)), (77, (.bipush 30, 2)), (79, (.if_icmp .gt 38, 3)), (82, (.aload_n 0, 1)), (83, (.getfield 26, 3)), (86, (.iload_n 3, 1)), (87, (.aload_n 0, 1)), (88, (.getfield 32, 3)), (91, (.getfield 65, 3)), (94, (.iastore, 1)), (95, (.aload_n 0, 1)), (96, (.aload_n 1, 1)), (97, (.aload_n 2, 1)), (98, (.invokevirtual 68, 3)), (101, (.aload_n 0, 1)), (102, (.getfield 32, 3)), (105, (.aload_n 1, 1)), (106, (.aload_n 2, 1)), (107, (.invokevirtual 72, 3)), (110, (.pop, 1)), (111, (.iinc 3 1, 3)), (114, (.goto (-38), 3)), (117, (.aload_n 0, 1)), (118, (.iconst 1, 1)), (119, (.putfield 9, 3)), (122, (.return_, 1))] : List (Nat × (Instr × Nat))), decode cX8_search q.1 = .ok q.2 := by decide +kernel
theorem dX8_search_0 : decode cX8_search 0 = .ok (.aload_n 0, 1) := dAX8_search (0, (.aload_n 0, 1)) (List.mem_of_getElem? (i := 0) rfl)
theorem dX8_search_1 : decode cX8_search 1 = .ok (.getfield 9, 3) := dAX8_search (1, (.getfield 9, 3)) (List.mem_of_getElem? (i := 1) rfl)
theorem dX8_search_4 : decode cX8_search 4 = .ok (.ifCond .eq 4, 3) := dAX8_search (4, (.ifCond .eq 4, 3)) (List.mem_of_getElem? (i := 2) rfl)
theorem dX8_search_7 : decode cX8_search 7 = .ok (.return_, 1) := dAX8_search (7, (.return_, 1)) (List.mem_of_getElem? (i := 3) rfl)
theorem dX8_search_8 : decode cX8_search 8 = .ok (.aload_n 0, 1) := dAX8_search (8, (.aload_n 0, 1)) (List.mem_of_getElem? (i := 4) rfl)
theorem dX8_search_9 : decode cX8_search 9 = .ok (.iconst 0, 1) := dAX8_search (9, (.iconst 0, 1)) (List.mem_of_getElem? (i := 5) rfl)
theorem dX8_search_10 : decode cX8_search 10 = .ok (.putfield 15, 3) := dAX8_search (10, (.putfield 15, 3)) (List.mem_of_getElem? (i := 6) rfl)
theorem dX8_search_13 : decode cX8_search 13 = .ok (.aload_n 0, 1) := dAX8_search (13, (.aload_n 0, 1)) (List.mem_of_getElem? (i := 7) rfl)
theorem dX8_search_14 : decode cX8_search 14 = .ok (.getfield 32, 3) := dAX8_search (14, (.getfield 32, 3)) (List.mem_of_getElem? (i := 8) rfl)
theorem dX8_search_17 : decode cX8_search 17 = .ok (.aload_n 1, 1) := dAX8_search (17, (.aload_n 1, 1)) (List.mem_of_getElem? (i := 9) rfl)
theorem dX8_search_18 : decode cX8_search 18 = .ok (.invokevirtual 39, 3) := dAX8_search (18, (.invokevirtual 39, 3)) (List.mem_of_getElem? (i := 10) rfl)
theorem dX8_search_21 : decode cX8_search 21 = .ok (.aload_n 0, 1) := dAX8_search (21, (.aload_n 0, 1)) (List.mem_of_getElem? (i := 11) rfl)
theorem dX8_search_22 : decode cX8_search 22 = .ok (.getfield 36, 3) := dAX8_search (22, (.getfield 36, 3)) (List.mem_of_getElem? (i := 12) rfl)
theorem dX8_search_25 : decode cX8_search 25 = .ok (.aload_n 0, 1) := dAX8_search (25, (.aload_n 0, 1)) (List.mem_of_getElem? (i := 13) rfl)
theorem dX8_search_26 : decode cX8_search 26 = .ok (.getfield 32, 3) := dAX8_search (26, (.getfield 32, 3)) (List.mem_of_getElem? (i := 14) rfl)
theorem dX8_search_29 : decode cX8_search 29 = .ok (.invokevirtual 43, 3) := dAX8_search (29, (.invokevirtual 43, 3)) (List.mem_of_getElem? (i := 15) rfl)
theorem dX8_search_32 : decode cX8_search 32 = .ok (.aload_n 0, 1) := dAX8_search (32, (.aload_n 0, 1)) (List.mem_of_getElem? (i := 16) rfl)
theorem dX8_search_33 : decode cX8_search 33 = .ok (.aload_n 0, 1) := dAX8_search (33, (.aload_n 0, 1)) (List.mem_of_getElem? (i := 17) rfl)
theorem dX8_search_34 : decode cX8_search 34 = .ok (.getfield 36, 3) := dAX8_search (34, (.getfield 36, 3)) (List.mem_of_getElem? (i := 18) rfl)
theorem dX8_search_37 : decode cX8_search 37 = .ok (.aload_n 1, 1) := dAX8_search (37, (.aload_n 1, 1)) (List.mem_of_getElem? (i := 19) rfl)
theorem dX8_search_38 : decode cX8_search 38 = .ok (.aload_n 2, 1) := dAX8_search (38, (.aload_n 2, 1)) (List.mem_of_getElem? (i := 20) rfl)
theorem dX8_search_39 : decode cX8_search 39 = .ok (.invokevirtual 47, 3) := dAX8_search (39, (.invokevirtual 47, 3)) (List.mem_of_getElem? (i := 21) rfl)
theorem dX8_search_42 : decode cX8_search 42 = .ok (.aload_n 0, 1) := dAX8_search (42, (.aload_n 0, 1)) (List.mem_of_getElem? (i := 22) rfl)
theorem dX8_search_43 : decode cX8_search 43 = .ok (.aload_n 0, 1) := dAX8_search (43, (.aload_n 0, 1)) (List.mem_of_getElem? (i := 23) rfl)
theorem dX8_search_44 : decode cX8_search 44 = .ok (.aload_n 1, 1) := dAX8_search (44, (.aload_n 1, 1)) (List.mem_of_getElem? (i := 24) rfl)
theorem dX8_search_45 : decode cX8_search 45 = .ok (.getfield 51, 3) := dAX8_search (45, (.getfield 51, 3)) (List.mem_of_getElem? (i := 25) rfl)
theorem dX8_search_48 : decode cX8_search 48 = .ok (.invokevirtual 57, 3) := dAX8_search (48, (.invokevirtual 57, 3)) (List.mem_of_getElem? (i := 26) rfl)
theorem dX8_search_51 : decode cX8_search 51 = .ok (.putfield 19, 3) := dAX8_search (51, (.putfield 19, 3)) (List.mem_of_getElem? (i := 27) rfl)
theorem dX8_search_54 : decode cX8_search 54 = .ok (.aload_n 0, 1) := dAX8_search (54, (.aload_n 0, 1)) (List.mem_of_getElem? (i := 28) rfl)
theorem dX8_search_55 : decode cX8_search 55 = .ok (.aload_n 0, 1) := dAX8_search (55, (.aload_n 0, 1)) (List.mem_of_getElem? (i := 29) rfl)
theorem dX8_search_56 : decode cX8_search 56 = .ok (.getfield 19, 3) := dAX8_search (56, (.getfield 19, 3)) (List.mem_of_getElem? (i := 30) rfl)
theorem dX8_search_59 : decode cX8_search 59 = .ok (.bipush (-2), 2) := dAX8_search (59, (.bipush (-2), 2)) (List.mem_of_getElem? (i := 31) rfl)
theorem dX8_search_61 : decode cX8_search 61 = .ok (.if_icmp .ne 7, 3) := dAX8_search (61, (.if_icmp .ne 7, 3)) (List.mem_of_getElem? (i := 32) rfl)
theorem dX8_search_64 : decode cX8_search 64 = .ok (.iconst 1, 1) := dAX8_search (64, (.iconst 1, 1)) (List.mem_of_getElem? (i := 33) rfl)
theorem dX8_search_65 : decode cX8_search 65 = .ok (.goto 4, 3) := dAX8_search (65, (.goto 4, 3)) (List.mem_of_getElem? (i := 34) rfl)
theorem dX8_search_68 : decode cX8_search 68 = .ok (.iconst 0, 1) := dAX8_search (68, (.iconst 0, 1)) (List.mem_of_getElem? (i := 35) rfl)
theorem dX8_search_69 : decode cX8_search 69 = .ok (.bipush (-2), 2) := dAX8_search (69, (.bipush (-2), 2)) (List.mem_of_getElem? (i := 36) rfl)
theorem dX8_search_71 : decode cX8_search 71 = .ok (.invokevirtual 61, 3) := dAX8_search (71, (.invokevirtual 61, 3)) (List.mem_of_getElem? (i := 37) rfl)
theorem dX8_search_74 : decode cX8_search 74 = .ok (.iconst 0, 1) := dAX8_search (74, (.iconst 0, 1)) (List.mem_of_getElem? (i := 38) rfl)
theorem dX8_search_75 : decode cX8_search 75 = .ok (.istore_n 3, 1) := dAX8_search (75, (.istore_n 3, 1)) (List.mem_of_getElem? (i := 39) rfl)
theorem dX8_search_76 : decode cX8_search 76 = .ok (.iload_n 3, 1) := dAX8_search (76, (.iload_n 3, 1)) (List.mem_of_getElem? (i := 40) rfl)
theorem dX8_search_77 : decode cX8_search 77 = .ok (.bipush 30, 2) := dAX8_search (77, (.bipush 30, 2)) (List.mem_of_getElem? (i := 41) rfl)
theorem dX8_search_79 : decode cX8_search 79 = .ok (.if_icmp .gt 38, 3) := dAX8_search (79, (.if_icmp .gt 38, 3)) (List.mem_of_getElem? (i := 42) rfl)
theorem dX8_search_82 : decode cX8_search 82 = .ok (.aload_n 0, 1) := dAX8_search (82, (.aload_n 0, 1)) (List.mem_of_getElem? (i := 43) rfl)
theorem dX8_search_83 : decode cX8_search 83 = .ok (.getfield 26, 3) := dAX8_search (83, (.getfield 26, 3)) (List.mem_of_getElem? (i := 44) rfl)
theorem dX8_search_86 : decode cX8_search 86 = .ok (.iload_n 3, 1) := dAX8_search (86, (.iload_n 3, 1)) (List.mem_of_getElem? (i := 45) rfl)
theorem dX8_search_87 : decode cX8_search 87 = .ok (.aload_n 0, 1) := dAX8_search (87, (.aload_n 0, 1)) (List.mem_of_getElem? (i := 46) rfl)
theorem dX8_search_88 : decode cX8_search 88 = .ok (.getfield 32, 3) := dAX8_search (88, (.getfield 32, 3)) (List.mem_of_getElem? (i := 47) rfl)
theorem dX8_search_91 : decode cX8_search 91 = .ok (.getfield 65, 3) := dAX8_search (91, (.getfield 65, 3)) (List.mem_of_getElem? (i := 48) rfl)
theorem dX8_search_94 : decode cX8_search 94 = .ok (.iastore, 1) := dAX8_search (94, (.iastore, 1)) (List.mem_of_getElem? (i := 49) rfl)
theorem dX8_search_95 : decode cX8_search 95 = .ok (.aload_n 0, 1) := dAX8_search (95, (.aload_n 0, 1)) (List.mem_of_getElem? (i := 50) rfl)
theorem dX8_search_96 : decode cX8_search 96 = .ok (.aload_n 1, 1) := dAX8_search (96, (.aload_n 1, 1)) (List.mem_of_getElem? (i := 51) rfl)
theorem dX8_search_97 : decode cX8_search 97 = .ok (.aload_n 2, 1) := dAX8_search (97, (.aload_n 2, 1)) (List.mem_of_getElem? (i := 52) rfl)
theorem dX8_search_98 : decode cX8_search 98 = .ok (.invokevirtual 68, 3) := dAX8_search (98, (.invokevirtual 68, 3)) (List.mem_of_getElem? (i := 53) rfl)
theorem dX8_search_101 : decode cX8_search 101 = .ok (.aload_n 0, 1) := dAX8_search (101, (.aload_n 0, 1)) (List.mem_of_getElem? (i := 54) rfl)
theorem dX8_search_102 : decode cX8_search 102 = .ok (.getfield 32, 3) := dAX8_search (102, (.getfield 32, 3)) (List.mem_of_getElem? (i := 55) rfl)
theorem dX8_search_105 : decode cX8_search 105 = .ok (.aload_n 1, 1) := dAX8_search (105, (.aload_n 1, 1)) (List.mem_of_getElem? (i := 56) rfl)
theorem dX8_search_106 : decode cX8_search 106 = .ok (.aload_n 2, 1) := dAX8_search (106, (.aload_n 2, 1)) (List.mem_of_getElem? (i := 57) rfl)
theorem dX8_search_107 : decode cX8_search 107 = .ok (.invokevirtual 72, 3) := dAX8_search (107, (.invokevirtual 72, 3)) (List.mem_of_getElem? (i := 58) rfl)
theorem dX8_search_110 : decode cX8_search 110 = .ok (.pop, 1) := dAX8_search (110, (.pop, 1)) (List.mem_of_getElem? (i := 59) rfl)
theorem dX8_search_111 : decode cX8_search 111 = .ok (.iinc 3 1, 3) := dAX8_search (111, (.iinc 3 1, 3)) (List.mem_of_getElem? (i := 60) rfl)
theorem dX8_search_114 : decode cX8_search 114 = .ok (.goto (-38), 3) := dAX8_search (114, (.goto (-38), 3)) (List.mem_of_getElem? (i := 61) rfl)
theorem dX8_search_117 : decode cX8_search 117 = .ok (.aload_n 0, 1) := dAX8_search (117, (.aload_n 0, 1)) (List.mem_of_getElem? (i := 62) rfl)
theorem dX8_search_118 : decode cX8_search 118 = .ok (.iconst 1, 1) := dAX8_search (118, (.iconst 1, 1)) (List.mem_of_getElem? (i := 63) rfl)
theorem dX8_search_119 : decode cX8_search 119 = .ok (.putfield 9, 3) := dAX8_search (119, (.putfield 9, 3)) (List.mem_of_getElem? (i := 64) rfl)
theorem dX8_search_122 : decode cX8_search 122 = .ok (.return_, 1) := dAX8_search (122, (.return_, 1)) (List.mem_of_getElem? (i := 65) rfl)
set_option maxRecDepth 20000 in
theorem ggX8_search_X2_begin : GoodIn wsX8_search wsX2_begin := goodIn_r _ [13, 14, 15, 16, 17, 18, 19, 20, 21, 22, 130, 131, 132, 133, 134, 135, 136, 137, 138, 113, 114, 115, 116, 117, 118, 119, 120, 121, 122, 123, 124, 125, 126, 127, 128, 129] rfl (by decide +kernel)
set_option maxRecDepth 20000 in
theorem gX8_search_X2_begin : GoodIn wsX8_search (wsV RX8 39 RX2 yX2_begin wsX2_begin) := goodIn_app (goodIn_of _ (by decide +kernel)) ggX8_search_X2_begin
set_option maxRecDepth 20000 in
theorem ggX8_search_X2_become : GoodIn wsX8_search wsX2_become := goodIn_r _ [26, 14, 16, 18, 19, 20, 27, 28, 29, 30, 22, 130, 131, 132, 133, 134, 135, 136, 137, 138] rfl (by decide +kernel)
set_option maxRecDepth 20000 in
theorem gX8_search_X2_become : GoodIn wsX8_search (wsV RX8 43 RX2 yX2_become wsX2_become) := goodIn_app (goodIn_of _ (by decide +kernel)) ggX8_search_X2_become
set_option maxRecDepth 20000 in
theorem ggX8_search_X8_follow : GoodIn wsX8_search wsX8_follow := goodIn_r _ [35, 36, 7, 8, 37, 38, 39, 12, 40, 14, 41, 42, 43, 44, 15, 45, 16, 20, 46, 47, 48, 49, 50, 51, 52, 53, 54, 55, 56, 57, 58, 59, 60, 61, 62, 63, 64, 65, 66, 67, 68, 69, 70, 71, 72, 73, 74, 75, 76, 22, 77, 78, 130, 131, 132, 133, 134, 135, 136, 137, 138, 106, 107, 108, 109, 110, 111, 112, 113, 114, 115, 116, 117, 118, 119, 120, 121, 122, 123, 124, 125, 126, 127, 128, 129, 139, 140] rfl (by decide +kernel)
set_option maxRecDepth 20000 in
theorem gX8_search_X8_follow : GoodIn wsX8_search (wsV RX8 47 RX8 yX8_follow wsX8_follow) := goodIn_app (goodIn_of _ (by decide +kernel)) ggX8_search_X8_follow
set_option maxRecDepth 20000 in
theorem ggX8_search_X8_firstWrong : GoodIn wsX8_search wsX8_firstWrong := goodIn_r _ [82, 83, 84, 7, 85, 86, 141, 142, 143, 144, 145, 146, 147, 106, 107, 108, 109, 110, 111, 112] rfl (by decide +kernel)
set_option maxRecDepth 20000 in
theorem gX8_search_X8_firstWrong : GoodIn wsX8_search (wsV RX8 57 RX8 yX8_firstWrong wsX8_firstWrong) := goodIn_app (goodIn_of _ (by decide +kernel)) ggX8_search_X8_firstWrong
set_option maxRecDepth 20000 in
theorem ggX8_search_X8_addIf : GoodIn wsX8_search wsX8_addIf := goodIn_r _ [90, 2, 91, 106, 107, 108, 109, 110, 111, 112] rfl (by decide +kernel)
set_option maxRecDepth 20000 in
theorem gX8_search_X8_addIf : GoodIn wsX8_search (wsV RX8 61 RX8 yX8_addIf wsX8_addIf) := goodIn_app (goodIn_of _ (by decide +kernel)) ggX8_search_X8_addIf
set_option maxRecDepth 20000 in
theorem ggX8_search_X8_tryCups : GoodIn wsX8_search wsX8_tryCups := goodIn_r _ [95, 96, 3, 4, 97, 98, 5, 36, 99, 100, 101, 12, 102, 16, 103, 104, 105, 23, 24, 25, 26, 14, 18, 19, 20, 27, 28, 29, 30, 22, 31, 32, 33, 34, 35, 7, 8, 37, 38, 39, 40, 41, 42, 43, 44, 15, 45, 46, 47, 48, 49, 50, 51, 52, 53, 54, 55, 56, 57, 58, 59, 60, 61, 62, 63, 64, 65, 66, 67, 68, 69, 70, 71, 72, 73, 74, 75, 76, 77, 78, 79, 80, 81, 82, 83, 84, 85, 86, 87, 88, 89, 90, 2, 91, 113, 114, 115, 116, 117, 118, 119, 120, 121, 122, 123, 124, 125, 126, 127, 128, 129, 106, 107, 108, 109, 110, 111, 112, 130, 131, 132, 133, 134, 135, 136, 137, 138, 139, 140, 141, 142, 143, 144, 145, 146, 147] rfl (by decide +kernel)
set_option maxRecDepth 20000 in
theorem gX8_search_X8_tryCups : GoodIn wsX8_search (wsV RX8 68 RX8 yX8_tryCups wsX8_tryCups) := goodIn_app (goodIn_of _ (by decide +kernel)) ggX8_search_X8_tryCups
set_option maxRecDepth 20000 in
theorem ggX8_search_X2_pass : GoodIn wsX8_search wsX2_pass := goodIn_r _ [40, 14, 41, 42, 43, 12, 44, 15, 45, 16, 20, 46, 47, 48, 49, 50, 51, 52, 53, 54, 55, 56, 57, 58, 59, 60, 61, 62, 63, 64, 65, 66, 67, 68, 69, 70, 71, 72, 73, 74, 75, 76, 22, 77, 78, 130, 131, 132, 133, 134, 135, 136, 137, 138, 113, 114, 115, 116, 117, 118, 119, 120, 121, 122, 123, 124, 125, 126, 127, 128, 129, 139, 140] rfl (by decide +kernel)
set_option maxRecDepth 20000 in
theorem gX8_search_X2_pass : GoodIn wsX8_search (wsV RX8 72 RX2 yX2_pass wsX2_pass) := goodIn_app (goodIn_of _ (by decide +kernel)) ggX8_search_X2_pass
theorem kX8_search_9 : Cond.fieldLink RX8 9 "EveningVow$Unseen" "known" "Z" ∈ wsX8_search := List.mem_of_getElem? (i := 1) rfl
theorem iX8_search_X8 : ∀ w ∈ u_ws RX8 TX8 7, w ∈ wsX8_search := fun w h => (List.mem_cons_of_mem _ (List.mem_append_left _ (List.mem_append_left _ (List.mem_append_left _ (List.mem_append_left _ (List.mem_append_right _ h))))))
theorem kX8_search_15 : Cond.fieldLink RX8 15 "EveningVow$Unseen" "ways" "I" ∈ wsX8_search := List.mem_of_getElem? (i := 2) rfl
theorem kX8_search_32 : Cond.fieldLink RX8 32 "EveningVow$Unseen" "base" "LEveningVow$Night;" ∈ wsX8_search := List.mem_of_getElem? (i := 3) rfl
theorem kX8_search_36 : Cond.fieldLink RX8 36 "EveningVow$Unseen" "trial" "LEveningVow$Night;" ∈ wsX8_search := List.mem_of_getElem? (i := 4) rfl
theorem kX8_search_51 : Cond.fieldLink RX8 51 "EveningVow$House" "town" "LEveningVow$Town;" ∈ wsX8_search := List.mem_of_getElem? (i := 5) rfl
theorem iX8_search_X1 : ∀ w ∈ u_ws RX1 TX1 17, w ∈ wsX8_search := fun w h => (List.mem_cons_of_mem _ (List.mem_append_left _ (List.mem_append_left _ (List.mem_append_left _ (List.mem_append_right _ h)))))
theorem kX8_search_19 : Cond.fieldLink RX8 19 "EveningVow$Unseen" "wrongSight" "I" ∈ wsX8_search := List.mem_of_getElem? (i := 6) rfl
theorem kX8_search_26 : Cond.fieldLink RX8 26 "EveningVow$Unseen" "thereAt" "[I" ∈ wsX8_search := List.mem_of_getElem? (i := 7) rfl
theorem kX8_search_65 : Cond.fieldLink RX8 65 "EveningVow$Night" "there" "I" ∈ wsX8_search := List.mem_of_getElem? (i := 8) rfl
theorem iX8_search_X2 : ∀ w ∈ u_ws RX2 TX2 9, w ∈ wsX8_search := fun w h => (List.mem_cons_of_mem _ (List.mem_append_left _ (List.mem_append_left _ (List.mem_append_right _ h))))
set_option maxHeartbeats 4000000 in
set_option maxRecDepth 100000 in
theorem wX8_search_L76 {p : Program} {l : Launch} {e : Env} {s : State} {m : MethodId} {args : Array Value} {below : List Frame} {meth : Method} {c : Code} {g : GG} {A : Nat → Prop} (C0 : Cx p s m args meth c cX8_search 4 none RX8 wsX8_search g A) (a_t : Nat) (a_r1 : Nat) (a_r2 : Nat) (p_t : Nat → Nat) (p_t_5 : Nat → Nat) (p_t_6 : Nat → Nat) (p_r1 : Nat → Nat) (p_r1_16 : Nat → Nat) (p_r2 : Nat → Nat) (n : Nat) (o_r1 : Nat → Int32) (f_r1_4 : Nat → Int32) (f_r1_6 : Nat → Int32) (f_r1_7 : Nat → Int32) (f_r1_10 : Nat → Int32) (f_r1_11 : Nat → Int32) (f_r1_12 : Nat → Int32) (o_r1_16 : Nat → Int32) (f_r1_16_4 : Nat → Int32) (f_r1_16_5 : Nat → Int32) (f_r1_16_6 : Nat → Int32) (f_r1_5 : Nat → Int32) (o_t' : Nat → Int32) (f_t_3' : Nat → Int32) (f_t_4' : Nat → Int32) (o_t_5' : Nat → Int32) (f_t_5_6' : Nat → Int32) (f_t_5_7' : Nat → Int32) (f_t_5_8' : Nat → Int32) (o_t_6' : Nat → Int32) (f_t_6_6' : Nat → Int32) (f_t_6_7' : Nat → Int32) (f_t_6_8' : Nat → Int32) (o_r2' : Nat → Int32) (K : (Nat → Int32) → (Nat → Int32) → (Nat → Int32) → (Nat → Int32) → (Nat → Int32) → (Nat → Int32) → (Nat → Int32) → (Nat → Int32) → (Nat → Int32) → (Nat → Int32) → (Nat → Int32) → (Nat → Int32) → Option ((Nat → Int32) × (Nat → Int32) × (Nat → Int32) × (Nat → Int32) × (Nat → Int32) × (Nat → Int32) × (Nat → Int32) × (Nat → Int32) × (Nat → Int32) × (Nat → Int32) × (Nat → Int32) × (Nat → Int32))) (hKx : ∀ (o_t : Nat → Int32) (f_t_3 : Nat → Int32) (f_t_4 : Nat → Int32) (o_t_5 : Nat → Int32) (f_t_5_6 : Nat → Int32) (f_t_5_7 : Nat → Int32) (f_t_5_8 : Nat → Int32) (o_t_6 : Nat → Int32) (f_t_6_6 : Nat → Int32) (f_t_6_7 : Nat → Int32) (f_t_6_8 : Nat → Int32) (o_r2 : Nat → Int32) (H : Heap) (locs : List Loc) (ls : Array Slot), K o_t f_t_3 f_t_4 o_t_5 f_t_5_6 f_t_5_7 f_t_5_8 o_t_6 f_t_6_6 f_t_6_7 f_t_6_8 o_r2 = some (o_t', f_t_3', f_t_4', o_t_5', f_t_5_6', f_t_5_7', f_t_5_8', o_t_6', f_t_6_6', f_t_6_7', f_t_6_8', o_r2') → va_P g.1 vwCl [oX8 a_t p_t o_t, aI g (p_t 3) 218 f_t_3, aI g (p_t 4) 31 f_t_4, oX2 (p_t 5) p_t_5 o_t_5, aI g (p_t_5 6) 7 f_t_5_6, aI g (p_t_5 7) 7 f_t_5_7, aI g (p_t_5 8) 7 f_t_5_8, oX2 (p_t 6) p_t_6 o_t_6, aI g (p_t_6 6) 7 f_t_6_6, aI g (p_t_6 7) 7 f_t_6_7, aI g (p_t_6 8) 7 f_t_6_8, oX1 a_r1 p_r1 o_r1, aI g (p_r1 4) 7 f_r1_4, aI g (p_r1 5) 7 f_r1_5, aI g (p_r1 6) 7 f_r1_6, aI g (p_r1 7) 7 f_r1_7, aI g (p_r1 10) 8 f_r1_10, aI g (p_r1 11) 8 f_r1_11, aI g (p_r1 12) 8 f_r1_12, oX7 (p_r1 16) p_r1_16 o_r1_16, aI g (p_r1_16 4) 6 f_r1_16_4, aI g (p_r1_16 5) 6 f_r1_16_5, aI g (p_r1_16 6) 6 f_r1_16_6, oX3 a_r2 p_r2 o_r2] H → va_D A [oX8 a_t p_t o_t, aI g (p_t 3) 218 f_t_3, aI g (p_t 4) 31 f_t_4, oX2 (p_t 5) p_t_5 o_t_5, aI g (p_t_5 6) 7 f_t_5_6, aI g (p_t_5 7) 7 f_t_5_7, aI g (p_t_5 8) 7 f_t_5_8, oX2 (p_t 6) p_t_6 o_t_6, aI g (p_t_6 6) 7 f_t_6_6, aI g (p_t_6 7) 7 f_t_6_7, aI g (p_t_6 8) 7 f_t_6_8, oX1 a_r1 p_r1 o_r1, aI g (p_r1 4) 7 f_r1_4, aI g (p_r1 5) 7 f_r1_5, aI g (p_r1 6) 7 f_r1_6, aI g (p_r1 7) 7 f_r1_7, aI g (p_r1 10) 8 f_r1_10, aI g (p_r1 11) 8 f_r1_11, aI g (p_r1 12) 8 f_r1_12, oX7 (p_r1 16) p_r1_16 o_r1_16, aI g (p_r1_16 4) 6 f_r1_16_4, aI g (p_r1_16 5) 6 f_r1_16_5, aI g (p_r1_16 6) 6 f_r1_16_6, oX3 a_r2 p_r2 o_r2] → va_S A s.heap H locs → lv_has ls 4 [(0, .ref a_t)] → W p l e ({ frames := 5, cells := 0, slots := 0, locals := 118 } : Room) s m args below meth c H locs 0 0 (MQ below (EndV g [oX8 a_t p_t o_t', aI g (p_t 3) 218 f_t_3', aI g (p_t 4) 31 f_t_4', oX2 (p_t 5) p_t_5 o_t_5', aI g (p_t_5 6) 7 f_t_5_6', aI g (p_t_5 7) 7 f_t_5_7', aI g (p_t_5 8) 7 f_t_5_8', oX2 (p_t 6) p_t_6 o_t_6', aI g (p_t_6 6) 7 f_t_6_6', aI g (p_t_6 7) 7 f_t_6_7', aI g (p_t_6 8) 7 f_t_6_8', oX1 a_r1 p_r1 o_r1, aI g (p_r1 4) 7 f_r1_4, aI g (p_r1 5) 7 f_r1_5, aI g (p_r1 6) 7 f_r1_6, aI g (p_r1 7) 7 f_r1_7, aI g (p_r1 10) 8 f_r1_10, aI g (p_r1 11) 8 f_r1_11, aI g (p_r1 12) 8 f_r1_12, oX7 (p_r1 16) p_r1_16 o_r1_16, aI g (p_r1_16 4) 6 f_r1_16_4, aI g (p_r1_16 5) 6 f_r1_16_5, aI g (p_r1_16 6) 6 f_r1_16_6, oX3 a_r2 p_r2 o_r2'] A) args s 0 0 A) (F0 m 117 ls [])) : ∀ (k : Nat) (x3 : Int32) (o_t : Nat → Int32) (f_t_3 : Nat → Int32) (f_t_4 : Nat → Int32) (o_t_5 : Nat → Int32) (f_t_5_6 : Nat → Int32) (f_t_5_7 : Nat → Int32) (f_t_5_8 : Nat → Int32) (o_t_6 : Nat → Int32) (f_t_6_6 : Nat → Int32) (f_t_6_7 : Nat → Int32) (f_t_6_8 : Nat → Int32) (o_r2 : Nat → Int32), fX8_search_L76 n o_r1 f_r1_4 f_r1_6 f_r1_7 f_r1_10 f_r1_11 f_r1_12 o_r1_16 f_r1_16_4 f_r1_16_5 f_r1_16_6 K k x3 o_t f_t_3 f_t_4 o_t_5 f_t_5_6 f_t_5_7 f_t_5_8 o_t_6 f_t_6_6 f_t_6_7 f_t_6_8 o_r2 = some (o_t', f_t_3', f_t_4', o_t_5', f_t_5_6', f_t_5_7', f_t_5_8', o_t_6', f_t_6_6', f_t_6_7', f_t_6_8', o_r2') → ∀ (H : Heap) (locs : List Loc) (ls : Array Slot), va_P g.1 vwCl [oX8 a_t p_t o_t, aI g (p_t 3) 218 f_t_3, aI g (p_t 4) 31 f_t_4, oX2 (p_t 5) p_t_5 o_t_5, aI g (p_t_5 6) 7 f_t_5_6, aI g (p_t_5 7) 7 f_t_5_7, aI g (p_t_5 8) 7 f_t_5_8, oX2 (p_t 6) p_t_6 o_t_6, aI g (p_t_6 6) 7 f_t_6_6, aI g (p_t_6 7) 7 f_t_6_7, aI g (p_t_6 8) 7 f_t_6_8, oX1 a_r1 p_r1 o_r1, aI g (p_r1 4) 7 f_r1_4, aI g (p_r1 5) 7 f_r1_5, aI g (p_r1 6) 7 f_r1_6, aI g (p_r1 7) 7 f_r1_7, aI g (p_r1 10) 8 f_r1_10, aI g (p_r1 11) 8 f_r1_11, aI g (p_r1 12) 8 f_r1_12, oX7 (p_r1 16) p_r1_16 o_r1_16, aI g (p_r1_16 4) 6 f_r1_16_4, aI g (p_r1_16 5) 6 f_r1_16_5, aI g (p_r1_16 6) 6 f_r1_16_6, oX3 a_r2 p_r2 o_r2] H → va_D A [oX8 a_t p_t o_t, aI g (p_t 3) 218 f_t_3, aI g (p_t 4) 31 f_t_4, oX2 (p_t 5) p_t_5 o_t_5, aI g (p_t_5 6) 7 f_t_5_6, aI g (p_t_5 7) 7 f_t_5_7, aI g (p_t_5 8) 7 f_t_5_8, oX2 (p_t 6) p_t_6 o_t_6, aI g (p_t_6 6) 7 f_t_6_6, aI g (p_t_6 7) 7 f_t_6_7, aI g (p_t_6 8) 7 f_t_6_8, oX1 a_r1 p_r1 o_r1, aI g (p_r1 4) 7 f_r1_4, aI g (p_r1 5) 7 f_r1_5, aI g (p_r1 6) 7 f_r1_6, aI g (p_r1 7) 7 f_r1_7, aI g (p_r1 10) 8 f_r1_10, aI g (p_r1 11) 8 f_r1_11, aI g (p_r1 12) 8 f_r1_12, oX7 (p_r1 16) p_r1_16 o_r1_16, aI g (p_r1_16 4) 6 f_r1_16_4, aI g (p_r1_16 5) 6 f_r1_16_5, aI g (p_r1_16 6) 6 f_r1_16_6, oX3 a_r2 p_r2 o_r2] → va_S A s.heap H locs → lv_has ls 4 [(0, .ref a_t), (1, .ref a_r1), (2, .ref a_r2), (3, .int x3)] → W p l e ({ frames := 5, cells := 0, slots := 0, locals := 118 } : Room) s m args below meth c H locs 0 0 (MQ below (EndV g [oX8 a_t p_t o_t', aI g (p_t 3) 218 f_t_3', aI g (p_t 4) 31 f_t_4', oX2 (p_t 5) p_t_5 o_t_5', aI g (p_t_5 6) 7 f_t_5_6', aI g (p_t_5 7) 7 f_t_5_7', aI g (p_t_5 8) 7 f_t_5_8', oX2 (p_t 6) p_t_6 o_t_6', aI g (p_t_6 6) 7 f_t_6_6', aI g (p_t_6 7) 7 f_t_6_7', aI g (p_t_6 8) 7 f_t_6_8', oX1 a_r1 p_r1 o_r1, aI g (p_r1 4) 7 f_r1_4, aI g (p_r1 5) 7 f_r1_5, aI g (p_r1 6) 7 f_r1_6, aI g (p_r1 7) 7 f_r1_7, aI g (p_r1 10) 8 f_r1_10, aI g (p_r1 11) 8 f_r1_11, aI g (p_r1 12) 8 f_r1_12, oX7 (p_r1 16) p_r1_16 o_r1_16, aI g (p_r1_16 4) 6 f_r1_16_4, aI g (p_r1_16 5) 6 f_r1_16_5, aI g (p_r1_16 6) 6 f_r1_16_6, oX3 a_r2 p_r2 o_r2'] A) args s 0 0 A) (F0 m 76 ls []) := by
  obtain ⟨hx, hb, hml, hown, hts, hr, hlk, hK, hA, hSW⟩ := id C0
  intro k
  induction k with
  | zero =>
    intro x3 o_t f_t_3 f_t_4 o_t_5 f_t_5_6 f_t_5_7 f_t_5_8 o_t_6 f_t_6_6 f_t_6_7 f_t_6_8 o_r2 hF
    exact absurd hF (by simp [fX8_search_L76])
  | succ k ih =>
    intro x3 o_t f_t_3 f_t_4 o_t_5 f_t_5_6 f_t_5_7 f_t_5_8 o_t_6 f_t_6_6 f_t_6_7 f_t_6_8 o_r2 hF H locs ls hP hD hS hl
    rw [fX8_search_L76] at hF
    refine lv_iload_n hx hb dX8_search_76 rfl (lv_at hl 3 rfl) ?_
    refine lv_bipush (v := (30 : Int32)) hx hb dX8_search_77 (by decide) ?_
    refine lv_icmp_gt (tgt := 117) hx hb dX8_search_79 (by decide) (fun c_23 => ?_) (fun c_23 => ?_)
    · have hF := it_p c_23 hF
      exact hKx o_t f_t_3 f_t_4 o_t_5 f_t_5_6 f_t_5_7 f_t_5_8 o_t_6 f_t_6_6 f_t_6_7 f_t_6_8 o_r2 _ _ _ hF (hP.sub [0, 1, 2, 3, 4, 5, 6, 7, 8, 9, 10, 11, 12, 13, 14, 15, 16, 17, 18, 19, 20, 21, 22, 23] rfl) (hD.sub [0, 1, 2, 3, 4, 5, 6, 7, 8, 9, 10, 11, 12, 13, 14, 15, 16, 17, 18, 19, 20, 21, 22, 23] rfl rfl) hS (lv_sub hl [0] rfl)
    · have hF := it_n c_23 hF
      refine lv_aload_n hx hb dX8_search_82 rfl (lv_at hl 0 rfl) ?_
      refine va_get (D := g.1) (ci := 8) (v := .ref (p_t 4)) (C := RX8) (T := TX8) (N := 7) hx hb hts iX8_search_X8 hown hK.1 hP 0 rfl rfl 4 (by decide) (hts _ kX8_search_26) (fun _ h9 => h9) rfl dX8_search_83 ?_
      refine lv_iload_n hx hb dX8_search_86 rfl (lv_at hl 3 rfl) ?_
      refine lv_aload_n hx hb dX8_search_87 rfl (lv_at hl 0 rfl) ?_
      refine va_get (D := g.1) (ci := 8) (v := .ref (p_t 5)) (C := RX8) (T := TX8) (N := 7) hx hb hts iX8_search_X8 hown hK.1 hP 0 rfl rfl 5 (by decide) (hts _ kX8_search_32) (fun _ h9 => h9) rfl dX8_search_88 ?_
      refine va_get (D := g.1) (ci := 2) (v := .int (o_t_5 1)) (C := RX2) (T := TX2) (N := 9) hx hb hts iX8_search_X2 hown hK.1 hP 3 rfl rfl 1 (by decide) (hts _ kX8_search_65) (fun _ h9 => h9) rfl dX8_search_91 ?_
      obtain ⟨h_24, hF⟩ := it_ck hF
      refine va_iast hx hb hK.1 hP hD hS 2 0 rfl rfl h_24 dX8_search_94 (fun H locs hP hD hS => ?_)
      have hP : va_P g.1 vwCl [oX8 a_t p_t o_t, aI g (p_t 3) 218 f_t_3, aI g (p_t 4) 31 (upd f_t_4 (x3).toNatClampNeg (o_t_5 1)), oX2 (p_t 5) p_t_5 o_t_5, aI g (p_t_5 6) 7 f_t_5_6, aI g (p_t_5 7) 7 f_t_5_7, aI g (p_t_5 8) 7 f_t_5_8, oX2 (p_t 6) p_t_6 o_t_6, aI g (p_t_6 6) 7 f_t_6_6, aI g (p_t_6 7) 7 f_t_6_7, aI g (p_t_6 8) 7 f_t_6_8, oX1 a_r1 p_r1 o_r1, aI g (p_r1 4) 7 f_r1_4, aI g (p_r1 5) 7 f_r1_5, aI g (p_r1 6) 7 f_r1_6, aI g (p_r1 7) 7 f_r1_7, aI g (p_r1 10) 8 f_r1_10, aI g (p_r1 11) 8 f_r1_11, aI g (p_r1 12) 8 f_r1_12, oX7 (p_r1 16) p_r1_16 o_r1_16, aI g (p_r1_16 4) 6 f_r1_16_4, aI g (p_r1_16 5) 6 f_r1_16_5, aI g (p_r1_16 6) 6 f_r1_16_6, oX3 a_r2 p_r2 o_r2] H := hP
      have hD : va_D A [oX8 a_t p_t o_t, aI g (p_t 3) 218 f_t_3, aI g (p_t 4) 31 (upd f_t_4 (x3).toNatClampNeg (o_t_5 1)), oX2 (p_t 5) p_t_5 o_t_5, aI g (p_t_5 6) 7 f_t_5_6, aI g (p_t_5 7) 7 f_t_5_7, aI g (p_t_5 8) 7 f_t_5_8, oX2 (p_t 6) p_t_6 o_t_6, aI g (p_t_6 6) 7 f_t_6_6, aI g (p_t_6 7) 7 f_t_6_7, aI g (p_t_6 8) 7 f_t_6_8, oX1 a_r1 p_r1 o_r1, aI g (p_r1 4) 7 f_r1_4, aI g (p_r1 5) 7 f_r1_5, aI g (p_r1 6) 7 f_r1_6, aI g (p_r1 7) 7 f_r1_7, aI g (p_r1 10) 8 f_r1_10, aI g (p_r1 11) 8 f_r1_11, aI g (p_r1 12) 8 f_r1_12, oX7 (p_r1 16) p_r1_16 o_r1_16, aI g (p_r1_16 4) 6 f_r1_16_4, aI g (p_r1_16 5) 6 f_r1_16_5, aI g (p_r1_16 6) 6 f_r1_16_6, oX3 a_r2 p_r2 o_r2] := hD
      refine lv_aload_n hx hb dX8_search_95 rfl (lv_at hl 0 rfl) ?_
      refine lv_aload_n hx hb dX8_search_96 rfl (lv_at hl 1 rfl) ?_
      refine lv_aload_n hx hb dX8_search_97 rfl (lv_at hl 2 rfl) ?_
      obtain ⟨u_25, u_26, u_27, u_28, u_29, u_30, u_31, u_32, hu_33, hF⟩ := ob8_some hF
      refine call_v (wr := [aI g (p_t_5 8) 7 f_t_5_8, aI g (p_r1 5) 7 f_r1_5]) (As := [.ref a_r1, .ref a_r2]) (rest := []) (ci := 8) (q0 := 0) C0 (mX8_tryCups l g a_t a_r1 a_r2 p_t p_t_5 p_t_6 p_r1 p_r1_16 p_r2 n o_t f_t_3 (upd f_t_4 (x3).toNatClampNeg (o_t_5 1)) o_t_5 f_t_5_6 f_t_5_7 o_t_6 f_t_6_6 f_t_6_7 f_t_6_8 o_r1 f_r1_4 f_r1_6 f_r1_7 f_r1_10 f_r1_11 f_r1_12 o_r1_16 f_r1_16_4 f_r1_16_5 f_r1_16_6 o_r2 u_25 u_26 u_27 u_28 u_29 u_30 u_31 u_32 hu_33) (cwV 2 hts gX8_search_X8_tryCups rfl rfl rfl (by decide +kernel) ⟨Nat.le_of_ble_eq_true rfl, Nat.le_of_ble_eq_true rfl⟩) hP hD hS [0, 1, 2, 3, 4, 5, 7, 8, 9, 10, 11, 12, 14, 15, 16, 17, 18, 19, 20, 21, 22, 23] [6, 13] rfl rfl rfl rfl rfl (by decide) rfl rfl hl.1 rfl rfl (Nat.le_of_ble_eq_true rfl) ⟨Nat.zero_le _, Nat.zero_le _⟩ dX8_search_98 ?_
      intro H locs hP hD hS
      refine lv_aload_n hx hb dX8_search_101 rfl (lv_at hl 0 rfl) ?_
      refine va_get (D := g.1) (ci := 8) (v := .ref (p_t 5)) (C := RX8) (T := TX8) (N := 7) hx hb hts iX8_search_X8 hown hK.1 hP 2 rfl rfl 5 (by decide) (hts _ kX8_search_32) (fun _ h9 => h9) rfl dX8_search_102 ?_
      refine lv_aload_n hx hb dX8_search_105 rfl (lv_at hl 1 rfl) ?_
      refine lv_aload_n hx hb dX8_search_106 rfl (lv_at hl 2 rfl) ?_
      obtain ⟨u_34, u_35, u_36, u_37, u_38, u_39, hu_40, hF⟩ := ob6_some hF
      refine call_i (wr := [aI g (p_r1 5) 7 f_r1_5, oX8 a_t p_t u_25, aI g (p_t 3) 218 u_26, aI g (p_t 4) 31 u_27, oX2 (p_t 6) p_t_6 u_28, aI g (p_t_6 6) 7 u_29, aI g (p_t_6 7) 7 u_30, aI g (p_t_6 8) 7 u_31, oX7 (p_r1 16) p_r1_16 o_r1_16, aI g (p_r1_16 4) 6 f_r1_16_4, aI g (p_r1_16 5) 6 f_r1_16_5, aI g (p_r1_16 6) 6 f_r1_16_6]) (As := [.ref a_r1, .ref a_r2]) (rest := []) (ci := 2) (q0 := 0) C0 (mX2_pass l g (p_t 5) a_r1 a_r2 p_t_5 p_r1 p_r2 n o_t_5 f_t_5_6 f_t_5_7 f_t_5_8 o_r1 f_r1_4 f_r1_6 f_r1_7 f_r1_10 f_r1_11 f_r1_12 u_32 u_34 u_35 u_36 u_37 u_38 u_39 hu_40) (cwV 2 hts gX8_search_X2_pass rfl rfl rfl (by decide +kernel) ⟨Nat.le_of_ble_eq_true rfl, Nat.le_of_ble_eq_true rfl⟩) hP hD hS [5, 6, 7, 0, 12, 13, 14, 15, 16, 17, 18, 23] [1, 2, 3, 4, 8, 9, 10, 11, 19, 20, 21, 22] rfl rfl rfl rfl rfl (by decide) rfl rfl hl.1 rfl rfl (Nat.le_of_ble_eq_true rfl) ⟨Nat.zero_le _, Nat.zero_le _⟩ dX8_search_107 ?_
      intro H locs hP hD hS
      refine lv_pop hx hb dX8_search_110 rfl ?_
      refine lv_iinc (v := (x3 + (1 : Int32))) (lv' := [(3, .int (x3 + (1 : Int32))), (0, .ref a_t), (1, .ref a_r1), (2, .ref a_r2)]) hx hb dX8_search_111 hl (k := 3) rfl rfl (by decide) rfl (fun ls hl => ?_)
      refine lv_goto (tgt := 76) hx hb dX8_search_114 (by decide) ?_
      exact ih (x3 + (1 : Int32)) u_25 u_26 u_27 u_35 u_36 u_37 u_38 u_28 u_29 u_30 u_31 u_39 hF _ _ _ (hP.sub [1, 2, 3, 12, 13, 14, 15, 4, 5, 6, 7, 16, 17, 0, 18, 19, 20, 21, 22, 8, 9, 10, 11, 23] rfl) (hD.sub [1, 2, 3, 12, 13, 14, 15, 4, 5, 6, 7, 16, 17, 0, 18, 19, 20, 21, 22, 8, 9, 10, 11, 23] rfl rfl) hS (lv_sub hl [1, 2, 3, 0] rfl)
set_option maxHeartbeats 4000000 in
set_option maxRecDepth 100000 in
theorem mX8_search (l : Launch) (g : GG) (a_t : Nat) (a_r1 : Nat) (a_r2 : Nat) (p_t : Nat → Nat) (p_t_5 : Nat → Nat) (p_t_6 : Nat → Nat) (p_r1 : Nat → Nat) (p_r1_16 : Nat → Nat) (p_r2 : Nat → Nat) (n : Nat) (o_t : Nat → Int32) (f_t_3 : Nat → Int32) (f_t_4 : Nat → Int32) (o_t_5 : Nat → Int32) (f_t_5_6 : Nat → Int32) (f_t_5_7 : Nat → Int32) (f_t_5_8 : Nat → Int32) (o_t_6 : Nat → Int32) (f_t_6_6 : Nat → Int32) (f_t_6_7 : Nat → Int32) (f_t_6_8 : Nat → Int32) (o_r1 : Nat → Int32) (f_r1_4 : Nat → Int32) (f_r1_5 : Nat → Int32) (f_r1_6 : Nat → Int32) (f_r1_7 : Nat → Int32) (f_r1_10 : Nat → Int32) (f_r1_11 : Nat → Int32) (f_r1_12 : Nat → Int32) (o_r1_16 : Nat → Int32) (f_r1_16_4 : Nat → Int32) (f_r1_16_5 : Nat → Int32) (f_r1_16_6 : Nat → Int32) (o_r2 : Nat → Int32) (o_t' : Nat → Int32) (f_t_3' : Nat → Int32) (f_t_4' : Nat → Int32) (o_t_5' : Nat → Int32) (f_t_5_6' : Nat → Int32) (f_t_5_7' : Nat → Int32) (f_t_5_8' : Nat → Int32) (o_t_6' : Nat → Int32) (f_t_6_6' : Nat → Int32) (f_t_6_7' : Nat → Int32) (f_t_6_8' : Nat → Int32) (o_r2' : Nat → Int32) (hF : fX8_search n o_t f_t_3 f_t_4 o_t_5 f_t_5_6 f_t_5_7 f_t_5_8 o_t_6 f_t_6_6 f_t_6_7 f_t_6_8 o_r1 f_r1_4 f_r1_5 f_r1_6 f_r1_7 f_r1_10 f_r1_11 f_r1_12 o_r1_16 f_r1_16_4 f_r1_16_5 f_r1_16_6 o_r2 = some (o_t', f_t_3', f_t_4', o_t_5', f_t_5_6', f_t_5_7', f_t_5_8', o_t_6', f_t_6_6', f_t_6_7', f_t_6_8', o_r2')) : MV l g yX8_search wsX8_search ({ frames := 5, cells := 0, slots := 0, locals := 118 } : Room) [.ref a_t, .ref a_r1, .ref a_r2] [oX8 a_t p_t o_t, aI g (p_t 3) 218 f_t_3, aI g (p_t 4) 31 f_t_4, oX2 (p_t 5) p_t_5 o_t_5, aI g (p_t_5 6) 7 f_t_5_6, aI g (p_t_5 7) 7 f_t_5_7, aI g (p_t_5 8) 7 f_t_5_8, oX2 (p_t 6) p_t_6 o_t_6, aI g (p_t_6 6) 7 f_t_6_6, aI g (p_t_6 7) 7 f_t_6_7, aI g (p_t_6 8) 7 f_t_6_8, oX1 a_r1 p_r1 o_r1, aI g (p_r1 4) 7 f_r1_4, aI g (p_r1 5) 7 f_r1_5, aI g (p_r1 6) 7 f_r1_6, aI g (p_r1 7) 7 f_r1_7, aI g (p_r1 10) 8 f_r1_10, aI g (p_r1 11) 8 f_r1_11, aI g (p_r1 12) 8 f_r1_12, oX7 (p_r1 16) p_r1_16 o_r1_16, aI g (p_r1_16 4) 6 f_r1_16_4, aI g (p_r1_16 5) 6 f_r1_16_5, aI g (p_r1_16 6) 6 f_r1_16_6, oX3 a_r2 p_r2 o_r2] [oX8 a_t p_t o_t', aI g (p_t 3) 218 f_t_3', aI g (p_t 4) 31 f_t_4', oX2 (p_t 5) p_t_5 o_t_5', aI g (p_t_5 6) 7 f_t_5_6', aI g (p_t_5 7) 7 f_t_5_7', aI g (p_t_5 8) 7 f_t_5_8', oX2 (p_t 6) p_t_6 o_t_6', aI g (p_t_6 6) 7 f_t_6_6', aI g (p_t_6 7) 7 f_t_6_7', aI g (p_t_6 8) 7 f_t_6_8', oX1 a_r1 p_r1 o_r1, aI g (p_r1 4) 7 f_r1_4, aI g (p_r1 5) 7 f_r1_5, aI g (p_r1 6) 7 f_r1_6, aI g (p_r1 7) 7 f_r1_7, aI g (p_r1 10) 8 f_r1_10, aI g (p_r1 11) 8 f_r1_11, aI g (p_r1 12) 8 f_r1_12, oX7 (p_r1 16) p_r1_16 o_r1_16, aI g (p_r1_16 4) 6 f_r1_16_4, aI g (p_r1_16 5) 6 f_r1_16_5, aI g (p_r1_16 6) 6 f_r1_16_6, oX3 a_r2 p_r2 o_r2'] := by
  refine MV.of (cc := cX8_search) (maxL := 4) (own := RX8) rfl rfl (by decide) (Nat.le_of_ble_eq_true rfl) ?_
  intro p e s m args below meth c A C0 hP hD hS ls hl
  obtain ⟨hx, hb, hml, hown, hts, hr, hlk, hK, hA, hSW⟩ := id C0
  have hl : lv_has ls 4 [(0, .ref a_t), (1, .ref a_r1), (2, .ref a_r2)] := hl
  rw [fX8_search] at hF
  refine lv_aload_n hx hb dX8_search_0 rfl (lv_at hl 0 rfl) ?_
  refine va_get (D := g.1) (ci := 8) (v := .int (o_t 0)) (C := RX8) (T := TX8) (N := 7) hx hb hts iX8_search_X8 hown hK.1 hP 0 rfl rfl 0 (by decide) (hts _ kX8_search_9) (fun _ h9 => h9) rfl dX8_search_1 ?_
  refine lv_if_eq (tgt := 8) hx hb dX8_search_4 (by decide) (fun c_1 => ?_) (fun c_1 => ?_)
  · have hF := it_p c_1 hF
    refine lv_aload_n hx hb dX8_search_8 rfl (lv_at hl 0 rfl) ?_
    refine lv_iconst (v := (0 : Int32)) hx hb dX8_search_9 (by decide) ?_
    refine va_put (D := g.1) (ci := 8) (v := .int (0 : Int32)) (ty := .int) (C := RX8) (T := TX8) (N := 7) hx hb hts iX8_search_X8 tyX8 tyX8_ok nmX8 hown hK.1 hP hD hS 0 rfl rfl 1 (by decide) (hts _ kX8_search_15) (fun _ h9 => h9) rfl (by decide +kernel) rfl rfl (Nat.le_of_ble_eq_true rfl) dX8_search_10 (fun H locs hP hD hS => ?_)
    have hP : va_P g.1 vwCl [oX8 a_t p_t (upd o_t 1 (0 : Int32)), aI g (p_t 3) 218 f_t_3, aI g (p_t 4) 31 f_t_4, oX2 (p_t 5) p_t_5 o_t_5, aI g (p_t_5 6) 7 f_t_5_6, aI g (p_t_5 7) 7 f_t_5_7, aI g (p_t_5 8) 7 f_t_5_8, oX2 (p_t 6) p_t_6 o_t_6, aI g (p_t_6 6) 7 f_t_6_6, aI g (p_t_6 7) 7 f_t_6_7, aI g (p_t_6 8) 7 f_t_6_8, oX1 a_r1 p_r1 o_r1, aI g (p_r1 4) 7 f_r1_4, aI g (p_r1 5) 7 f_r1_5, aI g (p_r1 6) 7 f_r1_6, aI g (p_r1 7) 7 f_r1_7, aI g (p_r1 10) 8 f_r1_10, aI g (p_r1 11) 8 f_r1_11, aI g (p_r1 12) 8 f_r1_12, oX7 (p_r1 16) p_r1_16 o_r1_16, aI g (p_r1_16 4) 6 f_r1_16_4, aI g (p_r1_16 5) 6 f_r1_16_5, aI g (p_r1_16 6) 6 f_r1_16_6, oX3 a_r2 p_r2 o_r2] H := hP
    have hD : va_D A [oX8 a_t p_t (upd o_t 1 (0 : Int32)), aI g (p_t 3) 218 f_t_3, aI g (p_t 4) 31 f_t_4, oX2 (p_t 5) p_t_5 o_t_5, aI g (p_t_5 6) 7 f_t_5_6, aI g (p_t_5 7) 7 f_t_5_7, aI g (p_t_5 8) 7 f_t_5_8, oX2 (p_t 6) p_t_6 o_t_6, aI g (p_t_6 6) 7 f_t_6_6, aI g (p_t_6 7) 7 f_t_6_7, aI g (p_t_6 8) 7 f_t_6_8, oX1 a_r1 p_r1 o_r1, aI g (p_r1 4) 7 f_r1_4, aI g (p_r1 5) 7 f_r1_5, aI g (p_r1 6) 7 f_r1_6, aI g (p_r1 7) 7 f_r1_7, aI g (p_r1 10) 8 f_r1_10, aI g (p_r1 11) 8 f_r1_11, aI g (p_r1 12) 8 f_r1_12, oX7 (p_r1 16) p_r1_16 o_r1_16, aI g (p_r1_16 4) 6 f_r1_16_4, aI g (p_r1_16 5) 6 f_r1_16_5, aI g (p_r1_16 6) 6 f_r1_16_6, oX3 a_r2 p_r2 o_r2] := hD
    refine lv_aload_n hx hb dX8_search_13 rfl (lv_at hl 0 rfl) ?_
    refine va_get (D := g.1) (ci := 8) (v := .ref (p_t 5)) (C := RX8) (T := TX8) (N := 7) hx hb hts iX8_search_X8 hown hK.1 hP 0 rfl rfl 5 (by decide) (hts _ kX8_search_32) (fun _ h9 => h9) rfl dX8_search_14 ?_
    refine lv_aload_n hx hb dX8_search_17 rfl (lv_at hl 1 rfl) ?_
    obtain ⟨u_2, u_3, u_4, hu_5, hF⟩ := ob3_some hF
    refine call_v (wr := [oX8 a_t p_t (upd o_t 1 (0 : Int32)), aI g (p_t 3) 218 f_t_3, aI g (p_t 4) 31 f_t_4, aI g (p_t_5 8) 7 f_t_5_8, oX2 (p_t 6) p_t_6 o_t_6, aI g (p_t_6 6) 7 f_t_6_6, aI g (p_t_6 7) 7 f_t_6_7, aI g (p_t_6 8) 7 f_t_6_8, aI g (p_r1 4) 7 f_r1_4, aI g (p_r1 6) 7 f_r1_6, aI g (p_r1 7) 7 f_r1_7, aI g (p_r1 10) 8 f_r1_10, aI g (p_r1 11) 8 f_r1_11, aI g (p_r1 12) 8 f_r1_12, oX7 (p_r1 16) p_r1_16 o_r1_16, aI g (p_r1_16 4) 6 f_r1_16_4, aI g (p_r1_16 5) 6 f_r1_16_5, aI g (p_r1_16 6) 6 f_r1_16_6, oX3 a_r2 p_r2 o_r2]) (As := [.ref a_r1]) (rest := []) (ci := 2) (q0 := 0) C0 (mX2_begin l g (p_t 5) a_r1 p_t_5 p_r1 n o_t_5 f_t_5_6 f_t_5_7 o_r1 f_r1_5 u_2 u_3 u_4 hu_5) (cwV 1 hts gX8_search_X2_begin rfl rfl rfl (by decide +kernel) ⟨Nat.le_of_ble_eq_true rfl, Nat.le_of_ble_eq_true rfl⟩) hP hD hS [3, 4, 5, 11, 13] [0, 1, 2, 6, 7, 8, 9, 10, 12, 14, 15, 16, 17, 18, 19, 20, 21, 22, 23] rfl rfl rfl rfl rfl (by decide) rfl rfl hl.1 rfl rfl (Nat.le_of_ble_eq_true rfl) ⟨Nat.zero_le _, Nat.zero_le _⟩ dX8_search_18 ?_
    intro H locs hP hD hS
    refine lv_aload_n hx hb dX8_search_21 rfl (lv_at hl 0 rfl) ?_
    refine va_get (D := g.1) (ci := 8) (v := .ref (p_t 6)) (C := RX8) (T := TX8) (N := 7) hx hb hts iX8_search_X8 hown hK.1 hP 0 rfl rfl 6 (by decide) (hts _ kX8_search_36) (fun _ h9 => h9) rfl dX8_search_22 ?_
    refine lv_aload_n hx hb dX8_search_25 rfl (lv_at hl 0 rfl) ?_
    refine va_get (D := g.1) (ci := 8) (v := .ref (p_t 5)) (C := RX8) (T := TX8) (N := 7) hx hb hts iX8_search_X8 hown hK.1 hP 0 rfl rfl 5 (by decide) (hts _ kX8_search_32) (fun _ h9 => h9) rfl dX8_search_26 ?_
    obtain ⟨u_6, u_7, u_8, hu_9, hF⟩ := ob3_some hF
    refine call_v (wr := [oX8 a_t p_t (upd o_t 1 (0 : Int32)), aI g (p_t 3) 218 f_t_3, aI g (p_t 4) 31 f_t_4, aI g (p_t_5 8) 7 f_t_5_8, aI g (p_t_6 8) 7 f_t_6_8, aI g (p_r1 4) 7 f_r1_4, aI g (p_r1 6) 7 f_r1_6, aI g (p_r1 7) 7 f_r1_7, aI g (p_r1 10) 8 f_r1_10, aI g (p_r1 11) 8 f_r1_11, aI g (p_r1 12) 8 f_r1_12, oX7 (p_r1 16) p_r1_16 o_r1_16, aI g (p_r1_16 4) 6 f_r1_16_4, aI g (p_r1_16 5) 6 f_r1_16_5, aI g (p_r1_16 6) 6 f_r1_16_6, oX3 a_r2 p_r2 o_r2, oX1 a_r1 p_r1 o_r1, aI g (p_r1 5) 7 f_r1_5]) (As := [.ref (p_t 5)]) (rest := []) (ci := 2) (q0 := 0) C0 (mX2_become l g (p_t 6) (p_t 5) p_t_6 p_t_5 n o_t_6 f_t_6_6 f_t_6_7 u_2 u_3 u_4 u_6 u_7 u_8 hu_9) (cwV 1 hts gX8_search_X2_become rfl rfl rfl (by decide +kernel) ⟨Nat.le_of_ble_eq_true rfl, Nat.le_of_ble_eq_true rfl⟩) hP hD hS [4, 5, 6, 19, 20, 21] [0, 1, 2, 3, 7, 8, 9, 10, 11, 12, 13, 14, 15, 16, 17, 18, 22, 23] rfl rfl rfl rfl rfl (by decide) rfl rfl hl.1 rfl rfl (Nat.le_of_ble_eq_true rfl) ⟨Nat.zero_le _, Nat.zero_le _⟩ dX8_search_29 ?_
    intro H locs hP hD hS
    refine lv_aload_n hx hb dX8_search_32 rfl (lv_at hl 0 rfl) ?_
    refine lv_aload_n hx hb dX8_search_33 rfl (lv_at hl 0 rfl) ?_
    refine va_get (D := g.1) (ci := 8) (v := .ref (p_t 6)) (C := RX8) (T := TX8) (N := 7) hx hb hts iX8_search_X8 hown hK.1 hP 0 rfl rfl 6 (by decide) (hts _ kX8_search_36) (fun _ h9 => h9) rfl dX8_search_34 ?_
    refine lv_aload_n hx hb dX8_search_37 rfl (lv_at hl 1 rfl) ?_
    refine lv_aload_n hx hb dX8_search_38 rfl (lv_at hl 2 rfl) ?_
    obtain ⟨u_10, u_11, u_12, u_13, u_14, u_15, hu_16, hF⟩ := ob6_some hF
    refine call_v (wr := [aI g (p_t 3) 218 f_t_3, aI g (p_t_5 8) 7 f_t_5_8, oX7 (p_r1 16) p_r1_16 o_r1_16, aI g (p_r1_16 4) 6 f_r1_16_4, aI g (p_r1_16 5) 6 f_r1_16_5, aI g (p_r1_16 6) 6 f_r1_16_6, aI g (p_r1 5) 7 f_r1_5, oX2 (p_t 5) p_t_5 u_2, aI g (p_t_5 6) 7 u_3, aI g (p_t_5 7) 7 u_4]) (As := [.ref (p_t 6), .ref a_r1, .ref a_r2]) (rest := []) (ci := 8) (q0 := 0) C0 (mX8_follow l g a_t (p_t 6) a_r1 a_r2 p_t p_t_6 p_r1 p_r2 n (upd o_t 1 (0 : Int32)) f_t_4 u_6 u_7 u_8 f_t_6_8 o_r1 f_r1_4 f_r1_6 f_r1_7 f_r1_10 f_r1_11 f_r1_12 o_r2 u_10 u_11 u_12 u_13 u_14 u_15 hu_16) (cwV 3 hts gX8_search_X8_follow rfl rfl rfl (by decide +kernel) ⟨Nat.le_of_ble_eq_true rfl, Nat.le_of_ble_eq_true rfl⟩) hP hD hS [0, 2, 18, 19, 20, 4, 16, 5, 6, 7, 8, 9, 10, 15] [1, 3, 11, 12, 13, 14, 17, 21, 22, 23] rfl rfl rfl rfl rfl (by decide) rfl rfl hl.1 rfl rfl (Nat.le_of_ble_eq_true rfl) ⟨Nat.zero_le _, Nat.zero_le _⟩ dX8_search_39 ?_
    intro H locs hP hD hS
    refine lv_aload_n hx hb dX8_search_42 rfl (lv_at hl 0 rfl) ?_
    refine lv_aload_n hx hb dX8_search_43 rfl (lv_at hl 0 rfl) ?_
    refine lv_aload_n hx hb dX8_search_44 rfl (lv_at hl 1 rfl) ?_
    refine va_get (D := g.1) (ci := 1) (v := .ref (p_r1 16)) (C := RX1) (T := TX1) (N := 17) hx hb hts iX8_search_X1 hown hK.1 hP 16 rfl rfl 16 (by decide) (hts _ kX8_search_51) (fun _ h9 => h9) rfl dX8_search_45 ?_
    obtain ⟨u_17, hu_18, hF⟩ := ob1_some hF
    refine call_i (wr := [aI g (p_t 3) 218 f_t_3, aI g (p_t_5 8) 7 f_t_5_8, aI g (p_r1 5) 7 f_r1_5, oX2 (p_t 5) p_t_5 u_2, aI g (p_t_5 6) 7 u_3, aI g (p_t_5 7) 7 u_4, oX2 (p_t 6) p_t_6 u_11, aI g (p_t_6 6) 7 u_12, aI g (p_t_6 7) 7 u_13, aI g (p_t_6 8) 7 u_14, oX1 a_r1 p_r1 o_r1, aI g (p_r1 4) 7 f_r1_4, aI g (p_r1 6) 7 f_r1_6, aI g (p_r1 7) 7 f_r1_7, aI g (p_r1 10) 8 f_r1_10, aI g (p_r1 11) 8 f_r1_11, aI g (p_r1 12) 8 f_r1_12, oX3 a_r2 p_r2 u_15]) (As := [.ref (p_r1 16)]) (rest := [.ref a_t]) (ci := 8) (q0 := 0) C0 (mX8_firstWrong l g a_t (p_r1 16) p_t p_r1_16 n (upd o_t 1 (0 : Int32)) u_10 o_r1_16 f_r1_16_4 f_r1_16_5 f_r1_16_6 u_17 hu_18) (cwV 1 hts gX8_search_X8_firstWrong rfl rfl rfl (by decide +kernel) ⟨Nat.le_of_ble_eq_true rfl, Nat.le_of_ble_eq_true rfl⟩) hP hD hS [10, 11, 2, 3, 4, 5] [0, 1, 6, 7, 8, 9, 12, 13, 14, 15, 16, 17, 18, 19, 20, 21, 22, 23] rfl rfl rfl rfl rfl (by decide) rfl rfl hl.1 rfl rfl (Nat.le_of_ble_eq_true rfl) ⟨Nat.zero_le _, Nat.zero_le _⟩ dX8_search_48 ?_
    intro H locs hP hD hS
    refine va_put (D := g.1) (ci := 8) (v := .int u_17) (ty := .int) (C := RX8) (T := TX8) (N := 7) hx hb hts iX8_search_X8 tyX8 tyX8_ok nmX8 hown hK.1 hP hD hS 18 rfl rfl 2 (by decide) (hts _ kX8_search_19) (fun _ h9 => h9) rfl (by decide +kernel) rfl rfl (Nat.le_of_ble_eq_true rfl) dX8_search_51 (fun H locs hP hD hS => ?_)
    have hP : va_P g.1 vwCl [aI g (p_t 3) 218 f_t_3, aI g (p_t_5 8) 7 f_t_5_8, aI g (p_r1 5) 7 f_r1_5, oX2 (p_t 5) p_t_5 u_2, aI g (p_t_5 6) 7 u_3, aI g (p_t_5 7) 7 u_4, oX2 (p_t 6) p_t_6 u_11, aI g (p_t_6 6) 7 u_12, aI g (p_t_6 7) 7 u_13, aI g (p_t_6 8) 7 u_14, oX1 a_r1 p_r1 o_r1, aI g (p_r1 4) 7 f_r1_4, aI g (p_r1 6) 7 f_r1_6, aI g (p_r1 7) 7 f_r1_7, aI g (p_r1 10) 8 f_r1_10, aI g (p_r1 11) 8 f_r1_11, aI g (p_r1 12) 8 f_r1_12, oX3 a_r2 p_r2 u_15, oX8 a_t p_t (upd (upd o_t 1 (0 : Int32)) 2 u_17), aI g (p_t 4) 31 u_10, oX7 (p_r1 16) p_r1_16 o_r1_16, aI g (p_r1_16 4) 6 f_r1_16_4, aI g (p_r1_16 5) 6 f_r1_16_5, aI g (p_r1_16 6) 6 f_r1_16_6] H := hP
    have hD : va_D A [aI g (p_t 3) 218 f_t_3, aI g (p_t_5 8) 7 f_t_5_8, aI g (p_r1 5) 7 f_r1_5, oX2 (p_t 5) p_t_5 u_2, aI g (p_t_5 6) 7 u_3, aI g (p_t_5 7) 7 u_4, oX2 (p_t 6) p_t_6 u_11, aI g (p_t_6 6) 7 u_12, aI g (p_t_6 7) 7 u_13, aI g (p_t_6 8) 7 u_14, oX1 a_r1 p_r1 o_r1, aI g (p_r1 4) 7 f_r1_4, aI g (p_r1 6) 7 f_r1_6, aI g (p_r1 7) 7 f_r1_7, aI g (p_r1 10) 8 f_r1_10, aI g (p_r1 11) 8 f_r1_11, aI g (p_r1 12) 8 f_r1_12, oX3 a_r2 p_r2 u_15, oX8 a_t p_t (upd (upd o_t 1 (0 : Int32)) 2 u_17), aI g (p_t 4) 31 u_10, oX7 (p_r1 16) p_r1_16 o_r1_16, aI g (p_r1_16 4) 6 f_r1_16_4, aI g (p_r1_16 5) 6 f_r1_16_5, aI g (p_r1_16 6) 6 f_r1_16_6] := hD
    refine lv_aload_n hx hb dX8_search_54 rfl (lv_at hl 0 rfl) ?_
    refine lv_aload_n hx hb dX8_search_55 rfl (lv_at hl 0 rfl) ?_
    refine va_get (D := g.1) (ci := 8) (v := .int u_17) (C := RX8) (T := TX8) (N := 7) hx hb hts iX8_search_X8 hown hK.1 hP 18 rfl rfl 2 (by decide) (hts _ kX8_search_19) (fun _ h9 => h9) rfl dX8_search_56 ?_
    refine lv_bipush (v := (-2 : Int32)) hx hb dX8_search_59 (by decide) ?_
    refine lv_icmp_ne (tgt := 68) hx hb dX8_search_61 (by decide) (fun c_19 => ?_) (fun c_19 => ?_)
    · have hF := it_n c_19 hF
      refine lv_iconst (v := (0 : Int32)) hx hb dX8_search_68 (by decide) ?_
      refine lv_bipush (v := (-2 : Int32)) hx hb dX8_search_69 (by decide) ?_
      obtain ⟨u_20, u_21, hu_22, hF⟩ := ob2_some hF
      refine call_v (wr := [aI g (p_t_5 8) 7 f_t_5_8, aI g (p_r1 5) 7 f_r1_5, oX2 (p_t 5) p_t_5 u_2, aI g (p_t_5 6) 7 u_3, aI g (p_t_5 7) 7 u_4, oX2 (p_t 6) p_t_6 u_11, aI g (p_t_6 6) 7 u_12, aI g (p_t_6 7) 7 u_13, aI g (p_t_6 8) 7 u_14, oX1 a_r1 p_r1 o_r1, aI g (p_r1 4) 7 f_r1_4, aI g (p_r1 6) 7 f_r1_6, aI g (p_r1 7) 7 f_r1_7, aI g (p_r1 10) 8 f_r1_10, aI g (p_r1 11) 8 f_r1_11, aI g (p_r1 12) 8 f_r1_12, oX3 a_r2 p_r2 u_15, aI g (p_t 4) 31 u_10, oX7 (p_r1 16) p_r1_16 o_r1_16, aI g (p_r1_16 4) 6 f_r1_16_4, aI g (p_r1_16 5) 6 f_r1_16_5, aI g (p_r1_16 6) 6 f_r1_16_6]) (As := [.int (0 : Int32), .int (-2 : Int32)]) (rest := []) (ci := 8) (q0 := 0) C0 (mX8_addIf l g a_t p_t n (0 : Int32) (-2 : Int32) (upd (upd o_t 1 (0 : Int32)) 2 u_17) f_t_3 u_20 u_21 hu_22) (cwV 2 hts gX8_search_X8_addIf rfl rfl rfl (by decide +kernel) ⟨Nat.le_of_ble_eq_true rfl, Nat.le_of_ble_eq_true rfl⟩) hP hD hS [18, 0] [1, 2, 3, 4, 5, 6, 7, 8, 9, 10, 11, 12, 13, 14, 15, 16, 17, 19, 20, 21, 22, 23] rfl rfl rfl rfl rfl (by decide) rfl rfl hl.1 rfl rfl (Nat.le_of_ble_eq_true rfl) ⟨Nat.zero_le _, Nat.zero_le _⟩ dX8_search_71 ?_
      intro H locs hP hD hS
      refine lv_iconst (v := (0 : Int32)) hx hb dX8_search_74 (by decide) ?_
      refine lv_istore_n (lv' := [(3, .int (0 : Int32)), (0, .ref a_t), (1, .ref a_r1), (2, .ref a_r2)]) hx hb dX8_search_75 rfl hl (by decide) rfl (fun ls hl => ?_)
      refine wX8_search_L76 C0 a_t a_r1 a_r2 p_t p_t_5 p_t_6 p_r1 p_r1_16 p_r2 n o_r1 f_r1_4 f_r1_6 f_r1_7 f_r1_10 f_r1_11 f_r1_12 o_r1_16 f_r1_16_4 f_r1_16_5 f_r1_16_6 f_r1_5 o_t' f_t_3' f_t_4' o_t_5' f_t_5_6' f_t_5_7' f_t_5_8' o_t_6' f_t_6_6' f_t_6_7' f_t_6_8' o_r2' _ ?_ n (0 : Int32) u_20 u_21 u_10 u_2 u_3 u_4 f_t_5_8 u_11 u_12 u_13 u_14 u_15 hF _ _ _ (hP.sub [22, 23, 17, 2, 3, 4, 0, 5, 6, 7, 8, 9, 10, 1, 11, 12, 13, 14, 15, 18, 19, 20, 21, 16] rfl) (hD.sub [22, 23, 17, 2, 3, 4, 0, 5, 6, 7, 8, 9, 10, 1, 11, 12, 13, 14, 15, 18, 19, 20, 21, 16] rfl rfl) hS (lv_sub hl [1, 2, 3, 0] rfl)
      · intro o_t_x76 f_t_3_x76 f_t_4_x76 o_t_5_x76 f_t_5_6_x76 f_t_5_7_x76 f_t_5_8_x76 o_t_6_x76 f_t_6_6_x76 f_t_6_7_x76 f_t_6_8_x76 o_r2_x76 H locs ls hF hP hD hS hl
        refine lv_aload_n hx hb dX8_search_117 rfl (lv_at hl 0 rfl) ?_
        refine lv_iconst (v := (1 : Int32)) hx hb dX8_search_118 (by decide) ?_
        refine va_put (D := g.1) (ci := 8) (v := .int (1 : Int32)) (ty := .boolean) (C := RX8) (T := TX8) (N := 7) hx hb hts iX8_search_X8 tyX8 tyX8_ok nmX8 hown hK.1 hP hD hS 0 rfl rfl 0 (by decide) (hts _ kX8_search_9) (fun _ h9 => h9) rfl (by decide +kernel) rfl rfl (Nat.le_of_ble_eq_true rfl) dX8_search_119 (fun H locs hP hD hS => ?_)
        have hP : va_P g.1 vwCl [oX8 a_t p_t (upd o_t_x76 0 (1 : Int32)), aI g (p_t 3) 218 f_t_3_x76, aI g (p_t 4) 31 f_t_4_x76, oX2 (p_t 5) p_t_5 o_t_5_x76, aI g (p_t_5 6) 7 f_t_5_6_x76, aI g (p_t_5 7) 7 f_t_5_7_x76, aI g (p_t_5 8) 7 f_t_5_8_x76, oX2 (p_t 6) p_t_6 o_t_6_x76, aI g (p_t_6 6) 7 f_t_6_6_x76, aI g (p_t_6 7) 7 f_t_6_7_x76, aI g (p_t_6 8) 7 f_t_6_8_x76, oX1 a_r1 p_r1 o_r1, aI g (p_r1 4) 7 f_r1_4, aI g (p_r1 5) 7 f_r1_5, aI g (p_r1 6) 7 f_r1_6, aI g (p_r1 7) 7 f_r1_7, aI g (p_r1 10) 8 f_r1_10, aI g (p_r1 11) 8 f_r1_11, aI g (p_r1 12) 8 f_r1_12, oX7 (p_r1 16) p_r1_16 o_r1_16, aI g (p_r1_16 4) 6 f_r1_16_4, aI g (p_r1_16 5) 6 f_r1_16_5, aI g (p_r1_16 6) 6 f_r1_16_6, oX3 a_r2 p_r2 o_r2_x76] H := hP
        have hD : va_D A [oX8 a_t p_t (upd o_t_x76 0 (1 : Int32)), aI g (p_t 3) 218 f_t_3_x76, aI g (p_t 4) 31 f_t_4_x76, oX2 (p_t 5) p_t_5 o_t_5_x76, aI g (p_t_5 6) 7 f_t_5_6_x76, aI g (p_t_5 7) 7 f_t_5_7_x76, aI g (p_t_5 8) 7 f_t_5_8_x76, oX2 (p_t 6) p_t_6 o_t_6_x76, aI g (p_t_6 6) 7 f_t_6_6_x76, aI g (p_t_6 7) 7 f_t_6_7_x76, aI g (p_t_6 8) 7 f_t_6_8_x76, oX1 a_r1 p_r1 o_r1, aI g (p_r1 4) 7 f_r1_4, aI g (p_r1 5) 7 f_r1_5, aI g (p_r1 6) 7 f_r1_6, aI g (p_r1 7) 7 f_r1_7, aI g (p_r1 10) 8 f_r1_10, aI g (p_r1 11) 8 f_r1_11, aI g (p_r1 12) 8 f_r1_12, oX7 (p_r1 16) p_r1_16 o_r1_16, aI g (p_r1_16 4) 6 f_r1_16_4, aI g (p_r1_16 5) 6 f_r1_16_5, aI g (p_r1_16 6) 6 f_r1_16_6, oX3 a_r2 p_r2 o_r2_x76] := hD
        cases hF
        exact ret_v C0 hP hD hS [0, 1, 2, 3, 4, 5, 6, 7, 8, 9, 10, 11, 12, 13, 14, 15, 16, 17, 18, 19, 20, 21, 22, 23] rfl rfl rfl dX8_search_122
    · have hF := it_p c_19 hF
      refine lv_iconst (v := (1 : Int32)) hx hb dX8_search_64 (by decide) ?_
      refine lv_goto (tgt := 69) hx hb dX8_search_65 (by decide) ?_
      refine lv_bipush (v := (-2 : Int32)) hx hb dX8_search_69 (by decide) ?_
      obtain ⟨u_41, u_42, hu_43, hF⟩ := ob2_some hF
      refine call_v (wr := [aI g (p_t_5 8) 7 f_t_5_8, aI g (p_r1 5) 7 f_r1_5, oX2 (p_t 5) p_t_5 u_2, aI g (p_t_5 6) 7 u_3, aI g (p_t_5 7) 7 u_4, oX2 (p_t 6) p_t_6 u_11, aI g (p_t_6 6) 7 u_12, aI g (p_t_6 7) 7 u_13, aI g (p_t_6 8) 7 u_14, oX1 a_r1 p_r1 o_r1, aI g (p_r1 4) 7 f_r1_4, aI g (p_r1 6) 7 f_r1_6, aI g (p_r1 7) 7 f_r1_7, aI g (p_r1 10) 8 f_r1_10, aI g (p_r1 11) 8 f_r1_11, aI g (p_r1 12) 8 f_r1_12, oX3 a_r2 p_r2 u_15, aI g (p_t 4) 31 u_10, oX7 (p_r1 16) p_r1_16 o_r1_16, aI g (p_r1_16 4) 6 f_r1_16_4, aI g (p_r1_16 5) 6 f_r1_16_5, aI g (p_r1_16 6) 6 f_r1_16_6]) (As := [.int (1 : Int32), .int (-2 : Int32)]) (rest := []) (ci := 8) (q0 := 0) C0 (mX8_addIf l g a_t p_t n (1 : Int32) (-2 : Int32) (upd (upd o_t 1 (0 : Int32)) 2 u_17) f_t_3 u_41 u_42 hu_43) (cwV 2 hts gX8_search_X8_addIf rfl rfl rfl (by decide +kernel) ⟨Nat.le_of_ble_eq_true rfl, Nat.le_of_ble_eq_true rfl⟩) hP hD hS [18, 0] [1, 2, 3, 4, 5, 6, 7, 8, 9, 10, 11, 12, 13, 14, 15, 16, 17, 19, 20, 21, 22, 23] rfl rfl rfl rfl rfl (by decide) rfl rfl hl.1 rfl rfl (Nat.le_of_ble_eq_true rfl) ⟨Nat.zero_le _, Nat.zero_le _⟩ dX8_search_71 ?_
      intro H locs hP hD hS
      refine lv_iconst (v := (0 : Int32)) hx hb dX8_search_74 (by decide) ?_
      refine lv_istore_n (lv' := [(3, .int (0 : Int32)), (0, .ref a_t), (1, .ref a_r1), (2, .ref a_r2)]) hx hb dX8_search_75 rfl hl (by decide) rfl (fun ls hl => ?_)
      refine wX8_search_L76 C0 a_t a_r1 a_r2 p_t p_t_5 p_t_6 p_r1 p_r1_16 p_r2 n o_r1 f_r1_4 f_r1_6 f_r1_7 f_r1_10 f_r1_11 f_r1_12 o_r1_16 f_r1_16_4 f_r1_16_5 f_r1_16_6 f_r1_5 o_t' f_t_3' f_t_4' o_t_5' f_t_5_6' f_t_5_7' f_t_5_8' o_t_6' f_t_6_6' f_t_6_7' f_t_6_8' o_r2' _ ?_ n (0 : Int32) u_41 u_42 u_10 u_2 u_3 u_4 f_t_5_8 u_11 u_12 u_13 u_14 u_15 hF _ _ _ (hP.sub [22, 23, 17, 2, 3, 4, 0, 5, 6, 7, 8, 9, 10, 1, 11, 12, 13, 14, 15, 18, 19, 20, 21, 16] rfl) (hD.sub [22, 23, 17, 2, 3, 4, 0, 5, 6, 7, 8, 9, 10, 1, 11, 12, 13, 14, 15, 18, 19, 20, 21, 16] rfl rfl) hS (lv_sub hl [1, 2, 3, 0] rfl)
      · intro o_t_x76 f_t_3_x76 f_t_4_x76 o_t_5_x76 f_t_5_6_x76 f_t_5_7_x76 f_t_5_8_x76 o_t_6_x76 f_t_6_6_x76 f_t_6_7_x76 f_t_6_8_x76 o_r2_x76 H locs ls hF hP hD hS hl
        refine lv_aload_n hx hb dX8_search_117 rfl (lv_at hl 0 rfl) ?_
        refine lv_iconst (v := (1 : Int32)) hx hb dX8_search_118 (by decide) ?_
        refine va_put (D := g.1) (ci := 8) (v := .int (1 : Int32)) (ty := .boolean) (C := RX8) (T := TX8) (N := 7) hx hb hts iX8_search_X8 tyX8 tyX8_ok nmX8 hown hK.1 hP hD hS 0 rfl rfl 0 (by decide) (hts _ kX8_search_9) (fun _ h9 => h9) rfl (by decide +kernel) rfl rfl (Nat.le_of_ble_eq_true rfl) dX8_search_119 (fun H locs hP hD hS => ?_)
        have hP : va_P g.1 vwCl [oX8 a_t p_t (upd o_t_x76 0 (1 : Int32)), aI g (p_t 3) 218 f_t_3_x76, aI g (p_t 4) 31 f_t_4_x76, oX2 (p_t 5) p_t_5 o_t_5_x76, aI g (p_t_5 6) 7 f_t_5_6_x76, aI g (p_t_5 7) 7 f_t_5_7_x76, aI g (p_t_5 8) 7 f_t_5_8_x76, oX2 (p_t 6) p_t_6 o_t_6_x76, aI g (p_t_6 6) 7 f_t_6_6_x76, aI g (p_t_6 7) 7 f_t_6_7_x76, aI g (p_t_6 8) 7 f_t_6_8_x76, oX1 a_r1 p_r1 o_r1, aI g (p_r1 4) 7 f_r1_4, aI g (p_r1 5) 7 f_r1_5, aI g (p_r1 6) 7 f_r1_6, aI g (p_r1 7) 7 f_r1_7, aI g (p_r1 10) 8 f_r1_10, aI g (p_r1 11) 8 f_r1_11, aI g (p_r1 12) 8 f_r1_12, oX7 (p_r1 16) p_r1_16 o_r1_16, aI g (p_r1_16 4) 6 f_r1_16_4, aI g (p_r1_16 5) 6 f_r1_16_5, aI g (p_r1_16 6) 6 f_r1_16_6, oX3 a_r2 p_r2 o_r2_x76] H := hP
        have hD : va_D A [oX8 a_t p_t (upd o_t_x76 0 (1 : Int32)), aI g (p_t 3) 218 f_t_3_x76, aI g (p_t 4) 31 f_t_4_x76, oX2 (p_t 5) p_t_5 o_t_5_x76, aI g (p_t_5 6) 7 f_t_5_6_x76, aI g (p_t_5 7) 7 f_t_5_7_x76, aI g (p_t_5 8) 7 f_t_5_8_x76, oX2 (p_t 6) p_t_6 o_t_6_x76, aI g (p_t_6 6) 7 f_t_6_6_x76, aI g (p_t_6 7) 7 f_t_6_7_x76, aI g (p_t_6 8) 7 f_t_6_8_x76, oX1 a_r1 p_r1 o_r1, aI g (p_r1 4) 7 f_r1_4, aI g (p_r1 5) 7 f_r1_5, aI g (p_r1 6) 7 f_r1_6, aI g (p_r1 7) 7 f_r1_7, aI g (p_r1 10) 8 f_r1_10, aI g (p_r1 11) 8 f_r1_11, aI g (p_r1 12) 8 f_r1_12, oX7 (p_r1 16) p_r1_16 o_r1_16, aI g (p_r1_16 4) 6 f_r1_16_4, aI g (p_r1_16 5) 6 f_r1_16_5, aI g (p_r1_16 6) 6 f_r1_16_6, oX3 a_r2 p_r2 o_r2_x76] := hD
        cases hF
        exact ret_v C0 hP hD hS [0, 1, 2, 3, 4, 5, 6, 7, 8, 9, 10, 11, 12, 13, 14, 15, 16, 17, 18, 19, 20, 21, 22, 23] rfl rfl rfl dX8_search_122
  · have hF := it_n c_1 hF
    cases hF
    exact ret_v C0 hP hD hS [0, 1, 2, 3, 4, 5, 6, 7, 8, 9, 10, 11, 12, 13, 14, 15, 16, 17, 18, 19, 20, 21, 22, 23] rfl rfl rfl dX8_search_7

theorem dAX0_weighShare : ∀ q ∈ ([(0, (.aload_n 0, 1)), (1, (.getfield 32, 3)), (4, (.aload_n 2, 1)), (5, (.invokevirtual 56, 3)), (8, (.iconst 0, 1)), (9, (.istore 5, 2)), (11, (.iload 5, 2)), (13, (.aload_n 1, 1)), (14, (.getfield 43, 3)), (17, (.if_icmp .ge 34, 3)), (20, (.aload_n 0, 1)), (21, (.getfield 32, 3)), (24, (.getfield 60, 3)), (27, (.iload 5, 2)), (29, (.dup2, 1)), (30, (.iaload, 1)), (31, (.aload_n 0, 1)), (32, (.getfield 26, 3)), (35, (.iload 5, 2)), (37, (.iaload, 1)), (38, (.aload_n 1, 1)), (39, (.getfield 63, 3)), (42, (.imul, 1)), (43, (.iadd, 1)), (44, (.iastore, 1)), (45, (.iinc 5 1, 3)), (48, (.goto (-37), 3)), (51, (.aload_n 0, 1)), (52, (.getfield 32, 3)), (55, (.aload_n 1, 1)), (56, (.aload_n 3, 1)), (57, (.bipush 60, 2)), (59, (.invokevirtual 66, 3)), (62, (.istore 5, 2)), (64, (.aload_n 0, 1)), (65, (.getfield 23, 3)), (68, (.iload 4, 2)), (70, (.aload_n 0, 1)), (71, (.getfield 23, 3)), (74, (.iload 4, 2)), (76, (.iaload, 1)), (77, (.iload 5, 2)), (79, (.invokestatic 70, 3)), (82, (.iastore, 1)), (83, (.iload 5, 2)), (85, (.aload_n 0, 1)), (86, (.getfield 15, 3)), (89, (.if_icmp .le 24, 3)), (92, (.aload_n 0, 1)), (93, (.iload 5, 2)), (95, (.putfield 15, 3)), (98, (.aload_n 0, 1)), (99, (.getfield 26, 3)), (102, (.iconst 0, 1)), (103, (.aload_n 0, 1)), (104, (.getfield 19, 3)), (107, (.iconst 0, 1)), (108, (.bipush 7, 2)), (110, (.invokestatic 76, 3)), (113, (.return_, 1))] : List (Nat × (Instr × Nat))), decode cX0_weighShare q.1 = .ok q.2 := by decide +kernel
theorem dX0_weighShare_0 : decode cX0_weighShare 0 = .ok (.aload_n 0, 1) := dAX0_weighShare (0, (.aload_n 0, 1)) (List.mem_of_getElem? (i := 0) rfl)
theorem dX0_weighShare_1 : decode cX0_weighShare 1 = .ok (.getfield 32, 3) := dAX0_weighShare (1, (.getfield 32, 3)) (List.mem_of_getElem? (i := 1) rfl)
theorem dX0_weighShare_4 : decode cX0_weighShare 4 = .ok (.aload_n 2, 1) := dAX0_weighShare (4, (.aload_n 2, 1)) (List.mem_of_getElem? (i := 2) rfl)
theorem dX0_weighShare_5 : decode cX0_weighShare 5 = .ok (.invokevirtual 56, 3) := dAX0_weighShare (5, (.invokevirtual 56, 3)) (List.mem_of_getElem? (i := 3) rfl)
theorem dX0_weighShare_8 : decode cX0_weighShare 8 = .ok (.iconst 0, 1) := dAX0_weighShare (8, (.iconst 0, 1)) (List.mem_of_getElem? (i := 4) rfl)
theorem dX0_weighShare_9 : decode cX0_weighShare 9 = .ok (.istore 5, 2) := dAX0_weighShare (9, (.istore 5, 2)) (List.mem_of_getElem? (i := 5) rfl)
theorem dX0_weighShare_11 : decode cX0_weighShare 11 = .ok (.iload 5, 2) := dAX0_weighShare (11, (.iload 5, 2)) (List.mem_of_getElem? (i := 6) rfl)
theorem dX0_weighShare_13 : decode cX0_weighShare 13 = .ok (.aload_n 1, 1) := dAX0_weighShare (13, (.aload_n 1, 1)) (List.mem_of_getElem? (i := 7) rfl)
theorem dX0_weighShare_14 : decode cX0_weighShare 14 = .ok (.getfield 43, 3) := dAX0_weighShare (14, (.getfield 43, 3)) (List.mem_of_getElem? (i := 8) rfl)
theorem dX0_weighShare_17 : decode cX0_weighShare 17 = .ok (.if_icmp .ge 34, 3) := dAX0_weighShare (17, (.if_icmp .ge 34, 3)) (List.mem_of_getElem? (i := 9) rfl)
theorem dX0_weighShare_20 : decode cX0_weighShare 20 = .ok (.aload_n 0, 1) := dAX0_weighShare (20, (.aload_n 0, 1)) (List.mem_of_getElem? (i := 10) rfl)
theorem dX0_weighShare_21 : decode cX0_weighShare 21 = .ok (.getfield 32, 3) := dAX0_weighShare (21, (.getfield 32, 3)) (List.mem_of_getElem? (i := 11) rfl)
theorem dX0_weighShare_24 : decode cX0_weighShare 24 = .ok (.getfield 60, 3) := dAX0_weighShare (24, (.getfield 60, 3)) (List.mem_of_getElem? (i := 12) rfl)
theorem dX0_weighShare_27 : decode cX0_weighShare 27 = .ok (.iload 5, 2) := dAX0_weighShare (27, (.iload 5, 2)) (List.mem_of_getElem? (i := 13) rfl)
theorem dX0_weighShare_29 : decode cX0_weighShare 29 = .ok (.dup2, 1) := dAX0_weighShare (29, (.dup2, 1)) (List.mem_of_getElem? (i := 14) rfl)
theorem dX0_weighShare_30 : decode cX0_weighShare 30 = .ok (.iaload, 1) := dAX0_weighShare (30, (.iaload, 1)) (List.mem_of_getElem? (i := 15) rfl)
theorem dX0_weighShare_31 : decode cX0_weighShare 31 = .ok (.aload_n 0, 1) := dAX0_weighShare (31, (.aload_n 0, 1)) (List.mem_of_getElem? (i := 16) rfl)
theorem dX0_weighShare_32 : decode cX0_weighShare 32 = .ok (.getfield 26, 3) := dAX0_weighShare (32, (.getfield 26, 3)) (List.mem_of_getElem? (i := 17) rfl)
theorem dX0_weighShare_35 : decode cX0_weighShare 35 = .ok (.iload 5, 2) := dAX0_weighShare (35, (.iload 5, 2)) (List.mem_of_getElem? (i := 18) rfl)
theorem dX0_weighShare_37 : decode cX0_weighShare 37 = .ok (.iaload, 1) := dAX0_weighShare (37, (.iaload, 1)) (List.mem_of_getElem? (i := 19) rfl)
theorem dX0_weighShare_38 : decode cX0_weighShare 38 = .ok (.aload_n 1, 1) := dAX0_weighShare (38, (.aload_n 1, 1)) (List.mem_of_getElem? (i := 20) rfl)
theorem dX0_weighShare_39 : decode cX0_weighShare 39 = .ok (.getfield 63, 3) := dAX0_weighShare (39, (.getfield 63, 3)) (List.mem_of_getElem? (i := 21) rfl)
theorem dX0_weighShare_42 : decode cX0_weighShare 42 = .ok (.imul, 1) := dAX0_weighShare (42, (.imul, 1)) (List.mem_of_getElem? (i := 22) rfl)
theorem dX0_weighShare_43 : decode cX0_weighShare 43 = .ok (.iadd, 1) := dAX0_weighShare (43, (.iadd, 1)) (List.mem_of_getElem? (i := 23) rfl)
theorem dX0_weighShare_44 : decode cX0_weighShare 44 = .ok (.iastore, 1) := dAX0_weighShare (44, (.iastore, 1)) (List.mem_of_getElem? (i := 24) rfl)
theorem dX0_weighShare_45 : decode cX0_weighShare 45 = .ok (.iinc 5 1, 3) := dAX0_weighShare (45, (.iinc 5 1, 3)) (List.mem_of_getElem? (i := 25) rfl)
theorem dX0_weighShare_48 : decode cX0_weighShare 48 = .ok (.goto (-37), 3) := dAX0_weighShare (48, (.goto (-37), 3)) (List.mem_of_getElem? (i := 26) rfl)
theorem dX0_weighShare_51 : decode cX0_weighShare 51 = .ok (.aload_n 0, 1) := dAX0_weighShare (51, (.aload_n 0, 1)) (List.mem_of_getElem? (i := 27) rfl)
theorem dX0_weighShare_52 : decode cX0_weighShare 52 = .ok (.getfield 32, 3) := dAX0_weighShare (52, (.getfield 32, 3)) (List.mem_of_getElem? (i := 28) rfl)
theorem dX0_weighShare_55 : decode cX0_weighShare 55 = .ok (.aload_n 1, 1) := dAX0_weighShare (55, (.aload_n 1, 1)) (List.mem_of_getElem? (i := 29) rfl)
theorem dX0_weighShare_56 : decode cX0_weighShare 56 = .ok (.aload_n 3, 1) := dAX0_weighShare (56, (.aload_n 3, 1)) (List.mem_of_getElem? (i := 30) rfl)
theorem dX0_weighShare_57 : decode cX0_weighShare 57 = .ok (.bipush 60, 2) := dAX0_weighShare (57, (.bipush 60, 2)) (List.mem_of_getElem? (i := 31) rfl)
theorem dX0_weighShare_59 : decode cX0_weighShare 59 = .ok (.invokevirtual 66, 3) := dAX0_weighShare (59, (.invokevirtual 66, 3)) (List.mem_of_getElem? (i := 32) rfl)
theorem dX0_weighShare_62 : decode cX0_weighShare 62 = .ok (.istore 5, 2) := dAX0_weighShare (62, (.istore 5, 2)) (List.mem_of_getElem? (i := 33) rfl)
theorem dX0_weighShare_64 : decode cX0_weighShare 64 = .ok (.aload_n 0, 1) := dAX0_weighShare (64, (.aload_n 0, 1)) (List.mem_of_getElem? (i := 34) rfl)
theorem dX0_weighShare_65 : decode cX0_weighShare 65 = .ok (.getfield 23, 3) := dAX0_weighShare (65, (.getfield 23, 3)) (List.mem_of_getElem? (i := 35) rfl)
theorem dX0_weighShare_68 : decode cX0_weighShare 68 = .ok (.iload 4, 2) := dAX0_weighShare (68, (.iload 4, 2)) (List.mem_of_getElem? (i := 36) rfl)
theorem dX0_weighShare_70 : decode cX0_weighShare 70 = .ok (.aload_n 0, 1) := dAX0_weighShare (70, (.aload_n 0, 1)) (List.mem_of_getElem? (i := 37) rfl)
theorem dX0_weighShare_71 : decode cX0_weighShare 71 = .ok (.getfield 23, 3) := dAX0_weighShare (71, (.getfield 23, 3)) (List.mem_of_getElem? (i := 38) rfl)
theorem dX0_weighShare_74 : decode cX0_weighShare 74 = .ok (.iload 4, 2) := dAX0_weighShare (74, (.iload 4, 2)) (List.mem_of_getElem? (i := 39) rfl)
theorem dX0_weighShare_76 : decode cX0_weighShare 76 = .ok (.iaload, 1) := dAX0_weighShare (76, (.iaload, 1)) (List.mem_of_getElem? (i := 40) rfl)
theorem dX0_weighShare_77 : decode cX0_weighShare 77 = .ok (.iload 5, 2) := dAX0_weighShare (77, (.iload 5, 2)) (List.mem_of_getElem? (i := 41) rfl)
theorem dX0_weighShare_79 : decode cX0_weighShare 79 = .ok (.invokestatic 70, 3) := dAX0_weighShare (79, (.invokestatic 70, 3)) (List.mem_of_getElem? (i := 42) rfl)
theorem dX0_weighShare_82 : decode cX0_weighShare 82 = .ok (.iastore, 1) := dAX0_weighShare (82, (.iastore, 1)) (List.mem_of_getElem? (i := 43) rfl)
theorem dX0_weighShare_83 : decode cX0_weighShare 83 = .ok (.iload 5, 2) := dAX0_weighShare (83, (.iload 5, 2)) (List.mem_of_getElem? (i := 44) rfl)
theorem dX0_weighShare_85 : decode cX0_weighShare 85 = .ok (.aload_n 0, 1) := dAX0_weighShare (85, (.aload_n 0, 1)) (List.mem_of_getElem? (i := 45) rfl)
theorem dX0_weighShare_86 : decode cX0_weighShare 86 = .ok (.getfield 15, 3) := dAX0_weighShare (86, (.getfield 15, 3)) (List.mem_of_getElem? (i := 46) rfl)
theorem dX0_weighShare_89 : decode cX0_weighShare 89 = .ok (.if_icmp .le 24, 3) := dAX0_weighShare (89, (.if_icmp .le 24, 3)) (List.mem_of_getElem? (i := 47) rfl)
theorem dX0_weighShare_92 : decode cX0_weighShare 92 = .ok (.aload_n 0, 1) := dAX0_weighShare (92, (.aload_n 0, 1)) (List.mem_of_getElem? (i := 48) rfl)
theorem dX0_weighShare_93 : decode cX0_weighShare 93 = .ok (.iload 5, 2) := dAX0_weighShare (93, (.iload 5, 2)) (List.mem_of_getElem? (i := 49) rfl)
theorem dX0_weighShare_95 : decode cX0_weighShare 95 = .ok (.putfield 15, 3) := dAX0_weighShare (95, (.putfield 15, 3)) (List.mem_of_getElem? (i := 50) rfl)
theorem dX0_weighShare_98 : decode cX0_weighShare 98 = .ok (.aload_n 0, 1) := dAX0_weighShare (98, (.aload_n 0, 1)) (List.mem_of_getElem? (i := 51) rfl)
theorem dX0_weighShare_99 : decode cX0_weighShare 99 = .ok (.getfield 26, 3) := dAX0_weighShare (99, (.getfield 26, 3)) (List.mem_of_getElem? (i := 52) rfl)
theorem dX0_weighShare_102 : decode cX0_weighShare 102 = .ok (.iconst 0, 1) := dAX0_weighShare (102, (.iconst 0, 1)) (List.mem_of_getElem? (i := 53) rfl)
theorem dX0_weighShare_103 : decode cX0_weighShare 103 = .ok (.aload_n 0, 1) := dAX0_weighShare (103, (.aload_n 0, 1)) (List.mem_of_getElem? (i := 54) rfl)
theorem dX0_weighShare_104 : decode cX0_weighShare 104 = .ok (.getfield 19, 3) := dAX0_weighShare (104, (.getfield 19, 3)) (List.mem_of_getElem? (i := 55) rfl)
theorem dX0_weighShare_107 : decode cX0_weighShare 107 = .ok (.iconst 0, 1) := dAX0_weighShare (107, (.iconst 0, 1)) (List.mem_of_getElem? (i := 56) rfl)
theorem dX0_weighShare_108 : decode cX0_weighShare 108 = .ok (.bipush 7, 2) := dAX0_weighShare (108, (.bipush 7, 2)) (List.mem_of_getElem? (i := 57) rfl)
theorem dX0_weighShare_110 : decode cX0_weighShare 110 = .ok (.invokestatic 76, 3) := dAX0_weighShare (110, (.invokestatic 76, 3)) (List.mem_of_getElem? (i := 58) rfl)
theorem dX0_weighShare_113 : decode cX0_weighShare 113 = .ok (.return_, 1) := dAX0_weighShare (113, (.return_, 1)) (List.mem_of_getElem? (i := 59) rfl)
set_option maxRecDepth 20000 in
theorem ggX0_weighShare_X2_become : GoodIn wsX0_weighShare wsX2_become := goodIn_r _ [21, 22, 23, 24, 25, 26, 27, 14, 15, 16, 28, 100, 101, 102, 103, 104, 105, 106, 107, 108] rfl (by decide +kernel)
set_option maxRecDepth 20000 in
theorem gX0_weighShare_X2_become : GoodIn wsX0_weighShare (wsV RX0 56 RX2 yX2_become wsX2_become) := goodIn_app (goodIn_of _ (by decide +kernel)) ggX0_weighShare_X2_become
set_option maxRecDepth 20000 in
theorem ggX0_weighShare_X2_runOut : GoodIn wsX0_weighShare wsX2_runOut := goodIn_r _ [32, 33, 23, 34, 35, 36, 20, 37, 22, 38, 39, 40, 41, 42, 43, 26, 44, 45, 46, 47, 48, 49, 50, 51, 52, 53, 54, 55, 56, 57, 58, 59, 60, 61, 62, 63, 64, 65, 66, 67, 68, 69, 70, 71, 72, 73, 74, 28, 75, 76, 100, 101, 102, 103, 104, 105, 106, 107, 108, 83, 84, 85, 86, 87, 88, 89, 90, 91, 92, 93, 94, 95, 96, 97, 98, 99, 109, 110] rfl (by decide +kernel)
set_option maxRecDepth 20000 in
theorem gX0_weighShare_X2_runOut : GoodIn wsX0_weighShare (wsV RX0 66 RX2 yX2_runOut wsX2_runOut) := goodIn_app (goodIn_of _ (by decide +kernel)) ggX0_weighShare_X2_runOut
theorem kX0_weighShare_32 : Cond.fieldLink RX0 32 "EveningVow$CupShares" "trial" "LEveningVow$Night;" ∈ wsX0_weighShare := List.mem_of_getElem? (i := 1) rfl
theorem iX0_weighShare_X0 : ∀ w ∈ u_ws RX0 TX0 6, w ∈ wsX0_weighShare := fun w h => (List.mem_cons_of_mem _ (List.mem_append_left _ (List.mem_append_left _ (List.mem_append_left _ (List.mem_append_right _ h)))))
theorem kX0_weighShare_43 : Cond.fieldLink RX0 43 "EveningVow$House" "guests" "I" ∈ wsX0_weighShare := List.mem_of_getElem? (i := 2) rfl
theorem iX0_weighShare_X1 : ∀ w ∈ u_ws RX1 TX1 17, w ∈ wsX0_weighShare := fun w h => (List.mem_cons_of_mem _ (List.mem_append_left _ (List.mem_append_left _ (List.mem_append_right _ h))))
theorem kX0_weighShare_60 : Cond.fieldLink RX0 60 "EveningVow$Night" "want" "[I" ∈ wsX0_weighShare := List.mem_of_getElem? (i := 3) rfl
theorem iX0_weighShare_X2 : ∀ w ∈ u_ws RX2 TX2 9, w ∈ wsX0_weighShare := fun w h => (List.mem_cons_of_mem _ (List.mem_append_left _ (List.mem_append_right _ h)))
theorem kX0_weighShare_26 : Cond.fieldLink RX0 26 "EveningVow$CupShares" "row" "[I" ∈ wsX0_weighShare := List.mem_of_getElem? (i := 4) rfl
theorem kX0_weighShare_63 : Cond.fieldLink RX0 63 "EveningVow$House" "wakes" "I" ∈ wsX0_weighShare := List.mem_of_getElem? (i := 5) rfl
theorem kX0_weighShare_23 : Cond.fieldLink RX0 23 "EveningVow$CupShares" "hoursBy" "[I" ∈ wsX0_weighShare := List.mem_of_getElem? (i := 6) rfl
theorem kX0_weighShare_70_a : Cond.methodLink RX0 70 Lib.Math.max.name ∈ wsX0_weighShare := List.mem_of_getElem? (i := 7) rfl
theorem kX0_weighShare_70_b : Cond.static Lib.Math.max.name ∈ wsX0_weighShare := List.mem_of_getElem? (i := 8) rfl
theorem kX0_weighShare_70_c : Cond.initialized "java/lang/Math" ∈ wsX0_weighShare := List.mem_of_getElem? (i := 9) rfl
theorem kX0_weighShare_70_d : Cond.code Lib.Math.max.name Lib.Math.max.code 2 (some .int) ∈ wsX0_weighShare := List.mem_of_getElem? (i := 10) rfl
theorem kX0_weighShare_15 : Cond.fieldLink RX0 15 "EveningVow$CupShares" "bestHours" "I" ∈ wsX0_weighShare := List.mem_of_getElem? (i := 11) rfl
theorem kX0_weighShare_19 : Cond.fieldLink RX0 19 "EveningVow$CupShares" "bestRow" "[I" ∈ wsX0_weighShare := List.mem_of_getElem? (i := 12) rfl
theorem kX0_weighShare_76_a : Cond.methodLink RX0 76 arraycopyName ∈ wsX0_weighShare := List.mem_of_getElem? (i := 13) rfl
theorem kX0_weighShare_76_b : Cond.native arraycopyName ∈ wsX0_weighShare := List.mem_of_getElem? (i := 14) rfl
theorem kX0_weighShare_76_c : Cond.static arraycopyName ∈ wsX0_weighShare := List.mem_of_getElem? (i := 15) rfl
theorem kX0_weighShare_76_d : Cond.initialized "java/lang/System" ∈ wsX0_weighShare := List.mem_of_getElem? (i := 16) rfl
set_option maxHeartbeats 4000000 in
set_option maxRecDepth 100000 in
theorem wX0_weighShare_L11 {p : Program} {l : Launch} {e : Env} {s : State} {m : MethodId} {args : Array Value} {below : List Frame} {meth : Method} {c : Code} {g : GG} {A : Nat → Prop} (C0 : Cx p s m args meth c cX0_weighShare 6 none RX0 wsX0_weighShare g A) (a_t : Nat) (a_r1 : Nat) (a_r2 : Nat) (a_r3 : Nat) (p_t : Nat → Nat) (p_t_5 : Nat → Nat) (p_r1 : Nat → Nat) (p_r2 : Nat → Nat) (p_r3 : Nat → Nat) (n : Nat) (x4 : Int32) (o_t : Nat → Int32) (f_t_4 : Nat → Int32) (o_t_5 : Nat → Int32) (o_r1 : Nat → Int32) (f_t_2 : Nat → Int32) (f_t_3 : Nat → Int32) (f_t_5_7 : Nat → Int32) (f_t_5_8 : Nat → Int32) (f_r1_4 : Nat → Int32) (f_r1_6 : Nat → Int32) (f_r1_7 : Nat → Int32) (f_r1_10 : Nat → Int32) (f_r1_11 : Nat → Int32) (f_r1_12 : Nat → Int32) (o_r2 : Nat → Int32) (f_r2_6 : Nat → Int32) (f_r2_7 : Nat → Int32) (o_r3 : Nat → Int32) (o_t' : Nat → Int32) (f_t_2' : Nat → Int32) (f_t_3' : Nat → Int32) (o_t_5' : Nat → Int32) (f_t_5_6' : Nat → Int32) (f_t_5_7' : Nat → Int32) (f_t_5_8' : Nat → Int32) (o_r3' : Nat → Int32) (K : (Nat → Int32) → Option ((Nat → Int32) × (Nat → Int32) × (Nat → Int32) × (Nat → Int32) × (Nat → Int32) × (Nat → Int32) × (Nat → Int32) × (Nat → Int32))) (hKx : ∀ (f_t_5_6 : Nat → Int32) (H : Heap) (locs : List Loc) (ls : Array Slot), K f_t_5_6 = some (o_t', f_t_2', f_t_3', o_t_5', f_t_5_6', f_t_5_7', f_t_5_8', o_r3') → va_P g.1 vwCl [oX0 a_t p_t o_t, aI g (p_t 2) 7 f_t_2, aI g (p_t 3) 5 f_t_3, aI g (p_t 4) 7 f_t_4, oX2 (p_t 5) p_t_5 o_t_5, aI g (p_t_5 6) 7 f_t_5_6, aI g (p_t_5 7) 7 f_t_5_7, aI g (p_t_5 8) 7 f_t_5_8, oX1 a_r1 p_r1 o_r1, aI g (p_r1 4) 7 f_r1_4, aI g (p_r1 6) 7 f_r1_6, aI g (p_r1 7) 7 f_r1_7, aI g (p_r1 10) 8 f_r1_10, aI g (p_r1 11) 8 f_r1_11, aI g (p_r1 12) 8 f_r1_12, oX2 a_r2 p_r2 o_r2, aI g (p_r2 6) 7 f_r2_6, aI g (p_r2 7) 7 f_r2_7, oX3 a_r3 p_r3 o_r3] H → va_D A [oX0 a_t p_t o_t, aI g (p_t 2) 7 f_t_2, aI g (p_t 3) 5 f_t_3, aI g (p_t 4) 7 f_t_4, oX2 (p_t 5) p_t_5 o_t_5, aI g (p_t_5 6) 7 f_t_5_6, aI g (p_t_5 7) 7 f_t_5_7, aI g (p_t_5 8) 7 f_t_5_8, oX1 a_r1 p_r1 o_r1, aI g (p_r1 4) 7 f_r1_4, aI g (p_r1 6) 7 f_r1_6, aI g (p_r1 7) 7 f_r1_7, aI g (p_r1 10) 8 f_r1_10, aI g (p_r1 11) 8 f_r1_11, aI g (p_r1 12) 8 f_r1_12, oX2 a_r2 p_r2 o_r2, aI g (p_r2 6) 7 f_r2_6, aI g (p_r2 7) 7 f_r2_7, oX3 a_r3 p_r3 o_r3] → va_S A s.heap H locs → lv_has ls 6 [(0, .ref a_t), (1, .ref a_r1), (3, .ref a_r3), (4, .int x4)] → W p l e ({ frames := 4, cells := 0, slots := 0, locals := 95 } : Room) s m args below meth c H locs 0 0 (MQ below (EndV g [oX0 a_t p_t o_t', aI g (p_t 2) 7 f_t_2', aI g (p_t 3) 5 f_t_3', aI g (p_t 4) 7 f_t_4, oX2 (p_t 5) p_t_5 o_t_5', aI g (p_t_5 6) 7 f_t_5_6', aI g (p_t_5 7) 7 f_t_5_7', aI g (p_t_5 8) 7 f_t_5_8', oX1 a_r1 p_r1 o_r1, aI g (p_r1 4) 7 f_r1_4, aI g (p_r1 6) 7 f_r1_6, aI g (p_r1 7) 7 f_r1_7, aI g (p_r1 10) 8 f_r1_10, aI g (p_r1 11) 8 f_r1_11, aI g (p_r1 12) 8 f_r1_12, oX2 a_r2 p_r2 o_r2, aI g (p_r2 6) 7 f_r2_6, aI g (p_r2 7) 7 f_r2_7, oX3 a_r3 p_r3 o_r3'] A) args s 0 0 A) (F0 m 51 ls [])) : ∀ (k : Nat) (x5 : Int32) (f_t_5_6 : Nat → Int32), fX0_weighShare_L11 n x4 o_t f_t_4 o_t_5 o_r1 K k x5 f_t_5_6 = some (o_t', f_t_2', f_t_3', o_t_5', f_t_5_6', f_t_5_7', f_t_5_8', o_r3') → ∀ (H : Heap) (locs : List Loc) (ls : Array Slot), va_P g.1 vwCl [oX0 a_t p_t o_t, aI g (p_t 2) 7 f_t_2, aI g (p_t 3) 5 f_t_3, aI g (p_t 4) 7 f_t_4, oX2 (p_t 5) p_t_5 o_t_5, aI g (p_t_5 6) 7 f_t_5_6, aI g (p_t_5 7) 7 f_t_5_7, aI g (p_t_5 8) 7 f_t_5_8, oX1 a_r1 p_r1 o_r1, aI g (p_r1 4) 7 f_r1_4, aI g (p_r1 6) 7 f_r1_6, aI g (p_r1 7) 7 f_r1_7, aI g (p_r1 10) 8 f_r1_10, aI g (p_r1 11) 8 f_r1_11, aI g (p_r1 12) 8 f_r1_12, oX2 a_r2 p_r2 o_r2, aI g (p_r2 6) 7 f_r2_6, aI g (p_r2 7) 7 f_r2_7, oX3 a_r3 p_r3 o_r3] H → va_D A [oX0 a_t p_t o_t, aI g (p_t 2) 7 f_t_2, aI g (p_t 3) 5 f_t_3, aI g (p_t 4) 7 f_t_4, oX2 (p_t 5) p_t_5 o_t_5, aI g (p_t_5 6) 7 f_t_5_6, aI g (p_t_5 7) 7 f_t_5_7, aI g (p_t_5 8) 7 f_t_5_8, oX1 a_r1 p_r1 o_r1, aI g (p_r1 4) 7 f_r1_4, aI g (p_r1 6) 7 f_r1_6, aI g (p_r1 7) 7 f_r1_7, aI g (p_r1 10) 8 f_r1_10, aI g (p_r1 11) 8 f_r1_11, aI g (p_r1 12) 8 f_r1_12, oX2 a_r2 p_r2 o_r2, aI g (p_r2 6) 7 f_r2_6, aI g (p_r2 7) 7 f_r2_7, oX3 a_r3 p_r3 o_r3] → va_S A s.heap H locs → lv_has ls 6 [(0, .ref a_t), (1, .ref a_r1), (3, .ref a_r3), (4, .int x4), (5, .int x5)] → W p l e ({ frames := 4, cells := 0, slots := 0, locals := 95 } : Room) s m args below meth c H locs 0 0 (MQ below (EndV g [oX0 a_t p_t o_t', aI g (p_t 2) 7 f_t_2', aI g (p_t 3) 5 f_t_3', aI g (p_t 4) 7 f_t_4, oX2 (p_t 5) p_t_5 o_t_5', aI g (p_t_5 6) 7 f_t_5_6', aI g (p_t_5 7) 7 f_t_5_7', aI g (p_t_5 8) 7 f_t_5_8', oX1 a_r1 p_r1 o_r1, aI g (p_r1 4) 7 f_r1_4, aI g (p_r1 6) 7 f_r1_6, aI g (p_r1 7) 7 f_r1_7, aI g (p_r1 10) 8 f_r1_10, aI g (p_r1 11) 8 f_r1_11, aI g (p_r1 12) 8 f_r1_12, oX2 a_r2 p_r2 o_r2, aI g (p_r2 6) 7 f_r2_6, aI g (p_r2 7) 7 f_r2_7, oX3 a_r3 p_r3 o_r3'] A) args s 0 0 A) (F0 m 11 ls []) := by
  obtain ⟨hx, hb, hml, hown, hts, hr, hlk, hK, hA, hSW⟩ := id C0
  intro k
  induction k with
  | zero =>
    intro x5 f_t_5_6 hF
    exact absurd hF (by simp [fX0_weighShare_L11])
  | succ k ih =>
    intro x5 f_t_5_6 hF H locs ls hP hD hS hl
    rw [fX0_weighShare_L11] at hF
    refine lv_iload hx hb dX0_weighShare_11 (lv_at hl 4 rfl) ?_
    refine lv_aload_n hx hb dX0_weighShare_13 rfl (lv_at hl 1 rfl) ?_
    refine va_get (D := g.1) (ci := 1) (v := .int (o_r1 3)) (C := RX1) (T := TX1) (N := 17) hx hb hts iX0_weighShare_X1 hown hK.1 hP 8 rfl rfl 3 (by decide) (hts _ kX0_weighShare_43) (fun _ h9 => h9) rfl dX0_weighShare_14 ?_
    refine lv_icmp_ge (tgt := 51) hx hb dX0_weighShare_17 (by decide) (fun c_5 => ?_) (fun c_5 => ?_)
    · have hF := it_p c_5 hF
      exact hKx f_t_5_6 _ _ _ hF (hP.sub [0, 1, 2, 3, 4, 5, 6, 7, 8, 9, 10, 11, 12, 13, 14, 15, 16, 17, 18] rfl) (hD.sub [0, 1, 2, 3, 4, 5, 6, 7, 8, 9, 10, 11, 12, 13, 14, 15, 16, 17, 18] rfl rfl) hS (lv_sub hl [0, 1, 2, 3] rfl)
    · have hF := it_n c_5 hF
      refine lv_aload_n hx hb dX0_weighShare_20 rfl (lv_at hl 0 rfl) ?_
      refine va_get (D := g.1) (ci := 0) (v := .ref (p_t 5)) (C := RX0) (T := TX0) (N := 6) hx hb hts iX0_weighShare_X0 hown hK.1 hP 0 rfl rfl 5 (by decide) (hts _ kX0_weighShare_32) (fun _ h9 => h9) rfl dX0_weighShare_21 ?_
      refine va_get (D := g.1) (ci := 2) (v := .ref (p_t_5 6)) (C := RX2) (T := TX2) (N := 9) hx hb hts iX0_weighShare_X2 hown hK.1 hP 4 rfl rfl 6 (by decide) (hts _ kX0_weighShare_60) (fun _ h9 => h9) rfl dX0_weighShare_24 ?_
      refine lv_iload hx hb dX0_weighShare_27 (lv_at hl 4 rfl) ?_
      refine lv_dup2_11 hx hb dX0_weighShare_29 rfl rfl ?_
      obtain ⟨h_6, hF⟩ := it_ck hF
      refine va_iald hx hb hK.1 hP 5 0 rfl rfl h_6 dX0_weighShare_30 ?_
      refine lv_aload_n hx hb dX0_weighShare_31 rfl (lv_at hl 0 rfl) ?_
      refine va_get (D := g.1) (ci := 0) (v := .ref (p_t 4)) (C := RX0) (T := TX0) (N := 6) hx hb hts iX0_weighShare_X0 hown hK.1 hP 0 rfl rfl 4 (by decide) (hts _ kX0_weighShare_26) (fun _ h9 => h9) rfl dX0_weighShare_32 ?_
      refine lv_iload hx hb dX0_weighShare_35 (lv_at hl 4 rfl) ?_
      obtain ⟨h_7, hF⟩ := it_ck hF
      refine va_iald hx hb hK.1 hP 3 0 rfl rfl h_7 dX0_weighShare_37 ?_
      refine lv_aload_n hx hb dX0_weighShare_38 rfl (lv_at hl 1 rfl) ?_
      refine va_get (D := g.1) (ci := 1) (v := .int (o_r1 1)) (C := RX1) (T := TX1) (N := 17) hx hb hts iX0_weighShare_X1 hown hK.1 hP 8 rfl rfl 1 (by decide) (hts _ kX0_weighShare_63) (fun _ h9 => h9) rfl dX0_weighShare_39 ?_
      refine lv_imul hx hb dX0_weighShare_42 ?_
      refine lv_iadd hx hb dX0_weighShare_43 ?_
      obtain ⟨h_8, hF⟩ := it_ck hF
      refine va_iast hx hb hK.1 hP hD hS 5 0 rfl rfl h_8 dX0_weighShare_44 (fun H locs hP hD hS => ?_)
      have hP : va_P g.1 vwCl [oX0 a_t p_t o_t, aI g (p_t 2) 7 f_t_2, aI g (p_t 3) 5 f_t_3, aI g (p_t 4) 7 f_t_4, oX2 (p_t 5) p_t_5 o_t_5, aI g (p_t_5 6) 7 (upd f_t_5_6 (x5).toNatClampNeg ((f_t_5_6 (x5).toNatClampNeg) + ((f_t_4 (x5).toNatClampNeg) * (o_r1 1)))), aI g (p_t_5 7) 7 f_t_5_7, aI g (p_t_5 8) 7 f_t_5_8, oX1 a_r1 p_r1 o_r1, aI g (p_r1 4) 7 f_r1_4, aI g (p_r1 6) 7 f_r1_6, aI g (p_r1 7) 7 f_r1_7, aI g (p_r1 10) 8 f_r1_10, aI g (p_r1 11) 8 f_r1_11, aI g (p_r1 12) 8 f_r1_12, oX2 a_r2 p_r2 o_r2, aI g (p_r2 6) 7 f_r2_6, aI g (p_r2 7) 7 f_r2_7, oX3 a_r3 p_r3 o_r3] H := hP
      have hD : va_D A [oX0 a_t p_t o_t, aI g (p_t 2) 7 f_t_2, aI g (p_t 3) 5 f_t_3, aI g (p_t 4) 7 f_t_4, oX2 (p_t 5) p_t_5 o_t_5, aI g (p_t_5 6) 7 (upd f_t_5_6 (x5).toNatClampNeg ((f_t_5_6 (x5).toNatClampNeg) + ((f_t_4 (x5).toNatClampNeg) * (o_r1 1)))), aI g (p_t_5 7) 7 f_t_5_7, aI g (p_t_5 8) 7 f_t_5_8, oX1 a_r1 p_r1 o_r1, aI g (p_r1 4) 7 f_r1_4, aI g (p_r1 6) 7 f_r1_6, aI g (p_r1 7) 7 f_r1_7, aI g (p_r1 10) 8 f_r1_10, aI g (p_r1 11) 8 f_r1_11, aI g (p_r1 12) 8 f_r1_12, oX2 a_r2 p_r2 o_r2, aI g (p_r2 6) 7 f_r2_6, aI g (p_r2 7) 7 f_r2_7, oX3 a_r3 p_r3 o_r3] := hD
      refine lv_iinc (v := (x5 + (1 : Int32))) (lv' := [(5, .int (x5 + (1 : Int32))), (0, .ref a_t), (1, .ref a_r1), (3, .ref a_r3), (4, .int x4)]) hx hb dX0_weighShare_45 hl (k := 4) rfl rfl (by decide) rfl (fun ls hl => ?_)
      refine lv_goto (tgt := 11) hx hb dX0_weighShare_48 (by decide) ?_
      exact ih (x5 + (1 : Int32)) (upd f_t_5_6 (x5).toNatClampNeg ((f_t_5_6 (x5).toNatClampNeg) + ((f_t_4 (x5).toNatClampNeg) * (o_r1 1)))) hF _ _ _ (hP.sub [0, 1, 2, 3, 4, 5, 6, 7, 8, 9, 10, 11, 12, 13, 14, 15, 16, 17, 18] rfl) (hD.sub [0, 1, 2, 3, 4, 5, 6, 7, 8, 9, 10, 11, 12, 13, 14, 15, 16, 17, 18] rfl rfl) hS (lv_sub hl [1, 2, 3, 4, 0] rfl)
set_option maxHeartbeats 4000000 in
set_option maxRecDepth 100000 in
theorem mX0_weighShare (l : Launch) (g : GG) (a_t : Nat) (a_r1 : Nat) (a_r2 : Nat) (a_r3 : Nat) (p_t : Nat → Nat) (p_t_5 : Nat → Nat) (p_r1 : Nat → Nat) (p_r2 : Nat → Nat) (p_r3 : Nat → Nat) (n : Nat) (x4 : Int32) (o_t : Nat → Int32) (f_t_2 : Nat → Int32) (f_t_3 : Nat → Int32) (f_t_4 : Nat → Int32) (o_t_5 : Nat → Int32) (f_t_5_6 : Nat → Int32) (f_t_5_7 : Nat → Int32) (f_t_5_8 : Nat → Int32) (o_r1 : Nat → Int32) (f_r1_4 : Nat → Int32) (f_r1_6 : Nat → Int32) (f_r1_7 : Nat → Int32) (f_r1_10 : Nat → Int32) (f_r1_11 : Nat → Int32) (f_r1_12 : Nat → Int32) (o_r2 : Nat → Int32) (f_r2_6 : Nat → Int32) (f_r2_7 : Nat → Int32) (o_r3 : Nat → Int32) (o_t' : Nat → Int32) (f_t_2' : Nat → Int32) (f_t_3' : Nat → Int32) (o_t_5' : Nat → Int32) (f_t_5_6' : Nat → Int32) (f_t_5_7' : Nat → Int32) (f_t_5_8' : Nat → Int32) (o_r3' : Nat → Int32) (hF : fX0_weighShare n x4 o_t f_t_2 f_t_3 f_t_4 o_t_5 f_t_5_6 f_t_5_7 f_t_5_8 o_r1 f_r1_4 f_r1_6 f_r1_7 f_r1_10 f_r1_11 f_r1_12 o_r2 f_r2_6 f_r2_7 o_r3 = some (o_t', f_t_2', f_t_3', o_t_5', f_t_5_6', f_t_5_7', f_t_5_8', o_r3')) : MV l g yX0_weighShare wsX0_weighShare ({ frames := 4, cells := 0, slots := 0, locals := 95 } : Room) [.ref a_t, .ref a_r1, .ref a_r2, .ref a_r3, .int x4] [oX0 a_t p_t o_t, aI g (p_t 2) 7 f_t_2, aI g (p_t 3) 5 f_t_3, aI g (p_t 4) 7 f_t_4, oX2 (p_t 5) p_t_5 o_t_5, aI g (p_t_5 6) 7 f_t_5_6, aI g (p_t_5 7) 7 f_t_5_7, aI g (p_t_5 8) 7 f_t_5_8, oX1 a_r1 p_r1 o_r1, aI g (p_r1 4) 7 f_r1_4, aI g (p_r1 6) 7 f_r1_6, aI g (p_r1 7) 7 f_r1_7, aI g (p_r1 10) 8 f_r1_10, aI g (p_r1 11) 8 f_r1_11, aI g (p_r1 12) 8 f_r1_12, oX2 a_r2 p_r2 o_r2, aI g (p_r2 6) 7 f_r2_6, aI g (p_r2 7) 7 f_r2_7, oX3 a_r3 p_r3 o_r3] [oX0 a_t p_t o_t', aI g (p_t 2) 7 f_t_2', aI g (p_t 3) 5 f_t_3', aI g (p_t 4) 7 f_t_4, oX2 (p_t 5) p_t_5 o_t_5', aI g (p_t_5 6) 7 f_t_5_6', aI g (p_t_5 7) 7 f_t_5_7', aI g (p_t_5 8) 7 f_t_5_8', oX1 a_r1 p_r1 o_r1, aI g (p_r1 4) 7 f_r1_4, aI g (p_r1 6) 7 f_r1_6, aI g (p_r1 7) 7 f_r1_7, aI g (p_r1 10) 8 f_r1_10, aI g (p_r1 11) 8 f_r1_11, aI g (p_r1 12) 8 f_r1_12, oX2 a_r2 p_r2 o_r2, aI g (p_r2 6) 7 f_r2_6, aI g (p_r2 7) 7 f_r2_7, oX3 a_r3 p_r3 o_r3'] := by
  refine MV.of (cc := cX0_weighShare) (maxL := 6) (own := RX0) rfl rfl (by decide) (Nat.le_of_ble_eq_true rfl) ?_
  intro p e s m args below meth c A C0 hP hD hS ls hl
  obtain ⟨hx, hb, hml, hown, hts, hr, hlk, hK, hA, hSW⟩ := id C0
  have hl : lv_has ls 6 [(0, .ref a_t), (1, .ref a_r1), (2, .ref a_r2), (3, .ref a_r3), (4, .int x4)] := hl
  rw [fX0_weighShare] at hF
  refine lv_aload_n hx hb dX0_weighShare_0 rfl (lv_at hl 0 rfl) ?_
  refine va_get (D := g.1) (ci := 0) (v := .ref (p_t 5)) (C := RX0) (T := TX0) (N := 6) hx hb hts iX0_weighShare_X0 hown hK.1 hP 0 rfl rfl 5 (by decide) (hts _ kX0_weighShare_32) (fun _ h9 => h9) rfl dX0_weighShare_1 ?_
  refine lv_aload_n hx hb dX0_weighShare_4 rfl (lv_at hl 2 rfl) ?_
  obtain ⟨u_1, u_2, u_3, hu_4, hF⟩ := ob3_some hF
  refine call_v (wr := [oX0 a_t p_t o_t, aI g (p_t 2) 7 f_t_2, aI g (p_t 3) 5 f_t_3, aI g (p_t 4) 7 f_t_4, aI g (p_t_5 8) 7 f_t_5_8, oX1 a_r1 p_r1 o_r1, aI g (p_r1 4) 7 f_r1_4, aI g (p_r1 6) 7 f_r1_6, aI g (p_r1 7) 7 f_r1_7, aI g (p_r1 10) 8 f_r1_10, aI g (p_r1 11) 8 f_r1_11, aI g (p_r1 12) 8 f_r1_12, oX3 a_r3 p_r3 o_r3]) (As := [.ref a_r2]) (rest := []) (ci := 2) (q0 := 0) C0 (mX2_become l g (p_t 5) a_r2 p_t_5 p_r2 n o_t_5 f_t_5_6 f_t_5_7 o_r2 f_r2_6 f_r2_7 u_1 u_2 u_3 hu_4) (cwV 1 hts gX0_weighShare_X2_become rfl rfl rfl (by decide +kernel) ⟨Nat.le_of_ble_eq_true rfl, Nat.le_of_ble_eq_true rfl⟩) hP hD hS [4, 5, 6, 15, 16, 17] [0, 1, 2, 3, 7, 8, 9, 10, 11, 12, 13, 14, 18] rfl rfl rfl rfl rfl (by decide) rfl rfl hl.1 rfl rfl (Nat.le_of_ble_eq_true rfl) ⟨Nat.zero_le _, Nat.zero_le _⟩ dX0_weighShare_5 ?_
  intro H locs hP hD hS
  refine lv_iconst (v := (0 : Int32)) hx hb dX0_weighShare_8 (by decide) ?_
  refine lv_istore (lv' := [(5, .int (0 : Int32)), (0, .ref a_t), (1, .ref a_r1), (2, .ref a_r2), (3, .ref a_r3), (4, .int x4)]) hx hb dX0_weighShare_9 hl (by decide) rfl (fun ls hl => ?_)
  refine wX0_weighShare_L11 C0 a_t a_r1 a_r2 a_r3 p_t p_t_5 p_r1 p_r2 p_r3 n x4 o_t f_t_4 u_1 o_r1 f_t_2 f_t_3 u_3 f_t_5_8 f_r1_4 f_r1_6 f_r1_7 f_r1_10 f_r1_11 f_r1_12 o_r2 f_r2_6 f_r2_7 o_r3 o_t' f_t_2' f_t_3' o_t_5' f_t_5_6' f_t_5_7' f_t_5_8' o_r3' _ ?_ n (0 : Int32) u_2 hF _ _ _ (hP.sub [0, 1, 2, 3, 13, 14, 15, 4, 5, 6, 7, 8, 9, 10, 11, 16, 17, 18, 12] rfl) (hD.sub [0, 1, 2, 3, 13, 14, 15, 4, 5, 6, 7, 8, 9, 10, 11, 16, 17, 18, 12] rfl rfl) hS (lv_sub hl [1, 2, 4, 5, 0] rfl)
  · intro f_t_5_6_x11 H locs ls hF hP hD hS hl
    refine lv_aload_n hx hb dX0_weighShare_51 rfl (lv_at hl 0 rfl) ?_
    refine va_get (D := g.1) (ci := 0) (v := .ref (p_t 5)) (C := RX0) (T := TX0) (N := 6) hx hb hts iX0_weighShare_X0 hown hK.1 hP 0 rfl rfl 5 (by decide) (hts _ kX0_weighShare_32) (fun _ h9 => h9) rfl dX0_weighShare_52 ?_
    refine lv_aload_n hx hb dX0_weighShare_55 rfl (lv_at hl 1 rfl) ?_
    refine lv_aload_n hx hb dX0_weighShare_56 rfl (lv_at hl 2 rfl) ?_
    refine lv_bipush (v := (60 : Int32)) hx hb dX0_weighShare_57 (by decide) ?_
    obtain ⟨u_9, u_10, u_11, u_12, u_13, u_14, hu_15, hF⟩ := ob6_some hF
    refine call_i (wr := [oX0 a_t p_t o_t, aI g (p_t 2) 7 f_t_2, aI g (p_t 3) 5 f_t_3, aI g (p_t 4) 7 f_t_4, oX2 a_r2 p_r2 o_r2, aI g (p_r2 6) 7 f_r2_6, aI g (p_r2 7) 7 f_r2_7]) (As := [.ref a_r1, .ref a_r3, .int (60 : Int32)]) (rest := []) (ci := 2) (q0 := 0) C0 (mX2_runOut l g (p_t 5) a_r1 a_r3 p_t_5 p_r1 p_r3 n (60 : Int32) u_1 f_t_5_6_x11 u_3 f_t_5_8 o_r1 f_r1_4 f_r1_6 f_r1_7 f_r1_10 f_r1_11 f_r1_12 o_r3 u_9 u_10 u_11 u_12 u_13 u_14 hu_15) (cwV 3 hts gX0_weighShare_X2_runOut rfl rfl rfl (by decide +kernel) ⟨Nat.le_of_ble_eq_true rfl, Nat.le_of_ble_eq_true rfl⟩) hP hD hS [4, 5, 6, 7, 8, 9, 10, 11, 12, 13, 14, 18] [0, 1, 2, 3, 15, 16, 17] rfl rfl rfl rfl rfl (by decide) rfl rfl hl.1 rfl rfl (Nat.le_of_ble_eq_true rfl) ⟨Nat.zero_le _, Nat.zero_le _⟩ dX0_weighShare_59 ?_
    intro H locs hP hD hS
    refine lv_istore (lv' := [(5, .int u_9), (0, .ref a_t), (1, .ref a_r1), (3, .ref a_r3), (4, .int x4)]) hx hb dX0_weighShare_62 hl (by decide) rfl (fun ls hl => ?_)
    refine lv_aload_n hx hb dX0_weighShare_64 rfl (lv_at hl 1 rfl) ?_
    refine va_get (D := g.1) (ci := 0) (v := .ref (p_t 3)) (C := RX0) (T := TX0) (N := 6) hx hb hts iX0_weighShare_X0 hown hK.1 hP 0 rfl rfl 3 (by decide) (hts _ kX0_weighShare_23) (fun _ h9 => h9) rfl dX0_weighShare_65 ?_
    refine lv_iload hx hb dX0_weighShare_68 (lv_at hl 4 rfl) ?_
    refine lv_aload_n hx hb dX0_weighShare_70 rfl (lv_at hl 1 rfl) ?_
    refine va_get (D := g.1) (ci := 0) (v := .ref (p_t 3)) (C := RX0) (T := TX0) (N := 6) hx hb hts iX0_weighShare_X0 hown hK.1 hP 0 rfl rfl 3 (by decide) (hts _ kX0_weighShare_23) (fun _ h9 => h9) rfl dX0_weighShare_71 ?_
    refine lv_iload hx hb dX0_weighShare_74 (lv_at hl 4 rfl) ?_
    obtain ⟨h_16, hF⟩ := it_ck hF
    refine va_iald hx hb hK.1 hP 2 0 rfl rfl h_16 dX0_weighShare_76 ?_
    refine lv_iload hx hb dX0_weighShare_77 (lv_at hl 0 rfl) ?_
    refine va_mmax hx hb (hml.trans hl.1.symm) hown (hts _ kX0_weighShare_70_a) (hts _ kX0_weighShare_70_b) (hts _ kX0_weighShare_70_c) (hts _ kX0_weighShare_70_d) (Nat.le_of_ble_eq_true rfl) (Nat.le_of_ble_eq_true rfl) (Nat.zero_le _) (Nat.zero_le _) dX0_weighShare_79 ?_
    obtain ⟨h_17, hF⟩ := it_ck hF
    refine va_iast hx hb hK.1 hP hD hS 2 0 rfl rfl h_17 dX0_weighShare_82 (fun H locs hP hD hS => ?_)
    have hP : va_P g.1 vwCl [oX0 a_t p_t o_t, aI g (p_t 2) 7 f_t_2, aI g (p_t 3) 5 (upd f_t_3 (x4).toNatClampNeg (if (f_t_3 (x4).toNatClampNeg) < u_9 then u_9 else (f_t_3 (x4).toNatClampNeg))), aI g (p_t 4) 7 f_t_4, oX2 a_r2 p_r2 o_r2, aI g (p_r2 6) 7 f_r2_6, aI g (p_r2 7) 7 f_r2_7, oX2 (p_t 5) p_t_5 u_10, aI g (p_t_5 6) 7 u_11, aI g (p_t_5 7) 7 u_12, aI g (p_t_5 8) 7 u_13, oX1 a_r1 p_r1 o_r1, aI g (p_r1 4) 7 f_r1_4, aI g (p_r1 6) 7 f_r1_6, aI g (p_r1 7) 7 f_r1_7, aI g (p_r1 10) 8 f_r1_10, aI g (p_r1 11) 8 f_r1_11, aI g (p_r1 12) 8 f_r1_12, oX3 a_r3 p_r3 u_14] H := hP
    have hD : va_D A [oX0 a_t p_t o_t, aI g (p_t 2) 7 f_t_2, aI g (p_t 3) 5 (upd f_t_3 (x4).toNatClampNeg (if (f_t_3 (x4).toNatClampNeg) < u_9 then u_9 else (f_t_3 (x4).toNatClampNeg))), aI g (p_t 4) 7 f_t_4, oX2 a_r2 p_r2 o_r2, aI g (p_r2 6) 7 f_r2_6, aI g (p_r2 7) 7 f_r2_7, oX2 (p_t 5) p_t_5 u_10, aI g (p_t_5 6) 7 u_11, aI g (p_t_5 7) 7 u_12, aI g (p_t_5 8) 7 u_13, oX1 a_r1 p_r1 o_r1, aI g (p_r1 4) 7 f_r1_4, aI g (p_r1 6) 7 f_r1_6, aI g (p_r1 7) 7 f_r1_7, aI g (p_r1 10) 8 f_r1_10, aI g (p_r1 11) 8 f_r1_11, aI g (p_r1 12) 8 f_r1_12, oX3 a_r3 p_r3 u_14] := hD
    refine lv_iload hx hb dX0_weighShare_83 (lv_at hl 0 rfl) ?_
    refine lv_aload_n hx hb dX0_weighShare_85 rfl (lv_at hl 1 rfl) ?_
    refine va_get (D := g.1) (ci := 0) (v := .int (o_t 1)) (C := RX0) (T := TX0) (N := 6) hx hb hts iX0_weighShare_X0 hown hK.1 hP 0 rfl rfl 1 (by decide) (hts _ kX0_weighShare_15) (fun _ h9 => h9) rfl dX0_weighShare_86 ?_
    refine lv_icmp_le (tgt := 113) hx hb dX0_weighShare_89 (by decide) (fun c_18 => ?_) (fun c_18 => ?_)
    · have hF := it_p c_18 hF
      cases hF
      exact ret_v C0 hP hD hS [0, 1, 2, 3, 7, 8, 9, 10, 11, 12, 13, 14, 15, 16, 17, 4, 5, 6, 18] rfl rfl rfl dX0_weighShare_113
    · have hF := it_n c_18 hF
      refine lv_aload_n hx hb dX0_weighShare_92 rfl (lv_at hl 1 rfl) ?_
      refine lv_iload hx hb dX0_weighShare_93 (lv_at hl 0 rfl) ?_
      refine va_put (D := g.1) (ci := 0) (v := .int u_9) (ty := .int) (C := RX0) (T := TX0) (N := 6) hx hb hts iX0_weighShare_X0 tyX0 tyX0_ok nmX0 hown hK.1 hP hD hS 0 rfl rfl 1 (by decide) (hts _ kX0_weighShare_15) (fun _ h9 => h9) rfl (by decide +kernel) rfl rfl (Nat.le_of_ble_eq_true rfl) dX0_weighShare_95 (fun H locs hP hD hS => ?_)
      have hP : va_P g.1 vwCl [oX0 a_t p_t (upd o_t 1 u_9), aI g (p_t 2) 7 f_t_2, aI g (p_t 3) 5 (upd f_t_3 (x4).toNatClampNeg (if (f_t_3 (x4).toNatClampNeg) < u_9 then u_9 else (f_t_3 (x4).toNatClampNeg))), aI g (p_t 4) 7 f_t_4, oX2 a_r2 p_r2 o_r2, aI g (p_r2 6) 7 f_r2_6, aI g (p_r2 7) 7 f_r2_7, oX2 (p_t 5) p_t_5 u_10, aI g (p_t_5 6) 7 u_11, aI g (p_t_5 7) 7 u_12, aI g (p_t_5 8) 7 u_13, oX1 a_r1 p_r1 o_r1, aI g (p_r1 4) 7 f_r1_4, aI g (p_r1 6) 7 f_r1_6, aI g (p_r1 7) 7 f_r1_7, aI g (p_r1 10) 8 f_r1_10, aI g (p_r1 11) 8 f_r1_11, aI g (p_r1 12) 8 f_r1_12, oX3 a_r3 p_r3 u_14] H := hP
      have hD : va_D A [oX0 a_t p_t (upd o_t 1 u_9), aI g (p_t 2) 7 f_t_2, aI g (p_t 3) 5 (upd f_t_3 (x4).toNatClampNeg (if (f_t_3 (x4).toNatClampNeg) < u_9 then u_9 else (f_t_3 (x4).toNatClampNeg))), aI g (p_t 4) 7 f_t_4, oX2 a_r2 p_r2 o_r2, aI g (p_r2 6) 7 f_r2_6, aI g (p_r2 7) 7 f_r2_7, oX2 (p_t 5) p_t_5 u_10, aI g (p_t_5 6) 7 u_11, aI g (p_t_5 7) 7 u_12, aI g (p_t_5 8) 7 u_13, oX1 a_r1 p_r1 o_r1, aI g (p_r1 4) 7 f_r1_4, aI g (p_r1 6) 7 f_r1_6, aI g (p_r1 7) 7 f_r1_7, aI g (p_r1 10) 8 f_r1_10, aI g (p_r1 11) 8 f_r1_11, aI g (p_r1 12) 8 f_r1_12, oX3 a_r3 p_r3 u_14] := hD
      refine lv_aload_n hx hb dX0_weighShare_98 rfl (lv_at hl 1 rfl) ?_
      refine va_get (D := g.1) (ci := 0) (v := .ref (p_t 4)) (C := RX0) (T := TX0) (N := 6) hx hb hts iX0_weighShare_X0 hown hK.1 hP 0 rfl rfl 4 (by decide) (hts _ kX0_weighShare_26) (fun _ h9 => h9) rfl dX0_weighShare_99 ?_
      refine lv_iconst (v := (0 : Int32)) hx hb dX0_weighShare_102 (by decide) ?_
      refine lv_aload_n hx hb dX0_weighShare_103 rfl (lv_at hl 1 rfl) ?_
      refine va_get (D := g.1) (ci := 0) (v := .ref (p_t 2)) (C := RX0) (T := TX0) (N := 6) hx hb hts iX0_weighShare_X0 hown hK.1 hP 0 rfl rfl 2 (by decide) (hts _ kX0_weighShare_19) (fun _ h9 => h9) rfl dX0_weighShare_104 ?_
      refine lv_iconst (v := (0 : Int32)) hx hb dX0_weighShare_107 (by decide) ?_
      refine lv_bipush (v := (7 : Int32)) hx hb dX0_weighShare_108 (by decide) ?_
      refine va_copyi hx hb (hml.trans hl.1.symm) hown (hts _ kX0_weighShare_76_a) (hts _ kX0_weighShare_76_b) (hts _ kX0_weighShare_76_c) (hts _ kX0_weighShare_76_d) hK.1 hP hD hS 3 1 0 0 rfl rfl rfl rfl rfl (by decide) (by decide) (by decide) (by decide) (by decide) (fun _ _ => rfl) (Nat.le_of_ble_eq_true rfl) (by decide +kernel) dX0_weighShare_110 (fun H locs hP hD hS => ?_)
      have hP : va_P g.1 vwCl [oX0 a_t p_t (upd o_t 1 u_9), aI g (p_t 2) 7 (va_cpy f_t_4 f_t_2 0 0 7), aI g (p_t 3) 5 (upd f_t_3 (x4).toNatClampNeg (if (f_t_3 (x4).toNatClampNeg) < u_9 then u_9 else (f_t_3 (x4).toNatClampNeg))), aI g (p_t 4) 7 f_t_4, oX2 a_r2 p_r2 o_r2, aI g (p_r2 6) 7 f_r2_6, aI g (p_r2 7) 7 f_r2_7, oX2 (p_t 5) p_t_5 u_10, aI g (p_t_5 6) 7 u_11, aI g (p_t_5 7) 7 u_12, aI g (p_t_5 8) 7 u_13, oX1 a_r1 p_r1 o_r1, aI g (p_r1 4) 7 f_r1_4, aI g (p_r1 6) 7 f_r1_6, aI g (p_r1 7) 7 f_r1_7, aI g (p_r1 10) 8 f_r1_10, aI g (p_r1 11) 8 f_r1_11, aI g (p_r1 12) 8 f_r1_12, oX3 a_r3 p_r3 u_14] H := hP
      have hD : va_D A [oX0 a_t p_t (upd o_t 1 u_9), aI g (p_t 2) 7 (va_cpy f_t_4 f_t_2 0 0 7), aI g (p_t 3) 5 (upd f_t_3 (x4).toNatClampNeg (if (f_t_3 (x4).toNatClampNeg) < u_9 then u_9 else (f_t_3 (x4).toNatClampNeg))), aI g (p_t 4) 7 f_t_4, oX2 a_r2 p_r2 o_r2, aI g (p_r2 6) 7 f_r2_6, aI g (p_r2 7) 7 f_r2_7, oX2 (p_t 5) p_t_5 u_10, aI g (p_t_5 6) 7 u_11, aI g (p_t_5 7) 7 u_12, aI g (p_t_5 8) 7 u_13, oX1 a_r1 p_r1 o_r1, aI g (p_r1 4) 7 f_r1_4, aI g (p_r1 6) 7 f_r1_6, aI g (p_r1 7) 7 f_r1_7, aI g (p_r1 10) 8 f_r1_10, aI g (p_r1 11) 8 f_r1_11, aI g (p_r1 12) 8 f_r1_12, oX3 a_r3 p_r3 u_14] := hD
      cases hF
      exact ret_v C0 hP hD hS [0, 1, 2, 3, 7, 8, 9, 10, 11, 12, 13, 14, 15, 16, 17, 4, 5, 6, 18] rfl rfl rfl dX0_weighShare_113

theorem dAX0_share : ∀ q ∈ ([(0, (.aload_n 0, 1)), (1, (.getfield 15, 3)), (4, (.bipush 60, 2)), (6, (.if_icmp .le 4, 3)), (9, (.return_, 1)), (10, (.iload 5, 2)), (12, (.aload_n 1, 1)), (13, (.getfield 43, 3)), (16, (.if_icmp .ge 10, 3)), (19, (.iload 5, 2)), (21, (.bipush 7, 2)), (23, (.if_icmp .lt 18, 3)), (26, (.iload 6, 2)), (28, (.ifCond .ne 12, 3)), (31, (.aload_n 0, 1)), (32, (.aload_n 1, 1)), (33, (.aload_n 2, 1)), (34, (.aload_n 3, 1)), (35, (.iload 4, 2)), (37, (.invokevirtual 48, 3)), (40, (.return_, 1)), (41, (.aload_n 2, 1)), (42, (.iload 5, 2)), (44, (.invokevirtual 52, 3)), (47, (.ifCond .eq 8, 3)), (50, (.iload 6, 2)), (52, (.goto 4, 3)), (55, (.iconst 0, 1)), (56, (.istore 7, 2)), (58, (.iconst 0, 1)), (59, (.istore 8, 2)), (61, (.iload 8, 2)), (63, (.iload 7, 2)), (65, (.if_icmp .gt 36, 3)), (68, (.aload_n 0, 1)), (69, (.getfield 26, 3)), (72, (.iload 5, 2)), (74, (.iload 8, 2)), (76, (.iastore, 1)), (77, (.aload_n 0, 1)), (78, (.aload_n 1, 1)), (79, (.aload_n 2, 1)), (80, (.aload_n 3, 1)), (81, (.iload 4, 2)), (83, (.iload 5, 2)), (85, (.iconst 1, 1)), (86, (.iadd, 1)), (87, (.iload 6, 2)), (89, (.iload 8, 2)), (91, (.isub, 1)), (92, (.invokevirtual 39, 3)), (95, (.iinc 8 1, 3)), (98, (.goto (-37), 3)), (101, (.return_, 1))] : List (Nat × (Instr × Nat))), decode cX0_share q.1 = .ok q.2 := by decide +kernel
theorem dX0_share_0 : decode cX0_share 0 = .ok (.aload_n 0, 1) := dAX0_share (0, (.aload_n 0, 1)) (List.mem_of_getElem? (i := 0) rfl)
theorem dX0_share_1 : decode cX0_share 1 = .ok (.getfield 15, 3) := dAX0_share (1, (.getfield 15, 3)) (List.mem_of_getElem? (i := 1) rfl)
theorem dX0_share_4 : decode cX0_share 4 = .ok (.bipush 60, 2) := dAX0_share (4, (.bipush 60, 2)) (List.mem_of_getElem? (i := 2) rfl)
theorem dX0_share_6 : decode cX0_share 6 = .ok (.if_icmp .le 4, 3) := dAX0_share (6, (.if_icmp .le 4, 3)) (List.mem_of_getElem? (i := 3) rfl)
theorem dX0_share_9 : decode cX0_share 9 = .ok (.return_, 1) := dAX0_share (9, (.return_, 1)) (List.mem_of_getElem? (i := 4) rfl)
theorem dX0_share_10 : decode cX0_share 10 = .ok (.iload 5, 2) := dAX0_share (10, (.iload 5, 2)) (List.mem_of_getElem? (i := 5) rfl)
theorem dX0_share_12 : decode cX0_share 12 = .ok (.aload_n 1, 1) := dAX0_share (12, (.aload_n 1, 1)) (List.mem_of_getElem? (i := 6) rfl)
theorem dX0_share_13 : decode cX0_share 13 = .ok (.getfield 43, 3) := dAX0_share (13, (.getfield 43, 3)) (List.mem_of_getElem? (i := 7) rfl)
theorem dX0_share_16 : decode cX0_share 16 = .ok (.if_icmp .ge 10, 3) := dAX0_share (16, (.if_icmp .ge 10, 3)) (List.mem_of_getElem? (i := 8) rfl)
theorem dX0_share_19 : decode cX0_share 19 = .ok (.iload 5, 2) := dAX0_share (19, (.iload 5, 2)) (List.mem_of_getElem? (i := 9) rfl)
theorem dX0_share_21 : decode cX0_share 21 = .ok (.bipush 7, 2) := dAX0_share (21, (.bipush 7, 2)) (List.mem_of_getElem? (i := 10) rfl)
theorem dX0_share_23 : decode cX0_share 23 = .ok (.if_icmp .lt 18, 3) := dAX0_share (23, (.if_icmp .lt 18, 3)) (List.mem_of_getElem? (i := 11) rfl)
theorem dX0_share_26 : decode cX0_share 26 = .ok (.iload 6, 2) := dAX0_share (26, (.iload 6, 2)) (List.mem_of_getElem? (i := 12) rfl)
theorem dX0_share_28 : decode cX0_share 28 = .ok (.ifCond .ne 12, 3) := dAX0_share (28, (.ifCond .ne 12, 3)) (List.mem_of_getElem? (i := 13) rfl)
theorem dX0_share_31 : decode cX0_share 31 = .ok (.aload_n 0, 1) := dAX0_share (31, (.aload_n 0, 1)) (List.mem_of_getElem? (i := 14) rfl)
theorem dX0_share_32 : decode cX0_share 32 = .ok (.aload_n 1, 1) := dAX0_share (32, (.aload_n 1, 1)) (List.mem_of_getElem? (i := 15) rfl)
theorem dX0_share_33 : decode cX0_share 33 = .ok (.aload_n 2, 1) := dAX0_share (33, (.aload_n 2, 1)) (List.mem_of_getElem? (i := 16) rfl)
theorem dX0_share_34 : decode cX0_share 34 = .ok (.aload_n 3, 1) := dAX0_share (34, (.aload_n 3, 1)) (List.mem_of_getElem? (i := 17) rfl)
theorem dX0_share_35 : decode cX0_share 35 = .ok (.iload 4, 2) := dAX0_share (35, (.iload 4, 2)) (List.mem_of_getElem? (i := 18) rfl)
theorem dX0_share_37 : decode cX0_share 37 = .ok (.invokevirtual 48, 3) := dAX0_share (37, (.invokevirtual 48, 3)) (List.mem_of_getElem? (i := 19) rfl)
theorem dX0_share_40 : decode cX0_share 40 = .ok (.return_, 1) := dAX0_share (40, (.return_, 1)) (List.mem_of_getElem? (i := 20) rfl)
theorem dX0_share_41 : decode cX0_share 41 = .ok (.aload_n 2, 1) := dAX0_share (41, (.aload_n 2, 1)) (List.mem_of_getElem? (i := 21) rfl)
theorem dX0_share_42 : decode cX0_share 42 = .ok (.iload 5, 2) := dAX0_share (42, (.iload 5, 2)) (List.mem_of_getElem? (i := 22) rfl)
theorem dX0_share_44 : decode cX0_share 44 = .ok (.invokevirtual 52, 3) := dAX0_share (44, (.invokevirtual 52, 3)) (List.mem_of_getElem? (i := 23) rfl)
theorem dX0_share_47 : decode cX0_share 47 = .ok (.ifCond .eq 8, 3) := dAX0_share (47, (.ifCond .eq 8, 3)) (List.mem_of_getElem? (i := 24) rfl)
theorem dX0_share_50 : decode cX0_share 50 = .ok (.iload 6, 2) := dAX0_share (50, (.iload 6, 2)) (List.mem_of_getElem? (i := 25) rfl)
theorem dX0_share_52 : decode cX0_share 52 = .ok (.goto 4, 3) := dAX0_share (52, (.goto 4, 3)) (List.mem_of_getElem? (i := 26) rfl)
theorem dX0_share_55 : decode cX0_share 55 = .ok (.iconst 0, 1) := dAX0_share (55, (.iconst 0, 1)) (List.mem_of_getElem? (i := 27) rfl)
theorem dX0_share_56 : decode cX0_share 56 = .ok (.istore 7, 2) := dAX0_share (56, (.istore 7, 2)) (List.mem_of_getElem? (i := 28) rfl)
theorem dX0_share_58 : decode cX0_share 58 = .ok (.iconst 0, 1) := dAX0_share (58, (.iconst 0, 1)) (List.mem_of_getElem? (i := 29) rfl)
theorem dX0_share_59 : decode cX0_share 59 = .ok (.istore 8, 2) := dAX0_share (59, (.istore 8, 2)) (List.mem_of_getElem? (i := 30) rfl)
theorem dX0_share_61 : decode cX0_share 61 = .ok (.iload 8, 2) := dAX0_share (61, (.iload 8, 2)) (List.mem_of_getElem? (i := 31) rfl)
theorem dX0_share_63 : decode cX0_share 63 = .ok (.iload 7, 2) := dAX0_share (63, (.iload 7, 2)) (List.mem_of_getElem? (i := 32) rfl)
theorem dX0_share_65 : decode cX0_share 65 = .ok (.if_icmp .gt 36, 3) := dAX0_share (65, (.if_icmp .gt 36, 3)) (List.mem_of_getElem? (i := 33) rfl)
theorem dX0_share_68 : decode cX0_share 68 = .ok (.aload_n 0, 1) := dAX0_share (68, (.aload_n 0, 1)) (List.mem_of_getElem? (i := 34) rfl)
theorem dX0_share_69 : decode cX0_share 69 = .ok (.getfield 26, 3) := dAX0_share (69, (.getfield 26, 3)) (List.mem_of_getElem? (i := 35) rfl)
theorem dX0_share_72 : decode cX0_share 72 = .ok (.iload 5, 2) := dAX0_share (72, (.iload 5, 2)) (List.mem_of_getElem? (i := 36) rfl)
theorem dX0_share_74 : decode cX0_share 74 = .ok (.iload 8, 2) := dAX0_share (74, (.iload 8, 2)) (List.mem_of_getElem? (i := 37) rfl)
theorem dX0_share_76 : decode cX0_share 76 = .ok (.iastore, 1) := dAX0_share (76, (.iastore, 1)) (List.mem_of_getElem? (i := 38) rfl)
theorem dX0_share_77 : decode cX0_share 77 = .ok (.aload_n 0, 1) := dAX0_share (77, (.aload_n 0, 1)) (List.mem_of_getElem? (i := 39) rfl)
theorem dX0_share_78 : decode cX0_share 78 = .ok (.aload_n 1, 1) := dAX0_share (78, (.aload_n 1, 1)) (List.mem_of_getElem? (i := 40) rfl)
theorem dX0_share_79 : decode cX0_share 79 = .ok (.aload_n 2, 1) := dAX0_share (79, (.aload_n 2, 1)) (List.mem_of_getElem? (i := 41) rfl)
theorem dX0_share_80 : decode cX0_share 80 = .ok (.aload_n 3, 1) := dAX0_share (80, (.aload_n 3, 1)) (List.mem_of_getElem? (i := 42) rfl)
theorem dX0_share_81 : decode cX0_share 81 = .ok (.iload 4, 2) := dAX0_share (81, (.iload 4, 2)) (List.mem_of_getElem? (i := 43) rfl)
theorem dX0_share_83 : decode cX0_share 83 = .ok (.iload 5, 2) := dAX0_share (83, (.iload 5, 2)) (List.mem_of_getElem? (i := 44) rfl)
theorem dX0_share_85 : decode cX0_share 85 = .ok (.iconst 1, 1) := dAX0_share (85, (.iconst 1, 1)) (List.mem_of_getElem? (i := 45) rfl)
theorem dX0_share_86 : decode cX0_share 86 = .ok (.iadd, 1) := dAX0_share (86, (.iadd, 1)) (List.mem_of_getElem? (i := 46) rfl)
theorem dX0_share_87 : decode cX0_share 87 = .ok (.iload 6, 2) := dAX0_share (87, (.iload 6, 2)) (List.mem_of_getElem? (i := 47) rfl)
theorem dX0_share_89 : decode cX0_share 89 = .ok (.iload 8, 2) := dAX0_share (89, (.iload 8, 2)) (List.mem_of_getElem? (i := 48) rfl)
theorem dX0_share_91 : decode cX0_share 91 = .ok (.isub, 1) := dAX0_share (91, (.isub, 1)) (List.mem_of_getElem? (i := 49) rfl)
theorem dX0_share_92 : decode cX0_share 92 = .ok (.invokevirtual 39, 3) := dAX0_share (92, (.invokevirtual 39, 3)) (List.mem_of_getElem? (i := 50) rfl)
theorem dX0_share_95 : decode cX0_share 95 = .ok (.iinc 8 1, 3) := dAX0_share (95, (.iinc 8 1, 3)) (List.mem_of_getElem? (i := 51) rfl)
theorem dX0_share_98 : decode cX0_share 98 = .ok (.goto (-37), 3) := dAX0_share (98, (.goto (-37), 3)) (List.mem_of_getElem? (i := 52) rfl)
theorem dX0_share_101 : decode cX0_share 101 = .ok (.return_, 1) := dAX0_share (101, (.return_, 1)) (List.mem_of_getElem? (i := 53) rfl)
set_option maxRecDepth 20000 in
theorem ggX0_share_X0_weighShare : GoodIn wsX0_share wsX0_weighShare := goodIn_r _ [8, 9, 2, 10, 3, 11, 12, 13, 14, 15, 16, 1, 17, 18, 19, 20, 21, 22, 23, 24, 25, 26, 27, 28, 29, 30, 31, 32, 33, 34, 35, 36, 37, 38, 39, 40, 41, 42, 43, 44, 45, 46, 47, 48, 49, 50, 51, 52, 53, 54, 55, 56, 57, 58, 59, 60, 61, 62, 63, 64, 65, 66, 67, 68, 69, 70, 71, 72, 73, 74, 75, 76, 77, 78, 79, 80, 81, 92, 93, 94, 95, 96, 97, 98, 99, 100, 101, 102, 103, 104, 105, 106, 107, 108, 109, 110, 111, 112, 113, 114, 115, 116, 117, 118, 119, 120, 121, 122, 123, 124, 125] rfl (by decide +kernel)
set_option maxRecDepth 20000 in
theorem gX0_share_X0_weighShare : GoodIn wsX0_share (wsV RX0 48 RX0 yX0_weighShare wsX0_weighShare) := goodIn_app (goodIn_of _ (by decide +kernel)) ggX0_share_X0_weighShare
set_option maxRecDepth 20000 in
theorem ggX0_share_X2_has : GoodIn wsX0_share wsX2_has := goodIn_r _ [85, 28, 86, 87, 88, 115, 116, 117, 118, 119, 120, 121, 122, 123] rfl (by decide +kernel)
set_option maxRecDepth 20000 in
theorem gX0_share_X2_has : GoodIn wsX0_share (wsV RX0 52 RX2 yX2_has wsX2_has) := goodIn_app (goodIn_of _ (by decide +kernel)) ggX0_share_X2_has
set_option maxRecDepth 20000 in
theorem ggX0_share_X0_share : GoodIn wsX0_share wsX0_share := goodIn_r _ [0, 1, 2, 3, 4, 5, 6, 7, 8, 9, 10, 11, 12, 13, 14, 15, 16, 17, 18, 19, 20, 21, 22, 23, 24, 25, 26, 27, 28, 29, 30, 31, 32, 33, 34, 35, 36, 37, 38, 39, 40, 41, 42, 43, 44, 45, 46, 47, 48, 49, 50, 51, 52, 53, 54, 55, 56, 57, 58, 59, 60, 61, 62, 63, 64, 65, 66, 67, 68, 69, 70, 71, 72, 73, 74, 75, 76, 77, 78, 79, 80, 81, 82, 83, 84, 85, 86, 87, 88, 89, 90, 91, 92, 93, 94, 95, 96, 97, 98, 99, 100, 101, 102, 103, 104, 105, 106, 107, 108, 109, 110, 111, 112, 113, 114, 115, 116, 117, 118, 119, 120, 121, 122, 123, 124, 125] rfl (by decide +kernel)
set_option maxRecDepth 20000 in
theorem gX0_share_X0_share : GoodIn wsX0_share (wsV RX0 39 RX0 yX0_share wsX0_share) := goodIn_app (goodIn_of _ (by decide +kernel)) ggX0_share_X0_share
theorem kX0_share_15 : Cond.fieldLink RX0 15 "EveningVow$CupShares" "bestHours" "I" ∈ wsX0_share := List.mem_of_getElem? (i := 1) rfl
theorem iX0_share_X0 : ∀ w ∈ u_ws RX0 TX0 6, w ∈ wsX0_share := fun w h => (List.mem_cons_of_mem _ (List.mem_append_left _ (List.mem_append_left _ (List.mem_append_left _ (List.mem_append_right _ h)))))
theorem kX0_share_43 : Cond.fieldLink RX0 43 "EveningVow$House" "guests" "I" ∈ wsX0_share := List.mem_of_getElem? (i := 2) rfl
theorem iX0_share_X1 : ∀ w ∈ u_ws RX1 TX1 17, w ∈ wsX0_share := fun w h => (List.mem_cons_of_mem _ (List.mem_append_left _ (List.mem_append_left _ (List.mem_append_right _ h))))
theorem kX0_share_26 : Cond.fieldLink RX0 26 "EveningVow$CupShares" "row" "[I" ∈ wsX0_share := List.mem_of_getElem? (i := 3) rfl
set_option maxHeartbeats 4000000 in
set_option maxRecDepth 100000 in
theorem wX0_share_L61 {p : Program} {l : Launch} {e : Env} {s : State} {m : MethodId} {args : Array Value} {below : List Frame} {meth : Method} {c : Code} {g : GG} {A : Nat → Prop} (C0 : Cx p s m args meth c cX0_share 9 none RX0 wsX0_share g A) (a_t : Nat) (a_r1 : Nat) (a_r2 : Nat) (a_r3 : Nat) (p_t : Nat → Nat) (p_t_5 : Nat → Nat) (p_r1 : Nat → Nat) (p_r2 : Nat → Nat) (p_r3 : Nat → Nat) (n : Nat) (rec : Int32 → Int32 → Int32 → (Nat → Int32) → (Nat → Int32) → (Nat → Int32) → (Nat → Int32) → (Nat → Int32) → (Nat → Int32) → (Nat → Int32) → (Nat → Int32) → (Nat → Int32) → (Nat → Int32) → (Nat → Int32) → (Nat → Int32) → (Nat → Int32) → (Nat → Int32) → (Nat → Int32) → (Nat → Int32) → (Nat → Int32) → (Nat → Int32) → (Nat → Int32) → Option ((Nat → Int32) × (Nat → Int32) × (Nat → Int32) × (Nat → Int32) × (Nat → Int32) × (Nat → Int32) × (Nat → Int32) × (Nat → Int32) × (Nat → Int32))) (x4 : Int32) (x5 : Int32) (x6 : Int32) (x7 : Int32) (o_r1 : Nat → Int32) (f_r1_4 : Nat → Int32) (f_r1_6 : Nat → Int32) (f_r1_7 : Nat → Int32) (f_r1_10 : Nat → Int32) (f_r1_11 : Nat → Int32) (f_r1_12 : Nat → Int32) (o_r2 : Nat → Int32) (f_r2_6 : Nat → Int32) (f_r2_7 : Nat → Int32)  (o_t' : Nat → Int32) (f_t_2' : Nat → Int32) (f_t_3' : Nat → Int32) (f_t_4' : Nat → Int32) (o_t_5' : Nat → Int32) (f_t_5_6' : Nat → Int32) (f_t_5_7' : Nat → Int32) (f_t_5_8' : Nat → Int32) (o_r3' : Nat → Int32) (K : (Nat → Int32) → (Nat → Int32) → (Nat → Int32) → (Nat → Int32) → (Nat → Int32) → (Nat → Int32) → (Nat → Int32) → (Nat → Int32) → (Nat → Int32) → Option ((Nat → Int32) × (Nat → Int32) × (Nat → Int32) × (Nat → Int32) × (Nat → Int32) × (Nat → Int32) × (Nat → Int32) × (Nat → Int32) × (Nat → Int32))) (d : Nat) (hrec : ∀ (x4 : Int32) (x5 : Int32) (x6 : Int32) (o_t : Nat → Int32) (f_t_2 : Nat → Int32) (f_t_3 : Nat → Int32) (f_t_4 : Nat → Int32) (o_t_5 : Nat → Int32) (f_t_5_6 : Nat → Int32) (f_t_5_7 : Nat → Int32) (f_t_5_8 : Nat → Int32) (o_r1 : Nat → Int32) (f_r1_4 : Nat → Int32) (f_r1_6 : Nat → Int32) (f_r1_7 : Nat → Int32) (f_r1_10 : Nat → Int32) (f_r1_11 : Nat → Int32) (f_r1_12 : Nat → Int32) (o_r2 : Nat → Int32) (f_r2_6 : Nat → Int32) (f_r2_7 : Nat → Int32) (o_r3 : Nat → Int32) (o_t' : Nat → Int32) (f_t_2' : Nat → Int32) (f_t_3' : Nat → Int32) (f_t_4' : Nat → Int32) (o_t_5' : Nat → Int32) (f_t_5_6' : Nat → Int32) (f_t_5_7' : Nat → Int32) (f_t_5_8' : Nat → Int32) (o_r3' : Nat → Int32), rec x4 x5 x6 o_t f_t_2 f_t_3 f_t_4 o_t_5 f_t_5_6 f_t_5_7 f_t_5_8 o_r1 f_r1_4 f_r1_6 f_r1_7 f_r1_10 f_r1_11 f_r1_12 o_r2 f_r2_6 f_r2_7 o_r3 = some (o_t', f_t_2', f_t_3', f_t_4', o_t_5', f_t_5_6', f_t_5_7', f_t_5_8', o_r3') → MV l g yX0_share wsX0_share (rmX0_share d) [.ref a_t, .ref a_r1, .ref a_r2, .ref a_r3, .int x4, .int x5, .int x6] [oX0 a_t p_t o_t, aI g (p_t 2) 7 f_t_2, aI g (p_t 3) 5 f_t_3, aI g (p_t 4) 7 f_t_4, oX2 (p_t 5) p_t_5 o_t_5, aI g (p_t_5 6) 7 f_t_5_6, aI g (p_t_5 7) 7 f_t_5_7, aI g (p_t_5 8) 7 f_t_5_8, oX1 a_r1 p_r1 o_r1, aI g (p_r1 4) 7 f_r1_4, aI g (p_r1 6) 7 f_r1_6, aI g (p_r1 7) 7 f_r1_7, aI g (p_r1 10) 8 f_r1_10, aI g (p_r1 11) 8 f_r1_11, aI g (p_r1 12) 8 f_r1_12, oX2 a_r2 p_r2 o_r2, aI g (p_r2 6) 7 f_r2_6, aI g (p_r2 7) 7 f_r2_7, oX3 a_r3 p_r3 o_r3] [oX0 a_t p_t o_t', aI g (p_t 2) 7 f_t_2', aI g (p_t 3) 5 f_t_3', aI g (p_t 4) 7 f_t_4', oX2 (p_t 5) p_t_5 o_t_5', aI g (p_t_5 6) 7 f_t_5_6', aI g (p_t_5 7) 7 f_t_5_7', aI g (p_t_5 8) 7 f_t_5_8', oX1 a_r1 p_r1 o_r1, aI g (p_r1 4) 7 f_r1_4, aI g (p_r1 6) 7 f_r1_6, aI g (p_r1 7) 7 f_r1_7, aI g (p_r1 10) 8 f_r1_10, aI g (p_r1 11) 8 f_r1_11, aI g (p_r1 12) 8 f_r1_12, oX2 a_r2 p_r2 o_r2, aI g (p_r2 6) 7 f_r2_6, aI g (p_r2 7) 7 f_r2_7, oX3 a_r3 p_r3 o_r3']) (hKx : ∀ (o_t : Nat → Int32) (f_t_2 : Nat → Int32) (f_t_3 : Nat → Int32) (f_t_4 : Nat → Int32) (o_t_5 : Nat → Int32) (f_t_5_6 : Nat → Int32) (f_t_5_7 : Nat → Int32) (f_t_5_8 : Nat → Int32) (o_r3 : Nat → Int32) (H : Heap) (locs : List Loc) (ls : Array Slot), K o_t f_t_2 f_t_3 f_t_4 o_t_5 f_t_5_6 f_t_5_7 f_t_5_8 o_r3 = some (o_t', f_t_2', f_t_3', f_t_4', o_t_5', f_t_5_6', f_t_5_7', f_t_5_8', o_r3') → va_P g.1 vwCl [oX0 a_t p_t o_t, aI g (p_t 2) 7 f_t_2, aI g (p_t 3) 5 f_t_3, aI g (p_t 4) 7 f_t_4, oX2 (p_t 5) p_t_5 o_t_5, aI g (p_t_5 6) 7 f_t_5_6, aI g (p_t_5 7) 7 f_t_5_7, aI g (p_t_5 8) 7 f_t_5_8, oX1 a_r1 p_r1 o_r1, aI g (p_r1 4) 7 f_r1_4, aI g (p_r1 6) 7 f_r1_6, aI g (p_r1 7) 7 f_r1_7, aI g (p_r1 10) 8 f_r1_10, aI g (p_r1 11) 8 f_r1_11, aI g (p_r1 12) 8 f_r1_12, oX2 a_r2 p_r2 o_r2, aI g (p_r2 6) 7 f_r2_6, aI g (p_r2 7) 7 f_r2_7, oX3 a_r3 p_r3 o_r3] H → va_D A [oX0 a_t p_t o_t, aI g (p_t 2) 7 f_t_2, aI g (p_t 3) 5 f_t_3, aI g (p_t 4) 7 f_t_4, oX2 (p_t 5) p_t_5 o_t_5, aI g (p_t_5 6) 7 f_t_5_6, aI g (p_t_5 7) 7 f_t_5_7, aI g (p_t_5 8) 7 f_t_5_8, oX1 a_r1 p_r1 o_r1, aI g (p_r1 4) 7 f_r1_4, aI g (p_r1 6) 7 f_r1_6, aI g (p_r1 7) 7 f_r1_7, aI g (p_r1 10) 8 f_r1_10, aI g (p_r1 11) 8 f_r1_11, aI g (p_r1 12) 8 f_r1_12, oX2 a_r2 p_r2 o_r2, aI g (p_r2 6) 7 f_r2_6, aI g (p_r2 7) 7 f_r2_7, oX3 a_r3 p_r3 o_r3] → va_S A s.heap H locs → lv_has ls 9 [] → W p l e (rmX0_share (d + 1)) s m args below meth c H locs 0 0 (MQ below (EndV g [oX0 a_t p_t o_t', aI g (p_t 2) 7 f_t_2', aI g (p_t 3) 5 f_t_3', aI g (p_t 4) 7 f_t_4', oX2 (p_t 5) p_t_5 o_t_5', aI g (p_t_5 6) 7 f_t_5_6', aI g (p_t_5 7) 7 f_t_5_7', aI g (p_t_5 8) 7 f_t_5_8', oX1 a_r1 p_r1 o_r1, aI g (p_r1 4) 7 f_r1_4, aI g (p_r1 6) 7 f_r1_6, aI g (p_r1 7) 7 f_r1_7, aI g (p_r1 10) 8 f_r1_10, aI g (p_r1 11) 8 f_r1_11, aI g (p_r1 12) 8 f_r1_12, oX2 a_r2 p_r2 o_r2, aI g (p_r2 6) 7 f_r2_6, aI g (p_r2 7) 7 f_r2_7, oX3 a_r3 p_r3 o_r3'] A) args s 0 0 A) (F0 m 101 ls [])) : ∀ (k : Nat) (x8 : Int32) (o_t : Nat → Int32) (f_t_2 : Nat → Int32) (f_t_3 : Nat → Int32) (f_t_4 : Nat → Int32) (o_t_5 : Nat → Int32) (f_t_5_6 : Nat → Int32) (f_t_5_7 : Nat → Int32) (f_t_5_8 : Nat → Int32) (o_r3 : Nat → Int32), fX0_share_L61 n rec x4 x5 x6 x7 o_r1 f_r1_4 f_r1_6 f_r1_7 f_r1_10 f_r1_11 f_r1_12 o_r2 f_r2_6 f_r2_7 K k x8 o_t f_t_2 f_t_3 f_t_4 o_t_5 f_t_5_6 f_t_5_7 f_t_5_8 o_r3 = some (o_t', f_t_2', f_t_3', f_t_4', o_t_5', f_t_5_6', f_t_5_7', f_t_5_8', o_r3') → ∀ (H : Heap) (locs : List Loc) (ls : Array Slot), va_P g.1 vwCl [oX0 a_t p_t o_t, aI g (p_t 2) 7 f_t_2, aI g (p_t 3) 5 f_t_3, aI g (p_t 4) 7 f_t_4, oX2 (p_t 5) p_t_5 o_t_5, aI g (p_t_5 6) 7 f_t_5_6, aI g (p_t_5 7) 7 f_t_5_7, aI g (p_t_5 8) 7 f_t_5_8, oX1 a_r1 p_r1 o_r1, aI g (p_r1 4) 7 f_r1_4, aI g (p_r1 6) 7 f_r1_6, aI g (p_r1 7) 7 f_r1_7, aI g (p_r1 10) 8 f_r1_10, aI g (p_r1 11) 8 f_r1_11, aI g (p_r1 12) 8 f_r1_12, oX2 a_r2 p_r2 o_r2, aI g (p_r2 6) 7 f_r2_6, aI g (p_r2 7) 7 f_r2_7, oX3 a_r3 p_r3 o_r3] H → va_D A [oX0 a_t p_t o_t, aI g (p_t 2) 7 f_t_2, aI g (p_t 3) 5 f_t_3, aI g (p_t 4) 7 f_t_4, oX2 (p_t 5) p_t_5 o_t_5, aI g (p_t_5 6) 7 f_t_5_6, aI g (p_t_5 7) 7 f_t_5_7, aI g (p_t_5 8) 7 f_t_5_8, oX1 a_r1 p_r1 o_r1, aI g (p_r1 4) 7 f_r1_4, aI g (p_r1 6) 7 f_r1_6, aI g (p_r1 7) 7 f_r1_7, aI g (p_r1 10) 8 f_r1_10, aI g (p_r1 11) 8 f_r1_11, aI g (p_r1 12) 8 f_r1_12, oX2 a_r2 p_r2 o_r2, aI g (p_r2 6) 7 f_r2_6, aI g (p_r2 7) 7 f_r2_7, oX3 a_r3 p_r3 o_r3] → va_S A s.heap H locs → lv_has ls 9 [(0, .ref a_t), (1, .ref a_r1), (2, .ref a_r2), (3, .ref a_r3), (4, .int x4), (5, .int x5), (6, .int x6), (7, .int x7), (8, .int x8)] → W p l e (rmX0_share (d + 1)) s m args below meth c H locs 0 0 (MQ below (EndV g [oX0 a_t p_t o_t', aI g (p_t 2) 7 f_t_2', aI g (p_t 3) 5 f_t_3', aI g (p_t 4) 7 f_t_4', oX2 (p_t 5) p_t_5 o_t_5', aI g (p_t_5 6) 7 f_t_5_6', aI g (p_t_5 7) 7 f_t_5_7', aI g (p_t_5 8) 7 f_t_5_8', oX1 a_r1 p_r1 o_r1, aI g (p_r1 4) 7 f_r1_4, aI g (p_r1 6) 7 f_r1_6, aI g (p_r1 7) 7 f_r1_7, aI g (p_r1 10) 8 f_r1_10, aI g (p_r1 11) 8 f_r1_11, aI g (p_r1 12) 8 f_r1_12, oX2 a_r2 p_r2 o_r2, aI g (p_r2 6) 7 f_r2_6, aI g (p_r2 7) 7 f_r2_7, oX3 a_r3 p_r3 o_r3'] A) args s 0 0 A) (F0 m 61 ls []) := by
  obtain ⟨hx, hb, hml, hown, hts, hr, hlk, hK, hA, hSW⟩ := id C0
  intro k
  induction k with
  | zero =>
    intro x8 o_t f_t_2 f_t_3 f_t_4 o_t_5 f_t_5_6 f_t_5_7 f_t_5_8 o_r3 hF
    exact absurd hF (by simp [fX0_share_L61])
  | succ k ih =>
    intro x8 o_t f_t_2 f_t_3 f_t_4 o_t_5 f_t_5_6 f_t_5_7 f_t_5_8 o_r3 hF H locs ls hP hD hS hl
    rw [fX0_share_L61] at hF
    refine lv_iload hx hb dX0_share_61 (lv_at hl 8 rfl) ?_
    refine lv_iload hx hb dX0_share_63 (lv_at hl 7 rfl) ?_
    refine lv_icmp_gt (tgt := 101) hx hb dX0_share_65 (by decide) (fun c_17 => ?_) (fun c_17 => ?_)
    · have hF := it_p c_17 hF
      exact hKx o_t f_t_2 f_t_3 f_t_4 o_t_5 f_t_5_6 f_t_5_7 f_t_5_8 o_r3 _ _ _ hF (hP.sub [0, 1, 2, 3, 4, 5, 6, 7, 8, 9, 10, 11, 12, 13, 14, 15, 16, 17, 18] rfl) (hD.sub [0, 1, 2, 3, 4, 5, 6, 7, 8, 9, 10, 11, 12, 13, 14, 15, 16, 17, 18] rfl rfl) hS (lv_sub hl [] rfl)
    · have hF := it_n c_17 hF
      refine lv_aload_n hx hb dX0_share_68 rfl (lv_at hl 0 rfl) ?_
      refine va_get (D := g.1) (ci := 0) (v := .ref (p_t 4)) (C := RX0) (T := TX0) (N := 6) hx hb hts iX0_share_X0 hown hK.1 hP 0 rfl rfl 4 (by decide) (hts _ kX0_share_26) (fun _ h9 => h9) rfl dX0_share_69 ?_
      refine lv_iload hx hb dX0_share_72 (lv_at hl 5 rfl) ?_
      refine lv_iload hx hb dX0_share_74 (lv_at hl 8 rfl) ?_
      obtain ⟨h_18, hF⟩ := it_ck hF
      refine va_iast hx hb hK.1 hP hD hS 3 0 rfl rfl h_18 dX0_share_76 (fun H locs hP hD hS => ?_)
      have hP : va_P g.1 vwCl [oX0 a_t p_t o_t, aI g (p_t 2) 7 f_t_2, aI g (p_t 3) 5 f_t_3, aI g (p_t 4) 7 (upd f_t_4 (x5).toNatClampNeg x8), oX2 (p_t 5) p_t_5 o_t_5, aI g (p_t_5 6) 7 f_t_5_6, aI g (p_t_5 7) 7 f_t_5_7, aI g (p_t_5 8) 7 f_t_5_8, oX1 a_r1 p_r1 o_r1, aI g (p_r1 4) 7 f_r1_4, aI g (p_r1 6) 7 f_r1_6, aI g (p_r1 7) 7 f_r1_7, aI g (p_r1 10) 8 f_r1_10, aI g (p_r1 11) 8 f_r1_11, aI g (p_r1 12) 8 f_r1_12, oX2 a_r2 p_r2 o_r2, aI g (p_r2 6) 7 f_r2_6, aI g (p_r2 7) 7 f_r2_7, oX3 a_r3 p_r3 o_r3] H := hP
      have hD : va_D A [oX0 a_t p_t o_t, aI g (p_t 2) 7 f_t_2, aI g (p_t 3) 5 f_t_3, aI g (p_t 4) 7 (upd f_t_4 (x5).toNatClampNeg x8), oX2 (p_t 5) p_t_5 o_t_5, aI g (p_t_5 6) 7 f_t_5_6, aI g (p_t_5 7) 7 f_t_5_7, aI g (p_t_5 8) 7 f_t_5_8, oX1 a_r1 p_r1 o_r1, aI g (p_r1 4) 7 f_r1_4, aI g (p_r1 6) 7 f_r1_6, aI g (p_r1 7) 7 f_r1_7, aI g (p_r1 10) 8 f_r1_10, aI g (p_r1 11) 8 f_r1_11, aI g (p_r1 12) 8 f_r1_12, oX2 a_r2 p_r2 o_r2, aI g (p_r2 6) 7 f_r2_6, aI g (p_r2 7) 7 f_r2_7, oX3 a_r3 p_r3 o_r3] := hD
      refine lv_aload_n hx hb dX0_share_77 rfl (lv_at hl 0 rfl) ?_
      refine lv_aload_n hx hb dX0_share_78 rfl (lv_at hl 1 rfl) ?_
      refine lv_aload_n hx hb dX0_share_79 rfl (lv_at hl 2 rfl) ?_
      refine lv_aload_n hx hb dX0_share_80 rfl (lv_at hl 3 rfl) ?_
      refine lv_iload hx hb dX0_share_81 (lv_at hl 4 rfl) ?_
      refine lv_iload hx hb dX0_share_83 (lv_at hl 5 rfl) ?_
      refine lv_iconst (v := (1 : Int32)) hx hb dX0_share_85 (by decide) ?_
      refine lv_iadd hx hb dX0_share_86 ?_
      refine lv_iload hx hb dX0_share_87 (lv_at hl 6 rfl) ?_
      refine lv_iload hx hb dX0_share_89 (lv_at hl 8 rfl) ?_
      refine lv_isub hx hb dX0_share_91 ?_
      obtain ⟨u_19, u_20, u_21, u_22, u_23, u_24, u_25, u_26, u_27, hu_28, hF⟩ := ob9_some hF
      refine call_v (wr := []) (As := [.ref a_r1, .ref a_r2, .ref a_r3, .int x4, .int (x5 + (1 : Int32)), .int (x6 - x8)]) (rest := []) (ci := 0) (q0 := 0) C0 (hrec x4 (x5 + (1 : Int32)) (x6 - x8) o_t f_t_2 f_t_3 (upd f_t_4 (x5).toNatClampNeg x8) o_t_5 f_t_5_6 f_t_5_7 f_t_5_8 o_r1 f_r1_4 f_r1_6 f_r1_7 f_r1_10 f_r1_11 f_r1_12 o_r2 f_r2_6 f_r2_7 o_r3 u_19 u_20 u_21 u_22 u_23 u_24 u_25 u_26 u_27 hu_28) (cwV 6 hts gX0_share_X0_share rfl rfl rfl (by decide +kernel) ⟨by first | exact Nat.le_of_ble_eq_true rfl | (simp only [rmX0_share]; omega), by first | exact Nat.le_of_ble_eq_true rfl | (simp only [rmX0_share]; omega)⟩) hP hD hS [0, 1, 2, 3, 4, 5, 6, 7, 8, 9, 10, 11, 12, 13, 14, 15, 16, 17, 18] [] rfl rfl rfl rfl rfl (by decide) rfl rfl hl.1 rfl rfl (Nat.le_of_ble_eq_true rfl) ⟨Nat.zero_le _, Nat.zero_le _⟩ dX0_share_92 ?_
      intro H locs hP hD hS
      refine lv_iinc (v := (x8 + (1 : Int32))) (lv' := [(8, .int (x8 + (1 : Int32))), (0, .ref a_t), (1, .ref a_r1), (2, .ref a_r2), (3, .ref a_r3), (4, .int x4), (5, .int x5), (6, .int x6), (7, .int x7)]) hx hb dX0_share_95 hl (k := 8) rfl rfl (by decide) rfl (fun ls hl => ?_)
      refine lv_goto (tgt := 61) hx hb dX0_share_98 (by decide) ?_
      exact ih (x8 + (1 : Int32)) u_19 u_20 u_21 u_22 u_23 u_24 u_25 u_26 u_27 hF _ _ _ (hP.sub [0, 1, 2, 3, 4, 5, 6, 7, 8, 9, 10, 11, 12, 13, 14, 15, 16, 17, 18] rfl) (hD.sub [0, 1, 2, 3, 4, 5, 6, 7, 8, 9, 10, 11, 12, 13, 14, 15, 16, 17, 18] rfl rfl) hS (lv_sub hl [1, 2, 3, 4, 5, 6, 7, 8, 0] rfl)
set_option maxHeartbeats 4000000 in
set_option maxRecDepth 100000 in
theorem mX0_share (l : Launch) (g : GG) (a_t : Nat) (a_r1 : Nat) (a_r2 : Nat) (a_r3 : Nat) (p_t : Nat → Nat) (p_t_5 : Nat → Nat) (p_r1 : Nat → Nat) (p_r2 : Nat → Nat) (p_r3 : Nat → Nat) (n : Nat) : ∀ (d : Nat) (x4 : Int32) (x5 : Int32) (x6 : Int32) (o_t : Nat → Int32) (f_t_2 : Nat → Int32) (f_t_3 : Nat → Int32) (f_t_4 : Nat → Int32) (o_t_5 : Nat → Int32) (f_t_5_6 : Nat → Int32) (f_t_5_7 : Nat → Int32) (f_t_5_8 : Nat → Int32) (o_r1 : Nat → Int32) (f_r1_4 : Nat → Int32) (f_r1_6 : Nat → Int32) (f_r1_7 : Nat → Int32) (f_r1_10 : Nat → Int32) (f_r1_11 : Nat → Int32) (f_r1_12 : Nat → Int32) (o_r2 : Nat → Int32) (f_r2_6 : Nat → Int32) (f_r2_7 : Nat → Int32) (o_r3 : Nat → Int32) (o_t' : Nat → Int32) (f_t_2' : Nat → Int32) (f_t_3' : Nat → Int32) (f_t_4' : Nat → Int32) (o_t_5' : Nat → Int32) (f_t_5_6' : Nat → Int32) (f_t_5_7' : Nat → Int32) (f_t_5_8' : Nat → Int32) (o_r3' : Nat → Int32), fX0_share n d x4 x5 x6 o_t f_t_2 f_t_3 f_t_4 o_t_5 f_t_5_6 f_t_5_7 f_t_5_8 o_r1 f_r1_4 f_r1_6 f_r1_7 f_r1_10 f_r1_11 f_r1_12 o_r2 f_r2_6 f_r2_7 o_r3 = some (o_t', f_t_2', f_t_3', f_t_4', o_t_5', f_t_5_6', f_t_5_7', f_t_5_8', o_r3') → MV l g yX0_share wsX0_share (rmX0_share d) [.ref a_t, .ref a_r1, .ref a_r2, .ref a_r3, .int x4, .int x5, .int x6] [oX0 a_t p_t o_t, aI g (p_t 2) 7 f_t_2, aI g (p_t 3) 5 f_t_3, aI g (p_t 4) 7 f_t_4, oX2 (p_t 5) p_t_5 o_t_5, aI g (p_t_5 6) 7 f_t_5_6, aI g (p_t_5 7) 7 f_t_5_7, aI g (p_t_5 8) 7 f_t_5_8, oX1 a_r1 p_r1 o_r1, aI g (p_r1 4) 7 f_r1_4, aI g (p_r1 6) 7 f_r1_6, aI g (p_r1 7) 7 f_r1_7, aI g (p_r1 10) 8 f_r1_10, aI g (p_r1 11) 8 f_r1_11, aI g (p_r1 12) 8 f_r1_12, oX2 a_r2 p_r2 o_r2, aI g (p_r2 6) 7 f_r2_6, aI g (p_r2 7) 7 f_r2_7, oX3 a_r3 p_r3 o_r3] [oX0 a_t p_t o_t', aI g (p_t 2) 7 f_t_2', aI g (p_t 3) 5 f_t_3', aI g (p_t 4) 7 f_t_4', oX2 (p_t 5) p_t_5 o_t_5', aI g (p_t_5 6) 7 f_t_5_6', aI g (p_t_5 7) 7 f_t_5_7', aI g (p_t_5 8) 7 f_t_5_8', oX1 a_r1 p_r1 o_r1, aI g (p_r1 4) 7 f_r1_4, aI g (p_r1 6) 7 f_r1_6, aI g (p_r1 7) 7 f_r1_7, aI g (p_r1 10) 8 f_r1_10, aI g (p_r1 11) 8 f_r1_11, aI g (p_r1 12) 8 f_r1_12, oX2 a_r2 p_r2 o_r2, aI g (p_r2 6) 7 f_r2_6, aI g (p_r2 7) 7 f_r2_7, oX3 a_r3 p_r3 o_r3'] := by
  intro d
  induction d with
  | zero =>
    intro x4 x5 x6 o_t f_t_2 f_t_3 f_t_4 o_t_5 f_t_5_6 f_t_5_7 f_t_5_8 o_r1 f_r1_4 f_r1_6 f_r1_7 f_r1_10 f_r1_11 f_r1_12 o_r2 f_r2_6 f_r2_7 o_r3 o_t' f_t_2' f_t_3' f_t_4' o_t_5' f_t_5_6' f_t_5_7' f_t_5_8' o_r3' hF
    exact absurd hF (by simp [fX0_share])
  | succ d hrec =>
  intro x4 x5 x6 o_t f_t_2 f_t_3 f_t_4 o_t_5 f_t_5_6 f_t_5_7 f_t_5_8 o_r1 f_r1_4 f_r1_6 f_r1_7 f_r1_10 f_r1_11 f_r1_12 o_r2 f_r2_6 f_r2_7 o_r3 o_t' f_t_2' f_t_3' f_t_4' o_t_5' f_t_5_6' f_t_5_7' f_t_5_8' o_r3' hF
  refine MV.of (cc := cX0_share) (maxL := 9) (own := RX0) rfl rfl (by decide) (Nat.le_of_ble_eq_true rfl) ?_
  intro p e s m args below meth c A C0 hP hD hS ls hl
  obtain ⟨hx, hb, hml, hown, hts, hr, hlk, hK, hA, hSW⟩ := id C0
  have hl : lv_has ls 9 [(0, .ref a_t), (1, .ref a_r1), (2, .ref a_r2), (3, .ref a_r3), (4, .int x4), (5, .int x5), (6, .int x6)] := hl
  rw [fX0_share] at hF
  refine lv_aload_n hx hb dX0_share_0 rfl (lv_at hl 0 rfl) ?_
  refine va_get (D := g.1) (ci := 0) (v := .int (o_t 1)) (C := RX0) (T := TX0) (N := 6) hx hb hts iX0_share_X0 hown hK.1 hP 0 rfl rfl 1 (by decide) (hts _ kX0_share_15) (fun _ h9 => h9) rfl dX0_share_1 ?_
  refine lv_bipush (v := (60 : Int32)) hx hb dX0_share_4 (by decide) ?_
  refine lv_icmp_le (tgt := 10) hx hb dX0_share_6 (by decide) (fun c_1 => ?_) (fun c_1 => ?_)
  · have hF := it_p c_1 hF
    refine lv_iload hx hb dX0_share_10 (lv_at hl 5 rfl) ?_
    refine lv_aload_n hx hb dX0_share_12 rfl (lv_at hl 1 rfl) ?_
    refine va_get (D := g.1) (ci := 1) (v := .int (o_r1 3)) (C := RX1) (T := TX1) (N := 17) hx hb hts iX0_share_X1 hown hK.1 hP 8 rfl rfl 3 (by decide) (hts _ kX0_share_43) (fun _ h9 => h9) rfl dX0_share_13 ?_
    refine lv_icmp_ge (tgt := 26) hx hb dX0_share_16 (by decide) (fun c_2 => ?_) (fun c_2 => ?_)
    · have hF := it_p c_2 hF
      refine lv_iload hx hb dX0_share_26 (lv_at hl 6 rfl) ?_
      refine lv_if_ne (tgt := 40) hx hb dX0_share_28 (by decide) (fun c_3 => ?_) (fun c_3 => ?_)
      · have hF := it_n c_3 hF
        cases hF
        exact ret_v C0 hP hD hS [0, 1, 2, 3, 4, 5, 6, 7, 8, 9, 10, 11, 12, 13, 14, 15, 16, 17, 18] rfl rfl rfl dX0_share_40
      · have hF := it_p c_3 hF
        refine lv_aload_n hx hb dX0_share_31 rfl (lv_at hl 0 rfl) ?_
        refine lv_aload_n hx hb dX0_share_32 rfl (lv_at hl 1 rfl) ?_
        refine lv_aload_n hx hb dX0_share_33 rfl (lv_at hl 2 rfl) ?_
        refine lv_aload_n hx hb dX0_share_34 rfl (lv_at hl 3 rfl) ?_
        refine lv_iload hx hb dX0_share_35 (lv_at hl 4 rfl) ?_
        obtain ⟨u_4, u_5, u_6, u_7, u_8, u_9, u_10, u_11, hu_12, hF⟩ := ob8_some hF
        refine call_v (wr := []) (As := [.ref a_r1, .ref a_r2, .ref a_r3, .int x4]) (rest := []) (ci := 0) (q0 := 0) C0 (mX0_weighShare l g a_t a_r1 a_r2 a_r3 p_t p_t_5 p_r1 p_r2 p_r3 n x4 o_t f_t_2 f_t_3 f_t_4 o_t_5 f_t_5_6 f_t_5_7 f_t_5_8 o_r1 f_r1_4 f_r1_6 f_r1_7 f_r1_10 f_r1_11 f_r1_12 o_r2 f_r2_6 f_r2_7 o_r3 u_4 u_5 u_6 u_7 u_8 u_9 u_10 u_11 hu_12) (cwV 4 hts gX0_share_X0_weighShare rfl rfl rfl (by decide +kernel) ⟨by first | exact Nat.le_of_ble_eq_true rfl | (simp only [rmX0_share]; omega), by first | exact Nat.le_of_ble_eq_true rfl | (simp only [rmX0_share]; omega)⟩) hP hD hS [0, 1, 2, 3, 4, 5, 6, 7, 8, 9, 10, 11, 12, 13, 14, 15, 16, 17, 18] [] rfl rfl rfl rfl rfl (by decide) rfl rfl hl.1 rfl rfl (Nat.le_of_ble_eq_true rfl) ⟨Nat.zero_le _, Nat.zero_le _⟩ dX0_share_37 ?_
        intro H locs hP hD hS
        cases hF
        exact ret_v C0 hP hD hS [0, 1, 2, 3, 4, 5, 6, 7, 8, 9, 10, 11, 12, 13, 14, 15, 16, 17, 18] rfl rfl rfl dX0_share_40
    · have hF := it_n c_2 hF
      refine lv_iload hx hb dX0_share_19 (lv_at hl 5 rfl) ?_
      refine lv_bipush (v := (7 : Int32)) hx hb dX0_share_21 (by decide) ?_
      refine lv_icmp_lt (tgt := 41) hx hb dX0_share_23 (by decide) (fun c_13 => ?_) (fun c_13 => ?_)
      · have hF := it_p c_13 hF
        refine lv_aload_n hx hb dX0_share_41 rfl (lv_at hl 2 rfl) ?_
        refine lv_iload hx hb dX0_share_42 (lv_at hl 5 rfl) ?_
        obtain ⟨u_14, hu_15, hF⟩ := ob1_some hF
        refine call_i (wr := [oX0 a_t p_t o_t, aI g (p_t 2) 7 f_t_2, aI g (p_t 3) 5 f_t_3, aI g (p_t 4) 7 f_t_4, oX2 (p_t 5) p_t_5 o_t_5, aI g (p_t_5 6) 7 f_t_5_6, aI g (p_t_5 7) 7 f_t_5_7, aI g (p_t_5 8) 7 f_t_5_8, oX1 a_r1 p_r1 o_r1, aI g (p_r1 4) 7 f_r1_4, aI g (p_r1 6) 7 f_r1_6, aI g (p_r1 7) 7 f_r1_7, aI g (p_r1 10) 8 f_r1_10, aI g (p_r1 11) 8 f_r1_11, aI g (p_r1 12) 8 f_r1_12, aI g (p_r2 6) 7 f_r2_6, aI g (p_r2 7) 7 f_r2_7, oX3 a_r3 p_r3 o_r3]) (As := [.int x5]) (rest := []) (ci := 2) (q0 := 0) C0 (mX2_has l g a_r2 p_r2 n x5 o_r2 u_14 hu_15) (cwV 1 hts gX0_share_X2_has rfl rfl rfl (by decide +kernel) ⟨by first | exact Nat.le_of_ble_eq_true rfl | (simp only [rmX0_share]; omega), by first | exact Nat.le_of_ble_eq_true rfl | (simp only [rmX0_share]; omega)⟩) hP hD hS [15] [0, 1, 2, 3, 4, 5, 6, 7, 8, 9, 10, 11, 12, 13, 14, 16, 17, 18] rfl rfl rfl rfl rfl (by decide) rfl rfl hl.1 rfl rfl (Nat.le_of_ble_eq_true rfl) ⟨Nat.zero_le _, Nat.zero_le _⟩ dX0_share_44 ?_
        intro H locs hP hD hS
        refine lv_if_eq (tgt := 55) hx hb dX0_share_47 (by decide) (fun c_16 => ?_) (fun c_16 => ?_)
        · have hF := it_p c_16 hF
          refine lv_iconst (v := (0 : Int32)) hx hb dX0_share_55 (by decide) ?_
          refine lv_istore (lv' := [(7, .int (0 : Int32)), (0, .ref a_t), (1, .ref a_r1), (2, .ref a_r2), (3, .ref a_r3), (4, .int x4), (5, .int x5), (6, .int x6)]) hx hb dX0_share_56 hl (by decide) rfl (fun ls hl => ?_)
          refine lv_iconst (v := (0 : Int32)) hx hb dX0_share_58 (by decide) ?_
          refine lv_istore (lv' := [(8, .int (0 : Int32)), (7, .int (0 : Int32)), (0, .ref a_t), (1, .ref a_r1), (2, .ref a_r2), (3, .ref a_r3), (4, .int x4), (5, .int x5), (6, .int x6)]) hx hb dX0_share_59 hl (by decide) rfl (fun ls hl => ?_)
          refine wX0_share_L61 C0 a_t a_r1 a_r2 a_r3 p_t p_t_5 p_r1 p_r2 p_r3 n (fX0_share n d) x4 x5 x6 (0 : Int32) o_r1 f_r1_4 f_r1_6 f_r1_7 f_r1_10 f_r1_11 f_r1_12 o_r2 f_r2_6 f_r2_7 o_t' f_t_2' f_t_3' f_t_4' o_t_5' f_t_5_6' f_t_5_7' f_t_5_8' o_r3' _ d hrec ?_ n (0 : Int32) o_t f_t_2 f_t_3 f_t_4 o_t_5 f_t_5_6 f_t_5_7 f_t_5_8 o_r3 hF _ _ _ (hP.sub [0, 1, 2, 3, 4, 5, 6, 7, 8, 9, 10, 11, 12, 13, 14, 18, 15, 16, 17] rfl) (hD.sub [0, 1, 2, 3, 4, 5, 6, 7, 8, 9, 10, 11, 12, 13, 14, 18, 15, 16, 17] rfl rfl) hS (lv_sub hl [2, 3, 4, 5, 6, 7, 8, 1, 0] rfl)
          · intro o_t_x61 f_t_2_x61 f_t_3_x61 f_t_4_x61 o_t_5_x61 f_t_5_6_x61 f_t_5_7_x61 f_t_5_8_x61 o_r3_x61 H locs ls hF hP hD hS hl
            cases hF
            exact ret_v C0 hP hD hS [0, 1, 2, 3, 4, 5, 6, 7, 8, 9, 10, 11, 12, 13, 14, 15, 16, 17, 18] rfl rfl rfl dX0_share_101
        · have hF := it_n c_16 hF
          refine lv_iload hx hb dX0_share_50 (lv_at hl 6 rfl) ?_
          refine lv_goto (tgt := 56) hx hb dX0_share_52 (by decide) ?_
          refine lv_istore (lv' := [(7, .int x6), (0, .ref a_t), (1, .ref a_r1), (2, .ref a_r2), (3, .ref a_r3), (4, .int x4), (5, .int x5), (6, .int x6)]) hx hb dX0_share_56 hl (by decide) rfl (fun ls hl => ?_)
          refine lv_iconst (v := (0 : Int32)) hx hb dX0_share_58 (by decide) ?_
          refine lv_istore (lv' := [(8, .int (0 : Int32)), (7, .int x6), (0, .ref a_t), (1, .ref a_r1), (2, .ref a_r2), (3, .ref a_r3), (4, .int x4), (5, .int x5), (6, .int x6)]) hx hb dX0_share_59 hl (by decide) rfl (fun ls hl => ?_)
          refine wX0_share_L61 C0 a_t a_r1 a_r2 a_r3 p_t p_t_5 p_r1 p_r2 p_r3 n (fX0_share n d) x4 x5 x6 x6 o_r1 f_r1_4 f_r1_6 f_r1_7 f_r1_10 f_r1_11 f_r1_12 o_r2 f_r2_6 f_r2_7 o_t' f_t_2' f_t_3' f_t_4' o_t_5' f_t_5_6' f_t_5_7' f_t_5_8' o_r3' _ d hrec ?_ n (0 : Int32) o_t f_t_2 f_t_3 f_t_4 o_t_5 f_t_5_6 f_t_5_7 f_t_5_8 o_r3 hF _ _ _ (hP.sub [0, 1, 2, 3, 4, 5, 6, 7, 8, 9, 10, 11, 12, 13, 14, 18, 15, 16, 17] rfl) (hD.sub [0, 1, 2, 3, 4, 5, 6, 7, 8, 9, 10, 11, 12, 13, 14, 18, 15, 16, 17] rfl rfl) hS (lv_sub hl [2, 3, 4, 5, 6, 7, 8, 1, 0] rfl)
          · intro o_t_x61 f_t_2_x61 f_t_3_x61 f_t_4_x61 o_t_5_x61 f_t_5_6_x61 f_t_5_7_x61 f_t_5_8_x61 o_r3_x61 H locs ls hF hP hD hS hl
            cases hF
            exact ret_v C0 hP hD hS [0, 1, 2, 3, 4, 5, 6, 7, 8, 9, 10, 11, 12, 13, 14, 15, 16, 17, 18] rfl rfl rfl dX0_share_101
      · have hF := it_n c_13 hF
        refine lv_iload hx hb dX0_share_26 (lv_at hl 6 rfl) ?_
        refine lv_if_ne (tgt := 40) hx hb dX0_share_28 (by decide) (fun c_29 => ?_) (fun c_29 => ?_)
        · have hF := it_n c_29 hF
          cases hF
          exact ret_v C0 hP hD hS [0, 1, 2, 3, 4, 5, 6, 7, 8, 9, 10, 11, 12, 13, 14, 15, 16, 17, 18] rfl rfl rfl dX0_share_40
        · have hF := it_p c_29 hF
          refine lv_aload_n hx hb dX0_share_31 rfl (lv_at hl 0 rfl) ?_
          refine lv_aload_n hx hb dX0_share_32 rfl (lv_at hl 1 rfl) ?_
          refine lv_aload_n hx hb dX0_share_33 rfl (lv_at hl 2 rfl) ?_
          refine lv_aload_n hx hb dX0_share_34 rfl (lv_at hl 3 rfl) ?_
          refine lv_iload hx hb dX0_share_35 (lv_at hl 4 rfl) ?_
          obtain ⟨u_30, u_31, u_32, u_33, u_34, u_35, u_36, u_37, hu_38, hF⟩ := ob8_some hF
          refine call_v (wr := []) (As := [.ref a_r1, .ref a_r2, .ref a_r3, .int x4]) (rest := []) (ci := 0) (q0 := 0) C0 (mX0_weighShare l g a_t a_r1 a_r2 a_r3 p_t p_t_5 p_r1 p_r2 p_r3 n x4 o_t f_t_2 f_t_3 f_t_4 o_t_5 f_t_5_6 f_t_5_7 f_t_5_8 o_r1 f_r1_4 f_r1_6 f_r1_7 f_r1_10 f_r1_11 f_r1_12 o_r2 f_r2_6 f_r2_7 o_r3 u_30 u_31 u_32 u_33 u_34 u_35 u_36 u_37 hu_38) (cwV 4 hts gX0_share_X0_weighShare rfl rfl rfl (by decide +kernel) ⟨by first | exact Nat.le_of_ble_eq_true rfl | (simp only [rmX0_share]; omega), by first | exact Nat.le_of_ble_eq_true rfl | (simp only [rmX0_share]; omega)⟩) hP hD hS [0, 1, 2, 3, 4, 5, 6, 7, 8, 9, 10, 11, 12, 13, 14, 15, 16, 17, 18] [] rfl rfl rfl rfl rfl (by decide) rfl rfl hl.1 rfl rfl (Nat.le_of_ble_eq_true rfl) ⟨Nat.zero_le _, Nat.zero_le _⟩ dX0_share_37 ?_
          intro H locs hP hD hS
          cases hF
          exact ret_v C0 hP hD hS [0, 1, 2, 3, 4, 5, 6, 7, 8, 9, 10, 11, 12, 13, 14, 15, 16, 17, 18] rfl rfl rfl dX0_share_40
  · have hF := it_n c_1 hF
    cases hF
    exact ret_v C0 hP hD hS [0, 1, 2, 3, 4, 5, 6, 7, 8, 9, 10, 11, 12, 13, 14, 15, 16, 17, 18] rfl rfl rfl dX0_share_9

theorem dAX0_search : ∀ q ∈ ([(0, (.aload_n 0, 1)), (1, (.getfield 9, 3)), (4, (.ifCond .eq 4, 3)), (7, (.return_, 1)), (8, (.aload_n 0, 1)), (9, (.iconst (-1), 1)), (10, (.putfield 15, 3)), (13, (.iconst 0, 1)), (14, (.istore 4, 2)), (16, (.iload 4, 2)), (18, (.iconst 4, 1)), (19, (.if_icmp .gt 38, 3)), (22, (.aload_n 0, 1)), (23, (.getfield 23, 3)), (26, (.iload 4, 2)), (28, (.iconst (-1), 1)), (29, (.iastore, 1)), (30, (.iload 4, 2)), (32, (.aload_n 2, 1)), (33, (.getfield 36, 3)), (36, (.if_icmp .gt 15, 3)), (39, (.aload_n 0, 1)), (40, (.aload_n 1, 1)), (41, (.aload_n 2, 1)), (42, (.aload_n 3, 1)), (43, (.iload 4, 2)), (45, (.iconst 0, 1)), (46, (.iload 4, 2)), (48, (.invokevirtual 39, 3)), (51, (.iinc 4 1, 3)), (54, (.goto (-38), 3)), (57, (.aload_n 0, 1)), (58, (.iconst 1, 1)), (59, (.putfield 9, 3)), (62, (.return_, 1))] : List (Nat × (Instr × Nat))), decode cX0_search q.1 = .ok q.2 := by decide +kernel
theorem dX0_search_0 : decode cX0_search 0 = .ok (.aload_n 0, 1) := dAX0_search (0, (.aload_n 0, 1)) (List.mem_of_getElem? (i := 0) rfl)
theorem dX0_search_1 : decode cX0_search 1 = .ok (.getfield 9, 3) := dAX0_search (1, (.getfield 9, 3)) (List.mem_of_getElem? (i := 1) rfl)
theorem dX0_search_4 : decode cX0_search 4 = .ok (.ifCond .eq 4, 3) := dAX0_search (4, (.ifCond .eq 4, 3)) (List.mem_of_getElem? (i := 2) rfl)
theorem dX0_search_7 : decode cX0_search 7 = .ok (.return_, 1) := dAX0_search (7, (.return_, 1)) (List.mem_of_getElem? (i := 3) rfl)
theorem dX0_search_8 : decode cX0_search 8 = .ok (.aload_n 0, 1) := dAX0_search (8, (.aload_n 0, 1)) (List.mem_of_getElem? (i := 4) rfl)
theorem dX0_search_9 : decode cX0_search 9 = .ok (.iconst (-1), 1) := dAX0_search (9, (.iconst (-1), 1)) (List.mem_of_getElem? (i := 5) rfl)
theorem dX0_search_10 : decode cX0_search 10 = .ok (.putfield 15, 3) := dAX0_search (10, (.putfield 15, 3)) (List.mem_of_getElem? (i := 6) rfl)
theorem dX0_search_13 : decode cX0_search 13 = .ok (.iconst 0, 1) := dAX0_search (13, (.iconst 0, 1)) (List.mem_of_getElem? (i := 7) rfl)
theorem dX0_search_14 : decode cX0_search 14 = .ok (.istore 4, 2) := dAX0_search (14, (.istore 4, 2)) (List.mem_of_getElem? (i := 8) rfl)
theorem dX0_search_16 : decode cX0_search 16 = .ok (.iload 4, 2) := dAX0_search (16, (.iload 4, 2)) (List.mem_of_getElem? (i := 9) rfl)
theorem dX0_search_18 : decode cX0_search 18 = .ok (.iconst 4, 1) := dAX0_search (18, (.iconst 4, 1)) (List.mem_of_getElem? (i := 10) rfl)
theorem dX0_search_19 : decode cX0_search 19 = .ok (.if_icmp .gt 38, 3) := dAX0_search (19, (.if_icmp .gt 38, 3)) (List.mem_of_getElem? (i := 11) rfl)
theorem dX0_search_22 : decode cX0_search 22 = .ok (.aload_n 0, 1) := dAX0_search (22, (.aload_n 0, 1)) (List.mem_of_getElem? (i := 12) rfl)
theorem dX0_search_23 : decode cX0_search 23 = .ok (.getfield 23, 3) := dAX0_search (23, (.getfield 23, 3)) (List.mem_of_getElem? (i := 13) rfl)
theorem dX0_search_26 : decode cX0_search 26 = .ok (.iload 4, 2) := dAX0_search (26, (.iload 4, 2)) (List.mem_of_getElem? (i := 14) rfl)
theorem dX0_search_28 : decode cX0_search 28 = .ok (.iconst (-1), 1) := dAX0_search (28, (.iconst (-1), 1)) (List.mem_of_getElem? (i := 15) rfl)
theorem dX0_search_29 : decode cX0_search 29 = .ok (.iastore, 1) := dAX0_search (29, (.iastore, 1)) (List.mem_of_getElem? (i := 16) rfl)
theorem dX0_search_30 : decode cX0_search 30 = .ok (.iload 4, 2) := dAX0_search (30, (.iload 4, 2)) (List.mem_of_getElem? (i := 17) rfl)
theorem dX0_search_32 : decode cX0_search 32 = .ok (.aload_n 2, 1) := dAX0_search (32, (.aload_n 2, 1)) (List.mem_of_getElem? (i := 18) rfl)
theorem dX0_search_33 : decode cX0_search 33 = .ok (.getfield 36, 3) := dAX0_search (33, (.getfield 36, 3)) (List.mem_of_getElem? (i := 19) rfl)
theorem dX0_search_36 : decode cX0_search 36 = .ok (.if_icmp .gt 15, 3) := dAX0_search (36, (.if_icmp .gt 15, 3)) (List.mem_of_getElem? (i := 20) rfl)
theorem dX0_search_39 : decode cX0_search 39 = .ok (.aload_n 0, 1) := dAX0_search (39, (.aload_n 0, 1)) (List.mem_of_getElem? (i := 21) rfl)
theorem dX0_search_40 : decode cX0_search 40 = .ok (.aload_n 1, 1) := dAX0_search (40, (.aload_n 1, 1)) (List.mem_of_getElem? (i := 22) rfl)
theorem dX0_search_41 : decode cX0_search 41 = .ok (.aload_n 2, 1) := dAX0_search (41, (.aload_n 2, 1)) (List.mem_of_getElem? (i := 23) rfl)
theorem dX0_search_42 : decode cX0_search 42 = .ok (.aload_n 3, 1) := dAX0_search (42, (.aload_n 3, 1)) (List.mem_of_getElem? (i := 24) rfl)
theorem dX0_search_43 : decode cX0_search 43 = .ok (.iload 4, 2) := dAX0_search (43, (.iload 4, 2)) (List.mem_of_getElem? (i := 25) rfl)
theorem dX0_search_45 : decode cX0_search 45 = .ok (.iconst 0, 1) := dAX0_search (45, (.iconst 0, 1)) (List.mem_of_getElem? (i := 26) rfl)
theorem dX0_search_46 : decode cX0_search 46 = .ok (.iload 4, 2) := dAX0_search (46, (.iload 4, 2)) (List.mem_of_getElem? (i := 27) rfl)
theorem dX0_search_48 : decode cX0_search 48 = .ok (.invokevirtual 39, 3) := dAX0_search (48, (.invokevirtual 39, 3)) (List.mem_of_getElem? (i := 28) rfl)
theorem dX0_search_51 : decode cX0_search 51 = .ok (.iinc 4 1, 3) := dAX0_search (51, (.iinc 4 1, 3)) (List.mem_of_getElem? (i := 29) rfl)
theorem dX0_search_54 : decode cX0_search 54 = .ok (.goto (-38), 3) := dAX0_search (54, (.goto (-38), 3)) (List.mem_of_getElem? (i := 30) rfl)
theorem dX0_search_57 : decode cX0_search 57 = .ok (.aload_n 0, 1) := dAX0_search (57, (.aload_n 0, 1)) (List.mem_of_getElem? (i := 31) rfl)
theorem dX0_search_58 : decode cX0_search 58 = .ok (.iconst 1, 1) := dAX0_search (58, (.iconst 1, 1)) (List.mem_of_getElem? (i := 32) rfl)
theorem dX0_search_59 : decode cX0_search 59 = .ok (.putfield 9, 3) := dAX0_search (59, (.putfield 9, 3)) (List.mem_of_getElem? (i := 33) rfl)
theorem dX0_search_62 : decode cX0_search 62 = .ok (.return_, 1) := dAX0_search (62, (.return_, 1)) (List.mem_of_getElem? (i := 34) rfl)
set_option maxRecDepth 20000 in
theorem ggX0_search_X0_share : GoodIn wsX0_search wsX0_share := goodIn_r _ [9, 2, 10, 11, 12, 13, 14, 8, 15, 16, 17, 18, 3, 19, 20, 21, 22, 23, 24, 25, 26, 27, 28, 29, 30, 31, 32, 33, 34, 35, 36, 37, 38, 39, 40, 41, 42, 43, 44, 45, 46, 47, 48, 49, 50, 51, 52, 53, 54, 55, 56, 57, 58, 59, 60, 61, 62, 63, 64, 65, 66, 67, 68, 69, 70, 71, 72, 73, 74, 75, 76, 77, 78, 79, 80, 81, 82, 83, 84, 85, 86, 87, 88, 89, 90, 91, 92, 93, 94, 5, 6, 7, 95, 96, 97, 98, 99, 100, 110, 111, 112, 113, 114, 115, 116, 117, 118, 119, 120, 121, 122, 123, 124, 125, 126, 101, 102, 103, 104, 105, 106, 107, 108, 109, 127, 128] rfl (by decide +kernel)
set_option maxRecDepth 20000 in
theorem gX0_search_X0_share : GoodIn wsX0_search (wsV RX0 39 RX0 yX0_share wsX0_share) := goodIn_app (goodIn_of _ (by decide +kernel)) ggX0_search_X0_share
theorem kX0_search_9 : Cond.fieldLink RX0 9 "EveningVow$CupShares" "known" "Z" ∈ wsX0_search := List.mem_of_getElem? (i := 1) rfl
theorem iX0_search_X0 : ∀ w ∈ u_ws RX0 TX0 6, w ∈ wsX0_search := fun w h => (List.mem_cons_of_mem _ (List.mem_append_left _ (List.mem_append_left _ (List.mem_append_left _ (List.mem_append_right _ h)))))
theorem kX0_search_15 : Cond.fieldLink RX0 15 "EveningVow$CupShares" "bestHours" "I" ∈ wsX0_search := List.mem_of_getElem? (i := 2) rfl
theorem kX0_search_23 : Cond.fieldLink RX0 23 "EveningVow$CupShares" "hoursBy" "[I" ∈ wsX0_search := List.mem_of_getElem? (i := 3) rfl
theorem kX0_search_36 : Cond.fieldLink RX0 36 "EveningVow$Night" "cupsLeft" "I" ∈ wsX0_search := List.mem_of_getElem? (i := 4) rfl
theorem iX0_search_X2 : ∀ w ∈ u_ws RX2 TX2 9, w ∈ wsX0_search := fun w h => (List.mem_cons_of_mem _ (List.mem_append_left _ (List.mem_append_left _ (List.mem_append_right _ h))))
set_option maxHeartbeats 4000000 in
set_option maxRecDepth 100000 in
theorem wX0_search_L16 {p : Program} {l : Launch} {e : Env} {s : State} {m : MethodId} {args : Array Value} {below : List Frame} {meth : Method} {c : Code} {g : GG} {A : Nat → Prop} (C0 : Cx p s m args meth c cX0_search 5 none RX0 wsX0_search g A) (a_t : Nat) (a_r1 : Nat) (a_r2 : Nat) (a_r3 : Nat) (p_t : Nat → Nat) (p_t_5 : Nat → Nat) (p_r1 : Nat → Nat) (p_r2 : Nat → Nat) (p_r3 : Nat → Nat) (n : Nat) (o_r1 : Nat → Int32) (f_r1_4 : Nat → Int32) (f_r1_6 : Nat → Int32) (f_r1_7 : Nat → Int32) (f_r1_10 : Nat → Int32) (f_r1_11 : Nat → Int32) (f_r1_12 : Nat → Int32) (o_r2 : Nat → Int32) (f_r2_6 : Nat → Int32) (f_r2_7 : Nat → Int32)  (o_t' : Nat → Int32) (f_t_2' : Nat → Int32) (f_t_3' : Nat → Int32) (f_t_4' : Nat → Int32) (o_t_5' : Nat → Int32) (f_t_5_6' : Nat → Int32) (f_t_5_7' : Nat → Int32) (f_t_5_8' : Nat → Int32) (o_r3' : Nat → Int32) (K : (Nat → Int32) → (Nat → Int32) → (Nat → Int32) → (Nat → Int32) → (Nat → Int32) → (Nat → Int32) → (Nat → Int32) → (Nat → Int32) → (Nat → Int32) → Option ((Nat → Int32) × (Nat → Int32) × (Nat → Int32) × (Nat → Int32) × (Nat → Int32) × (Nat → Int32) × (Nat → Int32) × (Nat → Int32) × (Nat → Int32))) (hKx : ∀ (o_t : Nat → Int32) (f_t_2 : Nat → Int32) (f_t_3 : Nat → Int32) (f_t_4 : Nat → Int32) (o_t_5 : Nat → Int32) (f_t_5_6 : Nat → Int32) (f_t_5_7 : Nat → Int32) (f_t_5_8 : Nat → Int32) (o_r3 : Nat → Int32) (H : Heap) (locs : List Loc) (ls : Array Slot), K o_t f_t_2 f_t_3 f_t_4 o_t_5 f_t_5_6 f_t_5_7 f_t_5_8 o_r3 = some (o_t', f_t_2', f_t_3', f_t_4', o_t_5', f_t_5_6', f_t_5_7', f_t_5_8', o_r3') → va_P g.1 vwCl [oX0 a_t p_t o_t, aI g (p_t 2) 7 f_t_2, aI g (p_t 3) 5 f_t_3, aI g (p_t 4) 7 f_t_4, oX2 (p_t 5) p_t_5 o_t_5, aI g (p_t_5 6) 7 f_t_5_6, aI g (p_t_5 7) 7 f_t_5_7, aI g (p_t_5 8) 7 f_t_5_8, oX1 a_r1 p_r1 o_r1, aI g (p_r1 4) 7 f_r1_4, aI g (p_r1 6) 7 f_r1_6, aI g (p_r1 7) 7 f_r1_7, aI g (p_r1 10) 8 f_r1_10, aI g (p_r1 11) 8 f_r1_11, aI g (p_r1 12) 8 f_r1_12, oX2 a_r2 p_r2 o_r2, aI g (p_r2 6) 7 f_r2_6, aI g (p_r2 7) 7 f_r2_7, oX3 a_r3 p_r3 o_r3] H → va_D A [oX0 a_t p_t o_t, aI g (p_t 2) 7 f_t_2, aI g (p_t 3) 5 f_t_3, aI g (p_t 4) 7 f_t_4, oX2 (p_t 5) p_t_5 o_t_5, aI g (p_t_5 6) 7 f_t_5_6, aI g (p_t_5 7) 7 f_t_5_7, aI g (p_t_5 8) 7 f_t_5_8, oX1 a_r1 p_r1 o_r1, aI g (p_r1 4) 7 f_r1_4, aI g (p_r1 6) 7 f_r1_6, aI g (p_r1 7) 7 f_r1_7, aI g (p_r1 10) 8 f_r1_10, aI g (p_r1 11) 8 f_r1_11, aI g (p_r1 12) 8 f_r1_12, oX2 a_r2 p_r2 o_r2, aI g (p_r2 6) 7 f_r2_6, aI g (p_r2 7) 7 f_r2_7, oX3 a_r3 p_r3 o_r3] → va_S A s.heap H locs → lv_has ls 5 [(0, .ref a_t)] → W p l e ({ frames := 16, cells := 0, slots := 0, locals := 428 } : Room) s m args below meth c H locs 0 0 (MQ below (EndV g [oX0 a_t p_t o_t', aI g (p_t 2) 7 f_t_2', aI g (p_t 3) 5 f_t_3', aI g (p_t 4) 7 f_t_4', oX2 (p_t 5) p_t_5 o_t_5', aI g (p_t_5 6) 7 f_t_5_6', aI g (p_t_5 7) 7 f_t_5_7', aI g (p_t_5 8) 7 f_t_5_8', oX1 a_r1 p_r1 o_r1, aI g (p_r1 4) 7 f_r1_4, aI g (p_r1 6) 7 f_r1_6, aI g (p_r1 7) 7 f_r1_7, aI g (p_r1 10) 8 f_r1_10, aI g (p_r1 11) 8 f_r1_11, aI g (p_r1 12) 8 f_r1_12, oX2 a_r2 p_r2 o_r2, aI g (p_r2 6) 7 f_r2_6, aI g (p_r2 7) 7 f_r2_7, oX3 a_r3 p_r3 o_r3'] A) args s 0 0 A) (F0 m 57 ls [])) : ∀ (k : Nat) (x4 : Int32) (o_t : Nat → Int32) (f_t_2 : Nat → Int32) (f_t_3 : Nat → Int32) (f_t_4 : Nat → Int32) (o_t_5 : Nat → Int32) (f_t_5_6 : Nat → Int32) (f_t_5_7 : Nat → Int32) (f_t_5_8 : Nat → Int32) (o_r3 : Nat → Int32), fX0_search_L16 n o_r1 f_r1_4 f_r1_6 f_r1_7 f_r1_10 f_r1_11 f_r1_12 o_r2 f_r2_6 f_r2_7 K k x4 o_t f_t_2 f_t_3 f_t_4 o_t_5 f_t_5_6 f_t_5_7 f_t_5_8 o_r3 = some (o_t', f_t_2', f_t_3', f_t_4', o_t_5', f_t_5_6', f_t_5_7', f_t_5_8', o_r3') → ∀ (H : Heap) (locs : List Loc) (ls : Array Slot), va_P g.1 vwCl [oX0 a_t p_t o_t, aI g (p_t 2) 7 f_t_2, aI g (p_t 3) 5 f_t_3, aI g (p_t 4) 7 f_t_4, oX2 (p_t 5) p_t_5 o_t_5, aI g (p_t_5 6) 7 f_t_5_6, aI g (p_t_5 7) 7 f_t_5_7, aI g (p_t_5 8) 7 f_t_5_8, oX1 a_r1 p_r1 o_r1, aI g (p_r1 4) 7 f_r1_4, aI g (p_r1 6) 7 f_r1_6, aI g (p_r1 7) 7 f_r1_7, aI g (p_r1 10) 8 f_r1_10, aI g (p_r1 11) 8 f_r1_11, aI g (p_r1 12) 8 f_r1_12, oX2 a_r2 p_r2 o_r2, aI g (p_r2 6) 7 f_r2_6, aI g (p_r2 7) 7 f_r2_7, oX3 a_r3 p_r3 o_r3] H → va_D A [oX0 a_t p_t o_t, aI g (p_t 2) 7 f_t_2, aI g (p_t 3) 5 f_t_3, aI g (p_t 4) 7 f_t_4, oX2 (p_t 5) p_t_5 o_t_5, aI g (p_t_5 6) 7 f_t_5_6, aI g (p_t_5 7) 7 f_t_5_7, aI g (p_t_5 8) 7 f_t_5_8, oX1 a_r1 p_r1 o_r1, aI g (p_r1 4) 7 f_r1_4, aI g (p_r1 6) 7 f_r1_6, aI g (p_r1 7) 7 f_r1_7, aI g (p_r1 10) 8 f_r1_10, aI g (p_r1 11) 8 f_r1_11, aI g (p_r1 12) 8 f_r1_12, oX2 a_r2 p_r2 o_r2, aI g (p_r2 6) 7 f_r2_6, aI g (p_r2 7) 7 f_r2_7, oX3 a_r3 p_r3 o_r3] → va_S A s.heap H locs → lv_has ls 5 [(0, .ref a_t), (1, .ref a_r1), (2, .ref a_r2), (3, .ref a_r3), (4, .int x4)] → W p l e ({ frames := 16, cells := 0, slots := 0, locals := 428 } : Room) s m args below meth c H locs 0 0 (MQ below (EndV g [oX0 a_t p_t o_t', aI g (p_t 2) 7 f_t_2', aI g (p_t 3) 5 f_t_3', aI g (p_t 4) 7 f_t_4', oX2 (p_t 5) p_t_5 o_t_5', aI g (p_t_5 6) 7 f_t_5_6', aI g (p_t_5 7) 7 f_t_5_7', aI g (p_t_5 8) 7 f_t_5_8', oX1 a_r1 p_r1 o_r1, aI g (p_r1 4) 7 f_r1_4, aI g (p_r1 6) 7 f_r1_6, aI g (p_r1 7) 7 f_r1_7, aI g (p_r1 10) 8 f_r1_10, aI g (p_r1 11) 8 f_r1_11, aI g (p_r1 12) 8 f_r1_12, oX2 a_r2 p_r2 o_r2, aI g (p_r2 6) 7 f_r2_6, aI g (p_r2 7) 7 f_r2_7, oX3 a_r3 p_r3 o_r3'] A) args s 0 0 A) (F0 m 16 ls []) := by
  obtain ⟨hx, hb, hml, hown, hts, hr, hlk, hK, hA, hSW⟩ := id C0
  intro k
  induction k with
  | zero =>
    intro x4 o_t f_t_2 f_t_3 f_t_4 o_t_5 f_t_5_6 f_t_5_7 f_t_5_8 o_r3 hF
    exact absurd hF (by simp [fX0_search_L16])
  | succ k ih =>
    intro x4 o_t f_t_2 f_t_3 f_t_4 o_t_5 f_t_5_6 f_t_5_7 f_t_5_8 o_r3 hF H locs ls hP hD hS hl
    rw [fX0_search_L16] at hF
    refine lv_iload hx hb dX0_search_16 (lv_at hl 4 rfl) ?_
    refine lv_iconst (v := (4 : Int32)) hx hb dX0_search_18 (by decide) ?_
    refine lv_icmp_gt (tgt := 57) hx hb dX0_search_19 (by decide) (fun c_2 => ?_) (fun c_2 => ?_)
    · have hF := it_p c_2 hF
      exact hKx o_t f_t_2 f_t_3 f_t_4 o_t_5 f_t_5_6 f_t_5_7 f_t_5_8 o_r3 _ _ _ hF (hP.sub [0, 1, 2, 3, 4, 5, 6, 7, 8, 9, 10, 11, 12, 13, 14, 15, 16, 17, 18] rfl) (hD.sub [0, 1, 2, 3, 4, 5, 6, 7, 8, 9, 10, 11, 12, 13, 14, 15, 16, 17, 18] rfl rfl) hS (lv_sub hl [0] rfl)
    · have hF := it_n c_2 hF
      refine lv_aload_n hx hb dX0_search_22 rfl (lv_at hl 0 rfl) ?_
      refine va_get (D := g.1) (ci := 0) (v := .ref (p_t 3)) (C := RX0) (T := TX0) (N := 6) hx hb hts iX0_search_X0 hown hK.1 hP 0 rfl rfl 3 (by decide) (hts _ kX0_search_23) (fun _ h9 => h9) rfl dX0_search_23 ?_
      refine lv_iload hx hb dX0_search_26 (lv_at hl 4 rfl) ?_
      refine lv_iconst (v := (-1 : Int32)) hx hb dX0_search_28 (by decide) ?_
      obtain ⟨h_3, hF⟩ := it_ck hF
      refine va_iast hx hb hK.1 hP hD hS 2 0 rfl rfl h_3 dX0_search_29 (fun H locs hP hD hS => ?_)
      have hP : va_P g.1 vwCl [oX0 a_t p_t o_t, aI g (p_t 2) 7 f_t_2, aI g (p_t 3) 5 (upd f_t_3 (x4).toNatClampNeg (-1 : Int32)), aI g (p_t 4) 7 f_t_4, oX2 (p_t 5) p_t_5 o_t_5, aI g (p_t_5 6) 7 f_t_5_6, aI g (p_t_5 7) 7 f_t_5_7, aI g (p_t_5 8) 7 f_t_5_8, oX1 a_r1 p_r1 o_r1, aI g (p_r1 4) 7 f_r1_4, aI g (p_r1 6) 7 f_r1_6, aI g (p_r1 7) 7 f_r1_7, aI g (p_r1 10) 8 f_r1_10, aI g (p_r1 11) 8 f_r1_11, aI g (p_r1 12) 8 f_r1_12, oX2 a_r2 p_r2 o_r2, aI g (p_r2 6) 7 f_r2_6, aI g (p_r2 7) 7 f_r2_7, oX3 a_r3 p_r3 o_r3] H := hP
      have hD : va_D A [oX0 a_t p_t o_t, aI g (p_t 2) 7 f_t_2, aI g (p_t 3) 5 (upd f_t_3 (x4).toNatClampNeg (-1 : Int32)), aI g (p_t 4) 7 f_t_4, oX2 (p_t 5) p_t_5 o_t_5, aI g (p_t_5 6) 7 f_t_5_6, aI g (p_t_5 7) 7 f_t_5_7, aI g (p_t_5 8) 7 f_t_5_8, oX1 a_r1 p_r1 o_r1, aI g (p_r1 4) 7 f_r1_4, aI g (p_r1 6) 7 f_r1_6, aI g (p_r1 7) 7 f_r1_7, aI g (p_r1 10) 8 f_r1_10, aI g (p_r1 11) 8 f_r1_11, aI g (p_r1 12) 8 f_r1_12, oX2 a_r2 p_r2 o_r2, aI g (p_r2 6) 7 f_r2_6, aI g (p_r2 7) 7 f_r2_7, oX3 a_r3 p_r3 o_r3] := hD
      refine lv_iload hx hb dX0_search_30 (lv_at hl 4 rfl) ?_
      refine lv_aload_n hx hb dX0_search_32 rfl (lv_at hl 2 rfl) ?_
      refine va_get (D := g.1) (ci := 2) (v := .int (o_r2 2)) (C := RX2) (T := TX2) (N := 9) hx hb hts iX0_search_X2 hown hK.1 hP 15 rfl rfl 2 (by decide) (hts _ kX0_search_36) (fun _ h9 => h9) rfl dX0_search_33 ?_
      refine lv_icmp_gt (tgt := 51) hx hb dX0_search_36 (by decide) (fun c_4 => ?_) (fun c_4 => ?_)
      · have hF := it_p c_4 hF
        refine lv_iinc (v := (x4 + (1 : Int32))) (lv' := [(4, .int (x4 + (1 : Int32))), (0, .ref a_t), (1, .ref a_r1), (2, .ref a_r2), (3, .ref a_r3)]) hx hb dX0_search_51 hl (k := 4) rfl rfl (by decide) rfl (fun ls hl => ?_)
        refine lv_goto (tgt := 16) hx hb dX0_search_54 (by decide) ?_
        exact ih (x4 + (1 : Int32)) o_t f_t_2 (upd f_t_3 (x4).toNatClampNeg (-1 : Int32)) f_t_4 o_t_5 f_t_5_6 f_t_5_7 f_t_5_8 o_r3 hF _ _ _ (hP.sub [0, 1, 2, 3, 4, 5, 6, 7, 8, 9, 10, 11, 12, 13, 14, 15, 16, 17, 18] rfl) (hD.sub [0, 1, 2, 3, 4, 5, 6, 7, 8, 9, 10, 11, 12, 13, 14, 15, 16, 17, 18] rfl rfl) hS (lv_sub hl [1, 2, 3, 4, 0] rfl)
      · have hF := it_n c_4 hF
        refine lv_aload_n hx hb dX0_search_39 rfl (lv_at hl 0 rfl) ?_
        refine lv_aload_n hx hb dX0_search_40 rfl (lv_at hl 1 rfl) ?_
        refine lv_aload_n hx hb dX0_search_41 rfl (lv_at hl 2 rfl) ?_
        refine lv_aload_n hx hb dX0_search_42 rfl (lv_at hl 3 rfl) ?_
        refine lv_iload hx hb dX0_search_43 (lv_at hl 4 rfl) ?_
        refine lv_iconst (v := (0 : Int32)) hx hb dX0_search_45 (by decide) ?_
        refine lv_iload hx hb dX0_search_46 (lv_at hl 4 rfl) ?_
        obtain ⟨u_5, u_6, u_7, u_8, u_9, u_10, u_11, u_12, u_13, hu_14, hF⟩ := ob9_some hF
        refine call_v (wr := []) (As := [.ref a_r1, .ref a_r2, .ref a_r3, .int x4, .int (0 : Int32), .int x4]) (rest := []) (ci := 0) (q0 := 0) C0 (mX0_share l g a_t a_r1 a_r2 a_r3 p_t p_t_5 p_r1 p_r2 p_r3 n 10 x4 (0 : Int32) x4 o_t f_t_2 (upd f_t_3 (x4).toNatClampNeg (-1 : Int32)) f_t_4 o_t_5 f_t_5_6 f_t_5_7 f_t_5_8 o_r1 f_r1_4 f_r1_6 f_r1_7 f_r1_10 f_r1_11 f_r1_12 o_r2 f_r2_6 f_r2_7 o_r3 u_5 u_6 u_7 u_8 u_9 u_10 u_11 u_12 u_13 hu_14) (cwV 6 hts gX0_search_X0_share rfl rfl rfl (by decide +kernel) ⟨Nat.le_of_ble_eq_true rfl, Nat.le_of_ble_eq_true rfl⟩) hP hD hS [0, 1, 2, 3, 4, 5, 6, 7, 8, 9, 10, 11, 12, 13, 14, 15, 16, 17, 18] [] rfl rfl rfl rfl rfl (by decide) rfl rfl hl.1 rfl rfl (Nat.le_of_ble_eq_true rfl) ⟨Nat.zero_le _, Nat.zero_le _⟩ dX0_search_48 ?_
        intro H locs hP hD hS
        refine lv_iinc (v := (x4 + (1 : Int32))) (lv' := [(4, .int (x4 + (1 : Int32))), (0, .ref a_t), (1, .ref a_r1), (2, .ref a_r2), (3, .ref a_r3)]) hx hb dX0_search_51 hl (k := 4) rfl rfl (by decide) rfl (fun ls hl => ?_)
        refine lv_goto (tgt := 16) hx hb dX0_search_54 (by decide) ?_
        exact ih (x4 + (1 : Int32)) u_5 u_6 u_7 u_8 u_9 u_10 u_11 u_12 u_13 hF _ _ _ (hP.sub [0, 1, 2, 3, 4, 5, 6, 7, 8, 9, 10, 11, 12, 13, 14, 15, 16, 17, 18] rfl) (hD.sub [0, 1, 2, 3, 4, 5, 6, 7, 8, 9, 10, 11, 12, 13, 14, 15, 16, 17, 18] rfl rfl) hS (lv_sub hl [1, 2, 3, 4, 0] rfl)
set_option maxHeartbeats 4000000 in
set_option maxRecDepth 100000 in
theorem mX0_search (l : Launch) (g : GG) (a_t : Nat) (a_r1 : Nat) (a_r2 : Nat) (a_r3 : Nat) (p_t : Nat → Nat) (p_t_5 : Nat → Nat) (p_r1 : Nat → Nat) (p_r2 : Nat → Nat) (p_r3 : Nat → Nat) (n : Nat) (o_t : Nat → Int32) (f_t_2 : Nat → Int32) (f_t_3 : Nat → Int32) (f_t_4 : Nat → Int32) (o_t_5 : Nat → Int32) (f_t_5_6 : Nat → Int32) (f_t_5_7 : Nat → Int32) (f_t_5_8 : Nat → Int32) (o_r1 : Nat → Int32) (f_r1_4 : Nat → Int32) (f_r1_6 : Nat → Int32) (f_r1_7 : Nat → Int32) (f_r1_10 : Nat → Int32) (f_r1_11 : Nat → Int32) (f_r1_12 : Nat → Int32) (o_r2 : Nat → Int32) (f_r2_6 : Nat → Int32) (f_r2_7 : Nat → Int32) (o_r3 : Nat → Int32) (o_t' : Nat → Int32) (f_t_2' : Nat → Int32) (f_t_3' : Nat → Int32) (f_t_4' : Nat → Int32) (o_t_5' : Nat → Int32) (f_t_5_6' : Nat → Int32) (f_t_5_7' : Nat → Int32) (f_t_5_8' : Nat → Int32) (o_r3' : Nat → Int32) (hF : fX0_search n o_t f_t_2 f_t_3 f_t_4 o_t_5 f_t_5_6 f_t_5_7 f_t_5_8 o_r1 f_r1_4 f_r1_6 f_r1_7 f_r1_10 f_r1_11 f_r1_12 o_r2 f_r2_6 f_r2_7 o_r3 = some (o_t', f_t_2', f_t_3', f_t_4', o_t_5', f_t_5_6', f_t_5_7', f_t_5_8', o_r3')) : MV l g yX0_search wsX0_search ({ frames := 16, cells := 0, slots := 0, locals := 428 } : Room) [.ref a_t, .ref a_r1, .ref a_r2, .ref a_r3] [oX0 a_t p_t o_t, aI g (p_t 2) 7 f_t_2, aI g (p_t 3) 5 f_t_3, aI g (p_t 4) 7 f_t_4, oX2 (p_t 5) p_t_5 o_t_5, aI g (p_t_5 6) 7 f_t_5_6, aI g (p_t_5 7) 7 f_t_5_7, aI g (p_t_5 8) 7 f_t_5_8, oX1 a_r1 p_r1 o_r1, aI g (p_r1 4) 7 f_r1_4, aI g (p_r1 6) 7 f_r1_6, aI g (p_r1 7) 7 f_r1_7, aI g (p_r1 10) 8 f_r1_10, aI g (p_r1 11) 8 f_r1_11, aI g (p_r1 12) 8 f_r1_12, oX2 a_r2 p_r2 o_r2, aI g (p_r2 6) 7 f_r2_6, aI g (p_r2 7) 7 f_r2_7, oX3 a_r3 p_r3 o_r3] [oX0 a_t p_t o_t', aI g (p_t 2) 7 f_t_2', aI g (p_t 3) 5 f_t_3', aI g (p_t 4) 7 f_t_4', oX2 (p_t 5) p_t_5 o_t_5', aI g (p_t_5 6) 7 f_t_5_6', aI g (p_t_5 7) 7 f_t_5_7', aI g (p_t_5 8) 7 f_t_5_8', oX1 a_r1 p_r1 o_r1, aI g (p_r1 4) 7 f_r1_4, aI g (p_r1 6) 7 f_r1_6, aI g (p_r1 7) 7 f_r1_7, aI g (p_r1 10) 8 f_r1_10, aI g (p_r1 11) 8 f_r1_11, aI g (p_r1 12) 8 f_r1_12, oX2 a_r2 p_r2 o_r2, aI g (p_r2 6) 7 f_r2_6, aI g (p_r2 7) 7 f_r2_7, oX3 a_r3 p_r3 o_r3'] := by
  refine MV.of (cc := cX0_search) (maxL := 5) (own := RX0) rfl rfl (by decide) (Nat.le_of_ble_eq_true rfl) ?_
  intro p e s m args below meth c A C0 hP hD hS ls hl
  obtain ⟨hx, hb, hml, hown, hts, hr, hlk, hK, hA, hSW⟩ := id C0
  have hl : lv_has ls 5 [(0, .ref a_t), (1, .ref a_r1), (2, .ref a_r2), (3, .ref a_r3)] := hl
  rw [fX0_search] at hF
  refine lv_aload_n hx hb dX0_search_0 rfl (lv_at hl 0 rfl) ?_
  refine va_get (D := g.1) (ci := 0) (v := .int (o_t 0)) (C := RX0) (T := TX0) (N := 6) hx hb hts iX0_search_X0 hown hK.1 hP 0 rfl rfl 0 (by decide) (hts _ kX0_search_9) (fun _ h9 => h9) rfl dX0_search_1 ?_
  refine lv_if_eq (tgt := 8) hx hb dX0_search_4 (by decide) (fun c_1 => ?_) (fun c_1 => ?_)
  · have hF := it_p c_1 hF
    refine lv_aload_n hx hb dX0_search_8 rfl (lv_at hl 0 rfl) ?_
    refine lv_iconst (v := (-1 : Int32)) hx hb dX0_search_9 (by decide) ?_
    refine va_put (D := g.1) (ci := 0) (v := .int (-1 : Int32)) (ty := .int) (C := RX0) (T := TX0) (N := 6) hx hb hts iX0_search_X0 tyX0 tyX0_ok nmX0 hown hK.1 hP hD hS 0 rfl rfl 1 (by decide) (hts _ kX0_search_15) (fun _ h9 => h9) rfl (by decide +kernel) rfl rfl (Nat.le_of_ble_eq_true rfl) dX0_search_10 (fun H locs hP hD hS => ?_)
    have hP : va_P g.1 vwCl [oX0 a_t p_t (upd o_t 1 (-1 : Int32)), aI g (p_t 2) 7 f_t_2, aI g (p_t 3) 5 f_t_3, aI g (p_t 4) 7 f_t_4, oX2 (p_t 5) p_t_5 o_t_5, aI g (p_t_5 6) 7 f_t_5_6, aI g (p_t_5 7) 7 f_t_5_7, aI g (p_t_5 8) 7 f_t_5_8, oX1 a_r1 p_r1 o_r1, aI g (p_r1 4) 7 f_r1_4, aI g (p_r1 6) 7 f_r1_6, aI g (p_r1 7) 7 f_r1_7, aI g (p_r1 10) 8 f_r1_10, aI g (p_r1 11) 8 f_r1_11, aI g (p_r1 12) 8 f_r1_12, oX2 a_r2 p_r2 o_r2, aI g (p_r2 6) 7 f_r2_6, aI g (p_r2 7) 7 f_r2_7, oX3 a_r3 p_r3 o_r3] H := hP
    have hD : va_D A [oX0 a_t p_t (upd o_t 1 (-1 : Int32)), aI g (p_t 2) 7 f_t_2, aI g (p_t 3) 5 f_t_3, aI g (p_t 4) 7 f_t_4, oX2 (p_t 5) p_t_5 o_t_5, aI g (p_t_5 6) 7 f_t_5_6, aI g (p_t_5 7) 7 f_t_5_7, aI g (p_t_5 8) 7 f_t_5_8, oX1 a_r1 p_r1 o_r1, aI g (p_r1 4) 7 f_r1_4, aI g (p_r1 6) 7 f_r1_6, aI g (p_r1 7) 7 f_r1_7, aI g (p_r1 10) 8 f_r1_10, aI g (p_r1 11) 8 f_r1_11, aI g (p_r1 12) 8 f_r1_12, oX2 a_r2 p_r2 o_r2, aI g (p_r2 6) 7 f_r2_6, aI g (p_r2 7) 7 f_r2_7, oX3 a_r3 p_r3 o_r3] := hD
    refine lv_iconst (v := (0 : Int32)) hx hb dX0_search_13 (by decide) ?_
    refine lv_istore (lv' := [(4, .int (0 : Int32)), (0, .ref a_t), (1, .ref a_r1), (2, .ref a_r2), (3, .ref a_r3)]) hx hb dX0_search_14 hl (by decide) rfl (fun ls hl => ?_)
    refine wX0_search_L16 C0 a_t a_r1 a_r2 a_r3 p_t p_t_5 p_r1 p_r2 p_r3 n o_r1 f_r1_4 f_r1_6 f_r1_7 f_r1_10 f_r1_11 f_r1_12 o_r2 f_r2_6 f_r2_7 o_t' f_t_2' f_t_3' f_t_4' o_t_5' f_t_5_6' f_t_5_7' f_t_5_8' o_r3' _ ?_ n (0 : Int32) (upd o_t 1 (-1 : Int32)) f_t_2 f_t_3 f_t_4 o_t_5 f_t_5_6 f_t_5_7 f_t_5_8 o_r3 hF _ _ _ (hP.sub [0, 1, 2, 3, 4, 5, 6, 7, 8, 9, 10, 11, 12, 13, 14, 15, 16, 17, 18] rfl) (hD.sub [0, 1, 2, 3, 4, 5, 6, 7, 8, 9, 10, 11, 12, 13, 14, 15, 16, 17, 18] rfl rfl) hS (lv_sub hl [1, 2, 3, 4, 0] rfl)
    · intro o_t_x16 f_t_2_x16 f_t_3_x16 f_t_4_x16 o_t_5_x16 f_t_5_6_x16 f_t_5_7_x16 f_t_5_8_x16 o_r3_x16 H locs ls hF hP hD hS hl
      refine lv_aload_n hx hb dX0_search_57 rfl (lv_at hl 0 rfl) ?_
      refine lv_iconst (v := (1 : Int32)) hx hb dX0_search_58 (by decide) ?_
      refine va_put (D := g.1) (ci := 0) (v := .int (1 : Int32)) (ty := .boolean) (C := RX0) (T := TX0) (N := 6) hx hb hts iX0_search_X0 tyX0 tyX0_ok nmX0 hown hK.1 hP hD hS 0 rfl rfl 0 (by decide) (hts _ kX0_search_9) (fun _ h9 => h9) rfl (by decide +kernel) rfl rfl (Nat.le_of_ble_eq_true rfl) dX0_search_59 (fun H locs hP hD hS => ?_)
      have hP : va_P g.1 vwCl [oX0 a_t p_t (upd o_t_x16 0 (1 : Int32)), aI g (p_t 2) 7 f_t_2_x16, aI g (p_t 3) 5 f_t_3_x16, aI g (p_t 4) 7 f_t_4_x16, oX2 (p_t 5) p_t_5 o_t_5_x16, aI g (p_t_5 6) 7 f_t_5_6_x16, aI g (p_t_5 7) 7 f_t_5_7_x16, aI g (p_t_5 8) 7 f_t_5_8_x16, oX1 a_r1 p_r1 o_r1, aI g (p_r1 4) 7 f_r1_4, aI g (p_r1 6) 7 f_r1_6, aI g (p_r1 7) 7 f_r1_7, aI g (p_r1 10) 8 f_r1_10, aI g (p_r1 11) 8 f_r1_11, aI g (p_r1 12) 8 f_r1_12, oX2 a_r2 p_r2 o_r2, aI g (p_r2 6) 7 f_r2_6, aI g (p_r2 7) 7 f_r2_7, oX3 a_r3 p_r3 o_r3_x16] H := hP
      have hD : va_D A [oX0 a_t p_t (upd o_t_x16 0 (1 : Int32)), aI g (p_t 2) 7 f_t_2_x16, aI g (p_t 3) 5 f_t_3_x16, aI g (p_t 4) 7 f_t_4_x16, oX2 (p_t 5) p_t_5 o_t_5_x16, aI g (p_t_5 6) 7 f_t_5_6_x16, aI g (p_t_5 7) 7 f_t_5_7_x16, aI g (p_t_5 8) 7 f_t_5_8_x16, oX1 a_r1 p_r1 o_r1, aI g (p_r1 4) 7 f_r1_4, aI g (p_r1 6) 7 f_r1_6, aI g (p_r1 7) 7 f_r1_7, aI g (p_r1 10) 8 f_r1_10, aI g (p_r1 11) 8 f_r1_11, aI g (p_r1 12) 8 f_r1_12, oX2 a_r2 p_r2 o_r2, aI g (p_r2 6) 7 f_r2_6, aI g (p_r2 7) 7 f_r2_7, oX3 a_r3 p_r3 o_r3_x16] := hD
      cases hF
      exact ret_v C0 hP hD hS [0, 1, 2, 3, 4, 5, 6, 7, 8, 9, 10, 11, 12, 13, 14, 15, 16, 17, 18] rfl rfl rfl dX0_search_62
  · have hF := it_n c_1 hF
    cases hF
    exact ret_v C0 hP hD hS [0, 1, 2, 3, 4, 5, 6, 7, 8, 9, 10, 11, 12, 13, 14, 15, 16, 17, 18] rfl rfl rfl dX0_search_7

