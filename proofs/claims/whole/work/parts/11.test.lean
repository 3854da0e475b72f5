theorem dAX9_inBits : ∀ q ∈ ([(0, (.iload_n 0, 1)), (1, (.iload_n 1, 1)), (2, (.ishr, 1)), (3, (.iconst 1, 1)), (4, (.iand, 1)), (5, (.iconst 1, 1)), (6, (.if_icmp .ne 7, 3)), (9, (.iconst 1, 1)), (10, (.goto 4, 3)), (13, (.iconst 0, 1)), (14, (.ireturn, 1))] : List (Nat × (Instr × Nat))), decode cX9_inBits q.1 = .ok q.2 := by decide +kernel
theorem dX9_inBits_0 : decode cX9_inBits 0 = .ok (.iload_n 0, 1) := dAX9_inBits (0, (.iload_n 0, 1)) (List.mem_of_getElem? (i := 0) rfl)
theorem dX9_inBits_1 : decode cX9_inBits 1 = .ok (.iload_n 1, 1) := dAX9_inBits (1, (.iload_n 1, 1)) (List.mem_of_getElem? (i := 1) rfl)
theorem dX9_inBits_2 : decode cX9_inBits 2 = .ok (.ishr, 1) := dAX9_inBits (2, (.ishr, 1)) (List.mem_of_getElem? (i := 2) rfl)
theorem dX9_inBits_3 : decode cX9_inBits 3 = .ok (.iconst 1, 1) := dAX9_inBits (3, (.iconst 1, 1)) (List.mem_of_getElem? (i := 3) rfl)
theorem dX9_inBits_4 : decode cX9_inBits 4 = .ok (.iand, 1) := dAX9_inBits (4, (.iand, 1)) (List.mem_of_getElem? (i := 4) rfl)
theorem dX9_inBits_5 : decode cX9_inBits 5 = .ok (.iconst 1, 1) := dAX9_inBits (5, (.iconst 1, 1)) (List.mem_of_getElem? (i := 5) rfl)
theorem dX9_inBits_6 : decode cX9_inBits 6 = .ok (.if_icmp .ne 7, 3) := dAX9_inBits (6, (.if_icmp .ne 7, 3)) (List.mem_of_getElem? (i := 6) rfl)
theorem dX9_inBits_9 : decode cX9_inBits 9 = .ok (.iconst 1, 1) := dAX9_inBits (9, (.iconst 1, 1)) (List.mem_of_getElem? (i := 7) rfl)
theorem dX9_inBits_10 : decode cX9_inBits 10 = .ok (.goto 4, 3) := dAX9_inBits (10, (.goto 4, 3)) (List.mem_of_getElem? (i := 8) rfl)
theorem dX9_inBits_13 : decode cX9_inBits 13 = .ok (.iconst 0, 1) := dAX9_inBits (13, (.iconst 0, 1)) (List.mem_of_getElem? (i := 9) rfl)
theorem dX9_inBits_14 : decode cX9_inBits 14 = .ok (.ireturn, 1) := dAX9_inBits (14, (.ireturn, 1)) (List.mem_of_getElem? (i := 10) rfl)
def fX9_inBits (n : Nat) (x0 : Int32) (x1 : Int32) : Option (Int32) := if ((x0 >>> (x1 &&& 31)) &&& (1 : Int32)) = (1 : Int32) then some ((1 : Int32)) else some ((0 : Int32))
set_option maxHeartbeats 4000000 in
set_option maxRecDepth 100000 in
theorem mX9_inBits (l : Launch) (g : GG)   (n : Nat) (x0 : Int32) (x1 : Int32) (r : Int32) (hF : fX9_inBits n x0 x1 = some (r)) : MI l g yX9_inBits wsX9_inBits ({ frames := 0, cells := 0, slots := 0, locals := 0 } : Room) [.int x0, .int x1] [] r [] := by
  refine MI.of (cc := cX9_inBits) (maxL := 2) (rt := .boolean) (own := RX9) rfl rfl (by decide) (Nat.le_of_ble_eq_true rfl) ?_
  intro p e s m args below meth c A C0 hP hD hS ls hl
  obtain ⟨hx, hb, hml, hown, hts, hr, hlk, hK, hA⟩ := id C0
  have hl : lv_has ls 2 [(0, .int x0), (1, .int x1)] := hl
  rw [fX9_inBits] at hF
  refine lv_iload_n hx hb dX9_inBits_0 rfl (lv_at hl 0 rfl) ?_
  refine lv_iload_n hx hb dX9_inBits_1 rfl (lv_at hl 1 rfl) ?_
  refine lv_ishr hx hb dX9_inBits_2 ?_
  refine lv_iconst (v := (1 : Int32)) hx hb dX9_inBits_3 (by decide) ?_
  refine lv_iand hx hb dX9_inBits_4 ?_
  refine lv_iconst (v := (1 : Int32)) hx hb dX9_inBits_5 (by decide) ?_
  refine lv_icmp_ne (tgt := 13) hx hb dX9_inBits_6 (by decide) (fun c_1 => ?_) (fun c_1 => ?_)
  · have hF := it_n c_1 hF
    refine lv_iconst (v := (0 : Int32)) hx hb dX9_inBits_13 (by decide) ?_
    cases hF
    exact ret_z C0 hP hD hS [] rfl rfl rfl dX9_inBits_14 rfl rfl
  · have hF := it_p c_1 hF
    refine lv_iconst (v := (1 : Int32)) hx hb dX9_inBits_9 (by decide) ?_
    refine lv_goto (tgt := 14) hx hb dX9_inBits_10 (by decide) ?_
    cases hF
    exact ret_z C0 hP hD hS [] rfl rfl rfl dX9_inBits_14 rfl rfl

theorem dAX3_amount : ∀ q ∈ ([(0, (.aload_n 0, 1)), (1, (.getfield 15, 3)), (4, (.ifCond .ne 5, 3)), (7, (.iload_n 1, 1)), (8, (.ireturn, 1)), (9, (.aload_n 0, 1)), (10, (.bipush 75, 2)), (12, (.aload_n 0, 1)), (13, (.getfield 9, 3)), (16, (.imul, 1)), (17, (.bipush 74, 2)), (19, (.iadd, 1)), (20, (.ldc 19, 2)), (22, (.irem, 1)), (23, (.putfield 9, 3)), (26, (.iconst 2, 1)), (27, (.iload_n 1, 1)), (28, (.imul, 1)), (29, (.iconst 1, 1)), (30, (.iadd, 1)), (31, (.istore_n 2, 1)), (32, (.iload_n 2, 1)), (33, (.iconst 1, 1)), (34, (.if_icmp .ge 7, 3)), (37, (.iconst 0, 1)), (38, (.goto 9, 3)), (41, (.aload_n 0, 1)), (42, (.getfield 9, 3)), (45, (.iload_n 2, 1)), (46, (.irem, 1)), (47, (.ireturn, 1))] : List (Nat × (Instr × Nat))), decode cX3_amount q.1 = .ok q.2 := by decide +kernel
theorem dX3_amount_0 : decode cX3_amount 0 = .ok (.aload_n 0, 1) := dAX3_amount (0, (.aload_n 0, 1)) (List.mem_of_getElem? (i := 0) rfl)
theorem dX3_amount_1 : decode cX3_amount 1 = .ok (.getfield 15, 3) := dAX3_amount (1, (.getfield 15, 3)) (List.mem_of_getElem? (i := 1) rfl)
theorem dX3_amount_4 : decode cX3_amount 4 = .ok (.ifCond .ne 5, 3) := dAX3_amount (4, (.ifCond .ne 5, 3)) (List.mem_of_getElem? (i := 2) rfl)
theorem dX3_amount_7 : decode cX3_amount 7 = .ok (.iload_n 1, 1) := dAX3_amount (7, (.iload_n 1, 1)) (List.mem_of_getElem? (i := 3) rfl)
theorem dX3_amount_8 : decode cX3_amount 8 = .ok (.ireturn, 1) := dAX3_amount (8, (.ireturn, 1)) (List.mem_of_getElem? (i := 4) rfl)
theorem dX3_amount_9 : decode cX3_amount 9 = .ok (.aload_n 0, 1) := dAX3_amount (9, (.aload_n 0, 1)) (List.mem_of_getElem? (i := 5) rfl)
theorem dX3_amount_10 : decode cX3_amount 10 = .ok (.bipush 75, 2) := dAX3_amount (10, (.bipush 75, 2)) (List.mem_of_getElem? (i := 6) rfl)
theorem dX3_amount_12 : decode cX3_amount 12 = .ok (.aload_n 0, 1) := dAX3_amount (12, (.aload_n 0, 1)) (List.mem_of_getElem? (i := 7) rfl)
theorem dX3_amount_13 : decode cX3_amount 13 = .ok (.getfield 9, 3) := dAX3_amount (13, (.getfield 9, 3)) (List.mem_of_getElem? (i := 8) rfl)
theorem dX3_amount_16 : decode cX3_amount 16 = .ok (.imul, 1) := dAX3_amount (16, (.imul, 1)) (List.mem_of_getElem? (i := 9) rfl)
theorem dX3_amount_17 : decode cX3_amount 17 = .ok (.bipush 74, 2) := dAX3_amount (17, (.bipush 74, 2)) (List.mem_of_getElem? (i := 10) rfl)
theorem dX3_amount_19 : decode cX3_amount 19 = .ok (.iadd, 1) := dAX3_amount (19, (.iadd, 1)) (List.mem_of_getElem? (i := 11) rfl)
theorem dX3_amount_20 : decode cX3_amount 20 = .ok (.ldc 19, 2) := dAX3_amount (20, (.ldc 19, 2)) (List.mem_of_getElem? (i := 12) rfl)
theorem dX3_amount_22 : decode cX3_amount 22 = .ok (.irem, 1) := dAX3_amount (22, (.irem, 1)) (List.mem_of_getElem? (i := 13) rfl)
theorem dX3_amount_23 : decode cX3_amount 23 = .ok (.putfield 9, 3) := dAX3_amount (23, (.putfield 9, 3)) (List.mem_of_getElem? (i := 14) rfl)
theorem dX3_amount_26 : decode cX3_amount 26 = .ok (.iconst 2, 1) := dAX3_amount (26, (.iconst 2, 1)) (List.mem_of_getElem? (i := 15) rfl)
theorem dX3_amount_27 : decode cX3_amount 27 = .ok (.iload_n 1, 1) := dAX3_amount (27, (.iload_n 1, 1)) (List.mem_of_getElem? (i := 16) rfl)
theorem dX3_amount_28 : decode cX3_amount 28 = .ok (.imul, 1) := dAX3_amount (28, (.imul, 1)) (List.mem_of_getElem? (i := 17) rfl)
theorem dX3_amount_29 : decode cX3_amount 29 = .ok (.iconst 1, 1) := dAX3_amount (29, (.iconst 1, 1)) (List.mem_of_getElem? (i := 18) rfl)
theorem dX3_amount_30 : decode cX3_amount 30 = .ok (.iadd, 1) := dAX3_amount (30, (.iadd, 1)) (List.mem_of_getElem? (i := 19) rfl)
theorem dX3_amount_31 : decode cX3_amount 31 = .ok (.istore_n 2, 1) := dAX3_amount (31, (.istore_n 2, 1)) (List.mem_of_getElem? (i := 20) rfl)
theorem dX3_amount_32 : decode cX3_amount 32 = .ok (.iload_n 2, 1) := dAX3_amount (32, (.iload_n 2, 1)) (List.mem_of_getElem? (i := 21) rfl)
theorem dX3_amount_33 : decode cX3_amount 33 = .ok (.iconst 1, 1) := dAX3_amount (33, (.iconst 1, 1)) (List.mem_of_getElem? (i := 22) rfl)
theorem dX3_amount_34 : decode cX3_amount 34 = .ok (.if_icmp .ge 7, 3) := dAX3_amount (34, (.if_icmp .ge 7, 3)) (List.mem_of_getElem? (i := 23) rfl)
theorem dX3_amount_37 : decode cX3_amount 37 = .ok (.iconst 0, 1) := dAX3_amount (37, (.iconst 0, 1)) (List.mem_of_getElem? (i := 24) rfl)
theorem dX3_amount_38 : decode cX3_amount 38 = .ok (.goto 9, 3) := dAX3_amount (38, (.goto 9, 3)) (List.mem_of_getElem? (i := 25) rfl)
theorem dX3_amount_41 : decode cX3_amount 41 = .ok (.aload_n 0, 1) := dAX3_amount (41, (.aload_n 0, 1)) (List.mem_of_getElem? (i := 26) rfl)
theorem dX3_amount_42 : decode cX3_amount 42 = .ok (.getfield 9, 3) := dAX3_amount (42, (.getfield 9, 3)) (List.mem_of_getElem? (i := 27) rfl)
theorem dX3_amount_45 : decode cX3_amount 45 = .ok (.iload_n 2, 1) := dAX3_amount (45, (.iload_n 2, 1)) (List.mem_of_getElem? (i := 28) rfl)
theorem dX3_amount_46 : decode cX3_amount 46 = .ok (.irem, 1) := dAX3_amount (46, (.irem, 1)) (List.mem_of_getElem? (i := 29) rfl)
theorem dX3_amount_47 : decode cX3_amount 47 = .ok (.ireturn, 1) := dAX3_amount (47, (.ireturn, 1)) (List.mem_of_getElem? (i := 30) rfl)
theorem kX3_amount_15 : Cond.fieldLink RX3 15 "EveningVow$Pace" "drawing" "Z" ∈ wsX3_amount := by decide +kernel
theorem iX3_amount_X3 : ∀ w ∈ u_ws RX3 TX3 2, w ∈ wsX3_amount := by decide +kernel
theorem kX3_amount_9 : Cond.fieldLink RX3 9 "EveningVow$Pace" "seed" "I" ∈ wsX3_amount := by decide +kernel
theorem kX3_amount_19 : Cond.constant RX3 19 (65537 : Int32) ∈ wsX3_amount := by decide +kernel
def fX3_amount (n : Nat) (x1 : Int32) (o_t : Nat → Int32) : Option (Int32 × (Nat → Int32)) := if (o_t 0) = 0 then some (x1, o_t) else if (1 : Int32) ≤ (((2 : Int32) * x1) + (1 : Int32)) then if (((2 : Int32) * x1) + (1 : Int32)) = 0 then none else some ((((((75 : Int32) * (o_t 1)) + (74 : Int32)) - (((75 : Int32) * (o_t 1)) + (74 : Int32)) / (65537 : Int32) * (65537 : Int32)) - ((((75 : Int32) * (o_t 1)) + (74 : Int32)) - (((75 : Int32) * (o_t 1)) + (74 : Int32)) / (65537 : Int32) * (65537 : Int32)) / (((2 : Int32) * x1) + (1 : Int32)) * (((2 : Int32) * x1) + (1 : Int32))), (upd o_t 1 ((((75 : Int32) * (o_t 1)) + (74 : Int32)) - (((75 : Int32) * (o_t 1)) + (74 : Int32)) / (65537 : Int32) * (65537 : Int32)))) else some ((0 : Int32), (upd o_t 1 ((((75 : Int32) * (o_t 1)) + (74 : Int32)) - (((75 : Int32) * (o_t 1)) + (74 : Int32)) / (65537 : Int32) * (65537 : Int32))))
set_option maxHeartbeats 4000000 in
set_option maxRecDepth 100000 in
theorem mX3_amount (l : Launch) (g : GG) (a_t : Nat) (p_t : Nat → Nat) (n : Nat) (x1 : Int32) (o_t : Nat → Int32) (r : Int32) (o_t' : Nat → Int32) (hF : fX3_amount n x1 o_t = some (r, o_t')) : MI l g yX3_amount wsX3_amount ({ frames := 0, cells := 0, slots := 0, locals := 0 } : Room) [.ref a_t, .int x1] [oX3 a_t p_t o_t] r [oX3 a_t p_t o_t'] := by
  refine MI.of (cc := cX3_amount) (maxL := 3) (rt := .int) (own := RX3) rfl rfl (by decide) (Nat.le_of_ble_eq_true rfl) ?_
  intro p e s m args below meth c A C0 hP hD hS ls hl
  obtain ⟨hx, hb, hml, hown, hts, hr, hlk, hK, hA⟩ := id C0
  have hl : lv_has ls 3 [(0, .ref a_t), (1, .int x1)] := hl
  rw [fX3_amount] at hF
  refine lv_aload_n hx hb dX3_amount_0 rfl (lv_at hl 0 rfl) ?_
  refine va_get (D := g.1) (ci := 3) (v := .int (o_t 0)) (C := RX3) (T := TX3) (N := 2) hx hb hts iX3_amount_X3 hown hK.1 hP 0 rfl rfl 0 (by decide) (hts _ kX3_amount_15) (fun _ h9 => h9) rfl dX3_amount_1 ?_
  refine lv_if_ne (tgt := 9) hx hb dX3_amount_4 (by decide) (fun c_1 => ?_) (fun c_1 => ?_)
  · have hF := it_n c_1 hF
    refine lv_aload_n hx hb dX3_amount_9 rfl (lv_at hl 0 rfl) ?_
    refine lv_bipush (v := (75 : Int32)) hx hb dX3_amount_10 (by decide) ?_
    refine lv_aload_n hx hb dX3_amount_12 rfl (lv_at hl 0 rfl) ?_
    refine va_get (D := g.1) (ci := 3) (v := .int (o_t 1)) (C := RX3) (T := TX3) (N := 2) hx hb hts iX3_amount_X3 hown hK.1 hP 0 rfl rfl 1 (by decide) (hts _ kX3_amount_9) (fun _ h9 => h9) rfl dX3_amount_13 ?_
    refine lv_imul hx hb dX3_amount_16 ?_
    refine lv_bipush (v := (74 : Int32)) hx hb dX3_amount_17 (by decide) ?_
    refine lv_iadd hx hb dX3_amount_19 ?_
    refine lv_ldc (v := (65537 : Int32)) hx hb hown (hts _ kX3_amount_19) dX3_amount_20 ?_
    refine lv_irem hx hb dX3_amount_22 (by decide) ?_
    refine va_put (D := g.1) (ci := 3) (v := .int ((((75 : Int32) * (o_t 1)) + (74 : Int32)) - (((75 : Int32) * (o_t 1)) + (74 : Int32)) / (65537 : Int32) * (65537 : Int32))) (ty := .int) (C := RX3) (T := TX3) (N := 2) hx hb hts iX3_amount_X3 tyX3 tyX3_ok nmX3 hown hK.1 hP hD hS 0 rfl rfl 1 (by decide) (hts _ kX3_amount_9) (fun _ h9 => h9) rfl (by decide +kernel) rfl rfl (Nat.le_of_ble_eq_true rfl) dX3_amount_23 (fun H locs hP hD hS => ?_)
    have hP : va_P g.1 vwCl [oX3 a_t p_t (upd o_t 1 ((((75 : Int32) * (o_t 1)) + (74 : Int32)) - (((75 : Int32) * (o_t 1)) + (74 : Int32)) / (65537 : Int32) * (65537 : Int32)))] H := hP
    have hD : va_D A [oX3 a_t p_t (upd o_t 1 ((((75 : Int32) * (o_t 1)) + (74 : Int32)) - (((75 : Int32) * (o_t 1)) + (74 : Int32)) / (65537 : Int32) * (65537 : Int32)))] := hD
    refine lv_iconst (v := (2 : Int32)) hx hb dX3_amount_26 (by decide) ?_
    refine lv_iload_n hx hb dX3_amount_27 rfl (lv_at hl 1 rfl) ?_
    refine lv_imul hx hb dX3_amount_28 ?_
    refine lv_iconst (v := (1 : Int32)) hx hb dX3_amount_29 (by decide) ?_
    refine lv_iadd hx hb dX3_amount_30 ?_
    refine lv_istore_n (lv' := [(2, .int (((2 : Int32) * x1) + (1 : Int32))), (0, .ref a_t), (1, .int x1)]) hx hb dX3_amount_31 rfl hl (by decide) rfl (fun ls hl => ?_)
    refine lv_iload_n hx hb dX3_amount_32 rfl (lv_at hl 0 rfl) ?_
    refine lv_iconst (v := (1 : Int32)) hx hb dX3_amount_33 (by decide) ?_
    refine lv_icmp_ge (tgt := 41) hx hb dX3_amount_34 (by decide) (fun c_2 => ?_) (fun c_2 => ?_)
    · have hF := it_p c_2 hF
      refine lv_aload_n hx hb dX3_amount_41 rfl (lv_at hl 1 rfl) ?_
      refine va_get (D := g.1) (ci := 3) (v := .int ((((75 : Int32) * (o_t 1)) + (74 : Int32)) - (((75 : Int32) * (o_t 1)) + (74 : Int32)) / (65537 : Int32) * (65537 : Int32))) (C := RX3) (T := TX3) (N := 2) hx hb hts iX3_amount_X3 hown hK.1 hP 0 rfl rfl 1 (by decide) (hts _ kX3_amount_9) (fun _ h9 => h9) rfl dX3_amount_42 ?_
      refine lv_iload_n hx hb dX3_amount_45 rfl (lv_at hl 0 rfl) ?_
      obtain ⟨h_3, hF⟩ := it_ck hF
      refine lv_irem hx hb dX3_amount_46 h_3 ?_
      cases hF
      exact ret_i C0 hP hD hS [0] rfl rfl rfl dX3_amount_47 rfl
    · have hF := it_n c_2 hF
      refine lv_iconst (v := (0 : Int32)) hx hb dX3_amount_37 (by decide) ?_
      refine lv_goto (tgt := 47) hx hb dX3_amount_38 (by decide) ?_
      cases hF
      exact ret_i C0 hP hD hS [0] rfl rfl rfl dX3_amount_47 rfl
  · have hF := it_p c_1 hF
    refine lv_iload_n hx hb dX3_amount_7 rfl (lv_at hl 1 rfl) ?_
    cases hF
    exact ret_i C0 hP hD hS [0] rfl rfl rfl dX3_amount_8 rfl

theorem dAX2_has : ∀ q ∈ ([(0, (.aload_n 0, 1)), (1, (.getfield 15, 3)), (4, (.iload_n 1, 1)), (5, (.invokestatic 57, 3)), (8, (.ireturn, 1))] : List (Nat × (Instr × Nat))), decode cX2_has q.1 = .ok q.2 := by decide +kernel
theorem dX2_has_0 : decode cX2_has 0 = .ok (.aload_n 0, 1) := dAX2_has (0, (.aload_n 0, 1)) (List.mem_of_getElem? (i := 0) rfl)
theorem dX2_has_1 : decode cX2_has 1 = .ok (.getfield 15, 3) := dAX2_has (1, (.getfield 15, 3)) (List.mem_of_getElem? (i := 1) rfl)
theorem dX2_has_4 : decode cX2_has 4 = .ok (.iload_n 1, 1) := dAX2_has (4, (.iload_n 1, 1)) (List.mem_of_getElem? (i := 2) rfl)
theorem dX2_has_5 : decode cX2_has 5 = .ok (.invokestatic 57, 3) := dAX2_has (5, (.invokestatic 57, 3)) (List.mem_of_getElem? (i := 3) rfl)
theorem dX2_has_8 : decode cX2_has 8 = .ok (.ireturn, 1) := dAX2_has (8, (.ireturn, 1)) (List.mem_of_getElem? (i := 4) rfl)
set_option maxRecDepth 20000 in
theorem ggX2_has_X9_inBits : GoodIn wsX2_has wsX9_inBits := goodIn_r _ [4] (by decide +kernel) (by decide +kernel)
set_option maxRecDepth 20000 in
theorem gX2_has_X9_inBits_n57 : GoodIn wsX2_has (wsX9_inBits) := ggX2_has_X9_inBits
theorem kX2_has_15 : Cond.fieldLink RX2 15 "EveningVow$Night" "there" "I" ∈ wsX2_has := by decide +kernel
theorem iX2_has_X2 : ∀ w ∈ u_ws RX2 TX2 9, w ∈ wsX2_has := by decide +kernel
theorem kX2_has_57_s : Cond.static yX9_inBits ∈ wsX2_has := by decide +kernel
theorem kX2_has_57_i : Cond.initialized RX9 ∈ wsX2_has := by decide +kernel
def fX2_has (n : Nat) (x1 : Int32) (o_t : Nat → Int32) : Option (Int32) := ob1 (fX9_inBits n (o_t 1) x1) (fun (u_1 : Int32) => if ¬ (u_1 = 0 ∨ u_1 = 1) then none else some (u_1))
set_option maxHeartbeats 4000000 in
set_option maxRecDepth 100000 in
theorem mX2_has (l : Launch) (g : GG) (a_t : Nat) (p_t : Nat → Nat) (n : Nat) (x1 : Int32) (o_t : Nat → Int32) (r : Int32) (hF : fX2_has n x1 o_t = some (r)) : MI l g yX2_has wsX2_has ({ frames := 1, cells := 0, slots := 0, locals := 21 } : Room) [.ref a_t, .int x1] [oX2 a_t p_t o_t] r [oX2 a_t p_t o_t] := by
  refine MI.of (cc := cX2_has) (maxL := 2) (rt := .boolean) (own := RX2) rfl rfl (by decide) (Nat.le_of_ble_eq_true rfl) ?_
  intro p e s m args below meth c A C0 hP hD hS ls hl
  obtain ⟨hx, hb, hml, hown, hts, hr, hlk, hK, hA⟩ := id C0
  have hl : lv_has ls 2 [(0, .ref a_t), (1, .int x1)] := hl
  rw [fX2_has] at hF
  refine lv_aload_n hx hb dX2_has_0 rfl (lv_at hl 0 rfl) ?_
  refine va_get (D := g.1) (ci := 2) (v := .int (o_t 1)) (C := RX2) (T := TX2) (N := 9) hx hb hts iX2_has_X2 hown hK.1 hP 0 rfl rfl 1 (by decide) (hts _ kX2_has_15) (fun _ h9 => h9) rfl dX2_has_1 ?_
  refine lv_iload_n hx hb dX2_has_4 rfl (lv_at hl 1 rfl) ?_
  obtain ⟨u_1, hu_2, hF⟩ := ob1_some hF
  refine call_ni (wr := [oX2 a_t p_t o_t]) (As := [.int (o_t 1), .int x1]) (rest := []) C0 (mX9_inBits l g n (o_t 1) x1 u_1 hu_2) (va_cnB 2 hts gX2_has_X9_inBits_n57 rfl rfl rfl hK.2 (hts _ kX2_has_57_i) (by decide +kernel) ⟨Nat.le_of_ble_eq_true rfl, Nat.le_of_ble_eq_true rfl⟩) (hts _ kX2_has_57_s) hP hD hS [] [0] rfl rfl rfl rfl rfl (by decide) hl.1 rfl rfl (by decide) ⟨Nat.zero_le _, Nat.zero_le _⟩ dX2_has_5 ?_
  intro H locs hP hD hS
  obtain ⟨h_3, hF⟩ := it_ck hF
  cases hF
  exact ret_z C0 hP hD hS [0] rfl rfl rfl dX2_has_8 (nar01 h_3) rfl

theorem dAX2_weigh : ∀ q ∈ ([(0, (.iconst 0, 1)), (1, (.istore_n 2, 1)), (2, (.iload_n 2, 1)), (3, (.aload_n 1, 1)), (4, (.getfield 40, 3)), (7, (.if_icmp .ge 21, 3)), (10, (.aload_n 0, 1)), (11, (.getfield 37, 3)), (14, (.iload_n 2, 1)), (15, (.aload_n 0, 1)), (16, (.getfield 30, 3)), (19, (.iload_n 2, 1)), (20, (.iaload, 1)), (21, (.iastore, 1)), (22, (.iinc 2 1, 3)), (25, (.goto (-23), 3)), (28, (.iconst 0, 1)), (29, (.istore_n 2, 1)), (30, (.iload_n 2, 1)), (31, (.aload_n 1, 1)), (32, (.getfield 65, 3)), (35, (.if_icmp .ge 46, 3)), (38, (.aload_n 0, 1)), (39, (.getfield 15, 3)), (42, (.aload_n 1, 1)), (43, (.getfield 68, 3)), (46, (.iload_n 2, 1)), (47, (.iaload, 1)), (48, (.ishr, 1)), (49, (.iconst 1, 1)), (50, (.iand, 1)), (51, (.iconst 1, 1)), (52, (.if_icmp .ne 23, 3)), (55, (.aload_n 0, 1)), (56, (.getfield 37, 3)), (59, (.aload_n 1, 1)), (60, (.getfield 71, 3)), (63, (.iload_n 2, 1)), (64, (.iaload, 1)), (65, (.dup2, 1)), (66, (.iaload, 1)), (67, (.aload_n 1, 1)), (68, (.getfield 74, 3)), (71, (.iload_n 2, 1)), (72, (.iaload, 1)), (73, (.iadd, 1)), (74, (.iastore, 1)), (75, (.iinc 2 1, 3)), (78, (.goto (-48), 3)), (81, (.return_, 1))] : List (Nat × (Instr × Nat))), decode cX2_weigh q.1 = .ok q.2 := by decide +kernel
theorem dX2_weigh_0 : decode cX2_weigh 0 = .ok (.iconst 0, 1) := dAX2_weigh (0, (.iconst 0, 1)) (List.mem_of_getElem? (i := 0) rfl)
theorem dX2_weigh_1 : decode cX2_weigh 1 = .ok (.istore_n 2, 1) := dAX2_weigh (1, (.istore_n 2, 1)) (List.mem_of_getElem? (i := 1) rfl)
theorem dX2_weigh_2 : decode cX2_weigh 2 = .ok (.iload_n 2, 1) := dAX2_weigh (2, (.iload_n 2, 1)) (List.mem_of_getElem? (i := 2) rfl)
theorem dX2_weigh_3 : decode cX2_weigh 3 = .ok (.aload_n 1, 1) := dAX2_weigh (3, (.aload_n 1, 1)) (List.mem_of_getElem? (i := 3) rfl)
theorem dX2_weigh_4 : decode cX2_weigh 4 = .ok (.getfield 40, 3) := dAX2_weigh (4, (.getfield 40, 3)) (List.mem_of_getElem? (i := 4) rfl)
theorem dX2_weigh_7 : decode cX2_weigh 7 = .ok (.if_icmp .ge 21, 3) := dAX2_weigh (7, (.if_icmp .ge 21, 3)) (List.mem_of_getElem? (i := 5) rfl)
theorem dX2_weigh_10 : decode cX2_weigh 10 = .ok (.aload_n 0, 1) := dAX2_weigh (10, (.aload_n 0, 1)) (List.mem_of_getElem? (i := 6) rfl)
theorem dX2_weigh_11 : decode cX2_weigh 11 = .ok (.getfield 37, 3) := dAX2_weigh (11, (.getfield 37, 3)) (List.mem_of_getElem? (i := 7) rfl)
theorem dX2_weigh_14 : decode cX2_weigh 14 = .ok (.iload_n 2, 1) := dAX2_weigh (14, (.iload_n 2, 1)) (List.mem_of_getElem? (i := 8) rfl)
theorem dX2_weigh_15 : decode cX2_weigh 15 = .ok (.aload_n 0, 1) := dAX2_weigh (15, (.aload_n 0, 1)) (List.mem_of_getElem? (i := 9) rfl)
theorem dX2_weigh_16 : decode cX2_weigh 16 = .ok (.getfield 30, 3) := dAX2_weigh (16, (.getfield 30, 3)) (List.mem_of_getElem? (i := 10) rfl)
theorem dX2_weigh_19 : decode cX2_weigh 19 = .ok (.iload_n 2, 1) := dAX2_weigh (19, (.iload_n 2, 1)) (List.mem_of_getElem? (i := 11) rfl)
theorem dX2_weigh_20 : decode cX2_weigh 20 = .ok (.iaload, 1) := dAX2_weigh (20, (.iaload, 1)) (List.mem_of_getElem? (i := 12) rfl)
theorem dX2_weigh_21 : decode cX2_weigh 21 = .ok (.iastore, 1) := dAX2_weigh (21, (.iastore, 1)) (List.mem_of_getElem? (i := 13) rfl)
theorem dX2_weigh_22 : decode cX2_weigh 22 = .ok (.iinc 2 1, 3) := dAX2_weigh (22, (.iinc 2 1, 3)) (List.mem_of_getElem? (i := 14) rfl)
theorem dX2_weigh_25 : decode cX2_weigh 25 = .ok (.goto (-23), 3) := dAX2_weigh (25, (.goto (-23), 3)) (List.mem_of_getElem? (i := 15) rfl)
theorem dX2_weigh_28 : decode cX2_weigh 28 = .ok (.iconst 0, 1) := dAX2_weigh (28, (.iconst 0, 1)) (List.mem_of_getElem? (i := 16) rfl)
theorem dX2_weigh_29 : decode cX2_weigh 29 = .ok (.istore_n 2, 1) := dAX2_weigh (29, (.istore_n 2, 1)) (List.mem_of_getElem? (i := 17) rfl)
theorem dX2_weigh_30 : decode cX2_weigh 30 = .ok (.iload_n 2, 1) := dAX2_weigh (30, (.iload_n 2, 1)) (List.mem_of_getElem? (i := 18) rfl)
theorem dX2_weigh_31 : decode cX2_weigh 31 = .ok (.aload_n 1, 1) := dAX2_weigh (31, (.aload_n 1, 1)) (List.mem_of_getElem? (i := 19) rfl)
theorem dX2_weigh_32 : decode cX2_weigh 32 = .ok (.getfield 65, 3) := dAX2_weigh (32, (.getfield 65, 3)) (List.mem_of_getElem? (i := 20) rfl)
theorem dX2_weigh_35 : decode cX2_weigh 35 = .ok (.if_icmp .ge 46, 3) := dAX2_weigh (35, (.if_icmp .ge 46, 3)) (List.mem_of_getElem? (i := 21) rfl)
theorem dX2_weigh_38 : decode cX2_weigh 38 = .ok (.aload_n 0, 1) := dAX2_weigh (38, (.aload_n 0, 1)) (List.mem_of_getElem? (i := 22) rfl)
theorem dX2_weigh_39 : decode cX2_weigh 39 = .ok (.getfield 15, 3) := dAX2_weigh (39, (.getfield 15, 3)) (List.mem_of_getElem? (i := 23) rfl)
theorem dX2_weigh_42 : decode cX2_weigh 42 = .ok (.aload_n 1, 1) := dAX2_weigh (42, (.aload_n 1, 1)) (List.mem_of_getElem? (i := 24) rfl)
theorem dX2_weigh_43 : decode cX2_weigh 43 = .ok (.getfield 68, 3) := dAX2_weigh (43, (.getfield 68, 3)) (List.mem_of_getElem? (i := 25) rfl)
theorem dX2_weigh_46 : decode cX2_weigh 46 = .ok (.iload_n 2, 1) := dAX2_weigh (46, (.iload_n 2, 1)) (List.mem_of_getElem? (i := 26) rfl)
theorem dX2_weigh_47 : decode cX2_weigh 47 = .ok (.iaload, 1) := dAX2_weigh (47, (.iaload, 1)) (List.mem_of_getElem? (i := 27) rfl)
theorem dX2_weigh_48 : decode cX2_weigh 48 = .ok (.ishr, 1) := dAX2_weigh (48, (.ishr, 1)) (List.mem_of_getElem? (i := 28) rfl)
theorem dX2_weigh_49 : decode cX2_weigh 49 = .ok (.iconst 1, 1) := dAX2_weigh (49, (.iconst 1, 1)) (List.mem_of_getElem? (i := 29) rfl)
theorem dX2_weigh_50 : decode cX2_weigh 50 = .ok (.iand, 1) := dAX2_weigh (50, (.iand, 1)) (List.mem_of_getElem? (i := 30) rfl)
theorem dX2_weigh_51 : decode cX2_weigh 51 = .ok (.iconst 1, 1) := dAX2_weigh (51, (.iconst 1, 1)) (List.mem_of_getElem? (i := 31) rfl)
theorem dX2_weigh_52 : decode cX2_weigh 52 = .ok (.if_icmp .ne 23, 3) := dAX2_weigh (52, (.if_icmp .ne 23, 3)) (List.mem_of_getElem? (i := 32) rfl)
theorem dX2_weigh_55 : decode cX2_weigh 55 = .ok (.aload_n 0, 1) := dAX2_weigh (55, (.aload_n 0, 1)) (List.mem_of_getElem? (i := 33) rfl)
theorem dX2_weigh_56 : decode cX2_weigh 56 = .ok (.getfield 37, 3) := dAX2_weigh (56, (.getfield 37, 3)) (List.mem_of_getElem? (i := 34) rfl)
theorem dX2_weigh_59 : decode cX2_weigh 59 = .ok (.aload_n 1, 1) := dAX2_weigh (59, (.aload_n 1, 1)) (List.mem_of_getElem? (i := 35) rfl)
theorem dX2_weigh_60 : decode cX2_weigh 60 = .ok (.getfield 71, 3) := dAX2_weigh (60, (.getfield 71, 3)) (List.mem_of_getElem? (i := 36) rfl)
theorem dX2_weigh_63 : decode cX2_weigh 63 = .ok (.iload_n 2, 1) := dAX2_weigh (63, (.iload_n 2, 1)) (List.mem_of_getElem? (i := 37) rfl)
theorem dX2_weigh_64 : decode cX2_weigh 64 = .ok (.iaload, 1) := dAX2_weigh (64, (.iaload, 1)) (List.mem_of_getElem? (i := 38) rfl)
theorem dX2_weigh_65 : decode cX2_weigh 65 = .ok (.dup2, 1) := dAX2_weigh (65, (.dup2, 1)) (List.mem_of_getElem? (i := 39) rfl)
theorem dX2_weigh_66 : decode cX2_weigh 66 = .ok (.iaload, 1) := dAX2_weigh (66, (.iaload, 1)) (List.mem_of_getElem? (i := 40) rfl)
theorem dX2_weigh_67 : decode cX2_weigh 67 = .ok (.aload_n 1, 1) := dAX2_weigh (67, (.aload_n 1, 1)) (List.mem_of_getElem? (i := 41) rfl)
theorem dX2_weigh_68 : decode cX2_weigh 68 = .ok (.getfield 74, 3) := dAX2_weigh (68, (.getfield 74, 3)) (List.mem_of_getElem? (i := 42) rfl)
theorem dX2_weigh_71 : decode cX2_weigh 71 = .ok (.iload_n 2, 1) := dAX2_weigh (71, (.iload_n 2, 1)) (List.mem_of_getElem? (i := 43) rfl)
theorem dX2_weigh_72 : decode cX2_weigh 72 = .ok (.iaload, 1) := dAX2_weigh (72, (.iaload, 1)) (List.mem_of_getElem? (i := 44) rfl)
theorem dX2_weigh_73 : decode cX2_weigh 73 = .ok (.iadd, 1) := dAX2_weigh (73, (.iadd, 1)) (List.mem_of_getElem? (i := 45) rfl)
theorem dX2_weigh_74 : decode cX2_weigh 74 = .ok (.iastore, 1) := dAX2_weigh (74, (.iastore, 1)) (List.mem_of_getElem? (i := 46) rfl)
theorem dX2_weigh_75 : decode cX2_weigh 75 = .ok (.iinc 2 1, 3) := dAX2_weigh (75, (.iinc 2 1, 3)) (List.mem_of_getElem? (i := 47) rfl)
theorem dX2_weigh_78 : decode cX2_weigh 78 = .ok (.goto (-48), 3) := dAX2_weigh (78, (.goto (-48), 3)) (List.mem_of_getElem? (i := 48) rfl)
theorem dX2_weigh_81 : decode cX2_weigh 81 = .ok (.return_, 1) := dAX2_weigh (81, (.return_, 1)) (List.mem_of_getElem? (i := 49) rfl)
theorem kX2_weigh_40 : Cond.fieldLink RX2 40 "EveningVow$House" "guests" "I" ∈ wsX2_weigh := by decide +kernel
theorem iX2_weigh_X1 : ∀ w ∈ u_ws RX1 TX1 17, w ∈ wsX2_weigh := by decide +kernel
theorem kX2_weigh_37 : Cond.fieldLink RX2 37 "EveningVow$Night" "will" "[I" ∈ wsX2_weigh := by decide +kernel
theorem iX2_weigh_X2 : ∀ w ∈ u_ws RX2 TX2 9, w ∈ wsX2_weigh := by decide +kernel
theorem kX2_weigh_30 : Cond.fieldLink RX2 30 "EveningVow$Night" "want" "[I" ∈ wsX2_weigh := by decide +kernel
theorem kX2_weigh_65 : Cond.fieldLink RX2 65 "EveningVow$House" "draws" "I" ∈ wsX2_weigh := by decide +kernel
theorem kX2_weigh_15 : Cond.fieldLink RX2 15 "EveningVow$Night" "there" "I" ∈ wsX2_weigh := by decide +kernel
theorem kX2_weigh_68 : Cond.fieldLink RX2 68 "EveningVow$House" "drawer" "[I" ∈ wsX2_weigh := by decide +kernel
theorem kX2_weigh_71 : Cond.fieldLink RX2 71 "EveningVow$House" "drawnGuest" "[I" ∈ wsX2_weigh := by decide +kernel
theorem kX2_weigh_74 : Cond.fieldLink RX2 74 "EveningVow$House" "drawnMuch" "[I" ∈ wsX2_weigh := by decide +kernel
def fX2_weigh_L2 (n : Nat) (o_t : Nat → Int32) (f_t_6 : Nat → Int32) (o_r1 : Nat → Int32) (K : (Nat → Int32) → Option ((Nat → Int32))) : Nat → Int32 → (Nat → Int32) → Option ((Nat → Int32))
  | 0, _, _ => none
  | k + 1, x2, f_t_8 => if (o_r1 3) ≤ x2 then K f_t_8 else if x2 < 0 ∨ 7 ≤ (x2).toNatClampNeg then none else if x2 < 0 ∨ 7 ≤ (x2).toNatClampNeg then none else fX2_weigh_L2 n o_t f_t_6 o_r1 K k (x2 + (1 : Int32)) (upd f_t_8 (x2).toNatClampNeg (f_t_6 (x2).toNatClampNeg))
set_option maxHeartbeats 4000000 in
set_option maxRecDepth 100000 in
theorem wX2_weigh_L2 {p : Program} {l : Launch} {e : Env} {s : State} {m : MethodId} {args : Array Value} {below : List Frame} {meth : Method} {c : Code} {g : GG} {A : Nat → Prop} (C0 : Cx p s m args meth c cX2_weigh 3 none RX2 wsX2_weigh g A) (a_t : Nat) (a_r1 : Nat) (p_t : Nat → Nat) (p_r1 : Nat → Nat) (n : Nat) (o_t : Nat → Int32) (f_t_6 : Nat → Int32) (o_r1 : Nat → Int32) (f_r1_10 : Nat → Int32) (f_r1_11 : Nat → Int32) (f_r1_12 : Nat → Int32) (f_t_8' : Nat → Int32) (K : (Nat → Int32) → Option ((Nat → Int32))) (hKx : ∀ (f_t_8 : Nat → Int32) (H : Heap) (locs : List Loc) (ls : Array Slot), K f_t_8 = some (f_t_8') → va_P g.1 vwCl [oX2 a_t p_t o_t, aI g (p_t 6) 7 f_t_6, aI g (p_t 8) 7 f_t_8, oX1 a_r1 p_r1 o_r1, aI g (p_r1 10) 8 f_r1_10, aI g (p_r1 11) 8 f_r1_11, aI g (p_r1 12) 8 f_r1_12] H → va_D A [oX2 a_t p_t o_t, aI g (p_t 6) 7 f_t_6, aI g (p_t 8) 7 f_t_8, oX1 a_r1 p_r1 o_r1, aI g (p_r1 10) 8 f_r1_10, aI g (p_r1 11) 8 f_r1_11, aI g (p_r1 12) 8 f_r1_12] → va_S A s.heap H locs → lv_has ls 3 [(0, .ref a_t), (1, .ref a_r1)] → W p l e ({ frames := 0, cells := 0, slots := 0, locals := 0 } : Room) s m args below meth c H locs 0 0 (MQ below (EndV g [oX2 a_t p_t o_t, aI g (p_t 6) 7 f_t_6, aI g (p_t 8) 7 f_t_8', oX1 a_r1 p_r1 o_r1, aI g (p_r1 10) 8 f_r1_10, aI g (p_r1 11) 8 f_r1_11, aI g (p_r1 12) 8 f_r1_12] A) args s 0 0 A) (F0 m 28 ls [])) : ∀ (k : Nat) (x2 : Int32) (f_t_8 : Nat → Int32), fX2_weigh_L2 n o_t f_t_6 o_r1 K k x2 f_t_8 = some (f_t_8') → ∀ (H : Heap) (locs : List Loc) (ls : Array Slot), va_P g.1 vwCl [oX2 a_t p_t o_t, aI g (p_t 6) 7 f_t_6, aI g (p_t 8) 7 f_t_8, oX1 a_r1 p_r1 o_r1, aI g (p_r1 10) 8 f_r1_10, aI g (p_r1 11) 8 f_r1_11, aI g (p_r1 12) 8 f_r1_12] H → va_D A [oX2 a_t p_t o_t, aI g (p_t 6) 7 f_t_6, aI g (p_t 8) 7 f_t_8, oX1 a_r1 p_r1 o_r1, aI g (p_r1 10) 8 f_r1_10, aI g (p_r1 11) 8 f_r1_11, aI g (p_r1 12) 8 f_r1_12] → va_S A s.heap H locs → lv_has ls 3 [(0, .ref a_t), (1, .ref a_r1), (2, .int x2)] → W p l e ({ frames := 0, cells := 0, slots := 0, locals := 0 } : Room) s m args below meth c H locs 0 0 (MQ below (EndV g [oX2 a_t p_t o_t, aI g (p_t 6) 7 f_t_6, aI g (p_t 8) 7 f_t_8', oX1 a_r1 p_r1 o_r1, aI g (p_r1 10) 8 f_r1_10, aI g (p_r1 11) 8 f_r1_11, aI g (p_r1 12) 8 f_r1_12] A) args s 0 0 A) (F0 m 2 ls []) := by
  obtain ⟨hx, hb, hml, hown, hts, hr, hlk, hK, hA⟩ := id C0
  intro k
  induction k with
  | zero =>
    intro x2 f_t_8 hF
    exact absurd hF (by simp [fX2_weigh_L2])
  | succ k ih =>
    intro x2 f_t_8 hF H locs ls hP hD hS hl
    rw [fX2_weigh_L2] at hF
    refine lv_iload_n hx hb dX2_weigh_2 rfl (lv_at hl 2 rfl) ?_
    refine lv_aload_n hx hb dX2_weigh_3 rfl (lv_at hl 1 rfl) ?_
    refine va_get (D := g.1) (ci := 1) (v := .int (o_r1 3)) (C := RX1) (T := TX1) (N := 17) hx hb hts iX2_weigh_X1 hown hK.1 hP 3 rfl rfl 3 (by decide) (hts _ kX2_weigh_40) (fun _ h9 => h9) rfl dX2_weigh_4 ?_
    refine lv_icmp_ge (tgt := 28) hx hb dX2_weigh_7 (by decide) (fun c_1 => ?_) (fun c_1 => ?_)
    · have hF := it_p c_1 hF
      exact hKx f_t_8 _ _ _ hF (hP.sub [0, 1, 2, 3, 4, 5, 6] rfl) (hD.sub [0, 1, 2, 3, 4, 5, 6] rfl rfl) hS (lv_sub hl [0, 1] rfl)
    · have hF := it_n c_1 hF
      refine lv_aload_n hx hb dX2_weigh_10 rfl (lv_at hl 0 rfl) ?_
      refine va_get (D := g.1) (ci := 2) (v := .ref (p_t 8)) (C := RX2) (T := TX2) (N := 9) hx hb hts iX2_weigh_X2 hown hK.1 hP 0 rfl rfl 8 (by decide) (hts _ kX2_weigh_37) (fun _ h9 => h9) rfl dX2_weigh_11 ?_
      refine lv_iload_n hx hb dX2_weigh_14 rfl (lv_at hl 2 rfl) ?_
      refine lv_aload_n hx hb dX2_weigh_15 rfl (lv_at hl 0 rfl) ?_
      refine va_get (D := g.1) (ci := 2) (v := .ref (p_t 6)) (C := RX2) (T := TX2) (N := 9) hx hb hts iX2_weigh_X2 hown hK.1 hP 0 rfl rfl 6 (by decide) (hts _ kX2_weigh_30) (fun _ h9 => h9) rfl dX2_weigh_16 ?_
      refine lv_iload_n hx hb dX2_weigh_19 rfl (lv_at hl 2 rfl) ?_
      obtain ⟨h_2, hF⟩ := it_ck hF
      refine va_iald hx hb hK.1 hP 1 0 rfl rfl h_2 dX2_weigh_20 ?_
      obtain ⟨h_3, hF⟩ := it_ck hF
      refine va_iast hx hb hK.1 hP hD hS 2 0 rfl rfl h_3 dX2_weigh_21 (fun H locs hP hD hS => ?_)
      have hP : va_P g.1 vwCl [oX2 a_t p_t o_t, aI g (p_t 6) 7 f_t_6, aI g (p_t 8) 7 (upd f_t_8 (x2).toNatClampNeg (f_t_6 (x2).toNatClampNeg)), oX1 a_r1 p_r1 o_r1, aI g (p_r1 10) 8 f_r1_10, aI g (p_r1 11) 8 f_r1_11, aI g (p_r1 12) 8 f_r1_12] H := hP
      have hD : va_D A [oX2 a_t p_t o_t, aI g (p_t 6) 7 f_t_6, aI g (p_t 8) 7 (upd f_t_8 (x2).toNatClampNeg (f_t_6 (x2).toNatClampNeg)), oX1 a_r1 p_r1 o_r1, aI g (p_r1 10) 8 f_r1_10, aI g (p_r1 11) 8 f_r1_11, aI g (p_r1 12) 8 f_r1_12] := hD
      refine lv_iinc (v := (x2 + (1 : Int32))) (lv' := [(2, .int (x2 + (1 : Int32))), (0, .ref a_t), (1, .ref a_r1)]) hx hb dX2_weigh_22 hl (k := 2) rfl rfl (by decide) rfl (fun ls hl => ?_)
      refine lv_goto (tgt := 2) hx hb dX2_weigh_25 (by decide) ?_
      exact ih (x2 + (1 : Int32)) (upd f_t_8 (x2).toNatClampNeg (f_t_6 (x2).toNatClampNeg)) hF _ _ _ (hP.sub [0, 1, 2, 3, 4, 5, 6] rfl) (hD.sub [0, 1, 2, 3, 4, 5, 6] rfl rfl) hS (lv_sub hl [1, 2, 0] rfl)
def fX2_weigh_L30 (n : Nat) (o_t : Nat → Int32) (o_r1 : Nat → Int32) (f_r1_10 : Nat → Int32) (f_r1_11 : Nat → Int32) (f_r1_12 : Nat → Int32) (K : (Nat → Int32) → Option ((Nat → Int32))) : Nat → Int32 → (Nat → Int32) → Option ((Nat → Int32))
  | 0, _, _ => none
  | k + 1, x2, f_t_8 => if (o_r1 9) ≤ x2 then K f_t_8 else if x2 < 0 ∨ 8 ≤ (x2).toNatClampNeg then none else if (((o_t 1) >>> ((f_r1_11 (x2).toNatClampNeg) &&& 31)) &&& (1 : Int32)) = (1 : Int32) then if x2 < 0 ∨ 8 ≤ (x2).toNatClampNeg then none else if (f_r1_10 (x2).toNatClampNeg) < 0 ∨ 7 ≤ ((f_r1_10 (x2).toNatClampNeg)).toNatClampNeg then none else if x2 < 0 ∨ 8 ≤ (x2).toNatClampNeg then none else if (f_r1_10 (x2).toNatClampNeg) < 0 ∨ 7 ≤ ((f_r1_10 (x2).toNatClampNeg)).toNatClampNeg then none else fX2_weigh_L30 n o_t o_r1 f_r1_10 f_r1_11 f_r1_12 K k (x2 + (1 : Int32)) (upd f_t_8 ((f_r1_10 (x2).toNatClampNeg)).toNatClampNeg ((f_t_8 ((f_r1_10 (x2).toNatClampNeg)).toNatClampNeg) + (f_r1_12 (x2).toNatClampNeg))) else fX2_weigh_L30 n o_t o_r1 f_r1_10 f_r1_11 f_r1_12 K k (x2 + (1 : Int32)) f_t_8
set_option maxHeartbeats 4000000 in
set_option maxRecDepth 100000 in
theorem wX2_weigh_L30 {p : Program} {l : Launch} {e : Env} {s : State} {m : MethodId} {args : Array Value} {below : List Frame} {meth : Method} {c : Code} {g : GG} {A : Nat → Prop} (C0 : Cx p s m args meth c cX2_weigh 3 none RX2 wsX2_weigh g A) (a_t : Nat) (a_r1 : Nat) (p_t : Nat → Nat) (p_r1 : Nat → Nat) (n : Nat) (o_t : Nat → Int32) (o_r1 : Nat → Int32) (f_r1_10 : Nat → Int32) (f_r1_11 : Nat → Int32) (f_r1_12 : Nat → Int32) (f_t_6 : Nat → Int32) (f_t_8' : Nat → Int32) (K : (Nat → Int32) → Option ((Nat → Int32))) (hKx : ∀ (f_t_8 : Nat → Int32) (H : Heap) (locs : List Loc) (ls : Array Slot), K f_t_8 = some (f_t_8') → va_P g.1 vwCl [oX2 a_t p_t o_t, aI g (p_t 6) 7 f_t_6, aI g (p_t 8) 7 f_t_8, oX1 a_r1 p_r1 o_r1, aI g (p_r1 10) 8 f_r1_10, aI g (p_r1 11) 8 f_r1_11, aI g (p_r1 12) 8 f_r1_12] H → va_D A [oX2 a_t p_t o_t, aI g (p_t 6) 7 f_t_6, aI g (p_t 8) 7 f_t_8, oX1 a_r1 p_r1 o_r1, aI g (p_r1 10) 8 f_r1_10, aI g (p_r1 11) 8 f_r1_11, aI g (p_r1 12) 8 f_r1_12] → va_S A s.heap H locs → lv_has ls 3 [] → W p l e ({ frames := 0, cells := 0, slots := 0, locals := 0 } : Room) s m args below meth c H locs 0 0 (MQ below (EndV g [oX2 a_t p_t o_t, aI g (p_t 6) 7 f_t_6, aI g (p_t 8) 7 f_t_8', oX1 a_r1 p_r1 o_r1, aI g (p_r1 10) 8 f_r1_10, aI g (p_r1 11) 8 f_r1_11, aI g (p_r1 12) 8 f_r1_12] A) args s 0 0 A) (F0 m 81 ls [])) : ∀ (k : Nat) (x2 : Int32) (f_t_8 : Nat → Int32), fX2_weigh_L30 n o_t o_r1 f_r1_10 f_r1_11 f_r1_12 K k x2 f_t_8 = some (f_t_8') → ∀ (H : Heap) (locs : List Loc) (ls : Array Slot), va_P g.1 vwCl [oX2 a_t p_t o_t, aI g (p_t 6) 7 f_t_6, aI g (p_t 8) 7 f_t_8, oX1 a_r1 p_r1 o_r1, aI g (p_r1 10) 8 f_r1_10, aI g (p_r1 11) 8 f_r1_11, aI g (p_r1 12) 8 f_r1_12] H → va_D A [oX2 a_t p_t o_t, aI g (p_t 6) 7 f_t_6, aI g (p_t 8) 7 f_t_8, oX1 a_r1 p_r1 o_r1, aI g (p_r1 10) 8 f_r1_10, aI g (p_r1 11) 8 f_r1_11, aI g (p_r1 12) 8 f_r1_12] → va_S A s.heap H locs → lv_has ls 3 [(0, .ref a_t), (1, .ref a_r1), (2, .int x2)] → W p l e ({ frames := 0, cells := 0, slots := 0, locals := 0 } : Room) s m args below meth c H locs 0 0 (MQ below (EndV g [oX2 a_t p_t o_t, aI g (p_t 6) 7 f_t_6, aI g (p_t 8) 7 f_t_8', oX1 a_r1 p_r1 o_r1, aI g (p_r1 10) 8 f_r1_10, aI g (p_r1 11) 8 f_r1_11, aI g (p_r1 12) 8 f_r1_12] A) args s 0 0 A) (F0 m 30 ls []) := by
  obtain ⟨hx, hb, hml, hown, hts, hr, hlk, hK, hA⟩ := id C0
  intro k
  induction k with
  | zero =>
    intro x2 f_t_8 hF
    exact absurd hF (by simp [fX2_weigh_L30])
  | succ k ih =>
    intro x2 f_t_8 hF H locs ls hP hD hS hl
    rw [fX2_weigh_L30] at hF
    refine lv_iload_n hx hb dX2_weigh_30 rfl (lv_at hl 2 rfl) ?_
    refine lv_aload_n hx hb dX2_weigh_31 rfl (lv_at hl 1 rfl) ?_
    refine va_get (D := g.1) (ci := 1) (v := .int (o_r1 9)) (C := RX1) (T := TX1) (N := 17) hx hb hts iX2_weigh_X1 hown hK.1 hP 3 rfl rfl 9 (by decide) (hts _ kX2_weigh_65) (fun _ h9 => h9) rfl dX2_weigh_32 ?_
    refine lv_icmp_ge (tgt := 81) hx hb dX2_weigh_35 (by decide) (fun c_4 => ?_) (fun c_4 => ?_)
    · have hF := it_p c_4 hF
      exact hKx f_t_8 _ _ _ hF (hP.sub [0, 1, 2, 3, 4, 5, 6] rfl) (hD.sub [0, 1, 2, 3, 4, 5, 6] rfl rfl) hS (lv_sub hl [] rfl)
    · have hF := it_n c_4 hF
      refine lv_aload_n hx hb dX2_weigh_38 rfl (lv_at hl 0 rfl) ?_
      refine va_get (D := g.1) (ci := 2) (v := .int (o_t 1)) (C := RX2) (T := TX2) (N := 9) hx hb hts iX2_weigh_X2 hown hK.1 hP 0 rfl rfl 1 (by decide) (hts _ kX2_weigh_15) (fun _ h9 => h9) rfl dX2_weigh_39 ?_
      refine lv_aload_n hx hb dX2_weigh_42 rfl (lv_at hl 1 rfl) ?_
      refine va_get (D := g.1) (ci := 1) (v := .ref (p_r1 11)) (C := RX1) (T := TX1) (N := 17) hx hb hts iX2_weigh_X1 hown hK.1 hP 3 rfl rfl 11 (by decide) (hts _ kX2_weigh_68) (fun _ h9 => h9) rfl dX2_weigh_43 ?_
      refine lv_iload_n hx hb dX2_weigh_46 rfl (lv_at hl 2 rfl) ?_
      obtain ⟨h_5, hF⟩ := it_ck hF
      refine va_iald hx hb hK.1 hP 5 0 rfl rfl h_5 dX2_weigh_47 ?_
      refine lv_ishr hx hb dX2_weigh_48 ?_
      refine lv_iconst (v := (1 : Int32)) hx hb dX2_weigh_49 (by decide) ?_
      refine lv_iand hx hb dX2_weigh_50 ?_
      refine lv_iconst (v := (1 : Int32)) hx hb dX2_weigh_51 (by decide) ?_
      refine lv_icmp_ne (tgt := 75) hx hb dX2_weigh_52 (by decide) (fun c_6 => ?_) (fun c_6 => ?_)
      · have hF := it_n c_6 hF
        refine lv_iinc (v := (x2 + (1 : Int32))) (lv' := [(2, .int (x2 + (1 : Int32))), (0, .ref a_t), (1, .ref a_r1)]) hx hb dX2_weigh_75 hl (k := 2) rfl rfl (by decide) rfl (fun ls hl => ?_)
        refine lv_goto (tgt := 30) hx hb dX2_weigh_78 (by decide) ?_
        exact ih (x2 + (1 : Int32)) f_t_8 hF _ _ _ (hP.sub [0, 1, 2, 3, 4, 5, 6] rfl) (hD.sub [0, 1, 2, 3, 4, 5, 6] rfl rfl) hS (lv_sub hl [1, 2, 0] rfl)
      · have hF := it_p c_6 hF
        refine lv_aload_n hx hb dX2_weigh_55 rfl (lv_at hl 0 rfl) ?_
        refine va_get (D := g.1) (ci := 2) (v := .ref (p_t 8)) (C := RX2) (T := TX2) (N := 9) hx hb hts iX2_weigh_X2 hown hK.1 hP 0 rfl rfl 8 (by decide) (hts _ kX2_weigh_37) (fun _ h9 => h9) rfl dX2_weigh_56 ?_
        refine lv_aload_n hx hb dX2_weigh_59 rfl (lv_at hl 1 rfl) ?_
        refine va_get (D := g.1) (ci := 1) (v := .ref (p_r1 10)) (C := RX1) (T := TX1) (N := 17) hx hb hts iX2_weigh_X1 hown hK.1 hP 3 rfl rfl 10 (by decide) (hts _ kX2_weigh_71) (fun _ h9 => h9) rfl dX2_weigh_60 ?_
        refine lv_iload_n hx hb dX2_weigh_63 rfl (lv_at hl 2 rfl) ?_
        obtain ⟨h_7, hF⟩ := it_ck hF
        refine va_iald hx hb hK.1 hP 4 0 rfl rfl h_7 dX2_weigh_64 ?_
        refine lv_dup2_11 hx hb dX2_weigh_65 rfl rfl ?_
        obtain ⟨h_8, hF⟩ := it_ck hF
        refine va_iald hx hb hK.1 hP 2 0 rfl rfl h_8 dX2_weigh_66 ?_
        refine lv_aload_n hx hb dX2_weigh_67 rfl (lv_at hl 1 rfl) ?_
        refine va_get (D := g.1) (ci := 1) (v := .ref (p_r1 12)) (C := RX1) (T := TX1) (N := 17) hx hb hts iX2_weigh_X1 hown hK.1 hP 3 rfl rfl 12 (by decide) (hts _ kX2_weigh_74) (fun _ h9 => h9) rfl dX2_weigh_68 ?_
        refine lv_iload_n hx hb dX2_weigh_71 rfl (lv_at hl 2 rfl) ?_
        obtain ⟨h_9, hF⟩ := it_ck hF
        refine va_iald hx hb hK.1 hP 6 0 rfl rfl h_9 dX2_weigh_72 ?_
        refine lv_iadd hx hb dX2_weigh_73 ?_
        obtain ⟨h_10, hF⟩ := it_ck hF
        refine va_iast hx hb hK.1 hP hD hS 2 0 rfl rfl h_10 dX2_weigh_74 (fun H locs hP hD hS => ?_)
        have hP : va_P g.1 vwCl [oX2 a_t p_t o_t, aI g (p_t 6) 7 f_t_6, aI g (p_t 8) 7 (upd f_t_8 ((f_r1_10 (x2).toNatClampNeg)).toNatClampNeg ((f_t_8 ((f_r1_10 (x2).toNatClampNeg)).toNatClampNeg) + (f_r1_12 (x2).toNatClampNeg))), oX1 a_r1 p_r1 o_r1, aI g (p_r1 10) 8 f_r1_10, aI g (p_r1 11) 8 f_r1_11, aI g (p_r1 12) 8 f_r1_12] H := hP
        have hD : va_D A [oX2 a_t p_t o_t, aI g (p_t 6) 7 f_t_6, aI g (p_t 8) 7 (upd f_t_8 ((f_r1_10 (x2).toNatClampNeg)).toNatClampNeg ((f_t_8 ((f_r1_10 (x2).toNatClampNeg)).toNatClampNeg) + (f_r1_12 (x2).toNatClampNeg))), oX1 a_r1 p_r1 o_r1, aI g (p_r1 10) 8 f_r1_10, aI g (p_r1 11) 8 f_r1_11, aI g (p_r1 12) 8 f_r1_12] := hD
        refine lv_iinc (v := (x2 + (1 : Int32))) (lv' := [(2, .int (x2 + (1 : Int32))), (0, .ref a_t), (1, .ref a_r1)]) hx hb dX2_weigh_75 hl (k := 2) rfl rfl (by decide) rfl (fun ls hl => ?_)
        refine lv_goto (tgt := 30) hx hb dX2_weigh_78 (by decide) ?_
        exact ih (x2 + (1 : Int32)) (upd f_t_8 ((f_r1_10 (x2).toNatClampNeg)).toNatClampNeg ((f_t_8 ((f_r1_10 (x2).toNatClampNeg)).toNatClampNeg) + (f_r1_12 (x2).toNatClampNeg))) hF _ _ _ (hP.sub [0, 1, 2, 3, 4, 5, 6] rfl) (hD.sub [0, 1, 2, 3, 4, 5, 6] rfl rfl) hS (lv_sub hl [1, 2, 0] rfl)
def fX2_weigh (n : Nat) (o_t : Nat → Int32) (f_t_6 : Nat → Int32) (f_t_8 : Nat → Int32) (o_r1 : Nat → Int32) (f_r1_10 : Nat → Int32) (f_r1_11 : Nat → Int32) (f_r1_12 : Nat → Int32) : Option ((Nat → Int32)) := fX2_weigh_L2 n o_t f_t_6 o_r1 (fun (f_t_8_x2 : Nat → Int32) => fX2_weigh_L30 n o_t o_r1 f_r1_10 f_r1_11 f_r1_12 (fun (f_t_8_x30 : Nat → Int32) => some (f_t_8_x30)) n (0 : Int32) f_t_8_x2) n (0 : Int32) f_t_8
set_option maxHeartbeats 4000000 in
set_option maxRecDepth 100000 in
theorem mX2_weigh (l : Launch) (g : GG) (a_t : Nat) (a_r1 : Nat) (p_t : Nat → Nat) (p_r1 : Nat → Nat) (n : Nat) (o_t : Nat → Int32) (f_t_6 : Nat → Int32) (f_t_8 : Nat → Int32) (o_r1 : Nat → Int32) (f_r1_10 : Nat → Int32) (f_r1_11 : Nat → Int32) (f_r1_12 : Nat → Int32) (f_t_8' : Nat → Int32) (hF : fX2_weigh n o_t f_t_6 f_t_8 o_r1 f_r1_10 f_r1_11 f_r1_12 = some (f_t_8')) : MV l g yX2_weigh wsX2_weigh ({ frames := 0, cells := 0, slots := 0, locals := 0 } : Room) [.ref a_t, .ref a_r1] [oX2 a_t p_t o_t, aI g (p_t 6) 7 f_t_6, aI g (p_t 8) 7 f_t_8, oX1 a_r1 p_r1 o_r1, aI g (p_r1 10) 8 f_r1_10, aI g (p_r1 11) 8 f_r1_11, aI g (p_r1 12) 8 f_r1_12] [oX2 a_t p_t o_t, aI g (p_t 6) 7 f_t_6, aI g (p_t 8) 7 f_t_8', oX1 a_r1 p_r1 o_r1, aI g (p_r1 10) 8 f_r1_10, aI g (p_r1 11) 8 f_r1_11, aI g (p_r1 12) 8 f_r1_12] := by
  refine MV.of (cc := cX2_weigh) (maxL := 3) (own := RX2) rfl rfl (by decide) (Nat.le_of_ble_eq_true rfl) ?_
  intro p e s m args below meth c A C0 hP hD hS ls hl
  obtain ⟨hx, hb, hml, hown, hts, hr, hlk, hK, hA⟩ := id C0
  have hl : lv_has ls 3 [(0, .ref a_t), (1, .ref a_r1)] := hl
  rw [fX2_weigh] at hF
  refine lv_iconst (v := (0 : Int32)) hx hb dX2_weigh_0 (by decide) ?_
  refine lv_istore_n (lv' := [(2, .int (0 : Int32)), (0, .ref a_t), (1, .ref a_r1)]) hx hb dX2_weigh_1 rfl hl (by decide) rfl (fun ls hl => ?_)
  refine wX2_weigh_L2 C0 a_t a_r1 p_t p_r1 n o_t f_t_6 o_r1 f_r1_10 f_r1_11 f_r1_12 f_t_8' _ ?_ n (0 : Int32) f_t_8 hF _ _ _ (hP.sub [0, 1, 2, 3, 4, 5, 6] rfl) (hD.sub [0, 1, 2, 3, 4, 5, 6] rfl rfl) hS (lv_sub hl [1, 2, 0] rfl)
  · intro f_t_8_x2 H locs ls hF hP hD hS hl
    refine lv_iconst (v := (0 : Int32)) hx hb dX2_weigh_28 (by decide) ?_
    refine lv_istore_n (lv' := [(2, .int (0 : Int32)), (0, .ref a_t), (1, .ref a_r1)]) hx hb dX2_weigh_29 rfl hl (by decide) rfl (fun ls hl => ?_)
    refine wX2_weigh_L30 C0 a_t a_r1 p_t p_r1 n o_t o_r1 f_r1_10 f_r1_11 f_r1_12 f_t_6 f_t_8' _ ?_ n (0 : Int32) f_t_8_x2 hF _ _ _ (hP.sub [0, 1, 2, 3, 4, 5, 6] rfl) (hD.sub [0, 1, 2, 3, 4, 5, 6] rfl rfl) hS (lv_sub hl [1, 2, 0] rfl)
    · intro f_t_8_x30 H locs ls hF hP hD hS hl
      cases hF
      exact ret_v C0 hP hD hS [0, 1, 2, 3, 4, 5, 6] rfl rfl rfl dX2_weigh_81

theorem dAX2_unwilling : ∀ q ∈ ([(0, (.aload_n 0, 1)), (1, (.getfield 15, 3)), (4, (.iconst 1, 1)), (5, (.aload_n 1, 1)), (6, (.getfield 40, 3)), (9, (.ishl, 1)), (10, (.iconst 1, 1)), (11, (.isub, 1)), (12, (.if_icmp .ne 7, 3)), (15, (.iconst 1, 1)), (16, (.goto 4, 3)), (19, (.iconst 0, 1)), (20, (.istore_n 2, 1)), (21, (.iconst 0, 1)), (22, (.istore_n 3, 1)), (23, (.iconst 0, 1)), (24, (.istore 4, 2)), (26, (.iload 4, 2)), (28, (.aload_n 1, 1)), (29, (.getfield 40, 3)), (32, (.if_icmp .ge 66, 3)), (35, (.iload_n 2, 1)), (36, (.ifCond .eq 18, 3)), (39, (.aload_n 1, 1)), (40, (.getfield 77, 3)), (43, (.iload 4, 2)), (45, (.iaload, 1)), (46, (.iconst 1, 1)), (47, (.if_icmp .ne 7, 3)), (50, (.iconst 1, 1)), (51, (.goto 4, 3)), (54, (.iconst 0, 1)), (55, (.istore 5, 2)), (57, (.aload_n 0, 1)), (58, (.getfield 15, 3)), (61, (.iload 4, 2)), (63, (.ishr, 1)), (64, (.iconst 1, 1)), (65, (.iand, 1)), (66, (.iconst 1, 1)), (67, (.if_icmp .ne 25, 3)), (70, (.aload_n 0, 1)), (71, (.getfield 37, 3)), (74, (.iload 4, 2)), (76, (.iaload, 1)), (77, (.ifCond .gt 15, 3)), (80, (.iload 5, 2)), (82, (.ifCond .ne 10, 3)), (85, (.iload_n 3, 1)), (86, (.iconst 1, 1)), (87, (.iload 4, 2)), (89, (.ishl, 1)), (90, (.ior, 1)), (91, (.istore_n 3, 1)), (92, (.iinc 4 1, 3)), (95, (.goto (-69), 3)), (98, (.iload_n 3, 1)), (99, (.ireturn, 1))] : List (Nat × (Instr × Nat))), decode cX2_unwilling q.1 = .ok q.2 := by decide +kernel
theorem dX2_unwilling_0 : decode cX2_unwilling 0 = .ok (.aload_n 0, 1) := dAX2_unwilling (0, (.aload_n 0, 1)) (List.mem_of_getElem? (i := 0) rfl)
theorem dX2_unwilling_1 : decode cX2_unwilling 1 = .ok (.getfield 15, 3) := dAX2_unwilling (1, (.getfield 15, 3)) (List.mem_of_getElem? (i := 1) rfl)
theorem dX2_unwilling_4 : decode cX2_unwilling 4 = .ok (.iconst 1, 1) := dAX2_unwilling (4, (.iconst 1, 1)) (List.mem_of_getElem? (i := 2) rfl)
theorem dX2_unwilling_5 : decode cX2_unwilling 5 = .ok (.aload_n 1, 1) := dAX2_unwilling (5, (.aload_n 1, 1)) (List.mem_of_getElem? (i := 3) rfl)
theorem dX2_unwilling_6 : decode cX2_unwilling 6 = .ok (.getfield 40, 3) := dAX2_unwilling (6, (.getfield 40, 3)) (List.mem_of_getElem? (i := 4) rfl)
theorem dX2_unwilling_9 : decode cX2_unwilling 9 = .ok (.ishl, 1) := dAX2_unwilling (9, (.ishl, 1)) (List.mem_of_getElem? (i := 5) rfl)
theorem dX2_unwilling_10 : decode cX2_unwilling 10 = .ok (.iconst 1, 1) := dAX2_unwilling (10, (.iconst 1, 1)) (List.mem_of_getElem? (i := 6) rfl)
theorem dX2_unwilling_11 : decode cX2_unwilling 11 = .ok (.isub, 1) := dAX2_unwilling (11, (.isub, 1)) (List.mem_of_getElem? (i := 7) rfl)
theorem dX2_unwilling_12 : decode cX2_unwilling 12 = .ok (.if_icmp .ne 7, 3) := dAX2_unwilling (12, (.if_icmp .ne 7, 3)) (List.mem_of_getElem? (i := 8) rfl)
theorem dX2_unwilling_15 : decode cX2_unwilling 15 = .ok (.iconst 1, 1) := dAX2_unwilling (15, (.iconst 1, 1)) (List.mem_of_getElem? (i := 9) rfl)
theorem dX2_unwilling_16 : decode cX2_unwilling 16 = .ok (.goto 4, 3) := dAX2_unwilling (16, (.goto 4, 3)) (List.mem_of_getElem? (i := 10) rfl)
theorem dX2_unwilling_19 : decode cX2_unwilling 19 = .ok (.iconst 0, 1) := dAX2_unwilling (19, (.iconst 0, 1)) (List.mem_of_getElem? (i := 11) rfl)
theorem dX2_unwilling_20 : decode cX2_unwilling 20 = .ok (.istore_n 2, 1) := dAX2_unwilling (20, (.istore_n 2, 1)) (List.mem_of_getElem? (i := 12) rfl)
theorem dX2_unwilling_21 : decode cX2_unwilling 21 = .ok (.iconst 0, 1) := dAX2_unwilling (21, (.iconst 0, 1)) (List.mem_of_getElem? (i := 13) rfl)
theorem dX2_unwilling_22 : decode cX2_unwilling 22 = .ok (.istore_n 3, 1) := dAX2_unwilling (22, (.istore_n 3, 1)) (List.mem_of_getElem? (i := 14) rfl)
theorem dX2_unwilling_23 : decode cX2_unwilling 23 = .ok (.iconst 0, 1) := dAX2_unwilling (23, (.iconst 0, 1)) (List.mem_of_getElem? (i := 15) rfl)
theorem dX2_unwilling_24 : decode cX2_unwilling 24 = .ok (.istore 4, 2) := dAX2_unwilling (24, (.istore 4, 2)) (List.mem_of_getElem? (i := 16) rfl)
theorem dX2_unwilling_26 : decode cX2_unwilling 26 = .ok (.iload 4, 2) := dAX2_unwilling (26, (.iload 4, 2)) (List.mem_of_getElem? (i := 17) rfl)
theorem dX2_unwilling_28 : decode cX2_unwilling 28 = .ok (.aload_n 1, 1) := dAX2_unwilling (28, (.aload_n 1, 1)) (List.mem_of_getElem? (i := 18) rfl)
theorem dX2_unwilling_29 : decode cX2_unwilling 29 = .ok (.getfield 40, 3) := dAX2_unwilling (29, (.getfield 40, 3)) (List.mem_of_getElem? (i := 19) rfl)
theorem dX2_unwilling_32 : decode cX2_unwilling 32 = .ok (.if_icmp .ge 66, 3) := dAX2_unwilling (32, (.if_icmp .ge 66, 3)) (List.mem_of_getElem? (i := 20) rfl)
theorem dX2_unwilling_35 : decode cX2_unwilling 35 = .ok (.iload_n 2, 1) := dAX2_unwilling (35, (.iload_n 2, 1)) (List.mem_of_getElem? (i := 21) rfl)
theorem dX2_unwilling_36 : decode cX2_unwilling 36 = .ok (.ifCond .eq 18, 3) := dAX2_unwilling (36, (.ifCond .eq 18, 3)) (List.mem_of_getElem? (i := 22) rfl)
theorem dX2_unwilling_39 : decode cX2_unwilling 39 = .ok (.aload_n 1, 1) := dAX2_unwilling (39, (.aload_n 1, 1)) (List.mem_of_getElem? (i := 23) rfl)
theorem dX2_unwilling_40 : decode cX2_unwilling 40 = .ok (.getfield 77, 3) := dAX2_unwilling (40, (.getfield 77, 3)) (List.mem_of_getElem? (i := 24) rfl)
theorem dX2_unwilling_43 : decode cX2_unwilling 43 = .ok (.iload 4, 2) := dAX2_unwilling (43, (.iload 4, 2)) (List.mem_of_getElem? (i := 25) rfl)
theorem dX2_unwilling_45 : decode cX2_unwilling 45 = .ok (.iaload, 1) := dAX2_unwilling (45, (.iaload, 1)) (List.mem_of_getElem? (i := 26) rfl)
theorem dX2_unwilling_46 : decode cX2_unwilling 46 = .ok (.iconst 1, 1) := dAX2_unwilling (46, (.iconst 1, 1)) (List.mem_of_getElem? (i := 27) rfl)
theorem dX2_unwilling_47 : decode cX2_unwilling 47 = .ok (.if_icmp .ne 7, 3) := dAX2_unwilling (47, (.if_icmp .ne 7, 3)) (List.mem_of_getElem? (i := 28) rfl)
theorem dX2_unwilling_50 : decode cX2_unwilling 50 = .ok (.iconst 1, 1) := dAX2_unwilling (50, (.iconst 1, 1)) (List.mem_of_getElem? (i := 29) rfl)
theorem dX2_unwilling_51 : decode cX2_unwilling 51 = .ok (.goto 4, 3) := dAX2_unwilling (51, (.goto 4, 3)) (List.mem_of_getElem? (i := 30) rfl)
theorem dX2_unwilling_54 : decode cX2_unwilling 54 = .ok (.iconst 0, 1) := dAX2_unwilling (54, (.iconst 0, 1)) (List.mem_of_getElem? (i := 31) rfl)
theorem dX2_unwilling_55 : decode cX2_unwilling 55 = .ok (.istore 5, 2) := dAX2_unwilling (55, (.istore 5, 2)) (List.mem_of_getElem? (i := 32) rfl)
theorem dX2_unwilling_57 : decode cX2_unwilling 57 = .ok (.aload_n 0, 1) := dAX2_unwilling (57, (.aload_n 0, 1)) (List.mem_of_getElem? (i := 33) rfl)
theorem dX2_unwilling_58 : decode cX2_unwilling 58 = .ok (.getfield 15, 3) := dAX2_unwilling (58, (.getfield 15, 3)) (List.mem_of_getElem? (i := 34) rfl)
theorem dX2_unwilling_61 : decode cX2_unwilling 61 = .ok (.iload 4, 2) := dAX2_unwilling (61, (.iload 4, 2)) (List.mem_of_getElem? (i := 35) rfl)
theorem dX2_unwilling_63 : decode cX2_unwilling 63 = .ok (.ishr, 1) := dAX2_unwilling (63, (.ishr, 1)) (List.mem_of_getElem? (i := 36) rfl)
theorem dX2_unwilling_64 : decode cX2_unwilling 64 = .ok (.iconst 1, 1) := dAX2_unwilling (64, (.iconst 1, 1)) (List.mem_of_getElem? (i := 37) rfl)
theorem dX2_unwilling_65 : decode cX2_unwilling 65 = .ok (.iand, 1) := dAX2_unwilling (65, (.iand, 1)) (List.mem_of_getElem? (i := 38) rfl)
theorem dX2_unwilling_66 : decode cX2_unwilling 66 = .ok (.iconst 1, 1) := dAX2_unwilling (66, (.iconst 1, 1)) (List.mem_of_getElem? (i := 39) rfl)
theorem dX2_unwilling_67 : decode cX2_unwilling 67 = .ok (.if_icmp .ne 25, 3) := dAX2_unwilling (67, (.if_icmp .ne 25, 3)) (List.mem_of_getElem? (i := 40) rfl)
theorem dX2_unwilling_70 : decode cX2_unwilling 70 = .ok (.aload_n 0, 1) := dAX2_unwilling (70, (.aload_n 0, 1)) (List.mem_of_getElem? (i := 41) rfl)
theorem dX2_unwilling_71 : decode cX2_unwilling 71 = .ok (.getfield 37, 3) := dAX2_unwilling (71, (.getfield 37, 3)) (List.mem_of_getElem? (i := 42) rfl)
theorem dX2_unwilling_74 : decode cX2_unwilling 74 = .ok (.iload 4, 2) := dAX2_unwilling (74, (.iload 4, 2)) (List.mem_of_getElem? (i := 43) rfl)
theorem dX2_unwilling_76 : decode cX2_unwilling 76 = .ok (.iaload, 1) := dAX2_unwilling (76, (.iaload, 1)) (List.mem_of_getElem? (i := 44) rfl)
theorem dX2_unwilling_77 : decode cX2_unwilling 77 = .ok (.ifCond .gt 15, 3) := dAX2_unwilling (77, (.ifCond .gt 15, 3)) (List.mem_of_getElem? (i := 45) rfl)
theorem dX2_unwilling_80 : decode cX2_unwilling 80 = .ok (.iload 5, 2) := dAX2_unwilling (80, (.iload 5, 2)) (List.mem_of_getElem? (i := 46) rfl)
theorem dX2_unwilling_82 : decode cX2_unwilling 82 = .ok (.ifCond .ne 10, 3) := dAX2_unwilling (82, (.ifCond .ne 10, 3)) (List.mem_of_getElem? (i := 47) rfl)
theorem dX2_unwilling_85 : decode cX2_unwilling 85 = .ok (.iload_n 3, 1) := dAX2_unwilling (85, (.iload_n 3, 1)) (List.mem_of_getElem? (i := 48) rfl)
theorem dX2_unwilling_86 : decode cX2_unwilling 86 = .ok (.iconst 1, 1) := dAX2_unwilling (86, (.iconst 1, 1)) (List.mem_of_getElem? (i := 49) rfl)
theorem dX2_unwilling_87 : decode cX2_unwilling 87 = .ok (.iload 4, 2) := dAX2_unwilling (87, (.iload 4, 2)) (List.mem_of_getElem? (i := 50) rfl)
theorem dX2_unwilling_89 : decode cX2_unwilling 89 = .ok (.ishl, 1) := dAX2_unwilling (89, (.ishl, 1)) (List.mem_of_getElem? (i := 51) rfl)
theorem dX2_unwilling_90 : decode cX2_unwilling 90 = .ok (.ior, 1) := dAX2_unwilling (90, (.ior, 1)) (List.mem_of_getElem? (i := 52) rfl)
theorem dX2_unwilling_91 : decode cX2_unwilling 91 = .ok (.istore_n 3, 1) := dAX2_unwilling (91, (.istore_n 3, 1)) (List.mem_of_getElem? (i := 53) rfl)
theorem dX2_unwilling_92 : decode cX2_unwilling 92 = .ok (.iinc 4 1, 3) := dAX2_unwilling (92, (.iinc 4 1, 3)) (List.mem_of_getElem? (i := 54) rfl)
theorem dX2_unwilling_95 : decode cX2_unwilling 95 = .ok (.goto (-69), 3) := dAX2_unwilling (95, (.goto (-69), 3)) (List.mem_of_getElem? (i := 55) rfl)
theorem dX2_unwilling_98 : decode cX2_unwilling 98 = .ok (.iload_n 3, 1) := dAX2_unwilling (98, (.iload_n 3, 1)) (List.mem_of_getElem? (i := 56) rfl)
theorem dX2_unwilling_99 : decode cX2_unwilling 99 = .ok (.ireturn, 1) := dAX2_unwilling (99, (.ireturn, 1)) (List.mem_of_getElem? (i := 57) rfl)
theorem kX2_unwilling_15 : Cond.fieldLink RX2 15 "EveningVow$Night" "there" "I" ∈ wsX2_unwilling := by decide +kernel
theorem iX2_unwilling_X2 : ∀ w ∈ u_ws RX2 TX2 9, w ∈ wsX2_unwilling := by decide +kernel
theorem kX2_unwilling_40 : Cond.fieldLink RX2 40 "EveningVow$House" "guests" "I" ∈ wsX2_unwilling := by decide +kernel
theorem iX2_unwilling_X1 : ∀ w ∈ u_ws RX1 TX1 17, w ∈ wsX2_unwilling := by decide +kernel
theorem kX2_unwilling_37 : Cond.fieldLink RX2 37 "EveningVow$Night" "will" "[I" ∈ wsX2_unwilling := by decide +kernel
theorem kX2_unwilling_77 : Cond.fieldLink RX2 77 "EveningVow$House" "kind" "[I" ∈ wsX2_unwilling := by decide +kernel
def fX2_unwilling_L26 (n : Nat) (x2 : Int32) (o_t : Nat → Int32) (f_t_8 : Nat → Int32) (o_r1 : Nat → Int32) (f_r1_4 : Nat → Int32) (K : Int32 → Option (Int32)) : Nat → Int32 → Int32 → Option (Int32)
  | 0, _, _ => none
  | k + 1, x3, x4 => if (o_r1 3) ≤ x4 then K x3 else jn (fun (s0_55 : Int32) => if (((o_t 1) >>> (x4 &&& 31)) &&& (1 : Int32)) = (1 : Int32) then if x4 < 0 ∨ 7 ≤ (x4).toNatClampNeg then none else if 0 < (f_t_8 (x4).toNatClampNeg) then fX2_unwilling_L26 n x2 o_t f_t_8 o_r1 f_r1_4 K k x3 (x4 + (1 : Int32)) else if s0_55 = 0 then fX2_unwilling_L26 n x2 o_t f_t_8 o_r1 f_r1_4 K k (x3 ||| ((1 : Int32) <<< (x4 &&& 31))) (x4 + (1 : Int32)) else fX2_unwilling_L26 n x2 o_t f_t_8 o_r1 f_r1_4 K k x3 (x4 + (1 : Int32)) else fX2_unwilling_L26 n x2 o_t f_t_8 o_r1 f_r1_4 K k x3 (x4 + (1 : Int32))) (fun J55 => if x2 = 0 then J55 (0 : Int32) else if x4 < 0 ∨ 7 ≤ (x4).toNatClampNeg then none else if (f_r1_4 (x4).toNatClampNeg) = (1 : Int32) then J55 (1 : Int32) else J55 (0 : Int32))
set_option maxHeartbeats 4000000 in
set_option maxRecDepth 100000 in
theorem wX2_unwilling_L26 {p : Program} {l : Launch} {e : Env} {s : State} {m : MethodId} {args : Array Value} {below : List Frame} {meth : Method} {c : Code} {g : GG} {A : Nat → Prop} (C0 : Cx p s m args meth c cX2_unwilling 6 (some .int) RX2 wsX2_unwilling g A) (a_t : Nat) (a_r1 : Nat) (p_t : Nat → Nat) (p_r1 : Nat → Nat) (n : Nat) (x2 : Int32) (o_t : Nat → Int32) (f_t_8 : Nat → Int32) (o_r1 : Nat → Int32) (f_r1_4 : Nat → Int32)  (r : Int32) (K : Int32 → Option (Int32)) (hKx : ∀ (x3 : Int32) (H : Heap) (locs : List Loc) (ls : Array Slot), K x3 = some (r) → va_P g.1 vwCl [oX2 a_t p_t o_t, aI g (p_t 8) 7 f_t_8, oX1 a_r1 p_r1 o_r1, aI g (p_r1 4) 7 f_r1_4] H → va_D A [oX2 a_t p_t o_t, aI g (p_t 8) 7 f_t_8, oX1 a_r1 p_r1 o_r1, aI g (p_r1 4) 7 f_r1_4] → va_S A s.heap H locs → lv_has ls 6 [(3, .int x3)] → W p l e ({ frames := 0, cells := 0, slots := 0, locals := 0 } : Room) s m args below meth c H locs 0 0 (MQ below (EndI g r [oX2 a_t p_t o_t, aI g (p_t 8) 7 f_t_8, oX1 a_r1 p_r1 o_r1, aI g (p_r1 4) 7 f_r1_4] A) args s 0 0 A) (F0 m 98 ls [])) : ∀ (k : Nat) (x3 : Int32) (x4 : Int32), fX2_unwilling_L26 n x2 o_t f_t_8 o_r1 f_r1_4 K k x3 x4 = some (r) → ∀ (H : Heap) (locs : List Loc) (ls : Array Slot), va_P g.1 vwCl [oX2 a_t p_t o_t, aI g (p_t 8) 7 f_t_8, oX1 a_r1 p_r1 o_r1, aI g (p_r1 4) 7 f_r1_4] H → va_D A [oX2 a_t p_t o_t, aI g (p_t 8) 7 f_t_8, oX1 a_r1 p_r1 o_r1, aI g (p_r1 4) 7 f_r1_4] → va_S A s.heap H locs → lv_has ls 6 [(0, .ref a_t), (1, .ref a_r1), (2, .int x2), (3, .int x3), (4, .int x4)] → W p l e ({ frames := 0, cells := 0, slots := 0, locals := 0 } : Room) s m args below meth c H locs 0 0 (MQ below (EndI g r [oX2 a_t p_t o_t, aI g (p_t 8) 7 f_t_8, oX1 a_r1 p_r1 o_r1, aI g (p_r1 4) 7 f_r1_4] A) args s 0 0 A) (F0 m 26 ls []) := by
  obtain ⟨hx, hb, hml, hown, hts, hr, hlk, hK, hA⟩ := id C0
  intro k
  induction k with
  | zero =>
    intro x3 x4 hF
    exact absurd hF (by simp [fX2_unwilling_L26])
  | succ k ih =>
    intro x3 x4 hF H locs ls hP hD hS hl
    rw [fX2_unwilling_L26] at hF
    refine lv_iload hx hb dX2_unwilling_26 (lv_at hl 4 rfl) ?_
    refine lv_aload_n hx hb dX2_unwilling_28 rfl (lv_at hl 1 rfl) ?_
    refine va_get (D := g.1) (ci := 1) (v := .int (o_r1 3)) (C := RX1) (T := TX1) (N := 17) hx hb hts iX2_unwilling_X1 hown hK.1 hP 2 rfl rfl 3 (by decide) (hts _ kX2_unwilling_40) (fun _ h9 => h9) rfl dX2_unwilling_29 ?_
    refine lv_icmp_ge (tgt := 98) hx hb dX2_unwilling_32 (by decide) (fun c_2 => ?_) (fun c_2 => ?_)
    · have hF := it_p c_2 hF
      exact hKx x3 _ _ _ hF (hP.sub [0, 1, 2, 3] rfl) (hD.sub [0, 1, 2, 3] rfl rfl) hS (lv_sub hl [3] rfl)
    · have hF := it_n c_2 hF
      refine lv_iload_n hx hb dX2_unwilling_35 rfl (lv_at hl 2 rfl) ?_
      obtain ⟨J55, eJ55, hF⟩ := jn_some hF
      have hJ55 : ∀ (s0_55 : Int32) (H : Heap) (locs : List Loc) (ls : Array Slot), J55 s0_55 = some (r) → va_P g.1 vwCl [oX2 a_t p_t o_t, aI g (p_t 8) 7 f_t_8, oX1 a_r1 p_r1 o_r1, aI g (p_r1 4) 7 f_r1_4] H → va_D A [oX2 a_t p_t o_t, aI g (p_t 8) 7 f_t_8, oX1 a_r1 p_r1 o_r1, aI g (p_r1 4) 7 f_r1_4] → va_S A s.heap H locs → lv_has ls 6 [(0, .ref a_t), (1, .ref a_r1), (2, .int x2), (3, .int x3), (4, .int x4)] → W p l e ({ frames := 0, cells := 0, slots := 0, locals := 0 } : Room) s m args below meth c H locs 0 0 (MQ below (EndI g r [oX2 a_t p_t o_t, aI g (p_t 8) 7 f_t_8, oX1 a_r1 p_r1 o_r1, aI g (p_r1 4) 7 f_r1_4] A) args s 0 0 A) (F0 m 55 ls [.int s0_55]) := by
        intro s0_55 H locs ls hF hP hD hS hl
        have hF := jj1 eJ55 hF
        refine lv_istore (lv' := [(5, .int s0_55), (0, .ref a_t), (1, .ref a_r1), (2, .int x2), (3, .int x3), (4, .int x4)]) hx hb dX2_unwilling_55 hl (by decide) rfl (fun ls hl => ?_)
        refine lv_aload_n hx hb dX2_unwilling_57 rfl (lv_at hl 1 rfl) ?_
        refine va_get (D := g.1) (ci := 2) (v := .int (o_t 1)) (C := RX2) (T := TX2) (N := 9) hx hb hts iX2_unwilling_X2 hown hK.1 hP 0 rfl rfl 1 (by decide) (hts _ kX2_unwilling_15) (fun _ h9 => h9) rfl dX2_unwilling_58 ?_
        refine lv_iload hx hb dX2_unwilling_61 (lv_at hl 5 rfl) ?_
        refine lv_ishr hx hb dX2_unwilling_63 ?_
        refine lv_iconst (v := (1 : Int32)) hx hb dX2_unwilling_64 (by decide) ?_
        refine lv_iand hx hb dX2_unwilling_65 ?_
        refine lv_iconst (v := (1 : Int32)) hx hb dX2_unwilling_66 (by decide) ?_
        refine lv_icmp_ne (tgt := 92) hx hb dX2_unwilling_67 (by decide) (fun c_3 => ?_) (fun c_3 => ?_)
        · have hF := it_n c_3 hF
          refine lv_iinc (v := (x4 + (1 : Int32))) (lv' := [(4, .int (x4 + (1 : Int32))), (5, .int s0_55), (0, .ref a_t), (1, .ref a_r1), (2, .int x2), (3, .int x3)]) hx hb dX2_unwilling_92 hl (k := 5) rfl rfl (by decide) rfl (fun ls hl => ?_)
          refine lv_goto (tgt := 26) hx hb dX2_unwilling_95 (by decide) ?_
          exact ih x3 (x4 + (1 : Int32)) hF _ _ _ (hP.sub [0, 1, 2, 3] rfl) (hD.sub [0, 1, 2, 3] rfl rfl) hS (lv_sub hl [2, 3, 4, 5, 0] rfl)
        · have hF := it_p c_3 hF
          refine lv_aload_n hx hb dX2_unwilling_70 rfl (lv_at hl 1 rfl) ?_
          refine va_get (D := g.1) (ci := 2) (v := .ref (p_t 8)) (C := RX2) (T := TX2) (N := 9) hx hb hts iX2_unwilling_X2 hown hK.1 hP 0 rfl rfl 8 (by decide) (hts _ kX2_unwilling_37) (fun _ h9 => h9) rfl dX2_unwilling_71 ?_
          refine lv_iload hx hb dX2_unwilling_74 (lv_at hl 5 rfl) ?_
          obtain ⟨h_4, hF⟩ := it_ck hF
          refine va_iald hx hb hK.1 hP 1 0 rfl rfl h_4 dX2_unwilling_76 ?_
          refine lv_if_gt (tgt := 92) hx hb dX2_unwilling_77 (by decide) (fun c_5 => ?_) (fun c_5 => ?_)
          · have hF := it_p c_5 hF
            refine lv_iinc (v := (x4 + (1 : Int32))) (lv' := [(4, .int (x4 + (1 : Int32))), (5, .int s0_55), (0, .ref a_t), (1, .ref a_r1), (2, .int x2), (3, .int x3)]) hx hb dX2_unwilling_92 hl (k := 5) rfl rfl (by decide) rfl (fun ls hl => ?_)
            refine lv_goto (tgt := 26) hx hb dX2_unwilling_95 (by decide) ?_
            exact ih x3 (x4 + (1 : Int32)) hF _ _ _ (hP.sub [0, 1, 2, 3] rfl) (hD.sub [0, 1, 2, 3] rfl rfl) hS (lv_sub hl [2, 3, 4, 5, 0] rfl)
          · have hF := it_n c_5 hF
            refine lv_iload hx hb dX2_unwilling_80 (lv_at hl 0 rfl) ?_
            refine lv_if_ne (tgt := 92) hx hb dX2_unwilling_82 (by decide) (fun c_6 => ?_) (fun c_6 => ?_)
            · have hF := it_n c_6 hF
              refine lv_iinc (v := (x4 + (1 : Int32))) (lv' := [(4, .int (x4 + (1 : Int32))), (5, .int s0_55), (0, .ref a_t), (1, .ref a_r1), (2, .int x2), (3, .int x3)]) hx hb dX2_unwilling_92 hl (k := 5) rfl rfl (by decide) rfl (fun ls hl => ?_)
              refine lv_goto (tgt := 26) hx hb dX2_unwilling_95 (by decide) ?_
              exact ih x3 (x4 + (1 : Int32)) hF _ _ _ (hP.sub [0, 1, 2, 3] rfl) (hD.sub [0, 1, 2, 3] rfl rfl) hS (lv_sub hl [2, 3, 4, 5, 0] rfl)
            · have hF := it_p c_6 hF
              refine lv_iload_n hx hb dX2_unwilling_85 rfl (lv_at hl 4 rfl) ?_
              refine lv_iconst (v := (1 : Int32)) hx hb dX2_unwilling_86 (by decide) ?_
              refine lv_iload hx hb dX2_unwilling_87 (lv_at hl 5 rfl) ?_
              refine lv_ishl hx hb dX2_unwilling_89 ?_
              refine lv_ior hx hb dX2_unwilling_90 ?_
              refine lv_istore_n (lv' := [(3, .int (x3 ||| ((1 : Int32) <<< (x4 &&& 31)))), (5, .int s0_55), (0, .ref a_t), (1, .ref a_r1), (2, .int x2), (4, .int x4)]) hx hb dX2_unwilling_91 rfl hl (by decide) rfl (fun ls hl => ?_)
              refine lv_iinc (v := (x4 + (1 : Int32))) (lv' := [(4, .int (x4 + (1 : Int32))), (3, .int (x3 ||| ((1 : Int32) <<< (x4 &&& 31)))), (5, .int s0_55), (0, .ref a_t), (1, .ref a_r1), (2, .int x2)]) hx hb dX2_unwilling_92 hl (k := 5) rfl rfl (by decide) rfl (fun ls hl => ?_)
              refine lv_goto (tgt := 26) hx hb dX2_unwilling_95 (by decide) ?_
              exact ih (x3 ||| ((1 : Int32) <<< (x4 &&& 31))) (x4 + (1 : Int32)) hF _ _ _ (hP.sub [0, 1, 2, 3] rfl) (hD.sub [0, 1, 2, 3] rfl rfl) hS (lv_sub hl [3, 4, 5, 1, 0] rfl)
      refine lv_if_eq (tgt := 54) hx hb dX2_unwilling_36 (by decide) (fun c_7 => ?_) (fun c_7 => ?_)
      · have hF := it_p c_7 hF
        refine lv_iconst (v := (0 : Int32)) hx hb dX2_unwilling_54 (by decide) ?_
        exact hJ55 (0 : Int32) _ _ _ hF (hP.sub [0, 1, 2, 3] rfl) (hD.sub [0, 1, 2, 3] rfl rfl) hS (lv_sub hl [0, 1, 2, 3, 4] rfl)
      · have hF := it_n c_7 hF
        refine lv_aload_n hx hb dX2_unwilling_39 rfl (lv_at hl 1 rfl) ?_
        refine va_get (D := g.1) (ci := 1) (v := .ref (p_r1 4)) (C := RX1) (T := TX1) (N := 17) hx hb hts iX2_unwilling_X1 hown hK.1 hP 2 rfl rfl 4 (by decide) (hts _ kX2_unwilling_77) (fun _ h9 => h9) rfl dX2_unwilling_40 ?_
        refine lv_iload hx hb dX2_unwilling_43 (lv_at hl 4 rfl) ?_
        obtain ⟨h_8, hF⟩ := it_ck hF
        refine va_iald hx hb hK.1 hP 3 0 rfl rfl h_8 dX2_unwilling_45 ?_
        refine lv_iconst (v := (1 : Int32)) hx hb dX2_unwilling_46 (by decide) ?_
        refine lv_icmp_ne (tgt := 54) hx hb dX2_unwilling_47 (by decide) (fun c_9 => ?_) (fun c_9 => ?_)
        · have hF := it_n c_9 hF
          refine lv_iconst (v := (0 : Int32)) hx hb dX2_unwilling_54 (by decide) ?_
          exact hJ55 (0 : Int32) _ _ _ hF (hP.sub [0, 1, 2, 3] rfl) (hD.sub [0, 1, 2, 3] rfl rfl) hS (lv_sub hl [0, 1, 2, 3, 4] rfl)
        · have hF := it_p c_9 hF
          refine lv_iconst (v := (1 : Int32)) hx hb dX2_unwilling_50 (by decide) ?_
          refine lv_goto (tgt := 55) hx hb dX2_unwilling_51 (by decide) ?_
          exact hJ55 (1 : Int32) _ _ _ hF (hP.sub [0, 1, 2, 3] rfl) (hD.sub [0, 1, 2, 3] rfl rfl) hS (lv_sub hl [0, 1, 2, 3, 4] rfl)
def fX2_unwilling (n : Nat) (o_t : Nat → Int32) (f_t_8 : Nat → Int32) (o_r1 : Nat → Int32) (f_r1_4 : Nat → Int32) : Option (Int32) := if (o_t 1) = (((1 : Int32) <<< ((o_r1 3) &&& 31)) - (1 : Int32)) then fX2_unwilling_L26 n (1 : Int32) o_t f_t_8 o_r1 f_r1_4 (fun (x3_x26 : Int32) => some (x3_x26)) n (0 : Int32) (0 : Int32) else fX2_unwilling_L26 n (0 : Int32) o_t f_t_8 o_r1 f_r1_4 (fun (x3_x26 : Int32) => some (x3_x26)) n (0 : Int32) (0 : Int32)
set_option maxHeartbeats 4000000 in
set_option maxRecDepth 100000 in
theorem mX2_unwilling (l : Launch) (g : GG) (a_t : Nat) (a_r1 : Nat) (p_t : Nat → Nat) (p_r1 : Nat → Nat) (n : Nat) (o_t : Nat → Int32) (f_t_8 : Nat → Int32) (o_r1 : Nat → Int32) (f_r1_4 : Nat → Int32) (r : Int32) (hF : fX2_unwilling n o_t f_t_8 o_r1 f_r1_4 = some (r)) : MI l g yX2_unwilling wsX2_unwilling ({ frames := 0, cells := 0, slots := 0, locals := 0 } : Room) [.ref a_t, .ref a_r1] [oX2 a_t p_t o_t, aI g (p_t 8) 7 f_t_8, oX1 a_r1 p_r1 o_r1, aI g (p_r1 4) 7 f_r1_4] r [oX2 a_t p_t o_t, aI g (p_t 8) 7 f_t_8, oX1 a_r1 p_r1 o_r1, aI g (p_r1 4) 7 f_r1_4] := by
  refine MI.of (cc := cX2_unwilling) (maxL := 6) (rt := .int) (own := RX2) rfl rfl (by decide) (Nat.le_of_ble_eq_true rfl) ?_
  intro p e s m args below meth c A C0 hP hD hS ls hl
  obtain ⟨hx, hb, hml, hown, hts, hr, hlk, hK, hA⟩ := id C0
  have hl : lv_has ls 6 [(0, .ref a_t), (1, .ref a_r1)] := hl
  rw [fX2_unwilling] at hF
  refine lv_aload_n hx hb dX2_unwilling_0 rfl (lv_at hl 0 rfl) ?_
  refine va_get (D := g.1) (ci := 2) (v := .int (o_t 1)) (C := RX2) (T := TX2) (N := 9) hx hb hts iX2_unwilling_X2 hown hK.1 hP 0 rfl rfl 1 (by decide) (hts _ kX2_unwilling_15) (fun _ h9 => h9) rfl dX2_unwilling_1 ?_
  refine lv_iconst (v := (1 : Int32)) hx hb dX2_unwilling_4 (by decide) ?_
  refine lv_aload_n hx hb dX2_unwilling_5 rfl (lv_at hl 1 rfl) ?_
  refine va_get (D := g.1) (ci := 1) (v := .int (o_r1 3)) (C := RX1) (T := TX1) (N := 17) hx hb hts iX2_unwilling_X1 hown hK.1 hP 2 rfl rfl 3 (by decide) (hts _ kX2_unwilling_40) (fun _ h9 => h9) rfl dX2_unwilling_6 ?_
  refine lv_ishl hx hb dX2_unwilling_9 ?_
  refine lv_iconst (v := (1 : Int32)) hx hb dX2_unwilling_10 (by decide) ?_
  refine lv_isub hx hb dX2_unwilling_11 ?_
  refine lv_icmp_ne (tgt := 19) hx hb dX2_unwilling_12 (by decide) (fun c_1 => ?_) (fun c_1 => ?_)
  · have hF := it_n c_1 hF
    refine lv_iconst (v := (0 : Int32)) hx hb dX2_unwilling_19 (by decide) ?_
    refine lv_istore_n (lv' := [(2, .int (0 : Int32)), (0, .ref a_t), (1, .ref a_r1)]) hx hb dX2_unwilling_20 rfl hl (by decide) rfl (fun ls hl => ?_)
    refine lv_iconst (v := (0 : Int32)) hx hb dX2_unwilling_21 (by decide) ?_
    refine lv_istore_n (lv' := [(3, .int (0 : Int32)), (2, .int (0 : Int32)), (0, .ref a_t), (1, .ref a_r1)]) hx hb dX2_unwilling_22 rfl hl (by decide) rfl (fun ls hl => ?_)
    refine lv_iconst (v := (0 : Int32)) hx hb dX2_unwilling_23 (by decide) ?_
    refine lv_istore (lv' := [(4, .int (0 : Int32)), (3, .int (0 : Int32)), (2, .int (0 : Int32)), (0, .ref a_t), (1, .ref a_r1)]) hx hb dX2_unwilling_24 hl (by decide) rfl (fun ls hl => ?_)
    refine wX2_unwilling_L26 C0 a_t a_r1 p_t p_r1 n (0 : Int32) o_t f_t_8 o_r1 f_r1_4 r _ ?_ n (0 : Int32) (0 : Int32) hF _ _ _ (hP.sub [0, 1, 2, 3] rfl) (hD.sub [0, 1, 2, 3] rfl rfl) hS (lv_sub hl [3, 4, 2, 1, 0] rfl)
    · intro x3_x26 H locs ls hF hP hD hS hl
      refine lv_iload_n hx hb dX2_unwilling_98 rfl (lv_at hl 0 rfl) ?_
      cases hF
      exact ret_i C0 hP hD hS [0, 1, 2, 3] rfl rfl rfl dX2_unwilling_99 rfl
  · have hF := it_p c_1 hF
    refine lv_iconst (v := (1 : Int32)) hx hb dX2_unwilling_15 (by decide) ?_
    refine lv_goto (tgt := 20) hx hb dX2_unwilling_16 (by decide) ?_
    refine lv_istore_n (lv' := [(2, .int (1 : Int32)), (0, .ref a_t), (1, .ref a_r1)]) hx hb dX2_unwilling_20 rfl hl (by decide) rfl (fun ls hl => ?_)
    refine lv_iconst (v := (0 : Int32)) hx hb dX2_unwilling_21 (by decide) ?_
    refine lv_istore_n (lv' := [(3, .int (0 : Int32)), (2, .int (1 : Int32)), (0, .ref a_t), (1, .ref a_r1)]) hx hb dX2_unwilling_22 rfl hl (by decide) rfl (fun ls hl => ?_)
    refine lv_iconst (v := (0 : Int32)) hx hb dX2_unwilling_23 (by decide) ?_
    refine lv_istore (lv' := [(4, .int (0 : Int32)), (3, .int (0 : Int32)), (2, .int (1 : Int32)), (0, .ref a_t), (1, .ref a_r1)]) hx hb dX2_unwilling_24 hl (by decide) rfl (fun ls hl => ?_)
    refine wX2_unwilling_L26 C0 a_t a_r1 p_t p_r1 n (1 : Int32) o_t f_t_8 o_r1 f_r1_4 r _ ?_ n (0 : Int32) (0 : Int32) hF _ _ _ (hP.sub [0, 1, 2, 3] rfl) (hD.sub [0, 1, 2, 3] rfl rfl) hS (lv_sub hl [3, 4, 2, 1, 0] rfl)
    · intro x3_x26 H locs ls hF hP hD hS hl
      refine lv_iload_n hx hb dX2_unwilling_98 rfl (lv_at hl 0 rfl) ?_
      cases hF
      exact ret_i C0 hP hD hS [0, 1, 2, 3] rfl rfl rfl dX2_unwilling_99 rfl

