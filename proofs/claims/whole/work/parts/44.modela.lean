theorem dAX10_thrown : ∀ q ∈ ([(0, (.aload_n 0, 1)), (1, (.getfield 53, 3)), (4, (.ireturn, 1))] : List (Nat × (Instr × Nat))), decode cX10_thrown q.1 = .ok q.2 := by decide +kernel
theorem dX10_thrown_0 : decode cX10_thrown 0 = .ok (.aload_n 0, 1) := dAX10_thrown (0, (.aload_n 0, 1)) (List.mem_of_getElem? (i := 0) rfl)
theorem dX10_thrown_1 : decode cX10_thrown 1 = .ok (.getfield 53, 3) := dAX10_thrown (1, (.getfield 53, 3)) (List.mem_of_getElem? (i := 1) rfl)
theorem dX10_thrown_4 : decode cX10_thrown 4 = .ok (.ireturn, 1) := dAX10_thrown (4, (.ireturn, 1)) (List.mem_of_getElem? (i := 2) rfl)
theorem kX10_thrown_53 : Cond.fieldLink RX10 53 "EveningVowModel" "thrown" "I" ∈ wsX10_thrown := List.mem_of_getElem? (i := 1) rfl
theorem iX10_thrown_X10 : ∀ w ∈ u_ws RX10 TX10 35, w ∈ wsX10_thrown := fun w h => (List.mem_cons_of_mem _ (List.mem_append_right _ h))
set_option maxHeartbeats 4000000 in
set_option maxRecDepth 100000 in
theorem mX10_thrown (l : Launch) (g : GG) (a_t : Nat) (p_t : Nat → Nat) (n : Nat) (o_t : Nat → Int32) (r : Int32) (hF : fX10_thrown n o_t = some (r)) : MI l g yX10_thrown wsX10_thrown ({ frames := 0, cells := 0, slots := 0, locals := 0 } : Room) [.ref a_t] [oX10 a_t p_t o_t] r [oX10 a_t p_t o_t] := by
  refine MI.of (cc := cX10_thrown) (maxL := 1) (rt := .int) (own := RX10) rfl rfl (by decide) (Nat.le_of_ble_eq_true rfl) ?_
  intro p e s m args below meth c A C0 hP hD hS ls hl
  obtain ⟨hx, hb, hml, hown, hts, hr, hlk, hK, hA, hSW⟩ := id C0
  have hl : lv_has ls 1 [(0, .ref a_t)] := hl
  rw [fX10_thrown] at hF
  refine lv_aload_n hx hb dX10_thrown_0 rfl (lv_at hl 0 rfl) ?_
  refine va_get (D := g.1) (ci := 10) (v := .int (o_t 0)) (C := RX10) (T := TX10) (N := 35) hx hb hts iX10_thrown_X10 hown hK.1 hP 0 rfl rfl 0 (by decide) (hts _ kX10_thrown_53) (fun _ h9 => h9) rfl dX10_thrown_1 ?_
  cases hF
  exact ret_i C0 hP hD hS [0] rfl rfl rfl dX10_thrown_4 rfl

theorem dAX10_good : ∀ q ∈ ([(0, (.aload_n 0, 1)), (1, (.iconst 0, 1)), (2, (.putfield 53, 3)), (5, (.aload_n 0, 1)), (6, (.iconst 0, 1)), (7, (.putfield 56, 3)), (10, (.return_, 1))] : List (Nat × (Instr × Nat))), decode cX10_good q.1 = .ok q.2 := by decide +kernel
theorem dX10_good_0 : decode cX10_good 0 = .ok (.aload_n 0, 1) := dAX10_good (0, (.aload_n 0, 1)) (List.mem_of_getElem? (i := 0) rfl)
theorem dX10_good_1 : decode cX10_good 1 = .ok (.iconst 0, 1) := dAX10_good (1, (.iconst 0, 1)) (List.mem_of_getElem? (i := 1) rfl)
theorem dX10_good_2 : decode cX10_good 2 = .ok (.putfield 53, 3) := dAX10_good (2, (.putfield 53, 3)) (List.mem_of_getElem? (i := 2) rfl)
theorem dX10_good_5 : decode cX10_good 5 = .ok (.aload_n 0, 1) := dAX10_good (5, (.aload_n 0, 1)) (List.mem_of_getElem? (i := 3) rfl)
theorem dX10_good_6 : decode cX10_good 6 = .ok (.iconst 0, 1) := dAX10_good (6, (.iconst 0, 1)) (List.mem_of_getElem? (i := 4) rfl)
theorem dX10_good_7 : decode cX10_good 7 = .ok (.putfield 56, 3) := dAX10_good (7, (.putfield 56, 3)) (List.mem_of_getElem? (i := 5) rfl)
theorem dX10_good_10 : decode cX10_good 10 = .ok (.return_, 1) := dAX10_good (10, (.return_, 1)) (List.mem_of_getElem? (i := 6) rfl)
theorem kX10_good_53 : Cond.fieldLink RX10 53 "EveningVowModel" "thrown" "I" ∈ wsX10_good := List.mem_of_getElem? (i := 1) rfl
theorem iX10_good_X10 : ∀ w ∈ u_ws RX10 TX10 35, w ∈ wsX10_good := fun w h => (List.mem_cons_of_mem _ (List.mem_append_right _ h))
theorem kX10_good_56 : Cond.fieldLink RX10 56 "EveningVowModel" "trouble" "I" ∈ wsX10_good := List.mem_of_getElem? (i := 2) rfl
set_option maxHeartbeats 4000000 in
set_option maxRecDepth 100000 in
theorem mX10_good (l : Launch) (g : GG) (a_t : Nat) (p_t : Nat → Nat) (n : Nat) (o_t : Nat → Int32) (o_t' : Nat → Int32) (hF : fX10_good n o_t = some (o_t')) : MV l g yX10_good wsX10_good ({ frames := 0, cells := 0, slots := 0, locals := 0 } : Room) [.ref a_t] [oX10 a_t p_t o_t] [oX10 a_t p_t o_t'] := by
  refine MV.of (cc := cX10_good) (maxL := 1) (own := RX10) rfl rfl (by decide) (Nat.le_of_ble_eq_true rfl) ?_
  intro p e s m args below meth c A C0 hP hD hS ls hl
  obtain ⟨hx, hb, hml, hown, hts, hr, hlk, hK, hA, hSW⟩ := id C0
  have hl : lv_has ls 1 [(0, .ref a_t)] := hl
  rw [fX10_good] at hF
  refine lv_aload_n hx hb dX10_good_0 rfl (lv_at hl 0 rfl) ?_
  refine lv_iconst (v := (0 : Int32)) hx hb dX10_good_1 (by decide) ?_
  refine va_put (D := g.1) (ci := 10) (v := .int (0 : Int32)) (ty := .int) (C := RX10) (T := TX10) (N := 35) hx hb hts iX10_good_X10 tyX10 tyX10_ok nmX10 hown hK.1 hP hD hS 0 rfl rfl 0 (by decide) (hts _ kX10_good_53) (fun _ h9 => h9) rfl (by decide +kernel) rfl rfl (Nat.le_of_ble_eq_true rfl) dX10_good_2 (fun H locs hP hD hS => ?_)
  have hP : va_P g.1 vwCl [oX10 a_t p_t (upd o_t 0 (0 : Int32))] H := hP
  have hD : va_D A [oX10 a_t p_t (upd o_t 0 (0 : Int32))] := hD
  refine lv_aload_n hx hb dX10_good_5 rfl (lv_at hl 0 rfl) ?_
  refine lv_iconst (v := (0 : Int32)) hx hb dX10_good_6 (by decide) ?_
  refine va_put (D := g.1) (ci := 10) (v := .int (0 : Int32)) (ty := .int) (C := RX10) (T := TX10) (N := 35) hx hb hts iX10_good_X10 tyX10 tyX10_ok nmX10 hown hK.1 hP hD hS 0 rfl rfl 11 (by decide) (hts _ kX10_good_56) (fun _ h9 => h9) rfl (by decide +kernel) rfl rfl (Nat.le_of_ble_eq_true rfl) dX10_good_7 (fun H locs hP hD hS => ?_)
  have hP : va_P g.1 vwCl [oX10 a_t p_t (upd (upd o_t 0 (0 : Int32)) 11 (0 : Int32))] H := hP
  have hD : va_D A [oX10 a_t p_t (upd (upd o_t 0 (0 : Int32)) 11 (0 : Int32))] := hD
  cases hF
  exact ret_v C0 hP hD hS [0] rfl rfl rfl dX10_good_10

theorem dAX10_no : ∀ q ∈ ([(0, (.aload_n 0, 1)), (1, (.iload_n 1, 1)), (2, (.putfield 56, 3)), (5, (.iconst (-1), 1)), (6, (.ireturn, 1))] : List (Nat × (Instr × Nat))), decode cX10_no q.1 = .ok q.2 := by decide +kernel
theorem dX10_no_0 : decode cX10_no 0 = .ok (.aload_n 0, 1) := dAX10_no (0, (.aload_n 0, 1)) (List.mem_of_getElem? (i := 0) rfl)
theorem dX10_no_1 : decode cX10_no 1 = .ok (.iload_n 1, 1) := dAX10_no (1, (.iload_n 1, 1)) (List.mem_of_getElem? (i := 1) rfl)
theorem dX10_no_2 : decode cX10_no 2 = .ok (.putfield 56, 3) := dAX10_no (2, (.putfield 56, 3)) (List.mem_of_getElem? (i := 2) rfl)
theorem dX10_no_5 : decode cX10_no 5 = .ok (.iconst (-1), 1) := dAX10_no (5, (.iconst (-1), 1)) (List.mem_of_getElem? (i := 3) rfl)
theorem dX10_no_6 : decode cX10_no 6 = .ok (.ireturn, 1) := dAX10_no (6, (.ireturn, 1)) (List.mem_of_getElem? (i := 4) rfl)
theorem kX10_no_56 : Cond.fieldLink RX10 56 "EveningVowModel" "trouble" "I" ∈ wsX10_no := List.mem_of_getElem? (i := 1) rfl
theorem iX10_no_X10 : ∀ w ∈ u_ws RX10 TX10 35, w ∈ wsX10_no := fun w h => (List.mem_cons_of_mem _ (List.mem_append_right _ h))
set_option maxHeartbeats 4000000 in
set_option maxRecDepth 100000 in
theorem mX10_no (l : Launch) (g : GG) (a_t : Nat) (p_t : Nat → Nat) (n : Nat) (x1 : Int32) (o_t : Nat → Int32) (r : Int32) (o_t' : Nat → Int32) (hF : fX10_no n x1 o_t = some (r, o_t')) : MI l g yX10_no wsX10_no ({ frames := 0, cells := 0, slots := 0, locals := 0 } : Room) [.ref a_t, .int x1] [oX10 a_t p_t o_t] r [oX10 a_t p_t o_t'] := by
  refine MI.of (cc := cX10_no) (maxL := 2) (rt := .int) (own := RX10) rfl rfl (by decide) (Nat.le_of_ble_eq_true rfl) ?_
  intro p e s m args below meth c A C0 hP hD hS ls hl
  obtain ⟨hx, hb, hml, hown, hts, hr, hlk, hK, hA, hSW⟩ := id C0
  have hl : lv_has ls 2 [(0, .ref a_t), (1, .int x1)] := hl
  rw [fX10_no] at hF
  refine lv_aload_n hx hb dX10_no_0 rfl (lv_at hl 0 rfl) ?_
  refine lv_iload_n hx hb dX10_no_1 rfl (lv_at hl 1 rfl) ?_
  refine va_put (D := g.1) (ci := 10) (v := .int x1) (ty := .int) (C := RX10) (T := TX10) (N := 35) hx hb hts iX10_no_X10 tyX10 tyX10_ok nmX10 hown hK.1 hP hD hS 0 rfl rfl 11 (by decide) (hts _ kX10_no_56) (fun _ h9 => h9) rfl (by decide +kernel) rfl rfl (Nat.le_of_ble_eq_true rfl) dX10_no_2 (fun H locs hP hD hS => ?_)
  have hP : va_P g.1 vwCl [oX10 a_t p_t (upd o_t 11 x1)] H := hP
  have hD : va_D A [oX10 a_t p_t (upd o_t 11 x1)] := hD
  refine lv_iconst (v := (-1 : Int32)) hx hb dX10_no_5 (by decide) ?_
  cases hF
  exact ret_i C0 hP hD hS [0] rfl rfl rfl dX10_no_6 rfl

theorem dAX10_less : ∀ q ∈ ([(0, (.aload_n 0, 1)), (1, (.iload_n 1, 1)), (2, (.putfield 56, 3)), (5, (.sipush (-1000), 3)), (8, (.ireturn, 1))] : List (Nat × (Instr × Nat))), decode cX10_less q.1 = .ok q.2 := by decide +kernel
theorem dX10_less_0 : decode cX10_less 0 = .ok (.aload_n 0, 1) := dAX10_less (0, (.aload_n 0, 1)) (List.mem_of_getElem? (i := 0) rfl)
theorem dX10_less_1 : decode cX10_less 1 = .ok (.iload_n 1, 1) := dAX10_less (1, (.iload_n 1, 1)) (List.mem_of_getElem? (i := 1) rfl)
theorem dX10_less_2 : decode cX10_less 2 = .ok (.putfield 56, 3) := dAX10_less (2, (.putfield 56, 3)) (List.mem_of_getElem? (i := 2) rfl)
theorem dX10_less_5 : decode cX10_less 5 = .ok (.sipush (-1000), 3) := dAX10_less (5, (.sipush (-1000), 3)) (List.mem_of_getElem? (i := 3) rfl)
theorem dX10_less_8 : decode cX10_less 8 = .ok (.ireturn, 1) := dAX10_less (8, (.ireturn, 1)) (List.mem_of_getElem? (i := 4) rfl)
theorem kX10_less_56 : Cond.fieldLink RX10 56 "EveningVowModel" "trouble" "I" ∈ wsX10_less := List.mem_of_getElem? (i := 1) rfl
theorem iX10_less_X10 : ∀ w ∈ u_ws RX10 TX10 35, w ∈ wsX10_less := fun w h => (List.mem_cons_of_mem _ (List.mem_append_right _ h))
set_option maxHeartbeats 4000000 in
set_option maxRecDepth 100000 in
theorem mX10_less (l : Launch) (g : GG) (a_t : Nat) (p_t : Nat → Nat) (n : Nat) (x1 : Int32) (o_t : Nat → Int32) (r : Int32) (o_t' : Nat → Int32) (hF : fX10_less n x1 o_t = some (r, o_t')) : MI l g yX10_less wsX10_less ({ frames := 0, cells := 0, slots := 0, locals := 0 } : Room) [.ref a_t, .int x1] [oX10 a_t p_t o_t] r [oX10 a_t p_t o_t'] := by
  refine MI.of (cc := cX10_less) (maxL := 2) (rt := .int) (own := RX10) rfl rfl (by decide) (Nat.le_of_ble_eq_true rfl) ?_
  intro p e s m args below meth c A C0 hP hD hS ls hl
  obtain ⟨hx, hb, hml, hown, hts, hr, hlk, hK, hA, hSW⟩ := id C0
  have hl : lv_has ls 2 [(0, .ref a_t), (1, .int x1)] := hl
  rw [fX10_less] at hF
  refine lv_aload_n hx hb dX10_less_0 rfl (lv_at hl 0 rfl) ?_
  refine lv_iload_n hx hb dX10_less_1 rfl (lv_at hl 1 rfl) ?_
  refine va_put (D := g.1) (ci := 10) (v := .int x1) (ty := .int) (C := RX10) (T := TX10) (N := 35) hx hb hts iX10_less_X10 tyX10 tyX10_ok nmX10 hown hK.1 hP hD hS 0 rfl rfl 11 (by decide) (hts _ kX10_less_56) (fun _ h9 => h9) rfl (by decide +kernel) rfl rfl (Nat.le_of_ble_eq_true rfl) dX10_less_2 (fun H locs hP hD hS => ?_)
  have hP : va_P g.1 vwCl [oX10 a_t p_t (upd o_t 11 x1)] H := hP
  have hD : va_D A [oX10 a_t p_t (upd o_t 11 x1)] := hD
  refine lv_sipush (v := (-1000 : Int32)) hx hb dX10_less_5 (by decide) ?_
  cases hF
  exact ret_i C0 hP hD hS [0] rfl rfl rfl dX10_less_8 rfl

theorem dAX10_isNot : ∀ q ∈ ([(0, (.aload_n 0, 1)), (1, (.iload_n 1, 1)), (2, (.putfield 56, 3)), (5, (.iconst 0, 1)), (6, (.ireturn, 1))] : List (Nat × (Instr × Nat))), decode cX10_isNot q.1 = .ok q.2 := by decide +kernel
theorem dX10_isNot_0 : decode cX10_isNot 0 = .ok (.aload_n 0, 1) := dAX10_isNot (0, (.aload_n 0, 1)) (List.mem_of_getElem? (i := 0) rfl)
theorem dX10_isNot_1 : decode cX10_isNot 1 = .ok (.iload_n 1, 1) := dAX10_isNot (1, (.iload_n 1, 1)) (List.mem_of_getElem? (i := 1) rfl)
theorem dX10_isNot_2 : decode cX10_isNot 2 = .ok (.putfield 56, 3) := dAX10_isNot (2, (.putfield 56, 3)) (List.mem_of_getElem? (i := 2) rfl)
theorem dX10_isNot_5 : decode cX10_isNot 5 = .ok (.iconst 0, 1) := dAX10_isNot (5, (.iconst 0, 1)) (List.mem_of_getElem? (i := 3) rfl)
theorem dX10_isNot_6 : decode cX10_isNot 6 = .ok (.ireturn, 1) := dAX10_isNot (6, (.ireturn, 1)) (List.mem_of_getElem? (i := 4) rfl)
theorem kX10_isNot_56 : Cond.fieldLink RX10 56 "EveningVowModel" "trouble" "I" ∈ wsX10_isNot := List.mem_of_getElem? (i := 1) rfl
theorem iX10_isNot_X10 : ∀ w ∈ u_ws RX10 TX10 35, w ∈ wsX10_isNot := fun w h => (List.mem_cons_of_mem _ (List.mem_append_right _ h))
set_option maxHeartbeats 4000000 in
set_option maxRecDepth 100000 in
theorem mX10_isNot (l : Launch) (g : GG) (a_t : Nat) (p_t : Nat → Nat) (n : Nat) (x1 : Int32) (o_t : Nat → Int32) (r : Int32) (o_t' : Nat → Int32) (hF : fX10_isNot n x1 o_t = some (r, o_t')) : MI l g yX10_isNot wsX10_isNot ({ frames := 0, cells := 0, slots := 0, locals := 0 } : Room) [.ref a_t, .int x1] [oX10 a_t p_t o_t] r [oX10 a_t p_t o_t'] := by
  refine MI.of (cc := cX10_isNot) (maxL := 2) (rt := .boolean) (own := RX10) rfl rfl (by decide) (Nat.le_of_ble_eq_true rfl) ?_
  intro p e s m args below meth c A C0 hP hD hS ls hl
  obtain ⟨hx, hb, hml, hown, hts, hr, hlk, hK, hA, hSW⟩ := id C0
  have hl : lv_has ls 2 [(0, .ref a_t), (1, .int x1)] := hl
  rw [fX10_isNot] at hF
  refine lv_aload_n hx hb dX10_isNot_0 rfl (lv_at hl 0 rfl) ?_
  refine lv_iload_n hx hb dX10_isNot_1 rfl (lv_at hl 1 rfl) ?_
  refine va_put (D := g.1) (ci := 10) (v := .int x1) (ty := .int) (C := RX10) (T := TX10) (N := 35) hx hb hts iX10_isNot_X10 tyX10 tyX10_ok nmX10 hown hK.1 hP hD hS 0 rfl rfl 11 (by decide) (hts _ kX10_isNot_56) (fun _ h9 => h9) rfl (by decide +kernel) rfl rfl (Nat.le_of_ble_eq_true rfl) dX10_isNot_2 (fun H locs hP hD hS => ?_)
  have hP : va_P g.1 vwCl [oX10 a_t p_t (upd o_t 11 x1)] H := hP
  have hD : va_D A [oX10 a_t p_t (upd o_t 11 x1)] := hD
  refine lv_iconst (v := (0 : Int32)) hx hb dX10_isNot_5 (by decide) ?_
  cases hF
  exact ret_z C0 hP hD hS [0] rfl rfl rfl dX10_isNot_6 rfl rfl

theorem dAX10_in : ∀ q ∈ ([(0, (.iload_n 0, 1)), (1, (.iload_n 1, 1)), (2, (.if_icmp .lt 12, 3)), (5, (.iload_n 0, 1)), (6, (.iload_n 2, 1)), (7, (.if_icmp .gt 7, 3)), (10, (.iconst 1, 1)), (11, (.goto 4, 3)), (14, (.iconst 0, 1)), (15, (.ireturn, 1))] : List (Nat × (Instr × Nat))), decode cX10_in q.1 = .ok q.2 := by decide +kernel
theorem dX10_in_0 : decode cX10_in 0 = .ok (.iload_n 0, 1) := dAX10_in (0, (.iload_n 0, 1)) (List.mem_of_getElem? (i := 0) rfl)
theorem dX10_in_1 : decode cX10_in 1 = .ok (.iload_n 1, 1) := dAX10_in (1, (.iload_n 1, 1)) (List.mem_of_getElem? (i := 1) rfl)
theorem dX10_in_2 : decode cX10_in 2 = .ok (.if_icmp .lt 12, 3) := dAX10_in (2, (.if_icmp .lt 12, 3)) (List.mem_of_getElem? (i := 2) rfl)
theorem dX10_in_5 : decode cX10_in 5 = .ok (.iload_n 0, 1) := dAX10_in (5, (.iload_n 0, 1)) (List.mem_of_getElem? (i := 3) rfl)
theorem dX10_in_6 : decode cX10_in 6 = .ok (.iload_n 2, 1) := dAX10_in (6, (.iload_n 2, 1)) (List.mem_of_getElem? (i := 4) rfl)
theorem dX10_in_7 : decode cX10_in 7 = .ok (.if_icmp .gt 7, 3) := dAX10_in (7, (.if_icmp .gt 7, 3)) (List.mem_of_getElem? (i := 5) rfl)
theorem dX10_in_10 : decode cX10_in 10 = .ok (.iconst 1, 1) := dAX10_in (10, (.iconst 1, 1)) (List.mem_of_getElem? (i := 6) rfl)
theorem dX10_in_11 : decode cX10_in 11 = .ok (.goto 4, 3) := dAX10_in (11, (.goto 4, 3)) (List.mem_of_getElem? (i := 7) rfl)
theorem dX10_in_14 : decode cX10_in 14 = .ok (.iconst 0, 1) := dAX10_in (14, (.iconst 0, 1)) (List.mem_of_getElem? (i := 8) rfl)
theorem dX10_in_15 : decode cX10_in 15 = .ok (.ireturn, 1) := dAX10_in (15, (.ireturn, 1)) (List.mem_of_getElem? (i := 9) rfl)
set_option maxHeartbeats 4000000 in
set_option maxRecDepth 100000 in
theorem mX10_in (l : Launch) (g : GG)   (n : Nat) (x0 : Int32) (x1 : Int32) (x2 : Int32) (r : Int32) (hF : fX10_in n x0 x1 x2 = some (r)) : MI l g yX10_in wsX10_in ({ frames := 0, cells := 0, slots := 0, locals := 0 } : Room) [.int x0, .int x1, .int x2] [] r [] := by
  refine MI.of (cc := cX10_in) (maxL := 3) (rt := .boolean) (own := RX10) rfl rfl (by decide) (Nat.le_of_ble_eq_true rfl) ?_
  intro p e s m args below meth c A C0 hP hD hS ls hl
  obtain ⟨hx, hb, hml, hown, hts, hr, hlk, hK, hA, hSW⟩ := id C0
  have hl : lv_has ls 3 [(0, .int x0), (1, .int x1), (2, .int x2)] := hl
  rw [fX10_in] at hF
  refine lv_iload_n hx hb dX10_in_0 rfl (lv_at hl 0 rfl) ?_
  refine lv_iload_n hx hb dX10_in_1 rfl (lv_at hl 1 rfl) ?_
  refine lv_icmp_lt (tgt := 14) hx hb dX10_in_2 (by decide) (fun c_1 => ?_) (fun c_1 => ?_)
  · have hF := it_p c_1 hF
    refine lv_iconst (v := (0 : Int32)) hx hb dX10_in_14 (by decide) ?_
    cases hF
    exact ret_z C0 hP hD hS [] rfl rfl rfl dX10_in_15 rfl rfl
  · have hF := it_n c_1 hF
    refine lv_iload_n hx hb dX10_in_5 rfl (lv_at hl 0 rfl) ?_
    refine lv_iload_n hx hb dX10_in_6 rfl (lv_at hl 2 rfl) ?_
    refine lv_icmp_gt (tgt := 14) hx hb dX10_in_7 (by decide) (fun c_2 => ?_) (fun c_2 => ?_)
    · have hF := it_p c_2 hF
      refine lv_iconst (v := (0 : Int32)) hx hb dX10_in_14 (by decide) ?_
      cases hF
      exact ret_z C0 hP hD hS [] rfl rfl rfl dX10_in_15 rfl rfl
    · have hF := it_n c_2 hF
      refine lv_iconst (v := (1 : Int32)) hx hb dX10_in_10 (by decide) ?_
      refine lv_goto (tgt := 15) hx hb dX10_in_11 (by decide) ?_
      cases hF
      exact ret_z C0 hP hD hS [] rfl rfl rfl dX10_in_15 rfl rfl

theorem dAX10_hasBit : ∀ q ∈ ([(0, (.iload_n 0, 1)), (1, (.iload_n 1, 1)), (2, (.ishr, 1)), (3, (.iconst 1, 1)), (4, (.iand, 1)), (5, (.iconst 1, 1)), (6, (.if_icmp .ne 7, 3)), (9, (.iconst 1, 1)), (10, (.goto 4, 3)), (13, (.iconst 0, 1)), (14, (.ireturn, 1))] : List (Nat × (Instr × Nat))), decode cX10_hasBit q.1 = .ok q.2 := by decide +kernel
theorem dX10_hasBit_0 : decode cX10_hasBit 0 = .ok (.iload_n 0, 1) := dAX10_hasBit (0, (.iload_n 0, 1)) (List.mem_of_getElem? (i := 0) rfl)
theorem dX10_hasBit_1 : decode cX10_hasBit 1 = .ok (.iload_n 1, 1) := dAX10_hasBit (1, (.iload_n 1, 1)) (List.mem_of_getElem? (i := 1) rfl)
theorem dX10_hasBit_2 : decode cX10_hasBit 2 = .ok (.ishr, 1) := dAX10_hasBit (2, (.ishr, 1)) (List.mem_of_getElem? (i := 2) rfl)
theorem dX10_hasBit_3 : decode cX10_hasBit 3 = .ok (.iconst 1, 1) := dAX10_hasBit (3, (.iconst 1, 1)) (List.mem_of_getElem? (i := 3) rfl)
theorem dX10_hasBit_4 : decode cX10_hasBit 4 = .ok (.iand, 1) := dAX10_hasBit (4, (.iand, 1)) (List.mem_of_getElem? (i := 4) rfl)
theorem dX10_hasBit_5 : decode cX10_hasBit 5 = .ok (.iconst 1, 1) := dAX10_hasBit (5, (.iconst 1, 1)) (List.mem_of_getElem? (i := 5) rfl)
theorem dX10_hasBit_6 : decode cX10_hasBit 6 = .ok (.if_icmp .ne 7, 3) := dAX10_hasBit (6, (.if_icmp .ne 7, 3)) (List.mem_of_getElem? (i := 6) rfl)
theorem dX10_hasBit_9 : decode cX10_hasBit 9 = .ok (.iconst 1, 1) := dAX10_hasBit (9, (.iconst 1, 1)) (List.mem_of_getElem? (i := 7) rfl)
theorem dX10_hasBit_10 : decode cX10_hasBit 10 = .ok (.goto 4, 3) := dAX10_hasBit (10, (.goto 4, 3)) (List.mem_of_getElem? (i := 8) rfl)
theorem dX10_hasBit_13 : decode cX10_hasBit 13 = .ok (.iconst 0, 1) := dAX10_hasBit (13, (.iconst 0, 1)) (List.mem_of_getElem? (i := 9) rfl)
theorem dX10_hasBit_14 : decode cX10_hasBit 14 = .ok (.ireturn, 1) := dAX10_hasBit (14, (.ireturn, 1)) (List.mem_of_getElem? (i := 10) rfl)
set_option maxHeartbeats 4000000 in
set_option maxRecDepth 100000 in
theorem mX10_hasBit (l : Launch) (g : GG)   (n : Nat) (x0 : Int32) (x1 : Int32) (r : Int32) (hF : fX10_hasBit n x0 x1 = some (r)) : MI l g yX10_hasBit wsX10_hasBit ({ frames := 0, cells := 0, slots := 0, locals := 0 } : Room) [.int x0, .int x1] [] r [] := by
  refine MI.of (cc := cX10_hasBit) (maxL := 2) (rt := .boolean) (own := RX10) rfl rfl (by decide) (Nat.le_of_ble_eq_true rfl) ?_
  intro p e s m args below meth c A C0 hP hD hS ls hl
  obtain ⟨hx, hb, hml, hown, hts, hr, hlk, hK, hA, hSW⟩ := id C0
  have hl : lv_has ls 2 [(0, .int x0), (1, .int x1)] := hl
  rw [fX10_hasBit] at hF
  refine lv_iload_n hx hb dX10_hasBit_0 rfl (lv_at hl 0 rfl) ?_
  refine lv_iload_n hx hb dX10_hasBit_1 rfl (lv_at hl 1 rfl) ?_
  refine lv_ishr hx hb dX10_hasBit_2 ?_
  refine lv_iconst (v := (1 : Int32)) hx hb dX10_hasBit_3 (by decide) ?_
  refine lv_iand hx hb dX10_hasBit_4 ?_
  refine lv_iconst (v := (1 : Int32)) hx hb dX10_hasBit_5 (by decide) ?_
  refine lv_icmp_ne (tgt := 13) hx hb dX10_hasBit_6 (by decide) (fun c_1 => ?_) (fun c_1 => ?_)
  · have hF := it_n c_1 hF
    refine lv_iconst (v := (0 : Int32)) hx hb dX10_hasBit_13 (by decide) ?_
    cases hF
    exact ret_z C0 hP hD hS [] rfl rfl rfl dX10_hasBit_14 rfl rfl
  · have hF := it_p c_1 hF
    refine lv_iconst (v := (1 : Int32)) hx hb dX10_hasBit_9 (by decide) ?_
    refine lv_goto (tgt := 14) hx hb dX10_hasBit_10 (by decide) ?_
    cases hF
    exact ret_z C0 hP hD hS [] rfl rfl rfl dX10_hasBit_14 rfl rfl

theorem dAX10_ones : ∀ q ∈ ([(0, (.iconst 0, 1)), (1, (.istore_n 1, 1)), (2, (.iconst 0, 1)), (3, (.istore_n 2, 1)), (4, (.iload_n 2, 1)), (5, (.bipush 8, 2)), (7, (.if_icmp .ge 17, 3)), (10, (.iload_n 1, 1)), (11, (.iload_n 0, 1)), (12, (.iload_n 2, 1)), (13, (.ishr, 1)), (14, (.iconst 1, 1)), (15, (.iand, 1)), (16, (.iadd, 1)), (17, (.istore_n 1, 1)), (18, (.iinc 2 1, 3)), (21, (.goto (-17), 3)), (24, (.iload_n 1, 1)), (25, (.ireturn, 1))] : List (Nat × (Instr × Nat))), decode cX10_ones q.1 = .ok q.2 := by decide +kernel
theorem dX10_ones_0 : decode cX10_ones 0 = .ok (.iconst 0, 1) := dAX10_ones (0, (.iconst 0, 1)) (List.mem_of_getElem? (i := 0) rfl)
theorem dX10_ones_1 : decode cX10_ones 1 = .ok (.istore_n 1, 1) := dAX10_ones (1, (.istore_n 1, 1)) (List.mem_of_getElem? (i := 1) rfl)
theorem dX10_ones_2 : decode cX10_ones 2 = .ok (.iconst 0, 1) := dAX10_ones (2, (.iconst 0, 1)) (List.mem_of_getElem? (i := 2) rfl)
theorem dX10_ones_3 : decode cX10_ones 3 = .ok (.istore_n 2, 1) := dAX10_ones (3, (.istore_n 2, 1)) (List.mem_of_getElem? (i := 3) rfl)
theorem dX10_ones_4 : decode cX10_ones 4 = .ok (.iload_n 2, 1) := dAX10_ones (4, (.iload_n 2, 1)) (List.mem_of_getElem? (i := 4) rfl)
theorem dX10_ones_5 : decode cX10_ones 5 = .ok (.bipush 8, 2) := dAX10_ones (5, (.bipush 8, 2)) (List.mem_of_getElem? (i := 5) rfl)
theorem dX10_ones_7 : decode cX10_ones 7 = .ok (.if_icmp .ge 17, 3) := dAX10_ones (7, (.if_icmp .ge 17, 3)) (List.mem_of_getElem? (i := 6) rfl)
theorem dX10_ones_10 : decode cX10_ones 10 = .ok (.iload_n 1, 1) := dAX10_ones (10, (.iload_n 1, 1)) (List.mem_of_getElem? (i := 7) rfl)
theorem dX10_ones_11 : decode cX10_ones 11 = .ok (.iload_n 0, 1) := dAX10_ones (11, (.iload_n 0, 1)) (List.mem_of_getElem? (i := 8) rfl)
theorem dX10_ones_12 : decode cX10_ones 12 = .ok (.iload_n 2, 1) := dAX10_ones (12, (.iload_n 2, 1)) (List.mem_of_getElem? (i := 9) rfl)
theorem dX10_ones_13 : decode cX10_ones 13 = .ok (.ishr, 1) := dAX10_ones (13, (.ishr, 1)) (List.mem_of_getElem? (i := 10) rfl)
theorem dX10_ones_14 : decode cX10_ones 14 = .ok (.iconst 1, 1) := dAX10_ones (14, (.iconst 1, 1)) (List.mem_of_getElem? (i := 11) rfl)
theorem dX10_ones_15 : decode cX10_ones 15 = .ok (.iand, 1) := dAX10_ones (15, (.iand, 1)) (List.mem_of_getElem? (i := 12) rfl)
theorem dX10_ones_16 : decode cX10_ones 16 = .ok (.iadd, 1) := dAX10_ones (16, (.iadd, 1)) (List.mem_of_getElem? (i := 13) rfl)
theorem dX10_ones_17 : decode cX10_ones 17 = .ok (.istore_n 1, 1) := dAX10_ones (17, (.istore_n 1, 1)) (List.mem_of_getElem? (i := 14) rfl)
theorem dX10_ones_18 : decode cX10_ones 18 = .ok (.iinc 2 1, 3) := dAX10_ones (18, (.iinc 2 1, 3)) (List.mem_of_getElem? (i := 15) rfl)
theorem dX10_ones_21 : decode cX10_ones 21 = .ok (.goto (-17), 3) := dAX10_ones (21, (.goto (-17), 3)) (List.mem_of_getElem? (i := 16) rfl)
theorem dX10_ones_24 : decode cX10_ones 24 = .ok (.iload_n 1, 1) := dAX10_ones (24, (.iload_n 1, 1)) (List.mem_of_getElem? (i := 17) rfl)
theorem dX10_ones_25 : decode cX10_ones 25 = .ok (.ireturn, 1) := dAX10_ones (25, (.ireturn, 1)) (List.mem_of_getElem? (i := 18) rfl)
set_option maxHeartbeats 4000000 in
set_option maxRecDepth 100000 in
theorem wX10_ones_L4 {p : Program} {l : Launch} {e : Env} {s : State} {m : MethodId} {args : Array Value} {below : List Frame} {meth : Method} {c : Code} {g : GG} {A : Nat → Prop} (C0 : Cx p s m args meth c cX10_ones 3 (some .int) RX10 wsX10_ones g A)   (n : Nat) (x0 : Int32)  (r : Int32) (K : Int32 → Option (Int32)) (hKx : ∀ (x1 : Int32) (H : Heap) (locs : List Loc) (ls : Array Slot), K x1 = some (r) → va_P g.1 vwCl [] H → va_D A [] → va_S A s.heap H locs → lv_has ls 3 [(1, .int x1)] → W p l e ({ frames := 0, cells := 0, slots := 0, locals := 0 } : Room) s m args below meth c H locs 0 0 (MQ below (EndI g r [] A) args s 0 0 A) (F0 m 24 ls [])) : ∀ (k : Nat) (x1 : Int32) (x2 : Int32), fX10_ones_L4 n x0 K k x1 x2 = some (r) → ∀ (H : Heap) (locs : List Loc) (ls : Array Slot), va_P g.1 vwCl [] H → va_D A [] → va_S A s.heap H locs → lv_has ls 3 [(0, .int x0), (1, .int x1), (2, .int x2)] → W p l e ({ frames := 0, cells := 0, slots := 0, locals := 0 } : Room) s m args below meth c H locs 0 0 (MQ below (EndI g r [] A) args s 0 0 A) (F0 m 4 ls []) := by
  obtain ⟨hx, hb, hml, hown, hts, hr, hlk, hK, hA, hSW⟩ := id C0
  intro k
  induction k with
  | zero =>
    intro x1 x2 hF
    exact absurd hF (by simp [fX10_ones_L4])
  | succ k ih =>
    intro x1 x2 hF H locs ls hP hD hS hl
    rw [fX10_ones_L4] at hF
    refine lv_iload_n hx hb dX10_ones_4 rfl (lv_at hl 2 rfl) ?_
    refine lv_bipush (v := (8 : Int32)) hx hb dX10_ones_5 (by decide) ?_
    refine lv_icmp_ge (tgt := 24) hx hb dX10_ones_7 (by decide) (fun c_1 => ?_) (fun c_1 => ?_)
    · have hF := it_p c_1 hF
      exact hKx x1 _ _ _ hF (hP.sub [] rfl) (hD.sub [] rfl rfl) hS (lv_sub hl [1] rfl)
    · have hF := it_n c_1 hF
      refine lv_iload_n hx hb dX10_ones_10 rfl (lv_at hl 1 rfl) ?_
      refine lv_iload_n hx hb dX10_ones_11 rfl (lv_at hl 0 rfl) ?_
      refine lv_iload_n hx hb dX10_ones_12 rfl (lv_at hl 2 rfl) ?_
      refine lv_ishr hx hb dX10_ones_13 ?_
      refine lv_iconst (v := (1 : Int32)) hx hb dX10_ones_14 (by decide) ?_
      refine lv_iand hx hb dX10_ones_15 ?_
      refine lv_iadd hx hb dX10_ones_16 ?_
      refine lv_istore_n (lv' := [(1, .int (x1 + ((x0 >>> (x2 &&& 31)) &&& (1 : Int32)))), (0, .int x0), (2, .int x2)]) hx hb dX10_ones_17 rfl hl (by decide) rfl (fun ls hl => ?_)
      refine lv_iinc (v := (x2 + (1 : Int32))) (lv' := [(2, .int (x2 + (1 : Int32))), (1, .int (x1 + ((x0 >>> (x2 &&& 31)) &&& (1 : Int32)))), (0, .int x0)]) hx hb dX10_ones_18 hl (k := 2) rfl rfl (by decide) rfl (fun ls hl => ?_)
      refine lv_goto (tgt := 4) hx hb dX10_ones_21 (by decide) ?_
      exact ih (x1 + ((x0 >>> (x2 &&& 31)) &&& (1 : Int32))) (x2 + (1 : Int32)) hF _ _ _ (hP.sub [] rfl) (hD.sub [] rfl rfl) hS (lv_sub hl [2, 1, 0] rfl)
set_option maxHeartbeats 4000000 in
set_option maxRecDepth 100000 in
theorem mX10_ones (l : Launch) (g : GG)   (n : Nat) (x0 : Int32) (r : Int32) (hF : fX10_ones n x0 = some (r)) : MI l g yX10_ones wsX10_ones ({ frames := 0, cells := 0, slots := 0, locals := 0 } : Room) [.int x0] [] r [] := by
  refine MI.of (cc := cX10_ones) (maxL := 3) (rt := .int) (own := RX10) rfl rfl (by decide) (Nat.le_of_ble_eq_true rfl) ?_
  intro p e s m args below meth c A C0 hP hD hS ls hl
  obtain ⟨hx, hb, hml, hown, hts, hr, hlk, hK, hA, hSW⟩ := id C0
  have hl : lv_has ls 3 [(0, .int x0)] := hl
  rw [fX10_ones] at hF
  refine lv_iconst (v := (0 : Int32)) hx hb dX10_ones_0 (by decide) ?_
  refine lv_istore_n (lv' := [(1, .int (0 : Int32)), (0, .int x0)]) hx hb dX10_ones_1 rfl hl (by decide) rfl (fun ls hl => ?_)
  refine lv_iconst (v := (0 : Int32)) hx hb dX10_ones_2 (by decide) ?_
  refine lv_istore_n (lv' := [(2, .int (0 : Int32)), (1, .int (0 : Int32)), (0, .int x0)]) hx hb dX10_ones_3 rfl hl (by decide) rfl (fun ls hl => ?_)
  refine wX10_ones_L4 C0 n x0 r _ ?_ n (0 : Int32) (0 : Int32) hF _ _ _ (hP.sub [] rfl) (hD.sub [] rfl rfl) hS (lv_sub hl [2, 1, 0] rfl)
  · intro x1_x4 H locs ls hF hP hD hS hl
    refine lv_iload_n hx hb dX10_ones_24 rfl (lv_at hl 0 rfl) ?_
    cases hF
    exact ret_i C0 hP hD hS [] rfl rfl rfl dX10_ones_25 rfl

theorem dAX10_copy : ∀ q ∈ ([(0, (.iconst 0, 1)), (1, (.istore 5, 2)), (3, (.iload 5, 2)), (5, (.iload 4, 2)), (7, (.if_icmp .ge 21, 3)), (10, (.aload_n 2, 1)), (11, (.iload_n 3, 1)), (12, (.iload 5, 2)), (14, (.iadd, 1)), (15, (.aload_n 0, 1)), (16, (.iload_n 1, 1)), (17, (.iload 5, 2)), (19, (.iadd, 1)), (20, (.iaload, 1)), (21, (.iastore, 1)), (22, (.iinc 5 1, 3)), (25, (.goto (-22), 3)), (28, (.return_, 1))] : List (Nat × (Instr × Nat))), decode cX10_copy q.1 = .ok q.2 := by decide +kernel
theorem dX10_copy_0 : decode cX10_copy 0 = .ok (.iconst 0, 1) := dAX10_copy (0, (.iconst 0, 1)) (List.mem_of_getElem? (i := 0) rfl)
theorem dX10_copy_1 : decode cX10_copy 1 = .ok (.istore 5, 2) := dAX10_copy (1, (.istore 5, 2)) (List.mem_of_getElem? (i := 1) rfl)
theorem dX10_copy_3 : decode cX10_copy 3 = .ok (.iload 5, 2) := dAX10_copy (3, (.iload 5, 2)) (List.mem_of_getElem? (i := 2) rfl)
theorem dX10_copy_5 : decode cX10_copy 5 = .ok (.iload 4, 2) := dAX10_copy (5, (.iload 4, 2)) (List.mem_of_getElem? (i := 3) rfl)
theorem dX10_copy_7 : decode cX10_copy 7 = .ok (.if_icmp .ge 21, 3) := dAX10_copy (7, (.if_icmp .ge 21, 3)) (List.mem_of_getElem? (i := 4) rfl)
theorem dX10_copy_10 : decode cX10_copy 10 = .ok (.aload_n 2, 1) := dAX10_copy (10, (.aload_n 2, 1)) (List.mem_of_getElem? (i := 5) rfl)
theorem dX10_copy_11 : decode cX10_copy 11 = .ok (.iload_n 3, 1) := dAX10_copy (11, (.iload_n 3, 1)) (List.mem_of_getElem? (i := 6) rfl)
theorem dX10_copy_12 : decode cX10_copy 12 = .ok (.iload 5, 2) := dAX10_copy (12, (.iload 5, 2)) (List.mem_of_getElem? (i := 7) rfl)
theorem dX10_copy_14 : decode cX10_copy 14 = .ok (.iadd, 1) := dAX10_copy (14, (.iadd, 1)) (List.mem_of_getElem? (i := 8) rfl)
theorem dX10_copy_15 : decode cX10_copy 15 = .ok (.aload_n 0, 1) := dAX10_copy (15, (.aload_n 0, 1)) (List.mem_of_getElem? (i := 9) rfl)
theorem dX10_copy_16 : decode cX10_copy 16 = .ok (.iload_n 1, 1) := dAX10_copy (16, (.iload_n 1, 1)) (List.mem_of_getElem? (i := 10) rfl)
theorem dX10_copy_17 : decode cX10_copy 17 = .ok (.iload 5, 2) := dAX10_copy (17, (.iload 5, 2)) (List.mem_of_getElem? (i := 11) rfl)
theorem dX10_copy_19 : decode cX10_copy 19 = .ok (.iadd, 1) := dAX10_copy (19, (.iadd, 1)) (List.mem_of_getElem? (i := 12) rfl)
theorem dX10_copy_20 : decode cX10_copy 20 = .ok (.iaload, 1) := dAX10_copy (20, (.iaload, 1)) (List.mem_of_getElem? (i := 13) rfl)
theorem dX10_copy_21 : decode cX10_copy 21 = .ok (.iastore, 1) := dAX10_copy (21, (.iastore, 1)) (List.mem_of_getElem? (i := 14) rfl)
theorem dX10_copy_22 : decode cX10_copy 22 = .ok (.iinc 5 1, 3) := dAX10_copy (22, (.iinc 5 1, 3)) (List.mem_of_getElem? (i := 15) rfl)
theorem dX10_copy_25 : decode cX10_copy 25 = .ok (.goto (-22), 3) := dAX10_copy (25, (.goto (-22), 3)) (List.mem_of_getElem? (i := 16) rfl)
theorem dX10_copy_28 : decode cX10_copy 28 = .ok (.return_, 1) := dAX10_copy (28, (.return_, 1)) (List.mem_of_getElem? (i := 17) rfl)
set_option maxHeartbeats 4000000 in
set_option maxRecDepth 100000 in
theorem wX10_copy_L3 {p : Program} {l : Launch} {e : Env} {s : State} {m : MethodId} {args : Array Value} {below : List Frame} {meth : Method} {c : Code} {g : GG} {A : Nat → Prop} (C0 : Cx p s m args meth c cX10_copy 6 none RX10 wsX10_copy g A) (a_r0 : Nat) (a_r2 : Nat)  (n : Nat) (n_r0 : Nat) (n_r2 : Nat) (x1 : Int32) (x3 : Int32) (x4 : Int32) (f_r0 : Nat → Int32)  (f_r2' : Nat → Int32) (K : (Nat → Int32) → Option ((Nat → Int32))) (hKx : ∀ (f_r2 : Nat → Int32) (H : Heap) (locs : List Loc) (ls : Array Slot), K f_r2 = some (f_r2') → va_P g.1 vwCl [aI g a_r0 n_r0 f_r0, aI g a_r2 n_r2 f_r2] H → va_D A [aI g a_r0 n_r0 f_r0, aI g a_r2 n_r2 f_r2] → va_S A s.heap H locs → lv_has ls 6 [] → W p l e ({ frames := 0, cells := 0, slots := 0, locals := 0 } : Room) s m args below meth c H locs 0 0 (MQ below (EndV g [aI g a_r0 n_r0 f_r0, aI g a_r2 n_r2 f_r2'] A) args s 0 0 A) (F0 m 28 ls [])) : ∀ (k : Nat) (x5 : Int32) (f_r2 : Nat → Int32), fX10_copy_L3 n n_r0 n_r2 x1 x3 x4 f_r0 K k x5 f_r2 = some (f_r2') → ∀ (H : Heap) (locs : List Loc) (ls : Array Slot), va_P g.1 vwCl [aI g a_r0 n_r0 f_r0, aI g a_r2 n_r2 f_r2] H → va_D A [aI g a_r0 n_r0 f_r0, aI g a_r2 n_r2 f_r2] → va_S A s.heap H locs → lv_has ls 6 [(0, .ref a_r0), (1, .int x1), (2, .ref a_r2), (3, .int x3), (4, .int x4), (5, .int x5)] → W p l e ({ frames := 0, cells := 0, slots := 0, locals := 0 } : Room) s m args below meth c H locs 0 0 (MQ below (EndV g [aI g a_r0 n_r0 f_r0, aI g a_r2 n_r2 f_r2'] A) args s 0 0 A) (F0 m 3 ls []) := by
  obtain ⟨hx, hb, hml, hown, hts, hr, hlk, hK, hA, hSW⟩ := id C0
  intro k
  induction k with
  | zero =>
    intro x5 f_r2 hF
    exact absurd hF (by simp [fX10_copy_L3])
  | succ k ih =>
    intro x5 f_r2 hF H locs ls hP hD hS hl
    rw [fX10_copy_L3] at hF
    refine lv_iload hx hb dX10_copy_3 (lv_at hl 5 rfl) ?_
    refine lv_iload hx hb dX10_copy_5 (lv_at hl 4 rfl) ?_
    refine lv_icmp_ge (tgt := 28) hx hb dX10_copy_7 (by decide) (fun c_1 => ?_) (fun c_1 => ?_)
    · have hF := it_p c_1 hF
      exact hKx f_r2 _ _ _ hF (hP.sub [0, 1] rfl) (hD.sub [0, 1] rfl rfl) hS (lv_sub hl [] rfl)
    · have hF := it_n c_1 hF
      refine lv_aload_n hx hb dX10_copy_10 rfl (lv_at hl 2 rfl) ?_
      refine lv_iload_n hx hb dX10_copy_11 rfl (lv_at hl 3 rfl) ?_
      refine lv_iload hx hb dX10_copy_12 (lv_at hl 5 rfl) ?_
      refine lv_iadd hx hb dX10_copy_14 ?_
      refine lv_aload_n hx hb dX10_copy_15 rfl (lv_at hl 0 rfl) ?_
      refine lv_iload_n hx hb dX10_copy_16 rfl (lv_at hl 1 rfl) ?_
      refine lv_iload hx hb dX10_copy_17 (lv_at hl 5 rfl) ?_
      refine lv_iadd hx hb dX10_copy_19 ?_
      obtain ⟨h_2, hF⟩ := it_ck hF
      refine va_iald hx hb hK.1 hP 0 0 rfl rfl h_2 dX10_copy_20 ?_
      obtain ⟨h_3, hF⟩ := it_ck hF
      refine va_iast hx hb hK.1 hP hD hS 1 0 rfl rfl h_3 dX10_copy_21 (fun H locs hP hD hS => ?_)
      have hP : va_P g.1 vwCl [aI g a_r0 n_r0 f_r0, aI g a_r2 n_r2 (upd f_r2 ((x3 + x5)).toNatClampNeg (f_r0 ((x1 + x5)).toNatClampNeg))] H := hP
      have hD : va_D A [aI g a_r0 n_r0 f_r0, aI g a_r2 n_r2 (upd f_r2 ((x3 + x5)).toNatClampNeg (f_r0 ((x1 + x5)).toNatClampNeg))] := hD
      refine lv_iinc (v := (x5 + (1 : Int32))) (lv' := [(5, .int (x5 + (1 : Int32))), (0, .ref a_r0), (1, .int x1), (2, .ref a_r2), (3, .int x3), (4, .int x4)]) hx hb dX10_copy_22 hl (k := 5) rfl rfl (by decide) rfl (fun ls hl => ?_)
      refine lv_goto (tgt := 3) hx hb dX10_copy_25 (by decide) ?_
      exact ih (x5 + (1 : Int32)) (upd f_r2 ((x3 + x5)).toNatClampNeg (f_r0 ((x1 + x5)).toNatClampNeg)) hF _ _ _ (hP.sub [0, 1] rfl) (hD.sub [0, 1] rfl rfl) hS (lv_sub hl [1, 2, 3, 4, 5, 0] rfl)
set_option maxHeartbeats 4000000 in
set_option maxRecDepth 100000 in
theorem mX10_copy (l : Launch) (g : GG) (a_r0 : Nat) (a_r2 : Nat)  (n : Nat) (x1 : Int32) (x3 : Int32) (x4 : Int32) (n_r0 : Nat) (n_r2 : Nat) (f_r0 : Nat → Int32) (f_r2 : Nat → Int32) (f_r2' : Nat → Int32) (hF : fX10_copy n x1 x3 x4 n_r0 n_r2 f_r0 f_r2 = some (f_r2')) : MV l g yX10_copy wsX10_copy ({ frames := 0, cells := 0, slots := 0, locals := 0 } : Room) [.ref a_r0, .int x1, .ref a_r2, .int x3, .int x4] [aI g a_r0 n_r0 f_r0, aI g a_r2 n_r2 f_r2] [aI g a_r0 n_r0 f_r0, aI g a_r2 n_r2 f_r2'] := by
  refine MV.of (cc := cX10_copy) (maxL := 6) (own := RX10) rfl rfl (by decide) (Nat.le_of_ble_eq_true rfl) ?_
  intro p e s m args below meth c A C0 hP hD hS ls hl
  obtain ⟨hx, hb, hml, hown, hts, hr, hlk, hK, hA, hSW⟩ := id C0
  have hl : lv_has ls 6 [(0, .ref a_r0), (1, .int x1), (2, .ref a_r2), (3, .int x3), (4, .int x4)] := hl
  rw [fX10_copy] at hF
  refine lv_iconst (v := (0 : Int32)) hx hb dX10_copy_0 (by decide) ?_
  refine lv_istore (lv' := [(5, .int (0 : Int32)), (0, .ref a_r0), (1, .int x1), (2, .ref a_r2), (3, .int x3), (4, .int x4)]) hx hb dX10_copy_1 hl (by decide) rfl (fun ls hl => ?_)
  refine wX10_copy_L3 C0 a_r0 a_r2 n n_r0 n_r2 x1 x3 x4 f_r0 f_r2' _ ?_ n (0 : Int32) f_r2 hF _ _ _ (hP.sub [0, 1] rfl) (hD.sub [0, 1] rfl rfl) hS (lv_sub hl [1, 2, 3, 4, 5, 0] rfl)
  · intro f_r2_x3 H locs ls hF hP hD hS hl
    cases hF
    exact ret_v C0 hP hD hS [0, 1] rfl rfl rfl dX10_copy_28

theorem dAX10_feed : ∀ q ∈ ([(0, (.aload_n 0, 1)), (1, (.iconst 0, 1)), (2, (.putfield 53, 3)), (5, (.aload_n 0, 1)), (6, (.getfield 59, 3)), (9, (.bipush 20, 2)), (11, (.iadd, 1)), (12, (.sipush 800, 3)), (15, (.if_icmp .le 5, 3)), (18, (.iconst (-1), 1)), (19, (.ireturn, 1)), (20, (.iconst 0, 1)), (21, (.istore 6, 2)), (23, (.iload 6, 2)), (25, (.bipush 20, 2)), (27, (.if_icmp .ge 93, 3)), (30, (.iload 6, 2)), (32, (.iconst 4, 1)), (33, (.if_icmp .ge 7, 3)), (36, (.iload_n 1, 1)), (37, (.goto 39, 3)), (40, (.iload 6, 2)), (42, (.bipush 8, 2)), (44, (.if_icmp .ge 7, 3)), (47, (.iload_n 2, 1)), (48, (.goto 28, 3)), (51, (.iload 6, 2)), (53, (.bipush 12, 2)), (55, (.if_icmp .ge 7, 3)), (58, (.iload_n 3, 1)), (59, (.goto 17, 3)), (62, (.iload 6, 2)), (64, (.bipush 16, 2)), (66, (.if_icmp .ge 8, 3)), (69, (.iload 4, 2)), (71, (.goto 5, 3)), (74, (.iload 5, 2)), (76, (.istore 7, 2)), (78, (.aload_n 0, 1)), (79, (.getfield 7, 3)), (82, (.aload_n 0, 1)), (83, (.getfield 59, 3)), (86, (.iload 7, 2)), (88, (.bipush 24, 2)), (90, (.bipush 8, 2)), (92, (.iload 6, 2)), (94, (.iconst 4, 1)), (95, (.irem, 1)), (96, (.imul, 1)), (97, (.isub, 1)), (98, (.ishr, 1)), (99, (.sipush 255, 3)), (102, (.iand, 1)), (103, (.iastore, 1)), (104, (.aload_n 0, 1)), (105, (.dup, 1)), (106, (.getfield 59, 3)), (109, (.iconst 1, 1)), (110, (.iadd, 1)), (111, (.putfield 59, 3)), (114, (.iinc 6 1, 3)), (117, (.goto (-94), 3)), (120, (.aload_n 0, 1)), (121, (.getfield 59, 3)), (124, (.ireturn, 1))] : List (Nat × (Instr × Nat))), decode cX10_feed q.1 = .ok q.2 := by decide +kernel
theorem dX10_feed_0 : decode cX10_feed 0 = .ok (.aload_n 0, 1) := dAX10_feed (0, (.aload_n 0, 1)) (List.mem_of_getElem? (i := 0) rfl)
theorem dX10_feed_1 : decode cX10_feed 1 = .ok (.iconst 0, 1) := dAX10_feed (1, (.iconst 0, 1)) (List.mem_of_getElem? (i := 1) rfl)
theorem dX10_feed_2 : decode cX10_feed 2 = .ok (.putfield 53, 3) := dAX10_feed (2, (.putfield 53, 3)) (List.mem_of_getElem? (i := 2) rfl)
theorem dX10_feed_5 : decode cX10_feed 5 = .ok (.aload_n 0, 1) := dAX10_feed (5, (.aload_n 0, 1)) (List.mem_of_getElem? (i := 3) rfl)
theorem dX10_feed_6 : decode cX10_feed 6 = .ok (.getfield 59, 3) := dAX10_feed (6, (.getfield 59, 3)) (List.mem_of_getElem? (i := 4) rfl)
theorem dX10_feed_9 : decode cX10_feed 9 = .ok (.bipush 20, 2) := dAX10_feed (9, (.bipush 20, 2)) (List.mem_of_getElem? (i := 5) rfl)
theorem dX10_feed_11 : decode cX10_feed 11 = .ok (.iadd, 1) := dAX10_feed (11, (.iadd, 1)) (List.mem_of_getElem? (i := 6) rfl)
theorem dX10_feed_12 : decode cX10_feed 12 = .ok (.sipush 800, 3) := dAX10_feed (12, (.sipush 800, 3)) (List.mem_of_getElem? (i := 7) rfl)
theorem dX10_feed_15 : decode cX10_feed 15 = .ok (.if_icmp .le 5, 3) := dAX10_feed (15, (.if_icmp .le 5, 3)) (List.mem_of_getElem? (i := 8) rfl)
theorem dX10_feed_18 : decode cX10_feed 18 = .ok (.iconst (-1), 1) := dAX10_feed (18, (.iconst (-1), 1)) (List.mem_of_getElem? (i := 9) rfl)
theorem dX10_feed_19 : decode cX10_feed 19 = .ok (.ireturn, 1) := dAX10_feed (19, (.ireturn, 1)) (List.mem_of_getElem? (i := 10) rfl)
theorem dX10_feed_20 : decode cX10_feed 20 = .ok (.iconst 0, 1) := dAX10_feed (20, (.iconst 0, 1)) (List.mem_of_getElem? (i := 11) rfl)
theorem dX10_feed_21 : decode cX10_feed 21 = .ok (.istore 6, 2) := dAX10_feed (21, (.istore 6, 2)) (List.mem_of_getElem? (i := 12) rfl)
theorem dX10_feed_23 : decode cX10_feed 23 = .ok (.iload 6, 2) := dAX10_feed (23, (.iload 6, 2)) (List.mem_of_getElem? (i := 13) rfl)
theorem dX10_feed_25 : decode cX10_feed 25 = .ok (.bipush 20, 2) := dAX10_feed (25, (.bipush 20, 2)) (List.mem_of_getElem? (i := 14) rfl)
theorem dX10_feed_27 : decode cX10_feed 27 = .ok (.if_icmp .ge 93, 3) := dAX10_feed (27, (.if_icmp .ge 93, 3)) (List.mem_of_getElem? (i := 15) rfl)
theorem dX10_feed_30 : decode cX10_feed 30 = .ok (.iload 6, 2) := dAX10_feed (30, (.iload 6, 2)) (List.mem_of_getElem? (i := 16) rfl)
theorem dX10_feed_32 : decode cX10_feed 32 = .ok (.iconst 4, 1) := dAX10_feed (32, (.iconst 4, 1)) (List.mem_of_getElem? (i := 17) rfl)
theorem dX10_feed_33 : decode cX10_feed 33 = .ok (.if_icmp .ge 7, 3) := dAX10_feed (33, (.if_icmp .ge 7, 3)) (List.mem_of_getElem? (i := 18) rfl)
theorem dX10_feed_36 : decode cX10_feed 36 = .ok (.iload_n 1, 1) := dAX10_feed (36, (.iload_n 1, 1)) (List.mem_of_getElem? (i := 19) rfl)
theorem dX10_feed_37 : decode cX10_feed 37 = .ok (.goto 39, 3) := dAX10_feed (37, (.goto 39, 3)) (List.mem_of_getElem? (i := 20) rfl)
theorem dX10_feed_40 : decode cX10_feed 40 = .ok (.iload 6, 2) := dAX10_feed (40, (.iload 6, 2)) (List.mem_of_getElem? (i := 21) rfl)
theorem dX10_feed_42 : decode cX10_feed 42 = .ok (.bipush 8, 2) := dAX10_feed (42, (.bipush 8, 2)) (List.mem_of_getElem? (i := 22) rfl)
theorem dX10_feed_44 : decode cX10_feed 44 = .ok (.if_icmp .ge 7, 3) := dAX10_feed (44, (.if_icmp .ge 7, 3)) (List.mem_of_getElem? (i := 23) rfl)
theorem dX10_feed_47 : decode cX10_feed 47 = .ok (.iload_n 2, 1) := dAX10_feed (47, (.iload_n 2, 1)) (List.mem_of_getElem? (i := 24) rfl)
theorem dX10_feed_48 : decode cX10_feed 48 = .ok (.goto 28, 3) := dAX10_feed (48, (.goto 28, 3)) (List.mem_of_getElem? (i := 25) rfl)
theorem dX10_feed_51 : decode cX10_feed 51 = .ok (.iload 6, 2) := dAX10_feed (51, (.iload 6, 2)) (List.mem_of_getElem? (i := 26) rfl)
theorem dX10_feed_53 : decode cX10_feed 53 = .ok (.bipush 12, 2) := dAX10_feed (53, (.bipush 12, 2)) (List.mem_of_getElem? (i := 27) rfl)
theorem dX10_feed_55 : decode cX10_feed 55 = .ok (.if_icmp .ge 7, 3) := dAX10_feed (55, (.if_icmp .ge 7, 3)) (List.mem_of_getElem? (i := 28) rfl)
theorem dX10_feed_58 : decode cX10_feed 58 = .ok (.iload_n 3, 1) := dAX10_feed (58, (.iload_n 3, 1)) (List.mem_of_getElem? (i := 29) rfl)
theorem dX10_feed_59 : decode cX10_feed 59 = .ok (.goto 17, 3) := dAX10_feed (59, (.goto 17, 3)) (List.mem_of_getElem? (i := 30) rfl)
theorem dX10_feed_62 : decode cX10_feed 62 = .ok (.iload 6, 2) := dAX10_feed (62, (.iload 6, 2)) (List.mem_of_getElem? (i := 31) rfl)
theorem dX10_feed_64 : decode cX10_feed 64 = .ok (.bipush 16, 2) := dAX10_feed (64, (.bipush 16, 2)) (List.mem_of_getElem? (i := 32) rfl)
theorem dX10_feed_66 : decode cX10_feed 66 = .ok (.if_icmp .ge 8, 3) := dAX10_feed (66, (.if_icmp .ge 8, 3)) (List.mem_of_getElem? (i := 33) rfl)
theorem dX10_feed_69 : decode cX10_feed 69 = .ok (.iload 4, 2) := dAX10_feed (69, (.iload 4, 2)) (List.mem_of_getElem? (i := 34) rfl)
theorem dX10_feed_71 : decode cX10_feed 71 = .ok (.goto 5, 3) := dAX10_feed (71, (.goto 5, 3)) (List.mem_of_getElem? (i := 35) rfl)
theorem dX10_feed_74 : decode cX10_feed 74 = .ok (.iload 5, 2) := dAX10_feed (74, (.iload 5, 2)) (List.mem_of_getElem? (i := 36) rfl)
theorem dX10_feed_76 : decode cX10_feed 76 = .ok (.istore 7, 2) := dAX10_feed (76, (.istore 7, 2)) (List.mem_of_getElem? (i := 37) rfl)
theorem dX10_feed_78 : decode cX10_feed 78 = .ok (.aload_n 0, 1) := dAX10_feed (78, (.aload_n 0, 1)) (List.mem_of_getElem? (i := 38) rfl)
theorem dX10_feed_79 : decode cX10_feed 79 = .ok (.getfield 7, 3) := dAX10_feed (79, (.getfield 7, 3)) (List.mem_of_getElem? (i := 39) rfl)
theorem dX10_feed_82 : decode cX10_feed 82 = .ok (.aload_n 0, 1) := dAX10_feed (82, (.aload_n 0, 1)) (List.mem_of_getElem? (i := 40) rfl)
theorem dX10_feed_83 : decode cX10_feed 83 = .ok (.getfield 59, 3) := dAX10_feed (83, (.getfield 59, 3)) (List.mem_of_getElem? (i := 41) rfl)
theorem dX10_feed_86 : decode cX10_feed 86 = .ok (.iload 7, 2) := dAX10_feed (86, (.iload 7, 2)) (List.mem_of_getElem? (i := 42) rfl)
theorem dX10_feed_88 : decode cX10_feed 88 = .ok (.bipush 24, 2) := dAX10_feed (88, (.bipush 24, 2)) (List.mem_of_getElem? (i := 43) rfl)
theorem dX10_feed_90 : decode cX10_feed 90 = .ok (.bipush 8, 2) := dAX10_feed (90, (.bipush 8, 2)) (List.mem_of_getElem? (i := 44) rfl)
theorem dX10_feed_92 : decode cX10_feed 92 = .ok (.iload 6, 2) := dAX10_feed (92, (.iload 6, 2)) (List.mem_of_getElem? (i := 45) rfl)
theorem dX10_feed_94 : decode cX10_feed 94 = .ok (.iconst 4, 1) := dAX10_feed (94, (.iconst 4, 1)) (List.mem_of_getElem? (i := 46) rfl)
theorem dX10_feed_95 : decode cX10_feed 95 = .ok (.irem, 1) := dAX10_feed (95, (.irem, 1)) (List.mem_of_getElem? (i := 47) rfl)
theorem dX10_feed_96 : decode cX10_feed 96 = .ok (.imul, 1) := dAX10_feed (96, (.imul, 1)) (List.mem_of_getElem? (i := 48) rfl)
theorem dX10_feed_97 : decode cX10_feed 97 = .ok (.isub, 1) := dAX10_feed (97, (.isub, 1)) (List.mem_of_getElem? (i := 49) rfl)
theorem dX10_feed_98 : decode cX10_feed 98 = .ok (.ishr, 1) := dAX10_feed (98, (.ishr, 1)) (List.mem_of_getElem? (i := 50) rfl)
theorem dX10_feed_99 : decode cX10_feed 99 = .ok (.sipush 255, 3) := dAX10_feed (99, (.sipush 255, 3)) (List.mem_of_getElem? (i := 51) rfl)
theorem dX10_feed_102 : decode cX10_feed 102 = .ok (.iand, 1) := dAX10_feed (102, (.iand, 1)) (List.mem_of_getElem? (i := 52) rfl)
theorem dX10_feed_103 : decode cX10_feed 103 = .ok (.iastore, 1) := dAX10_feed (103, (.iastore, 1)) (List.mem_of_getElem? (i := 53) rfl)
theorem dX10_feed_104 : decode cX10_feed 104 = .ok (.aload_n 0, 1) := dAX10_feed (104, (.aload_n 0, 1)) (List.mem_of_getElem? (i := 54) rfl)
theorem dX10_feed_105 : decode cX10_feed 105 = .ok (.dup, 1) := dAX10_feed (105, (.dup, 1)) (List.mem_of_getElem? (i := 55) rfl)
theorem dX10_feed_106 : decode cX10_feed 106 = .ok (.getfield 59, 3) := dAX10_feed (106, (.getfield 59, 3)) (List.mem_of_getElem? (i := 56) rfl)
theorem dX10_feed_109 : decode cX10_feed 109 = .ok (.iconst 1, 1) := dAX10_feed (109, (.iconst 1, 1)) (List.mem_of_getElem? (i := 57) rfl)
theorem dX10_feed_110 : decode cX10_feed 110 = .ok (.iadd, 1) := dAX10_feed (110, (.iadd, 1)) (List.mem_of_getElem? (i := 58) rfl)
theorem dX10_feed_111 : decode cX10_feed 111 = .ok (.putfield 59, 3) := dAX10_feed (111, (.putfield 59, 3)) (List.mem_of_getElem? (i := 59) rfl)
theorem dX10_feed_114 : decode cX10_feed 114 = .ok (.iinc 6 1, 3) := dAX10_feed (114, (.iinc 6 1, 3)) (List.mem_of_getElem? (i := 60) rfl)
theorem dX10_feed_117 : decode cX10_feed 117 = .ok (.goto (-94), 3) := dAX10_feed (117, (.goto (-94), 3)) (List.mem_of_getElem? (i := 61) rfl)
theorem dX10_feed_120 : decode cX10_feed 120 = .ok (.aload_n 0, 1) := dAX10_feed (120, (.aload_n 0, 1)) (List.mem_of_getElem? (i := 62) rfl)
theorem dX10_feed_121 : decode cX10_feed 121 = .ok (.getfield 59, 3) := dAX10_feed (121, (.getfield 59, 3)) (List.mem_of_getElem? (i := 63) rfl)
theorem dX10_feed_124 : decode cX10_feed 124 = .ok (.ireturn, 1) := dAX10_feed (124, (.ireturn, 1)) (List.mem_of_getElem? (i := 64) rfl)
theorem kX10_feed_53 : Cond.fieldLink RX10 53 "EveningVowModel" "thrown" "I" ∈ wsX10_feed := List.mem_of_getElem? (i := 1) rfl
theorem iX10_feed_X10 : ∀ w ∈ u_ws RX10 TX10 35, w ∈ wsX10_feed := fun w h => (List.mem_cons_of_mem _ (List.mem_append_right _ h))
theorem kX10_feed_59 : Cond.fieldLink RX10 59 "EveningVowModel" "taped" "I" ∈ wsX10_feed := List.mem_of_getElem? (i := 2) rfl
theorem kX10_feed_7 : Cond.fieldLink RX10 7 "EveningVowModel" "tape" "[I" ∈ wsX10_feed := List.mem_of_getElem? (i := 3) rfl
set_option maxHeartbeats 4000000 in
set_option maxRecDepth 100000 in
theorem wX10_feed_L23 {p : Program} {l : Launch} {e : Env} {s : State} {m : MethodId} {args : Array Value} {below : List Frame} {meth : Method} {c : Code} {g : GG} {A : Nat → Prop} (C0 : Cx p s m args meth c cX10_feed 8 (some .int) RX10 wsX10_feed g A) (a_t : Nat) (p_t : Nat → Nat) (n : Nat) (x1 : Int32) (x2 : Int32) (x3 : Int32) (x4 : Int32) (x5 : Int32)  (r : Int32) (o_t' : Nat → Int32) (f_t_1' : Nat → Int32) (K : (Nat → Int32) → (Nat → Int32) → Option (Int32 × (Nat → Int32) × (Nat → Int32))) (hKx : ∀ (o_t : Nat → Int32) (f_t_1 : Nat → Int32) (H : Heap) (locs : List Loc) (ls : Array Slot), K o_t f_t_1 = some (r, o_t', f_t_1') → va_P g.1 vwCl [oX10 a_t p_t o_t, aI g (p_t 1) 800 f_t_1] H → va_D A [oX10 a_t p_t o_t, aI g (p_t 1) 800 f_t_1] → va_S A s.heap H locs → lv_has ls 8 [(0, .ref a_t)] → W p l e ({ frames := 0, cells := 0, slots := 0, locals := 0 } : Room) s m args below meth c H locs 0 0 (MQ below (EndI g r [oX10 a_t p_t o_t', aI g (p_t 1) 800 f_t_1'] A) args s 0 0 A) (F0 m 120 ls [])) : ∀ (k : Nat) (x6 : Int32) (o_t : Nat → Int32) (f_t_1 : Nat → Int32), fX10_feed_L23 n x1 x2 x3 x4 x5 K k x6 o_t f_t_1 = some (r, o_t', f_t_1') → ∀ (H : Heap) (locs : List Loc) (ls : Array Slot), va_P g.1 vwCl [oX10 a_t p_t o_t, aI g (p_t 1) 800 f_t_1] H → va_D A [oX10 a_t p_t o_t, aI g (p_t 1) 800 f_t_1] → va_S A s.heap H locs → lv_has ls 8 [(0, .ref a_t), (1, .int x1), (2, .int x2), (3, .int x3), (4, .int x4), (5, .int x5), (6, .int x6)] → W p l e ({ frames := 0, cells := 0, slots := 0, locals := 0 } : Room) s m args below meth c H locs 0 0 (MQ below (EndI g r [oX10 a_t p_t o_t', aI g (p_t 1) 800 f_t_1'] A) args s 0 0 A) (F0 m 23 ls []) := by
  obtain ⟨hx, hb, hml, hown, hts, hr, hlk, hK, hA, hSW⟩ := id C0
  intro k
  induction k with
  | zero =>
    intro x6 o_t f_t_1 hF
    exact absurd hF (by simp [fX10_feed_L23])
  | succ k ih =>
    intro x6 o_t f_t_1 hF H locs ls hP hD hS hl
    rw [fX10_feed_L23] at hF
    refine lv_iload hx hb dX10_feed_23 (lv_at hl 6 rfl) ?_
    refine lv_bipush (v := (20 : Int32)) hx hb dX10_feed_25 (by decide) ?_
    refine lv_icmp_ge (tgt := 120) hx hb dX10_feed_27 (by decide) (fun c_2 => ?_) (fun c_2 => ?_)
    · have hF := it_p c_2 hF
      exact hKx o_t f_t_1 _ _ _ hF (hP.sub [0, 1] rfl) (hD.sub [0, 1] rfl rfl) hS (lv_sub hl [0] rfl)
    · have hF := it_n c_2 hF
      refine lv_iload hx hb dX10_feed_30 (lv_at hl 6 rfl) ?_
      refine lv_iconst (v := (4 : Int32)) hx hb dX10_feed_32 (by decide) ?_
      obtain ⟨J76, eJ76, hF⟩ := jn_some hF
      have hJ76 : ∀ (s0_76 : Int32) (H : Heap) (locs : List Loc) (ls : Array Slot), J76 s0_76 = some (r, o_t', f_t_1') → va_P g.1 vwCl [oX10 a_t p_t o_t, aI g (p_t 1) 800 f_t_1] H → va_D A [oX10 a_t p_t o_t, aI g (p_t 1) 800 f_t_1] → va_S A s.heap H locs → lv_has ls 8 [(0, .ref a_t), (1, .int x1), (2, .int x2), (3, .int x3), (4, .int x4), (5, .int x5), (6, .int x6)] → W p l e ({ frames := 0, cells := 0, slots := 0, locals := 0 } : Room) s m args below meth c H locs 0 0 (MQ below (EndI g r [oX10 a_t p_t o_t', aI g (p_t 1) 800 f_t_1'] A) args s 0 0 A) (F0 m 76 ls [.int s0_76]) := by
        intro s0_76 H locs ls hF hP hD hS hl
        have hF := jj1 eJ76 hF
        refine lv_istore (lv' := [(7, .int s0_76), (0, .ref a_t), (1, .int x1), (2, .int x2), (3, .int x3), (4, .int x4), (5, .int x5), (6, .int x6)]) hx hb dX10_feed_76 hl (by decide) rfl (fun ls hl => ?_)
        refine lv_aload_n hx hb dX10_feed_78 rfl (lv_at hl 1 rfl) ?_
        refine va_get (D := g.1) (ci := 10) (v := .ref (p_t 1)) (C := RX10) (T := TX10) (N := 35) hx hb hts iX10_feed_X10 hown hK.1 hP 0 rfl rfl 1 (by decide) (hts _ kX10_feed_7) (fun _ h9 => h9) rfl dX10_feed_79 ?_
        refine lv_aload_n hx hb dX10_feed_82 rfl (lv_at hl 1 rfl) ?_
        refine va_get (D := g.1) (ci := 10) (v := .int (o_t 2)) (C := RX10) (T := TX10) (N := 35) hx hb hts iX10_feed_X10 hown hK.1 hP 0 rfl rfl 2 (by decide) (hts _ kX10_feed_59) (fun _ h9 => h9) rfl dX10_feed_83 ?_
        refine lv_iload hx hb dX10_feed_86 (lv_at hl 0 rfl) ?_
        refine lv_bipush (v := (24 : Int32)) hx hb dX10_feed_88 (by decide) ?_
        refine lv_bipush (v := (8 : Int32)) hx hb dX10_feed_90 (by decide) ?_
        refine lv_iload hx hb dX10_feed_92 (lv_at hl 7 rfl) ?_
        refine lv_iconst (v := (4 : Int32)) hx hb dX10_feed_94 (by decide) ?_
        refine lv_irem hx hb dX10_feed_95 (by decide) ?_
        refine lv_imul hx hb dX10_feed_96 ?_
        refine lv_isub hx hb dX10_feed_97 ?_
        refine lv_ishr hx hb dX10_feed_98 ?_
        refine lv_sipush (v := (255 : Int32)) hx hb dX10_feed_99 (by decide) ?_
        refine lv_iand hx hb dX10_feed_102 ?_
        obtain ⟨h_3, hF⟩ := it_ck hF
        refine va_iast hx hb hK.1 hP hD hS 1 0 rfl rfl h_3 dX10_feed_103 (fun H locs hP hD hS => ?_)
        have hP : va_P g.1 vwCl [oX10 a_t p_t o_t, aI g (p_t 1) 800 (upd f_t_1 ((o_t 2)).toNatClampNeg ((s0_76 >>> (((24 : Int32) - ((8 : Int32) * (x6 - x6 / (4 : Int32) * (4 : Int32)))) &&& 31)) &&& (255 : Int32)))] H := hP
        have hD : va_D A [oX10 a_t p_t o_t, aI g (p_t 1) 800 (upd f_t_1 ((o_t 2)).toNatClampNeg ((s0_76 >>> (((24 : Int32) - ((8 : Int32) * (x6 - x6 / (4 : Int32) * (4 : Int32)))) &&& 31)) &&& (255 : Int32)))] := hD
        refine lv_aload_n hx hb dX10_feed_104 rfl (lv_at hl 1 rfl) ?_
        refine lv_dup hx hb dX10_feed_105 rfl ?_
        refine va_get (D := g.1) (ci := 10) (v := .int (o_t 2)) (C := RX10) (T := TX10) (N := 35) hx hb hts iX10_feed_X10 hown hK.1 hP 0 rfl rfl 2 (by decide) (hts _ kX10_feed_59) (fun _ h9 => h9) rfl dX10_feed_106 ?_
        refine lv_iconst (v := (1 : Int32)) hx hb dX10_feed_109 (by decide) ?_
        refine lv_iadd hx hb dX10_feed_110 ?_
        refine va_put (D := g.1) (ci := 10) (v := .int ((o_t 2) + (1 : Int32))) (ty := .int) (C := RX10) (T := TX10) (N := 35) hx hb hts iX10_feed_X10 tyX10 tyX10_ok nmX10 hown hK.1 hP hD hS 0 rfl rfl 2 (by decide) (hts _ kX10_feed_59) (fun _ h9 => h9) rfl (by decide +kernel) rfl rfl (Nat.le_of_ble_eq_true rfl) dX10_feed_111 (fun H locs hP hD hS => ?_)
        have hP : va_P g.1 vwCl [oX10 a_t p_t (upd o_t 2 ((o_t 2) + (1 : Int32))), aI g (p_t 1) 800 (upd f_t_1 ((o_t 2)).toNatClampNeg ((s0_76 >>> (((24 : Int32) - ((8 : Int32) * (x6 - x6 / (4 : Int32) * (4 : Int32)))) &&& 31)) &&& (255 : Int32)))] H := hP
        have hD : va_D A [oX10 a_t p_t (upd o_t 2 ((o_t 2) + (1 : Int32))), aI g (p_t 1) 800 (upd f_t_1 ((o_t 2)).toNatClampNeg ((s0_76 >>> (((24 : Int32) - ((8 : Int32) * (x6 - x6 / (4 : Int32) * (4 : Int32)))) &&& 31)) &&& (255 : Int32)))] := hD
        refine lv_iinc (v := (x6 + (1 : Int32))) (lv' := [(6, .int (x6 + (1 : Int32))), (7, .int s0_76), (0, .ref a_t), (1, .int x1), (2, .int x2), (3, .int x3), (4, .int x4), (5, .int x5)]) hx hb dX10_feed_114 hl (k := 7) rfl rfl (by decide) rfl (fun ls hl => ?_)
        refine lv_goto (tgt := 23) hx hb dX10_feed_117 (by decide) ?_
        exact ih (x6 + (1 : Int32)) (upd o_t 2 ((o_t 2) + (1 : Int32))) (upd f_t_1 ((o_t 2)).toNatClampNeg ((s0_76 >>> (((24 : Int32) - ((8 : Int32) * (x6 - x6 / (4 : Int32) * (4 : Int32)))) &&& 31)) &&& (255 : Int32))) hF _ _ _ (hP.sub [0, 1] rfl) (hD.sub [0, 1] rfl rfl) hS (lv_sub hl [2, 3, 4, 5, 6, 7, 0] rfl)
      refine lv_icmp_ge (tgt := 40) hx hb dX10_feed_33 (by decide) (fun c_4 => ?_) (fun c_4 => ?_)
      · have hF := it_p c_4 hF
        refine lv_iload hx hb dX10_feed_40 (lv_at hl 6 rfl) ?_
        refine lv_bipush (v := (8 : Int32)) hx hb dX10_feed_42 (by decide) ?_
        refine lv_icmp_ge (tgt := 51) hx hb dX10_feed_44 (by decide) (fun c_5 => ?_) (fun c_5 => ?_)
        · have hF := it_p c_5 hF
          refine lv_iload hx hb dX10_feed_51 (lv_at hl 6 rfl) ?_
          refine lv_bipush (v := (12 : Int32)) hx hb dX10_feed_53 (by decide) ?_
          refine lv_icmp_ge (tgt := 62) hx hb dX10_feed_55 (by decide) (fun c_6 => ?_) (fun c_6 => ?_)
          · have hF := it_p c_6 hF
            refine lv_iload hx hb dX10_feed_62 (lv_at hl 6 rfl) ?_
            refine lv_bipush (v := (16 : Int32)) hx hb dX10_feed_64 (by decide) ?_
            refine lv_icmp_ge (tgt := 74) hx hb dX10_feed_66 (by decide) (fun c_7 => ?_) (fun c_7 => ?_)
            · have hF := it_p c_7 hF
              refine lv_iload hx hb dX10_feed_74 (lv_at hl 5 rfl) ?_
              exact hJ76 x5 _ _ _ hF (hP.sub [0, 1] rfl) (hD.sub [0, 1] rfl rfl) hS (lv_sub hl [0, 1, 2, 3, 4, 5, 6] rfl)
            · have hF := it_n c_7 hF
              refine lv_iload hx hb dX10_feed_69 (lv_at hl 4 rfl) ?_
              refine lv_goto (tgt := 76) hx hb dX10_feed_71 (by decide) ?_
              exact hJ76 x4 _ _ _ hF (hP.sub [0, 1] rfl) (hD.sub [0, 1] rfl rfl) hS (lv_sub hl [0, 1, 2, 3, 4, 5, 6] rfl)
          · have hF := it_n c_6 hF
            refine lv_iload_n hx hb dX10_feed_58 rfl (lv_at hl 3 rfl) ?_
            refine lv_goto (tgt := 76) hx hb dX10_feed_59 (by decide) ?_
            exact hJ76 x3 _ _ _ hF (hP.sub [0, 1] rfl) (hD.sub [0, 1] rfl rfl) hS (lv_sub hl [0, 1, 2, 3, 4, 5, 6] rfl)
        · have hF := it_n c_5 hF
          refine lv_iload_n hx hb dX10_feed_47 rfl (lv_at hl 2 rfl) ?_
          refine lv_goto (tgt := 76) hx hb dX10_feed_48 (by decide) ?_
          exact hJ76 x2 _ _ _ hF (hP.sub [0, 1] rfl) (hD.sub [0, 1] rfl rfl) hS (lv_sub hl [0, 1, 2, 3, 4, 5, 6] rfl)
      · have hF := it_n c_4 hF
        refine lv_iload_n hx hb dX10_feed_36 rfl (lv_at hl 1 rfl) ?_
        refine lv_goto (tgt := 76) hx hb dX10_feed_37 (by decide) ?_
        exact hJ76 x1 _ _ _ hF (hP.sub [0, 1] rfl) (hD.sub [0, 1] rfl rfl) hS (lv_sub hl [0, 1, 2, 3, 4, 5, 6] rfl)
set_option maxHeartbeats 4000000 in
set_option maxRecDepth 100000 in
theorem mX10_feed (l : Launch) (g : GG) (a_t : Nat) (p_t : Nat → Nat) (n : Nat) (x1 : Int32) (x2 : Int32) (x3 : Int32) (x4 : Int32) (x5 : Int32) (o_t : Nat → Int32) (f_t_1 : Nat → Int32) (r : Int32) (o_t' : Nat → Int32) (f_t_1' : Nat → Int32) (hF : fX10_feed n x1 x2 x3 x4 x5 o_t f_t_1 = some (r, o_t', f_t_1')) : MI l g yX10_feed wsX10_feed ({ frames := 0, cells := 0, slots := 0, locals := 0 } : Room) [.ref a_t, .int x1, .int x2, .int x3, .int x4, .int x5] [oX10 a_t p_t o_t, aI g (p_t 1) 800 f_t_1] r [oX10 a_t p_t o_t', aI g (p_t 1) 800 f_t_1'] := by
  refine MI.of (cc := cX10_feed) (maxL := 8) (rt := .int) (own := RX10) rfl rfl (by decide) (Nat.le_of_ble_eq_true rfl) ?_
  intro p e s m args below meth c A C0 hP hD hS ls hl
  obtain ⟨hx, hb, hml, hown, hts, hr, hlk, hK, hA, hSW⟩ := id C0
  have hl : lv_has ls 8 [(0, .ref a_t), (1, .int x1), (2, .int x2), (3, .int x3), (4, .int x4), (5, .int x5)] := hl
  rw [fX10_feed] at hF
  refine lv_aload_n hx hb dX10_feed_0 rfl (lv_at hl 0 rfl) ?_
  refine lv_iconst (v := (0 : Int32)) hx hb dX10_feed_1 (by decide) ?_
  refine va_put (D := g.1) (ci := 10) (v := .int (0 : Int32)) (ty := .int) (C := RX10) (T := TX10) (N := 35) hx hb hts iX10_feed_X10 tyX10 tyX10_ok nmX10 hown hK.1 hP hD hS 0 rfl rfl 0 (by decide) (hts _ kX10_feed_53) (fun _ h9 => h9) rfl (by decide +kernel) rfl rfl (Nat.le_of_ble_eq_true rfl) dX10_feed_2 (fun H locs hP hD hS => ?_)
  have hP : va_P g.1 vwCl [oX10 a_t p_t (upd o_t 0 (0 : Int32)), aI g (p_t 1) 800 f_t_1] H := hP
  have hD : va_D A [oX10 a_t p_t (upd o_t 0 (0 : Int32)), aI g (p_t 1) 800 f_t_1] := hD
  refine lv_aload_n hx hb dX10_feed_5 rfl (lv_at hl 0 rfl) ?_
  refine va_get (D := g.1) (ci := 10) (v := .int (o_t 2)) (C := RX10) (T := TX10) (N := 35) hx hb hts iX10_feed_X10 hown hK.1 hP 0 rfl rfl 2 (by decide) (hts _ kX10_feed_59) (fun _ h9 => h9) rfl dX10_feed_6 ?_
  refine lv_bipush (v := (20 : Int32)) hx hb dX10_feed_9 (by decide) ?_
  refine lv_iadd hx hb dX10_feed_11 ?_
  refine lv_sipush (v := (800 : Int32)) hx hb dX10_feed_12 (by decide) ?_
  refine lv_icmp_le (tgt := 20) hx hb dX10_feed_15 (by decide) (fun c_1 => ?_) (fun c_1 => ?_)
  · have hF := it_p c_1 hF
    refine lv_iconst (v := (0 : Int32)) hx hb dX10_feed_20 (by decide) ?_
    refine lv_istore (lv' := [(6, .int (0 : Int32)), (0, .ref a_t), (1, .int x1), (2, .int x2), (3, .int x3), (4, .int x4), (5, .int x5)]) hx hb dX10_feed_21 hl (by decide) rfl (fun ls hl => ?_)
    refine wX10_feed_L23 C0 a_t p_t n x1 x2 x3 x4 x5 r o_t' f_t_1' _ ?_ n (0 : Int32) (upd o_t 0 (0 : Int32)) f_t_1 hF _ _ _ (hP.sub [0, 1] rfl) (hD.sub [0, 1] rfl rfl) hS (lv_sub hl [1, 2, 3, 4, 5, 6, 0] rfl)
    · intro o_t_x23 f_t_1_x23 H locs ls hF hP hD hS hl
      refine lv_aload_n hx hb dX10_feed_120 rfl (lv_at hl 0 rfl) ?_
      refine va_get (D := g.1) (ci := 10) (v := .int (o_t_x23 2)) (C := RX10) (T := TX10) (N := 35) hx hb hts iX10_feed_X10 hown hK.1 hP 0 rfl rfl 2 (by decide) (hts _ kX10_feed_59) (fun _ h9 => h9) rfl dX10_feed_121 ?_
      cases hF
      exact ret_i C0 hP hD hS [0, 1] rfl rfl rfl dX10_feed_124 rfl
  · have hF := it_n c_1 hF
    refine lv_iconst (v := (-1 : Int32)) hx hb dX10_feed_18 (by decide) ?_
    cases hF
    exact ret_i C0 hP hD hS [0, 1] rfl rfl rfl dX10_feed_19 rfl

theorem dAX10_look : ∀ q ∈ ([(0, (.iload_n 1, 1)), (1, (.aload_n 0, 1)), (2, (.getfield 62, 3)), (5, (.if_icmp .ge 12, 3)), (8, (.aload_n 0, 1)), (9, (.getfield 7, 3)), (12, (.iload_n 1, 1)), (13, (.iaload, 1)), (14, (.goto 4, 3)), (17, (.iconst (-1), 1)), (18, (.ireturn, 1))] : List (Nat × (Instr × Nat))), decode cX10_look q.1 = .ok q.2 := by decide +kernel
theorem dX10_look_0 : decode cX10_look 0 = .ok (.iload_n 1, 1) := dAX10_look (0, (.iload_n 1, 1)) (List.mem_of_getElem? (i := 0) rfl)
theorem dX10_look_1 : decode cX10_look 1 = .ok (.aload_n 0, 1) := dAX10_look (1, (.aload_n 0, 1)) (List.mem_of_getElem? (i := 1) rfl)
theorem dX10_look_2 : decode cX10_look 2 = .ok (.getfield 62, 3) := dAX10_look (2, (.getfield 62, 3)) (List.mem_of_getElem? (i := 2) rfl)
theorem dX10_look_5 : decode cX10_look 5 = .ok (.if_icmp .ge 12, 3) := dAX10_look (5, (.if_icmp .ge 12, 3)) (List.mem_of_getElem? (i := 3) rfl)
theorem dX10_look_8 : decode cX10_look 8 = .ok (.aload_n 0, 1) := dAX10_look (8, (.aload_n 0, 1)) (List.mem_of_getElem? (i := 4) rfl)
theorem dX10_look_9 : decode cX10_look 9 = .ok (.getfield 7, 3) := dAX10_look (9, (.getfield 7, 3)) (List.mem_of_getElem? (i := 5) rfl)
theorem dX10_look_12 : decode cX10_look 12 = .ok (.iload_n 1, 1) := dAX10_look (12, (.iload_n 1, 1)) (List.mem_of_getElem? (i := 6) rfl)
theorem dX10_look_13 : decode cX10_look 13 = .ok (.iaload, 1) := dAX10_look (13, (.iaload, 1)) (List.mem_of_getElem? (i := 7) rfl)
theorem dX10_look_14 : decode cX10_look 14 = .ok (.goto 4, 3) := dAX10_look (14, (.goto 4, 3)) (List.mem_of_getElem? (i := 8) rfl)
theorem dX10_look_17 : decode cX10_look 17 = .ok (.iconst (-1), 1) := dAX10_look (17, (.iconst (-1), 1)) (List.mem_of_getElem? (i := 9) rfl)
theorem dX10_look_18 : decode cX10_look 18 = .ok (.ireturn, 1) := dAX10_look (18, (.ireturn, 1)) (List.mem_of_getElem? (i := 10) rfl)
theorem kX10_look_62 : Cond.fieldLink RX10 62 "EveningVowModel" "size" "I" ∈ wsX10_look := List.mem_of_getElem? (i := 1) rfl
theorem iX10_look_X10 : ∀ w ∈ u_ws RX10 TX10 35, w ∈ wsX10_look := fun w h => (List.mem_cons_of_mem _ (List.mem_append_right _ h))
theorem kX10_look_7 : Cond.fieldLink RX10 7 "EveningVowModel" "tape" "[I" ∈ wsX10_look := List.mem_of_getElem? (i := 2) rfl
set_option maxHeartbeats 4000000 in
set_option maxRecDepth 100000 in
theorem mX10_look (l : Launch) (g : GG) (a_t : Nat) (p_t : Nat → Nat) (n : Nat) (x1 : Int32) (o_t : Nat → Int32) (f_t_1 : Nat → Int32) (r : Int32) (hF : fX10_look n x1 o_t f_t_1 = some (r)) : MI l g yX10_look wsX10_look ({ frames := 0, cells := 0, slots := 0, locals := 0 } : Room) [.ref a_t, .int x1] [oX10 a_t p_t o_t, aI g (p_t 1) 800 f_t_1] r [oX10 a_t p_t o_t, aI g (p_t 1) 800 f_t_1] := by
  refine MI.of (cc := cX10_look) (maxL := 2) (rt := .int) (own := RX10) rfl rfl (by decide) (Nat.le_of_ble_eq_true rfl) ?_
  intro p e s m args below meth c A C0 hP hD hS ls hl
  obtain ⟨hx, hb, hml, hown, hts, hr, hlk, hK, hA, hSW⟩ := id C0
  have hl : lv_has ls 2 [(0, .ref a_t), (1, .int x1)] := hl
  rw [fX10_look] at hF
  refine lv_iload_n hx hb dX10_look_0 rfl (lv_at hl 1 rfl) ?_
  refine lv_aload_n hx hb dX10_look_1 rfl (lv_at hl 0 rfl) ?_
  refine va_get (D := g.1) (ci := 10) (v := .int (o_t 3)) (C := RX10) (T := TX10) (N := 35) hx hb hts iX10_look_X10 hown hK.1 hP 0 rfl rfl 3 (by decide) (hts _ kX10_look_62) (fun _ h9 => h9) rfl dX10_look_2 ?_
  refine lv_icmp_ge (tgt := 17) hx hb dX10_look_5 (by decide) (fun c_1 => ?_) (fun c_1 => ?_)
  · have hF := it_p c_1 hF
    refine lv_iconst (v := (-1 : Int32)) hx hb dX10_look_17 (by decide) ?_
    cases hF
    exact ret_i C0 hP hD hS [0, 1] rfl rfl rfl dX10_look_18 rfl
  · have hF := it_n c_1 hF
    refine lv_aload_n hx hb dX10_look_8 rfl (lv_at hl 0 rfl) ?_
    refine va_get (D := g.1) (ci := 10) (v := .ref (p_t 1)) (C := RX10) (T := TX10) (N := 35) hx hb hts iX10_look_X10 hown hK.1 hP 0 rfl rfl 1 (by decide) (hts _ kX10_look_7) (fun _ h9 => h9) rfl dX10_look_9 ?_
    refine lv_iload_n hx hb dX10_look_12 rfl (lv_at hl 1 rfl) ?_
    obtain ⟨h_2, hF⟩ := it_ck hF
    refine va_iald hx hb hK.1 hP 1 0 rfl rfl h_2 dX10_look_13 ?_
    refine lv_goto (tgt := 18) hx hb dX10_look_14 (by decide) ?_
    cases hF
    exact ret_i C0 hP hD hS [0, 1] rfl rfl rfl dX10_look_18 rfl

theorem dAX10_isSmall : ∀ q ∈ ([(0, (.iload_n 0, 1)), (1, (.bipush 97, 2)), (3, (.if_icmp .lt 13, 3)), (6, (.iload_n 0, 1)), (7, (.bipush 122, 2)), (9, (.if_icmp .gt 7, 3)), (12, (.iconst 1, 1)), (13, (.goto 4, 3)), (16, (.iconst 0, 1)), (17, (.ireturn, 1))] : List (Nat × (Instr × Nat))), decode cX10_isSmall q.1 = .ok q.2 := by decide +kernel
theorem dX10_isSmall_0 : decode cX10_isSmall 0 = .ok (.iload_n 0, 1) := dAX10_isSmall (0, (.iload_n 0, 1)) (List.mem_of_getElem? (i := 0) rfl)
theorem dX10_isSmall_1 : decode cX10_isSmall 1 = .ok (.bipush 97, 2) := dAX10_isSmall (1, (.bipush 97, 2)) (List.mem_of_getElem? (i := 1) rfl)
theorem dX10_isSmall_3 : decode cX10_isSmall 3 = .ok (.if_icmp .lt 13, 3) := dAX10_isSmall (3, (.if_icmp .lt 13, 3)) (List.mem_of_getElem? (i := 2) rfl)
theorem dX10_isSmall_6 : decode cX10_isSmall 6 = .ok (.iload_n 0, 1) := dAX10_isSmall (6, (.iload_n 0, 1)) (List.mem_of_getElem? (i := 3) rfl)
theorem dX10_isSmall_7 : decode cX10_isSmall 7 = .ok (.bipush 122, 2) := dAX10_isSmall (7, (.bipush 122, 2)) (List.mem_of_getElem? (i := 4) rfl)
theorem dX10_isSmall_9 : decode cX10_isSmall 9 = .ok (.if_icmp .gt 7, 3) := dAX10_isSmall (9, (.if_icmp .gt 7, 3)) (List.mem_of_getElem? (i := 5) rfl)
theorem dX10_isSmall_12 : decode cX10_isSmall 12 = .ok (.iconst 1, 1) := dAX10_isSmall (12, (.iconst 1, 1)) (List.mem_of_getElem? (i := 6) rfl)
theorem dX10_isSmall_13 : decode cX10_isSmall 13 = .ok (.goto 4, 3) := dAX10_isSmall (13, (.goto 4, 3)) (List.mem_of_getElem? (i := 7) rfl)
theorem dX10_isSmall_16 : decode cX10_isSmall 16 = .ok (.iconst 0, 1) := dAX10_isSmall (16, (.iconst 0, 1)) (List.mem_of_getElem? (i := 8) rfl)
theorem dX10_isSmall_17 : decode cX10_isSmall 17 = .ok (.ireturn, 1) := dAX10_isSmall (17, (.ireturn, 1)) (List.mem_of_getElem? (i := 9) rfl)
set_option maxHeartbeats 4000000 in
set_option maxRecDepth 100000 in
theorem mX10_isSmall (l : Launch) (g : GG)   (n : Nat) (x0 : Int32) (r : Int32) (hF : fX10_isSmall n x0 = some (r)) : MI l g yX10_isSmall wsX10_isSmall ({ frames := 0, cells := 0, slots := 0, locals := 0 } : Room) [.int x0] [] r [] := by
  refine MI.of (cc := cX10_isSmall) (maxL := 1) (rt := .boolean) (own := RX10) rfl rfl (by decide) (Nat.le_of_ble_eq_true rfl) ?_
  intro p e s m args below meth c A C0 hP hD hS ls hl
  obtain ⟨hx, hb, hml, hown, hts, hr, hlk, hK, hA, hSW⟩ := id C0
  have hl : lv_has ls 1 [(0, .int x0)] := hl
  rw [fX10_isSmall] at hF
  refine lv_iload_n hx hb dX10_isSmall_0 rfl (lv_at hl 0 rfl) ?_
  refine lv_bipush (v := (97 : Int32)) hx hb dX10_isSmall_1 (by decide) ?_
  refine lv_icmp_lt (tgt := 16) hx hb dX10_isSmall_3 (by decide) (fun c_1 => ?_) (fun c_1 => ?_)
  · have hF := it_p c_1 hF
    refine lv_iconst (v := (0 : Int32)) hx hb dX10_isSmall_16 (by decide) ?_
    cases hF
    exact ret_z C0 hP hD hS [] rfl rfl rfl dX10_isSmall_17 rfl rfl
  · have hF := it_n c_1 hF
    refine lv_iload_n hx hb dX10_isSmall_6 rfl (lv_at hl 0 rfl) ?_
    refine lv_bipush (v := (122 : Int32)) hx hb dX10_isSmall_7 (by decide) ?_
    refine lv_icmp_gt (tgt := 16) hx hb dX10_isSmall_9 (by decide) (fun c_2 => ?_) (fun c_2 => ?_)
    · have hF := it_p c_2 hF
      refine lv_iconst (v := (0 : Int32)) hx hb dX10_isSmall_16 (by decide) ?_
      cases hF
      exact ret_z C0 hP hD hS [] rfl rfl rfl dX10_isSmall_17 rfl rfl
    · have hF := it_n c_2 hF
      refine lv_iconst (v := (1 : Int32)) hx hb dX10_isSmall_12 (by decide) ?_
      refine lv_goto (tgt := 17) hx hb dX10_isSmall_13 (by decide) ?_
      cases hF
      exact ret_z C0 hP hD hS [] rfl rfl rfl dX10_isSmall_17 rfl rfl

theorem dAX10_isDigit : ∀ q ∈ ([(0, (.iload_n 0, 1)), (1, (.bipush 48, 2)), (3, (.if_icmp .lt 13, 3)), (6, (.iload_n 0, 1)), (7, (.bipush 57, 2)), (9, (.if_icmp .gt 7, 3)), (12, (.iconst 1, 1)), (13, (.goto 4, 3)), (16, (.iconst 0, 1)), (17, (.ireturn, 1))] : List (Nat × (Instr × Nat))), decode cX10_isDigit q.1 = .ok q.2 := by decide +kernel
theorem dX10_isDigit_0 : decode cX10_isDigit 0 = .ok (.iload_n 0, 1) := dAX10_isDigit (0, (.iload_n 0, 1)) (List.mem_of_getElem? (i := 0) rfl)
theorem dX10_isDigit_1 : decode cX10_isDigit 1 = .ok (.bipush 48, 2) := dAX10_isDigit (1, (.bipush 48, 2)) (List.mem_of_getElem? (i := 1) rfl)
theorem dX10_isDigit_3 : decode cX10_isDigit 3 = .ok (.if_icmp .lt 13, 3) := dAX10_isDigit (3, (.if_icmp .lt 13, 3)) (List.mem_of_getElem? (i := 2) rfl)
theorem dX10_isDigit_6 : decode cX10_isDigit 6 = .ok (.iload_n 0, 1) := dAX10_isDigit (6, (.iload_n 0, 1)) (List.mem_of_getElem? (i := 3) rfl)
theorem dX10_isDigit_7 : decode cX10_isDigit 7 = .ok (.bipush 57, 2) := dAX10_isDigit (7, (.bipush 57, 2)) (List.mem_of_getElem? (i := 4) rfl)
theorem dX10_isDigit_9 : decode cX10_isDigit 9 = .ok (.if_icmp .gt 7, 3) := dAX10_isDigit (9, (.if_icmp .gt 7, 3)) (List.mem_of_getElem? (i := 5) rfl)
theorem dX10_isDigit_12 : decode cX10_isDigit 12 = .ok (.iconst 1, 1) := dAX10_isDigit (12, (.iconst 1, 1)) (List.mem_of_getElem? (i := 6) rfl)
theorem dX10_isDigit_13 : decode cX10_isDigit 13 = .ok (.goto 4, 3) := dAX10_isDigit (13, (.goto 4, 3)) (List.mem_of_getElem? (i := 7) rfl)
theorem dX10_isDigit_16 : decode cX10_isDigit 16 = .ok (.iconst 0, 1) := dAX10_isDigit (16, (.iconst 0, 1)) (List.mem_of_getElem? (i := 8) rfl)
theorem dX10_isDigit_17 : decode cX10_isDigit 17 = .ok (.ireturn, 1) := dAX10_isDigit (17, (.ireturn, 1)) (List.mem_of_getElem? (i := 9) rfl)
set_option maxHeartbeats 4000000 in
set_option maxRecDepth 100000 in
theorem mX10_isDigit (l : Launch) (g : GG)   (n : Nat) (x0 : Int32) (r : Int32) (hF : fX10_isDigit n x0 = some (r)) : MI l g yX10_isDigit wsX10_isDigit ({ frames := 0, cells := 0, slots := 0, locals := 0 } : Room) [.int x0] [] r [] := by
  refine MI.of (cc := cX10_isDigit) (maxL := 1) (rt := .boolean) (own := RX10) rfl rfl (by decide) (Nat.le_of_ble_eq_true rfl) ?_
  intro p e s m args below meth c A C0 hP hD hS ls hl
  obtain ⟨hx, hb, hml, hown, hts, hr, hlk, hK, hA, hSW⟩ := id C0
  have hl : lv_has ls 1 [(0, .int x0)] := hl
  rw [fX10_isDigit] at hF
  refine lv_iload_n hx hb dX10_isDigit_0 rfl (lv_at hl 0 rfl) ?_
  refine lv_bipush (v := (48 : Int32)) hx hb dX10_isDigit_1 (by decide) ?_
  refine lv_icmp_lt (tgt := 16) hx hb dX10_isDigit_3 (by decide) (fun c_1 => ?_) (fun c_1 => ?_)
  · have hF := it_p c_1 hF
    refine lv_iconst (v := (0 : Int32)) hx hb dX10_isDigit_16 (by decide) ?_
    cases hF
    exact ret_z C0 hP hD hS [] rfl rfl rfl dX10_isDigit_17 rfl rfl
  · have hF := it_n c_1 hF
    refine lv_iload_n hx hb dX10_isDigit_6 rfl (lv_at hl 0 rfl) ?_
    refine lv_bipush (v := (57 : Int32)) hx hb dX10_isDigit_7 (by decide) ?_
    refine lv_icmp_gt (tgt := 16) hx hb dX10_isDigit_9 (by decide) (fun c_2 => ?_) (fun c_2 => ?_)
    · have hF := it_p c_2 hF
      refine lv_iconst (v := (0 : Int32)) hx hb dX10_isDigit_16 (by decide) ?_
      cases hF
      exact ret_z C0 hP hD hS [] rfl rfl rfl dX10_isDigit_17 rfl rfl
    · have hF := it_n c_2 hF
      refine lv_iconst (v := (1 : Int32)) hx hb dX10_isDigit_12 (by decide) ?_
      refine lv_goto (tgt := 17) hx hb dX10_isDigit_13 (by decide) ?_
      cases hF
      exact ret_z C0 hP hD hS [] rfl rfl rfl dX10_isDigit_17 rfl rfl

theorem dAX10_next : ∀ q ∈ ([(0, (.aload_n 0, 1)), (1, (.getfield 65, 3)), (4, (.istore_n 1, 1)), (5, (.aload_n 0, 1)), (6, (.iload_n 1, 1)), (7, (.invokevirtual 68, 3)), (10, (.bipush 32, 2)), (12, (.if_icmp .ne 9, 3)), (15, (.iinc 1 1, 3)), (18, (.goto (-13), 3)), (21, (.aload_n 0, 1)), (22, (.iload_n 1, 1)), (23, (.putfield 72, 3)), (26, (.aload_n 0, 1)), (27, (.iload_n 1, 1)), (28, (.invokevirtual 68, 3)), (31, (.istore_n 2, 1)), (32, (.aload_n 0, 1)), (33, (.iconst 0, 1)), (34, (.putfield 75, 3)), (37, (.aload_n 0, 1)), (38, (.iconst 0, 1)), (39, (.putfield 78, 3)), (42, (.iload_n 2, 1)), (43, (.iconst (-1), 1)), (44, (.if_icmp .ne 16, 3)), (47, (.aload_n 0, 1)), (48, (.iconst 0, 1)), (49, (.putfield 81, 3)), (52, (.aload_n 0, 1)), (53, (.iload_n 1, 1)), (54, (.putfield 65, 3)), (57, (.goto 184, 3)), (60, (.iload_n 2, 1)), (61, (.invokestatic 84, 3)), (64, (.ifCond .eq 79, 3)), (67, (.aload_n 0, 1)), (68, (.iload_n 1, 1)), (69, (.invokevirtual 68, 3)), (72, (.invokestatic 84, 3)), (75, (.ifCond .eq 42, 3)), (78, (.aload_n 0, 1)), (79, (.getfield 75, 3)), (82, (.bipush 8, 2)), (84, (.if_icmp .ge 17, 3)), (87, (.aload_n 0, 1)), (88, (.getfield 17, 3)), (91, (.aload_n 0, 1)), (92, (.getfield 75, 3)), (95, (.aload_n 0, 1)), (96, (.iload_n 1, 1)), (97, (.invokevirtual 68, 3)), (100, (.iastore, 1)), (101, (.aload_n 0, 1)), (102, (.dup, 1)), (103, (.getfield 75, 3)), (106, (.iconst 1, 1)), (107, (.iadd, 1)), (108, (.putfield 75, 3)), (111, (.iinc 1 1, 3)), (114, (.goto (-47), 3)), (117, (.aload_n 0, 1)), (118, (.iload_n 1, 1)), (119, (.putfield 65, 3)), (122, (.aload_n 0, 1)), (123, (.aload_n 0, 1)), (124, (.getfield 75, 3)), (127, (.bipush 8, 2)), (129, (.if_icmp .le 7, 3)), (132, (.iconst 1, 1)), (133, (.goto 4, 3)), (136, (.iconst 2, 1)), (137, (.putfield 81, 3)), (140, (.goto 101, 3)), (143, (.iload_n 2, 1)), (144, (.invokestatic 88, 3)), (147, (.ifCond .eq 72, 3)), (150, (.iconst 0, 1)), (151, (.istore_n 3, 1)), (152, (.aload_n 0, 1)), (153, (.iload_n 1, 1)), (154, (.invokevirtual 68, 3)), (157, (.invokestatic 88, 3)), (160, (.ifCond .eq 37, 3)), (163, (.iload_n 3, 1)), (164, (.iconst 3, 1)), (165, (.if_icmp .ge 23, 3)), (168, (.aload_n 0, 1)), (169, (.bipush 10, 2)), (171, (.aload_n 0, 1)), (172, (.getfield 78, 3)), (175, (.imul, 1)), (176, (.aload_n 0, 1)), (177, (.iload_n 1, 1)), (178, (.invokevirtual 68, 3)), (181, (.iadd, 1)), (182, (.bipush 48, 2)), (184, (.isub, 1)), (185, (.putfield 78, 3)), (188, (.iinc 3 1, 3)), (191, (.iinc 1 1, 3)), (194, (.goto (-42), 3)), (197, (.aload_n 0, 1)), (198, (.iload_n 1, 1)), (199, (.putfield 65, 3)), (202, (.aload_n 0, 1)), (203, (.iload_n 3, 1)), (204, (.iconst 3, 1)), (205, (.if_icmp .le 7, 3)), (208, (.iconst 1, 1)), (209, (.goto 4, 3)), (212, (.iconst 3, 1)), (213, (.putfield 81, 3)), (216, (.goto 25, 3)), (219, (.aload_n 0, 1)), (220, (.iload_n 1, 1)), (221, (.iconst 1, 1)), (222, (.iadd, 1)), (223, (.putfield 65, 3)), (226, (.aload_n 0, 1)), (227, (.iload_n 2, 1)), (228, (.bipush 59, 2)), (230, (.if_icmp .ne 7, 3)), (233, (.iload_n 2, 1)), (234, (.goto 4, 3)), (237, (.iconst 1, 1)), (238, (.putfield 81, 3)), (241, (.return_, 1))] : List (Nat × (Instr × Nat))), decode cX10_next q.1 = .ok q.2 := by decide +kernel
theorem dX10_next_0 : decode cX10_next 0 = .ok (.aload_n 0, 1) := dAX10_next (0, (.aload_n 0, 1)) (List.mem_of_getElem? (i := 0) rfl)
theorem dX10_next_1 : decode cX10_next 1 = .ok (.getfield 65, 3) := dAX10_next (1, (.getfield 65, 3)) (List.mem_of_getElem? (i := 1) rfl)
theorem dX10_next_4 : decode cX10_next 4 = .ok (.istore_n 1, 1) := dAX10_next (4, (.istore_n 1, 1)) (List.mem_of_getElem? (i := 2) rfl)
theorem dX10_next_5 : decode cX10_next 5 = .ok (.aload_n 0, 1) := dAX10_next (5, (.aload_n 0, 1)) (List.mem_of_getElem? (i := 3) rfl)
theorem dX10_next_6 : decode cX10_next 6 = .ok (.iload_n 1, 1) := dAX10_next (6, (.iload_n 1, 1)) (List.mem_of_getElem? (i := 4) rfl)
theorem dX10_next_7 : decode cX10_next 7 = .ok (.invokevirtual 68, 3) := dAX10_next (7, (.invokevirtual 68, 3)) (List.mem_of_getElem? (i := 5) rfl)
theorem dX10_next_10 : decode cX10_next 10 = .ok (.bipush 32, 2) := dAX10_next (10, (.bipush 32, 2)) (List.mem_of_getElem? (i := 6) rfl)
theorem dX10_next_12 : decode cX10_next 12 = .ok (.if_icmp .ne 9, 3) := dAX10_next (12, (.if_icmp .ne 9, 3)) (List.mem_of_getElem? (i := 7) rfl)
theorem dX10_next_15 : decode cX10_next 15 = .ok (.iinc 1 1, 3) := dAX10_next (15, (.iinc 1 1, 3)) (List.mem_of_getElem? (i := 8) rfl)
theorem dX10_next_18 : decode cX10_next 18 = .ok (.goto (-13), 3) := dAX10_next (18, (.goto (-13), 3)) (List.mem_of_getElem? (i := 9) rfl)
theorem dX10_next_21 : decode cX10_next 21 = .ok (.aload_n 0, 1) := dAX10_next (21, (.aload_n 0, 1)) (List.mem_of_getElem? (i := 10) rfl)
theorem dX10_next_22 : decode cX10_next 22 = .ok (.iload_n 1, 1) := dAX10_next (22, (.iload_n 1, 1)) (List.mem_of_getElem? (i := 11) rfl)
theorem dX10_next_23 : decode cX10_next 23 = .ok (.putfield 72, 3) := dAX10_next (23, (.putfield 72, 3)) (List.mem_of_getElem? (i := 12) rfl)
theorem dX10_next_26 : decode cX10_next 26 = .ok (.aload_n 0, 1) := dAX10_next (26, (.aload_n 0, 1)) (List.mem_of_getElem? (i := 13) rfl)
theorem dX10_next_27 : decode cX10_next 27 = .ok (.iload_n 1, 1) := dAX10_next (27, (.iload_n 1, 1)) (List.mem_of_getElem? (i := 14) rfl)
theorem dX10_next_28 : decode cX10_next 28 = .ok (.invokevirtual 68, 3) := dAX10_next (28, (.invokevirtual 68, 3)) (List.mem_of_getElem? (i := 15) rfl)
theorem dX10_next_31 : decode cX10_next 31 = .ok (.istore_n 2, 1) := dAX10_next (31, (.istore_n 2, 1)) (List.mem_of_getElem? (i := 16) rfl)
theorem dX10_next_32 : decode cX10_next 32 = .ok (.aload_n 0, 1) := dAX10_next (32, (.aload_n 0, 1)) (List.mem_of_getElem? (i := 17) rfl)
theorem dX10_next_33 : decode cX10_next 33 = .ok (.iconst 0, 1) := dAX10_next (33, (.iconst 0, 1)) (List.mem_of_getElem? (i := 18) rfl)
theorem dX10_next_34 : decode cX10_next 34 = .ok (.putfield 75, 3) := dAX10_next (34, (.putfield 75, 3)) (List.mem_of_getElem? (i := 19) rfl)
theorem dX10_next_37 : decode cX10_next 37 = .ok (.aload_n 0, 1) := dAX10_next (37, (.aload_n 0, 1)) (List.mem_of_getElem? (i := 20) rfl)
theorem dX10_next_38 : decode cX10_next 38 = .ok (.iconst 0, 1) := dAX10_next (38, (.iconst 0, 1)) (List.mem_of_getElem? (i := 21) rfl)
theorem dX10_next_39 : decode cX10_next 39 = .ok (.putfield 78, 3) := dAX10_next (39, (.putfield 78, 3)) (List.mem_of_getElem? (i := 22) rfl)
theorem dX10_next_42 : decode cX10_next 42 = .ok (.iload_n 2, 1) := dAX10_next (42, (.iload_n 2, 1)) (List.mem_of_getElem? (i := 23) rfl)
theorem dX10_next_43 : decode cX10_next 43 = .ok (.iconst (-1), 1) := dAX10_next (43, (.iconst (-1), 1)) (List.mem_of_getElem? (i := 24) rfl)
theorem dX10_next_44 : decode cX10_next 44 = .ok (.if_icmp .ne 16, 3) := dAX10_next (44, (.if_icmp .ne 16, 3)) (List.mem_of_getElem? (i := 25) rfl)
theorem dX10_next_47 : decode cX10_next 47 = .ok (.aload_n 0, 1) := dAX10_next (47, (.aload_n 0, 1)) (List.mem_of_getElem? (i := 26) rfl)
theorem dX10_next_48 : decode cX10_next 48 = .ok (.iconst 0, 1) := dAX10_next (48, (.iconst 0, 1)) (List.mem_of_getElem? (i := 27) rfl)
theorem dX10_next_49 : decode cX10_next 49 = .ok (.putfield 81, 3) := dAX10_next (49, (.putfield 81, 3)) (List.mem_of_getElem? (i := 28) rfl)
theorem dX10_next_52 : decode cX10_next 52 = .ok (.aload_n 0, 1) := dAX10_next (52, (.aload_n 0, 1)) (List.mem_of_getElem? (i := 29) rfl)
theorem dX10_next_53 : decode cX10_next 53 = .ok (.iload_n 1, 1) := dAX10_next (53, (.iload_n 1, 1)) (List.mem_of_getElem? (i := 30) rfl)
theorem dX10_next_54 : decode cX10_next 54 = .ok (.putfield 65, 3) := dAX10_next (54, (.putfield 65, 3)) (List.mem_of_getElem? (i := 31) rfl)
theorem dX10_next_57 : decode cX10_next 57 = .ok (.goto 184, 3) := dAX10_next (57, (.goto 184, 3)) (List.mem_of_getElem? (i := 32) rfl)
theorem dX10_next_60 : decode cX10_next 60 = .ok (.iload_n 2, 1) := dAX10_next (60, (.iload_n 2, 1)) (List.mem_of_getElem? (i := 33) rfl)
theorem dX10_next_61 : decode cX10_next 61 = .ok (.invokestatic 84, 3) := dAX10_next (61, (.invokestatic 84, 3)) (List.mem_of_getElem? (i := 34) rfl)
theorem dX10_next_64 : decode cX10_next 64 = .ok (.ifCond .eq 79, 3) := dAX10_next (64, (.ifCond .eq 79, 3)) (List.mem_of_getElem? (i := 35) rfl)
theorem dX10_next_67 : decode cX10_next 67 = .ok (.aload_n 0, 1) := dAX10_next (67, (.aload_n 0, 1)) (List.mem_of_getElem? (i := 36) rfl)
theorem dX10_next_68 : decode cX10_next 68 = .ok (.iload_n 1, 1) := dAX10_next (68, (.iload_n 1, 1)) (List.mem_of_getElem? (i := 37) rfl)
theorem dX10_next_69 : decode cX10_next 69 = .ok (.invokevirtual 68, 3) := dAX10_next (69, (.invokevirtual 68, 3)) (List.mem_of_getElem? (i := 38) rfl)
theorem dX10_next_72 : decode cX10_next 72 = .ok (.invokestatic 84, 3) := dAX10_next (72, (.invokestatic 84, 3)) (List.mem_of_getElem? (i := 39) rfl)
theorem dX10_next_75 : decode cX10_next 75 = .ok (.ifCond .eq 42, 3) := dAX10_next (75, (.ifCond .eq 42, 3)) (List.mem_of_getElem? (i := 40) rfl)
theorem dX10_next_78 : decode cX10_next 78 = .ok (.aload_n 0, 1) := dAX10_next (78, (.aload_n 0, 1)) (List.mem_of_getElem? (i := 41) rfl)
theorem dX10_next_79 : decode cX10_next 79 = .ok (.getfield 75, 3) := dAX10_next (79, (.getfield 75, 3)) (List.mem_of_getElem? (i := 42) rfl)
theorem dX10_next_82 : decode cX10_next 82 = .ok (.bipush 8, 2) := dAX10_next (82, (.bipush 8, 2)) (List.mem_of_getElem? (i := 43) rfl)
theorem dX10_next_84 : decode cX10_next 84 = .ok (.if_icmp .ge 17, 3) := dAX10_next (84, (.if_icmp .ge 17, 3)) (List.mem_of_getElem? (i := 44) rfl)
theorem dX10_next_87 : decode cX10_next 87 = .ok (.aload_n 0, 1) := dAX10_next (87, (.aload_n 0, 1)) (List.mem_of_getElem? (i := 45) rfl)
theorem dX10_next_88 : decode cX10_next 88 = .ok (.getfield 17, 3) := dAX10_next (88, (.getfield 17, 3)) (List.mem_of_getElem? (i := 46) rfl)
theorem dX10_next_91 : decode cX10_next 91 = .ok (.aload_n 0, 1) := dAX10_next (91, (.aload_n 0, 1)) (List.mem_of_getElem? (i := 47) rfl)
theorem dX10_next_92 : decode cX10_next 92 = .ok (.getfield 75, 3) := dAX10_next (92, (.getfield 75, 3)) (List.mem_of_getElem? (i := 48) rfl)
theorem dX10_next_95 : decode cX10_next 95 = .ok (.aload_n 0, 1) := dAX10_next (95, (.aload_n 0, 1)) (List.mem_of_getElem? (i := 49) rfl)
theorem dX10_next_96 : decode cX10_next 96 = .ok (.iload_n 1, 1) := dAX10_next (96, (.iload_n 1, 1)) (List.mem_of_getElem? (i := 50) rfl)
theorem dX10_next_97 : decode cX10_next 97 = .ok (.invokevirtual 68, 3) := dAX10_next (97, (.invokevirtual 68, 3)) (List.mem_of_getElem? (i := 51) rfl)
theorem dX10_next_100 : decode cX10_next 100 = .ok (.iastore, 1) := dAX10_next (100, (.iastore, 1)) (List.mem_of_getElem? (i := 52) rfl)
theorem dX10_next_101 : decode cX10_next 101 = .ok (.aload_n 0, 1) := dAX10_next (101, (.aload_n 0, 1)) (List.mem_of_getElem? (i := 53) rfl)
theorem dX10_next_102 : decode cX10_next 102 = .ok (.dup, 1) := dAX10_next (102, (.dup, 1)) (List.mem_of_getElem? (i := 54) rfl)
theorem dX10_next_103 : decode cX10_next 103 = .ok (.getfield 75, 3) := dAX10_next (103, (.getfield 75, 3)) (List.mem_of_getElem? (i := 55) rfl)
theorem dX10_next_106 : decode cX10_next 106 = .ok (.iconst 1, 1) := dAX10_next (106, (.iconst 1, 1)) (List.mem_of_getElem? (i := 56) rfl)
theorem dX10_next_107 : decode cX10_next 107 = .ok (.iadd, 1) := dAX10_next (107, (.iadd, 1)) (List.mem_of_getElem? (i := 57) rfl)
theorem dX10_next_108 : decode cX10_next 108 = .ok (.putfield 75, 3) := dAX10_next (108, (.putfield 75, 3)) (List.mem_of_getElem? (i := 58) rfl)
theorem dX10_next_111 : decode cX10_next 111 = .ok (.iinc 1 1, 3) := dAX10_next (111, (.iinc 1 1, 3)) (List.mem_of_getElem? (i := 59) rfl)
theorem dX10_next_114 : decode cX10_next 114 = .ok (.goto (-47), 3) := dAX10_next (114, (.goto (-47), 3)) (List.mem_of_getElem? (i := 60) rfl)
theorem dX10_next_117 : decode cX10_next 117 = .ok (.aload_n 0, 1) := dAX10_next (117, (.aload_n 0, 1)) (List.mem_of_getElem? (i := 61) rfl)
theorem dX10_next_118 : decode cX10_next 118 = .ok (.iload_n 1, 1) := dAX10_next (118, (.iload_n 1, 1)) (List.mem_of_getElem? (i := 62) rfl)
theorem dX10_next_119 : decode cX10_next 119 = .ok (.putfield 65, 3) := dAX10_next (119, (.putfield 65, 3)) (List.mem_of_getElem? (i := 63) rfl)
theorem dX10_next_122 : decode cX10_next 122 = .ok (.aload_n 0, 1) := dAX10_next (122, (.aload_n 0, 1)) (List.mem_of_getElem? (i := 64) rfl)
theorem dX10_next_123 : decode cX10_next 123 = .ok (.aload_n 0, 1) := dAX10_next (123, (.aload_n 0, 1)) (List.mem_of_getElem? (i := 65) rfl)
theorem dX10_next_124 : decode cX10_next 124 = .ok (.getfield 75, 3) := dAX10_next (124, (.getfield 75, 3)) (List.mem_of_getElem? (i := 66) rfl)
theorem dX10_next_127 : decode cX10_next 127 = .ok (.bipush 8, 2) := dAX10_next (127, (.bipush 8, 2)) (List.mem_of_getElem? (i := 67) rfl)
theorem dX10_next_129 : decode cX10_next 129 = .ok (.if_icmp .le 7, 3) := dAX10_next (129, (.if_icmp .le 7, 3)) (List.mem_of_getElem? (i := 68) rfl)
theorem dX10_next_132 : decode cX10_next 132 = .ok (.iconst 1, 1) := dAX10_next (132, (.iconst 1, 1)) (List.mem_of_getElem? (i := 69) rfl)
theorem dX10_next_133 : decode cX10_next 133 = .ok (.goto 4, 3) := dAX10_next (133, (.goto 4, 3)) (List.mem_of_getElem? (i := 70) rfl)
theorem dX10_next_136 : decode cX10_next 136 = .ok (.iconst 2, 1) := dAX10_next (136, (.iconst 2, 1)) (List.mem_of_getElem? (i := 71) rfl)
theorem dX10_next_137 : decode cX10_next 137 = .ok (.putfield 81, 3) := dAX10_next (137, (.putfield 81, 3)) (List.mem_of_getElem? (i := 72) rfl)
theorem dX10_next_140 : decode cX10_next 140 = .ok (.goto 101, 3) := dAX10_next (140, (.goto 101, 3)) (List.mem_of_getElem? (i := 73) rfl)
theorem dX10_next_143 : decode cX10_next 143 = .ok (.iload_n 2, 1) := dAX10_next (143, (.iload_n 2, 1)) (List.mem_of_getElem? (i := 74) rfl)
theorem dX10_next_144 : decode cX10_next 144 = .ok (.invokestatic 88, 3) := dAX10_next (144, (.invokestatic 88, 3)) (List.mem_of_getElem? (i := 75) rfl)
theorem dX10_next_147 : decode cX10_next 147 = .ok (.ifCond .eq 72, 3) := dAX10_next (147, (.ifCond .eq 72, 3)) (List.mem_of_getElem? (i := 76) rfl)
theorem dX10_next_150 : decode cX10_next 150 = .ok (.iconst 0, 1) := dAX10_next (150, (.iconst 0, 1)) (List.mem_of_getElem? (i := 77) rfl)
theorem dX10_next_151 : decode cX10_next 151 = .ok (.istore_n 3, 1) := dAX10_next (151, (.istore_n 3, 1)) (List.mem_of_getElem? (i := 78) rfl)
theorem dX10_next_152 : decode cX10_next 152 = .ok (.aload_n 0, 1) := dAX10_next (152, (.aload_n 0, 1)) (List.mem_of_getElem? (i := 79) rfl)
theorem dX10_next_153 : decode cX10_next 153 = .ok (.iload_n 1, 1) := dAX10_next (153, (.iload_n 1, 1)) (List.mem_of_getElem? (i := 80) rfl)
theorem dX10_next_154 : decode cX10_next 154 = .ok (.invokevirtual 68, 3) := dAX10_next (154, (.invokevirtual 68, 3)) (List.mem_of_getElem? (i := 81) rfl)
theorem dX10_next_157 : decode cX10_next 157 = .ok (.invokestatic 88, 3) := dAX10_next (157, (.invokestatic 88, 3)) (List.mem_of_getElem? (i := 82) rfl)
theorem dX10_next_160 : decode cX10_next 160 = .ok (.ifCond .eq 37, 3) := dAX10_next (160, (.ifCond .eq 37, 3)) (List.mem_of_getElem? (i := 83) rfl)
theorem dX10_next_163 : decode cX10_next 163 = .ok (.iload_n 3, 1) := dAX10_next (163, (.iload_n 3, 1)) (List.mem_of_getElem? (i := 84) rfl)
theorem dX10_next_164 : decode cX10_next 164 = .ok (.iconst 3, 1) := dAX10_next (164, (.iconst 3, 1)) (List.mem_of_getElem? (i := 85) rfl)
theorem dX10_next_165 : decode cX10_next 165 = .ok (.if_icmp .ge 23, 3) := dAX10_next (165, (.if_icmp .ge 23, 3)) (List.mem_of_getElem? (i := 86) rfl)
theorem dX10_next_168 : decode cX10_next 168 = .ok (.aload_n 0, 1) := dAX10_next (168, (.aload_n 0, 1)) (List.mem_of_getElem? (i := 87) rfl)
theorem dX10_next_169 : decode cX10_next 169 = .ok (.bipush 10, 2) := dAX10_next (169, (.bipush 10, 2)) (List.mem_of_getElem? (i := 88) rfl)
theorem dX10_next_171 : decode cX10_next 171 = .ok (.aload_n 0, 1) := dAX10_next (171, (.aload_n 0, 1)) (List.mem_of_getElem? (i := 89) rfl)
theorem dX10_next_172 : decode cX10_next 172 = .ok (.getfield 78, 3) := dAX10_next (172, (.getfield 78, 3)) (List.mem_of_getElem? (i := 90) rfl)
theorem dX10_next_175 : decode cX10_next 175 = .ok (.imul, 1) := dAX10_next (175, (.imul, 1)) (List.mem_of_getElem? (i := 91) rfl)
theorem dX10_next_176 : decode cX10_next 176 = .ok (.aload_n 0, 1) := dAX10_next (176, (.aload_n 0, 1)) (List.mem_of_getElem? (i := 92) rfl)
theorem dX10_next_177 : decode cX10_next 177 = .ok (.iload_n 1, 1) := dAX10_next (177, (.iload_n 1, 1)) (List.mem_of_getElem? (i := 93) rfl)
theorem dX10_next_178 : decode cX10_next 178 = .ok (.invokevirtual 68, 3) := dAX10_next (178, (.invokevirtual 68, 3)) (List.mem_of_getElem? (i := 94) rfl)
theorem dX10_next_181 : decode cX10_next 181 = .ok (.iadd, 1) := dAX10_next (181, (.iadd, 1)) (List.mem_of_getElem? (i := 95) rfl)
theorem dX10_next_182 : decode cX10_next 182 = .ok (.bipush 48, 2) := dAX10_next (182, (.bipush 48, 2)) (List.mem_of_getElem? (i := 96) rfl)
theorem dX10_next_184 : decode cX10_next 184 = .ok (.isub, 1) := dAX10_next (184, (.isub, 1)) (List.mem_of_getElem? (i := 97) rfl)
theorem dX10_next_185 : decode cX10_next 185 = .ok (.putfield 78, 3) := dAX10_next (185, (.putfield 78, 3)) (List.mem_of_getElem? (i := 98) rfl)
theorem dX10_next_188 : decode cX10_next 188 = .ok (.iinc 3 1, 3) := dAX10_next (188, (.iinc 3 1, 3)) (List.mem_of_getElem? (i := 99) rfl)
theorem dX10_next_191 : decode cX10_next 191 = .ok (.iinc 1 1, 3) := dAX10_next (191, (.iinc 1 1, 3)) (List.mem_of_getElem? (i := 100) rfl)
theorem dX10_next_194 : decode cX10_next 194 = .ok (.goto (-42), 3) := dAX10_next (194, (.goto (-42), 3)) (List.mem_of_getElem? (i := 101) rfl)
theorem dX10_next_197 : decode cX10_next 197 = .ok (.aload_n 0, 1) := dAX10_next (197, (.aload_n 0, 1)) (List.mem_of_getElem? (i := 102) rfl)
theorem dX10_next_198 : decode cX10_next 198 = .ok (.iload_n 1, 1) := dAX10_next (198, (.iload_n 1, 1)) (List.mem_of_getElem? (i := 103) rfl)
theorem dX10_next_199 : decode cX10_next 199 = .ok (.putfield 65, 3) := dAX10_next (199, (.putfield 65, 3)) (List.mem_of_getElem? (i := 104) rfl)
theorem dX10_next_202 : decode cX10_next 202 = .ok (.aload_n 0, 1) := dAX10_next (202, (.aload_n 0, 1)) (List.mem_of_getElem? (i := 105) rfl)
theorem dX10_next_203 : decode cX10_next 203 = .ok (.iload_n 3, 1) := dAX10_next (203, (.iload_n 3, 1)) (List.mem_of_getElem? (i := 106) rfl)
theorem dX10_next_204 : decode cX10_next 204 = .ok (.iconst 3, 1) := dAX10_next (204, (.iconst 3, 1)) (List.mem_of_getElem? (i := 107) rfl)
theorem dX10_next_205 : decode cX10_next 205 = .ok (.if_icmp .le 7, 3) := dAX10_next (205, (.if_icmp .le 7, 3)) (List.mem_of_getElem? (i := 108) rfl)
theorem dX10_next_208 : decode cX10_next 208 = .ok (.iconst 1, 1) := dAX10_next (208, (.iconst 1, 1)) (List.mem_of_getElem? (i := 109) rfl)
theorem dX10_next_209 : decode cX10_next 209 = .ok (.goto 4, 3) := dAX10_next (209, (.goto 4, 3)) (List.mem_of_getElem? (i := 110) rfl)
theorem dX10_next_212 : decode cX10_next 212 = .ok (.iconst 3, 1) := dAX10_next (212, (.iconst 3, 1)) (List.mem_of_getElem? (i := 111) rfl)
theorem dX10_next_213 : decode cX10_next 213 = .ok (.putfield 81, 3) := dAX10_next (213, (.putfield 81, 3)) (List.mem_of_getElem? (i := 112) rfl)
theorem dX10_next_216 : decode cX10_next 216 = .ok (.goto 25, 3) := dAX10_next (216, (.goto 25, 3)) (List.mem_of_getElem? (i := 113) rfl)
theorem dX10_next_219 : decode cX10_next 219 = .ok (.aload_n 0, 1) := dAX10_next (219, (.aload_n 0, 1)) (List.mem_of_getElem? (i := 114) rfl)
theorem dX10_next_220 : decode cX10_next 220 = .ok (.iload_n 1, 1) := dAX10_next (220, (.iload_n 1, 1)) (List.mem_of_getElem? (i := 115) rfl)
theorem dX10_next_221 : decode cX10_next 221 = .ok (.iconst 1, 1) := dAX10_next (221, (.iconst 1, 1)) (List.mem_of_getElem? (i := 116) rfl)
theorem dX10_next_222 : decode cX10_next 222 = .ok (.iadd, 1) := dAX10_next (222, (.iadd, 1)) (List.mem_of_getElem? (i := 117) rfl)
theorem dX10_next_223 : decode cX10_next 223 = .ok (.putfield 65, 3) := dAX10_next (223, (.putfield 65, 3)) (List.mem_of_getElem? (i := 118) rfl)
theorem dX10_next_226 : decode cX10_next 226 = .ok (.aload_n 0, 1) := dAX10_next (226, (.aload_n 0, 1)) (List.mem_of_getElem? (i := 119) rfl)
theorem dX10_next_227 : decode cX10_next 227 = .ok (.iload_n 2, 1) := dAX10_next (227, (.iload_n 2, 1)) (List.mem_of_getElem? (i := 120) rfl)
theorem dX10_next_228 : decode cX10_next 228 = .ok (.bipush 59, 2) := dAX10_next (228, (.bipush 59, 2)) (List.mem_of_getElem? (i := 121) rfl)
theorem dX10_next_230 : decode cX10_next 230 = .ok (.if_icmp .ne 7, 3) := dAX10_next (230, (.if_icmp .ne 7, 3)) (List.mem_of_getElem? (i := 122) rfl)
theorem dX10_next_233 : decode cX10_next 233 = .ok (.iload_n 2, 1) := dAX10_next (233, (.iload_n 2, 1)) (List.mem_of_getElem? (i := 123) rfl)
theorem dX10_next_234 : decode cX10_next 234 = .ok (.goto 4, 3) := dAX10_next (234, (.goto 4, 3)) (List.mem_of_getElem? (i := 124) rfl)
theorem dX10_next_237 : decode cX10_next 237 = .ok (.iconst 1, 1) := dAX10_next (237, (.iconst 1, 1)) (List.mem_of_getElem? (i := 125) rfl)
theorem dX10_next_238 : decode cX10_next 238 = .ok (.putfield 81, 3) := dAX10_next (238, (.putfield 81, 3)) (List.mem_of_getElem? (i := 126) rfl)
theorem dX10_next_241 : decode cX10_next 241 = .ok (.return_, 1) := dAX10_next (241, (.return_, 1)) (List.mem_of_getElem? (i := 127) rfl)
set_option maxRecDepth 20000 in
theorem ggX10_next_X10_look : GoodIn wsX10_next wsX10_look := goodIn_r _ [11, 12, 13, 20, 21, 22, 23, 24, 25, 26, 27, 28, 29, 30, 31, 32, 33, 34, 35, 36, 37, 38, 39, 40, 41, 42, 43, 44, 45, 46, 47, 48, 49, 50, 51, 52, 53, 54] rfl (by decide +kernel)
set_option maxRecDepth 20000 in
theorem gX10_next_X10_look : GoodIn wsX10_next (wsV RX10 68 RX10 yX10_look wsX10_look) := goodIn_app (goodIn_of _ (by decide +kernel)) ggX10_next_X10_look
set_option maxRecDepth 20000 in
theorem ggX10_next_X10_isSmall : GoodIn wsX10_next wsX10_isSmall := goodIn_r _ [16] rfl (by decide +kernel)
set_option maxRecDepth 20000 in
theorem gX10_next_X10_isSmall : GoodIn wsX10_next (va_wsS RX10 84 yX10_isSmall wsX10_isSmall) := goodIn_app (goodIn_of _ (by decide +kernel)) ggX10_next_X10_isSmall
set_option maxRecDepth 20000 in
theorem ggX10_next_X10_isDigit : GoodIn wsX10_next wsX10_isDigit := goodIn_r _ [19] rfl (by decide +kernel)
set_option maxRecDepth 20000 in
theorem gX10_next_X10_isDigit : GoodIn wsX10_next (va_wsS RX10 88 yX10_isDigit wsX10_isDigit) := goodIn_app (goodIn_of _ (by decide +kernel)) ggX10_next_X10_isDigit
theorem kX10_next_65 : Cond.fieldLink RX10 65 "EveningVowModel" "end" "I" ∈ wsX10_next := List.mem_of_getElem? (i := 1) rfl
theorem iX10_next_X10 : ∀ w ∈ u_ws RX10 TX10 35, w ∈ wsX10_next := fun w h => (List.mem_cons_of_mem _ (List.mem_append_right _ h))
theorem kX10_next_72 : Cond.fieldLink RX10 72 "EveningVowModel" "at" "I" ∈ wsX10_next := List.mem_of_getElem? (i := 2) rfl
theorem kX10_next_75 : Cond.fieldLink RX10 75 "EveningVowModel" "nameSize" "I" ∈ wsX10_next := List.mem_of_getElem? (i := 3) rfl
theorem kX10_next_78 : Cond.fieldLink RX10 78 "EveningVowModel" "whole" "I" ∈ wsX10_next := List.mem_of_getElem? (i := 4) rfl
theorem kX10_next_81 : Cond.fieldLink RX10 81 "EveningVowModel" "token" "I" ∈ wsX10_next := List.mem_of_getElem? (i := 5) rfl
theorem kX10_next_17 : Cond.fieldLink RX10 17 "EveningVowModel" "letters" "[I" ∈ wsX10_next := List.mem_of_getElem? (i := 6) rfl
set_option maxHeartbeats 4000000 in
set_option maxRecDepth 100000 in
theorem wX10_next_L5 {p : Program} {l : Launch} {e : Env} {s : State} {m : MethodId} {args : Array Value} {below : List Frame} {meth : Method} {c : Code} {g : GG} {A : Nat → Prop} (C0 : Cx p s m args meth c cX10_next 4 none RX10 wsX10_next g A) (a_t : Nat) (p_t : Nat → Nat) (n : Nat) (o_t : Nat → Int32) (f_t_1 : Nat → Int32) (f_t_12 : Nat → Int32) (o_t' : Nat → Int32) (f_t_12' : Nat → Int32) (K : Int32 → Option ((Nat → Int32) × (Nat → Int32))) (hKx : ∀ (x1 : Int32) (H : Heap) (locs : List Loc) (ls : Array Slot), K x1 = some (o_t', f_t_12') → va_P g.1 vwCl [oX10 a_t p_t o_t, aI g (p_t 1) 800 f_t_1, aI g (p_t 12) 8 f_t_12] H → va_D A [oX10 a_t p_t o_t, aI g (p_t 1) 800 f_t_1, aI g (p_t 12) 8 f_t_12] → va_S A s.heap H locs → lv_has ls 4 [(0, .ref a_t), (1, .int x1)] → W p l e ({ frames := 1, cells := 0, slots := 0, locals := 21 } : Room) s m args below meth c H locs 0 0 (MQ below (EndV g [oX10 a_t p_t o_t', aI g (p_t 1) 800 f_t_1, aI g (p_t 12) 8 f_t_12'] A) args s 0 0 A) (F0 m 21 ls [])) : ∀ (k : Nat) (x1 : Int32), fX10_next_L5 n o_t f_t_1 K k x1 = some (o_t', f_t_12') → ∀ (H : Heap) (locs : List Loc) (ls : Array Slot), va_P g.1 vwCl [oX10 a_t p_t o_t, aI g (p_t 1) 800 f_t_1, aI g (p_t 12) 8 f_t_12] H → va_D A [oX10 a_t p_t o_t, aI g (p_t 1) 800 f_t_1, aI g (p_t 12) 8 f_t_12] → va_S A s.heap H locs → lv_has ls 4 [(0, .ref a_t), (1, .int x1)] → W p l e ({ frames := 1, cells := 0, slots := 0, locals := 21 } : Room) s m args below meth c H locs 0 0 (MQ below (EndV g [oX10 a_t p_t o_t', aI g (p_t 1) 800 f_t_1, aI g (p_t 12) 8 f_t_12'] A) args s 0 0 A) (F0 m 5 ls []) := by
  obtain ⟨hx, hb, hml, hown, hts, hr, hlk, hK, hA, hSW⟩ := id C0
  intro k
  induction k with
  | zero =>
    intro x1 hF
    exact absurd hF (by simp [fX10_next_L5])
  | succ k ih =>
    intro x1 hF H locs ls hP hD hS hl
    rw [fX10_next_L5] at hF
    refine lv_aload_n hx hb dX10_next_5 rfl (lv_at hl 0 rfl) ?_
    refine lv_iload_n hx hb dX10_next_6 rfl (lv_at hl 1 rfl) ?_
    obtain ⟨u_1, hu_2, hF⟩ := ob1_some hF
    refine call_i (wr := [aI g (p_t 12) 8 f_t_12]) (As := [.int x1]) (rest := []) (ci := 10) (q0 := 0) C0 (mX10_look l g a_t p_t n x1 o_t f_t_1 u_1 hu_2) (cwV 1 hts gX10_next_X10_look rfl rfl rfl (by decide +kernel) ⟨Nat.le_of_ble_eq_true rfl, Nat.le_of_ble_eq_true rfl⟩) hP hD hS [0, 1] [2] rfl rfl rfl rfl rfl (by decide) rfl rfl hl.1 rfl rfl (Nat.le_of_ble_eq_true rfl) ⟨Nat.zero_le _, Nat.zero_le _⟩ dX10_next_7 ?_
    intro H locs hP hD hS
    refine lv_bipush (v := (32 : Int32)) hx hb dX10_next_10 (by decide) ?_
    refine lv_icmp_ne (tgt := 21) hx hb dX10_next_12 (by decide) (fun c_3 => ?_) (fun c_3 => ?_)
    · have hF := it_n c_3 hF
      exact hKx x1 _ _ _ hF (hP.sub [1, 2, 0] rfl) (hD.sub [1, 2, 0] rfl rfl) hS (lv_sub hl [0, 1] rfl)
    · have hF := it_p c_3 hF
      refine lv_iinc (v := (x1 + (1 : Int32))) (lv' := [(1, .int (x1 + (1 : Int32))), (0, .ref a_t)]) hx hb dX10_next_15 hl (k := 1) rfl rfl (by decide) rfl (fun ls hl => ?_)
      refine lv_goto (tgt := 5) hx hb dX10_next_18 (by decide) ?_
      exact ih (x1 + (1 : Int32)) hF _ _ _ (hP.sub [1, 2, 0] rfl) (hD.sub [1, 2, 0] rfl rfl) hS (lv_sub hl [1, 0] rfl)
set_option maxHeartbeats 4000000 in
set_option maxRecDepth 100000 in
theorem wX10_next_L152 {p : Program} {l : Launch} {e : Env} {s : State} {m : MethodId} {args : Array Value} {below : List Frame} {meth : Method} {c : Code} {g : GG} {A : Nat → Prop} (C0 : Cx p s m args meth c cX10_next 4 none RX10 wsX10_next g A) (a_t : Nat) (p_t : Nat → Nat) (n : Nat) (f_t_1 : Nat → Int32) (f_t_12 : Nat → Int32) (o_t' : Nat → Int32) (f_t_12' : Nat → Int32) (K : Int32 → Int32 → (Nat → Int32) → Option ((Nat → Int32) × (Nat → Int32))) (hKx : ∀ (x1 : Int32) (x3 : Int32) (o_t : Nat → Int32) (H : Heap) (locs : List Loc) (ls : Array Slot), K x1 x3 o_t = some (o_t', f_t_12') → va_P g.1 vwCl [oX10 a_t p_t o_t, aI g (p_t 1) 800 f_t_1, aI g (p_t 12) 8 f_t_12] H → va_D A [oX10 a_t p_t o_t, aI g (p_t 1) 800 f_t_1, aI g (p_t 12) 8 f_t_12] → va_S A s.heap H locs → lv_has ls 4 [(0, .ref a_t), (1, .int x1), (3, .int x3)] → W p l e ({ frames := 1, cells := 0, slots := 0, locals := 21 } : Room) s m args below meth c H locs 0 0 (MQ below (EndV g [oX10 a_t p_t o_t', aI g (p_t 1) 800 f_t_1, aI g (p_t 12) 8 f_t_12'] A) args s 0 0 A) (F0 m 197 ls [])) : ∀ (k : Nat) (x1 : Int32) (x3 : Int32) (o_t : Nat → Int32), fX10_next_L152 n f_t_1 K k x1 x3 o_t = some (o_t', f_t_12') → ∀ (H : Heap) (locs : List Loc) (ls : Array Slot), va_P g.1 vwCl [oX10 a_t p_t o_t, aI g (p_t 1) 800 f_t_1, aI g (p_t 12) 8 f_t_12] H → va_D A [oX10 a_t p_t o_t, aI g (p_t 1) 800 f_t_1, aI g (p_t 12) 8 f_t_12] → va_S A s.heap H locs → lv_has ls 4 [(0, .ref a_t), (1, .int x1), (3, .int x3)] → W p l e ({ frames := 1, cells := 0, slots := 0, locals := 21 } : Room) s m args below meth c H locs 0 0 (MQ below (EndV g [oX10 a_t p_t o_t', aI g (p_t 1) 800 f_t_1, aI g (p_t 12) 8 f_t_12'] A) args s 0 0 A) (F0 m 152 ls []) := by
  obtain ⟨hx, hb, hml, hown, hts, hr, hlk, hK, hA, hSW⟩ := id C0
  intro k
  induction k with
  | zero =>
    intro x1 x3 o_t hF
    exact absurd hF (by simp [fX10_next_L152])
  | succ k ih =>
    intro x1 x3 o_t hF H locs ls hP hD hS hl
    rw [fX10_next_L152] at hF
    refine lv_aload_n hx hb dX10_next_152 rfl (lv_at hl 0 rfl) ?_
    refine lv_iload_n hx hb dX10_next_153 rfl (lv_at hl 1 rfl) ?_
    obtain ⟨u_14, hu_15, hF⟩ := ob1_some hF
    refine call_i (wr := [aI g (p_t 12) 8 f_t_12]) (As := [.int x1]) (rest := []) (ci := 10) (q0 := 0) C0 (mX10_look l g a_t p_t n x1 o_t f_t_1 u_14 hu_15) (cwV 1 hts gX10_next_X10_look rfl rfl rfl (by decide +kernel) ⟨Nat.le_of_ble_eq_true rfl, Nat.le_of_ble_eq_true rfl⟩) hP hD hS [0, 1] [2] rfl rfl rfl rfl rfl (by decide) rfl rfl hl.1 rfl rfl (Nat.le_of_ble_eq_true rfl) ⟨Nat.zero_le _, Nat.zero_le _⟩ dX10_next_154 ?_
    intro H locs hP hD hS
    obtain ⟨u_16, hu_17, hF⟩ := ob1_some hF
    refine call_si (wr := [aI g (p_t 12) 8 f_t_12, oX10 a_t p_t o_t, aI g (p_t 1) 800 f_t_1]) (As := [.int u_14]) (rest := []) C0 (mX10_isDigit l g n u_14 u_16 hu_17) (va_cwS 1 hts gX10_next_X10_isDigit rfl rfl rfl (by decide +kernel) ⟨Nat.le_of_ble_eq_true rfl, Nat.le_of_ble_eq_true rfl⟩) hP hD hS [] [0, 1, 2] rfl rfl rfl rfl rfl (by decide) hl.1 rfl rfl (Nat.le_of_ble_eq_true rfl) ⟨Nat.zero_le _, Nat.zero_le _⟩ dX10_next_157 ?_
    intro H locs hP hD hS
    refine lv_if_eq (tgt := 197) hx hb dX10_next_160 (by decide) (fun c_18 => ?_) (fun c_18 => ?_)
    · have hF := it_p c_18 hF
      exact hKx x1 x3 o_t _ _ _ hF (hP.sub [1, 2, 0] rfl) (hD.sub [1, 2, 0] rfl rfl) hS (lv_sub hl [0, 1, 2] rfl)
    · have hF := it_n c_18 hF
      refine lv_iload_n hx hb dX10_next_163 rfl (lv_at hl 2 rfl) ?_
      refine lv_iconst (v := (3 : Int32)) hx hb dX10_next_164 (by decide) ?_
      refine lv_icmp_ge (tgt := 188) hx hb dX10_next_165 (by decide) (fun c_19 => ?_) (fun c_19 => ?_)
      · have hF := it_p c_19 hF
        refine lv_iinc (v := (x3 + (1 : Int32))) (lv' := [(3, .int (x3 + (1 : Int32))), (0, .ref a_t), (1, .int x1)]) hx hb dX10_next_188 hl (k := 2) rfl rfl (by decide) rfl (fun ls hl => ?_)
        refine lv_iinc (v := (x1 + (1 : Int32))) (lv' := [(1, .int (x1 + (1 : Int32))), (3, .int (x3 + (1 : Int32))), (0, .ref a_t)]) hx hb dX10_next_191 hl (k := 2) rfl rfl (by decide) rfl (fun ls hl => ?_)
        refine lv_goto (tgt := 152) hx hb dX10_next_194 (by decide) ?_
        exact ih (x1 + (1 : Int32)) (x3 + (1 : Int32)) o_t hF _ _ _ (hP.sub [1, 2, 0] rfl) (hD.sub [1, 2, 0] rfl rfl) hS (lv_sub hl [2, 0, 1] rfl)
      · have hF := it_n c_19 hF
        refine lv_aload_n hx hb dX10_next_168 rfl (lv_at hl 0 rfl) ?_
        refine lv_bipush (v := (10 : Int32)) hx hb dX10_next_169 (by decide) ?_
        refine lv_aload_n hx hb dX10_next_171 rfl (lv_at hl 0 rfl) ?_
        refine va_get (D := g.1) (ci := 10) (v := .int (o_t 7)) (C := RX10) (T := TX10) (N := 35) hx hb hts iX10_next_X10 hown hK.1 hP 1 rfl rfl 7 (by decide) (hts _ kX10_next_78) (fun _ h9 => h9) rfl dX10_next_172 ?_
        refine lv_imul hx hb dX10_next_175 ?_
        refine lv_aload_n hx hb dX10_next_176 rfl (lv_at hl 0 rfl) ?_
        refine lv_iload_n hx hb dX10_next_177 rfl (lv_at hl 1 rfl) ?_
        obtain ⟨u_20, hu_21, hF⟩ := ob1_some hF
        refine call_i (wr := [aI g (p_t 12) 8 f_t_12]) (As := [.int x1]) (rest := [.int ((10 : Int32) * (o_t 7)), .ref a_t]) (ci := 10) (q0 := 0) C0 (mX10_look l g a_t p_t n x1 o_t f_t_1 u_20 hu_21) (cwV 1 hts gX10_next_X10_look rfl rfl rfl (by decide +kernel) ⟨Nat.le_of_ble_eq_true rfl, Nat.le_of_ble_eq_true rfl⟩) hP hD hS [1, 2] [0] rfl rfl rfl rfl rfl (by decide) rfl rfl hl.1 rfl rfl (Nat.le_of_ble_eq_true rfl) ⟨Nat.zero_le _, Nat.zero_le _⟩ dX10_next_178 ?_
        intro H locs hP hD hS
        refine lv_iadd hx hb dX10_next_181 ?_
        refine lv_bipush (v := (48 : Int32)) hx hb dX10_next_182 (by decide) ?_
        refine lv_isub hx hb dX10_next_184 ?_
        refine va_put (D := g.1) (ci := 10) (v := .int ((((10 : Int32) * (o_t 7)) + u_20) - (48 : Int32))) (ty := .int) (C := RX10) (T := TX10) (N := 35) hx hb hts iX10_next_X10 tyX10 tyX10_ok nmX10 hown hK.1 hP hD hS 1 rfl rfl 7 (by decide) (hts _ kX10_next_78) (fun _ h9 => h9) rfl (by decide +kernel) rfl rfl (Nat.le_of_ble_eq_true rfl) dX10_next_185 (fun H locs hP hD hS => ?_)
        have hP : va_P g.1 vwCl [aI g (p_t 12) 8 f_t_12, oX10 a_t p_t (upd o_t 7 ((((10 : Int32) * (o_t 7)) + u_20) - (48 : Int32))), aI g (p_t 1) 800 f_t_1] H := hP
        have hD : va_D A [aI g (p_t 12) 8 f_t_12, oX10 a_t p_t (upd o_t 7 ((((10 : Int32) * (o_t 7)) + u_20) - (48 : Int32))), aI g (p_t 1) 800 f_t_1] := hD
        refine lv_iinc (v := (x3 + (1 : Int32))) (lv' := [(3, .int (x3 + (1 : Int32))), (0, .ref a_t), (1, .int x1)]) hx hb dX10_next_188 hl (k := 2) rfl rfl (by decide) rfl (fun ls hl => ?_)
        refine lv_iinc (v := (x1 + (1 : Int32))) (lv' := [(1, .int (x1 + (1 : Int32))), (3, .int (x3 + (1 : Int32))), (0, .ref a_t)]) hx hb dX10_next_191 hl (k := 2) rfl rfl (by decide) rfl (fun ls hl => ?_)
        refine lv_goto (tgt := 152) hx hb dX10_next_194 (by decide) ?_
        exact ih (x1 + (1 : Int32)) (x3 + (1 : Int32)) (upd o_t 7 ((((10 : Int32) * (o_t 7)) + u_20) - (48 : Int32))) hF _ _ _ (hP.sub [1, 2, 0] rfl) (hD.sub [1, 2, 0] rfl rfl) hS (lv_sub hl [2, 0, 1] rfl)
set_option maxHeartbeats 4000000 in
set_option maxRecDepth 100000 in
theorem wX10_next_L67 {p : Program} {l : Launch} {e : Env} {s : State} {m : MethodId} {args : Array Value} {below : List Frame} {meth : Method} {c : Code} {g : GG} {A : Nat → Prop} (C0 : Cx p s m args meth c cX10_next 4 none RX10 wsX10_next g A) (a_t : Nat) (p_t : Nat → Nat) (n : Nat) (f_t_1 : Nat → Int32)  (o_t' : Nat → Int32) (f_t_12' : Nat → Int32) (K : Int32 → (Nat → Int32) → (Nat → Int32) → Option ((Nat → Int32) × (Nat → Int32))) (hKx : ∀ (x1 : Int32) (o_t : Nat → Int32) (f_t_12 : Nat → Int32) (H : Heap) (locs : List Loc) (ls : Array Slot), K x1 o_t f_t_12 = some (o_t', f_t_12') → va_P g.1 vwCl [oX10 a_t p_t o_t, aI g (p_t 1) 800 f_t_1, aI g (p_t 12) 8 f_t_12] H → va_D A [oX10 a_t p_t o_t, aI g (p_t 1) 800 f_t_1, aI g (p_t 12) 8 f_t_12] → va_S A s.heap H locs → lv_has ls 4 [(0, .ref a_t), (1, .int x1)] → W p l e ({ frames := 1, cells := 0, slots := 0, locals := 21 } : Room) s m args below meth c H locs 0 0 (MQ below (EndV g [oX10 a_t p_t o_t', aI g (p_t 1) 800 f_t_1, aI g (p_t 12) 8 f_t_12'] A) args s 0 0 A) (F0 m 117 ls [])) : ∀ (k : Nat) (x1 : Int32) (o_t : Nat → Int32) (f_t_12 : Nat → Int32), fX10_next_L67 n f_t_1 K k x1 o_t f_t_12 = some (o_t', f_t_12') → ∀ (H : Heap) (locs : List Loc) (ls : Array Slot), va_P g.1 vwCl [oX10 a_t p_t o_t, aI g (p_t 1) 800 f_t_1, aI g (p_t 12) 8 f_t_12] H → va_D A [oX10 a_t p_t o_t, aI g (p_t 1) 800 f_t_1, aI g (p_t 12) 8 f_t_12] → va_S A s.heap H locs → lv_has ls 4 [(0, .ref a_t), (1, .int x1)] → W p l e ({ frames := 1, cells := 0, slots := 0, locals := 21 } : Room) s m args below meth c H locs 0 0 (MQ below (EndV g [oX10 a_t p_t o_t', aI g (p_t 1) 800 f_t_1, aI g (p_t 12) 8 f_t_12'] A) args s 0 0 A) (F0 m 67 ls []) := by
  obtain ⟨hx, hb, hml, hown, hts, hr, hlk, hK, hA, hSW⟩ := id C0
  intro k
  induction k with
  | zero =>
    intro x1 o_t f_t_12 hF
    exact absurd hF (by simp [fX10_next_L67])
  | succ k ih =>
    intro x1 o_t f_t_12 hF H locs ls hP hD hS hl
    rw [fX10_next_L67] at hF
    refine lv_aload_n hx hb dX10_next_67 rfl (lv_at hl 0 rfl) ?_
    refine lv_iload_n hx hb dX10_next_68 rfl (lv_at hl 1 rfl) ?_
    obtain ⟨u_23, hu_24, hF⟩ := ob1_some hF
    refine call_i (wr := [aI g (p_t 12) 8 f_t_12]) (As := [.int x1]) (rest := []) (ci := 10) (q0 := 0) C0 (mX10_look l g a_t p_t n x1 o_t f_t_1 u_23 hu_24) (cwV 1 hts gX10_next_X10_look rfl rfl rfl (by decide +kernel) ⟨Nat.le_of_ble_eq_true rfl, Nat.le_of_ble_eq_true rfl⟩) hP hD hS [0, 1] [2] rfl rfl rfl rfl rfl (by decide) rfl rfl hl.1 rfl rfl (Nat.le_of_ble_eq_true rfl) ⟨Nat.zero_le _, Nat.zero_le _⟩ dX10_next_69 ?_
    intro H locs hP hD hS
    obtain ⟨u_25, hu_26, hF⟩ := ob1_some hF
    refine call_si (wr := [aI g (p_t 12) 8 f_t_12, oX10 a_t p_t o_t, aI g (p_t 1) 800 f_t_1]) (As := [.int u_23]) (rest := []) C0 (mX10_isSmall l g n u_23 u_25 hu_26) (va_cwS 1 hts gX10_next_X10_isSmall rfl rfl rfl (by decide +kernel) ⟨Nat.le_of_ble_eq_true rfl, Nat.le_of_ble_eq_true rfl⟩) hP hD hS [] [0, 1, 2] rfl rfl rfl rfl rfl (by decide) hl.1 rfl rfl (Nat.le_of_ble_eq_true rfl) ⟨Nat.zero_le _, Nat.zero_le _⟩ dX10_next_72 ?_
    intro H locs hP hD hS
    refine lv_if_eq (tgt := 117) hx hb dX10_next_75 (by decide) (fun c_27 => ?_) (fun c_27 => ?_)
    · have hF := it_p c_27 hF
      exact hKx x1 o_t f_t_12 _ _ _ hF (hP.sub [1, 2, 0] rfl) (hD.sub [1, 2, 0] rfl rfl) hS (lv_sub hl [0, 1] rfl)
    · have hF := it_n c_27 hF
      refine lv_aload_n hx hb dX10_next_78 rfl (lv_at hl 0 rfl) ?_
      refine va_get (D := g.1) (ci := 10) (v := .int (o_t 8)) (C := RX10) (T := TX10) (N := 35) hx hb hts iX10_next_X10 hown hK.1 hP 1 rfl rfl 8 (by decide) (hts _ kX10_next_75) (fun _ h9 => h9) rfl dX10_next_79 ?_
      refine lv_bipush (v := (8 : Int32)) hx hb dX10_next_82 (by decide) ?_
      refine lv_icmp_ge (tgt := 101) hx hb dX10_next_84 (by decide) (fun c_28 => ?_) (fun c_28 => ?_)
      · have hF := it_p c_28 hF
        refine lv_aload_n hx hb dX10_next_101 rfl (lv_at hl 0 rfl) ?_
        refine lv_dup hx hb dX10_next_102 rfl ?_
        refine va_get (D := g.1) (ci := 10) (v := .int (o_t 8)) (C := RX10) (T := TX10) (N := 35) hx hb hts iX10_next_X10 hown hK.1 hP 1 rfl rfl 8 (by decide) (hts _ kX10_next_75) (fun _ h9 => h9) rfl dX10_next_103 ?_
        refine lv_iconst (v := (1 : Int32)) hx hb dX10_next_106 (by decide) ?_
        refine lv_iadd hx hb dX10_next_107 ?_
        refine va_put (D := g.1) (ci := 10) (v := .int ((o_t 8) + (1 : Int32))) (ty := .int) (C := RX10) (T := TX10) (N := 35) hx hb hts iX10_next_X10 tyX10 tyX10_ok nmX10 hown hK.1 hP hD hS 1 rfl rfl 8 (by decide) (hts _ kX10_next_75) (fun _ h9 => h9) rfl (by decide +kernel) rfl rfl (Nat.le_of_ble_eq_true rfl) dX10_next_108 (fun H locs hP hD hS => ?_)
        have hP : va_P g.1 vwCl [aI g (p_t 12) 8 f_t_12, oX10 a_t p_t (upd o_t 8 ((o_t 8) + (1 : Int32))), aI g (p_t 1) 800 f_t_1] H := hP
        have hD : va_D A [aI g (p_t 12) 8 f_t_12, oX10 a_t p_t (upd o_t 8 ((o_t 8) + (1 : Int32))), aI g (p_t 1) 800 f_t_1] := hD
        refine lv_iinc (v := (x1 + (1 : Int32))) (lv' := [(1, .int (x1 + (1 : Int32))), (0, .ref a_t)]) hx hb dX10_next_111 hl (k := 1) rfl rfl (by decide) rfl (fun ls hl => ?_)
        refine lv_goto (tgt := 67) hx hb dX10_next_114 (by decide) ?_
        exact ih (x1 + (1 : Int32)) (upd o_t 8 ((o_t 8) + (1 : Int32))) f_t_12 hF _ _ _ (hP.sub [1, 2, 0] rfl) (hD.sub [1, 2, 0] rfl rfl) hS (lv_sub hl [1, 0] rfl)
      · have hF := it_n c_28 hF
        refine lv_aload_n hx hb dX10_next_87 rfl (lv_at hl 0 rfl) ?_
        refine va_get (D := g.1) (ci := 10) (v := .ref (p_t 12)) (C := RX10) (T := TX10) (N := 35) hx hb hts iX10_next_X10 hown hK.1 hP 1 rfl rfl 12 (by decide) (hts _ kX10_next_17) (fun _ h9 => h9) rfl dX10_next_88 ?_
        refine lv_aload_n hx hb dX10_next_91 rfl (lv_at hl 0 rfl) ?_
        refine va_get (D := g.1) (ci := 10) (v := .int (o_t 8)) (C := RX10) (T := TX10) (N := 35) hx hb hts iX10_next_X10 hown hK.1 hP 1 rfl rfl 8 (by decide) (hts _ kX10_next_75) (fun _ h9 => h9) rfl dX10_next_92 ?_
        refine lv_aload_n hx hb dX10_next_95 rfl (lv_at hl 0 rfl) ?_
        refine lv_iload_n hx hb dX10_next_96 rfl (lv_at hl 1 rfl) ?_
        obtain ⟨u_29, hu_30, hF⟩ := ob1_some hF
        refine call_i (wr := [aI g (p_t 12) 8 f_t_12]) (As := [.int x1]) (rest := [.int (o_t 8), .ref (p_t 12)]) (ci := 10) (q0 := 0) C0 (mX10_look l g a_t p_t n x1 o_t f_t_1 u_29 hu_30) (cwV 1 hts gX10_next_X10_look rfl rfl rfl (by decide +kernel) ⟨Nat.le_of_ble_eq_true rfl, Nat.le_of_ble_eq_true rfl⟩) hP hD hS [1, 2] [0] rfl rfl rfl rfl rfl (by decide) rfl rfl hl.1 rfl rfl (Nat.le_of_ble_eq_true rfl) ⟨Nat.zero_le _, Nat.zero_le _⟩ dX10_next_97 ?_
        intro H locs hP hD hS
        obtain ⟨h_31, hF⟩ := it_ck hF
        refine va_iast hx hb hK.1 hP hD hS 0 0 rfl rfl h_31 dX10_next_100 (fun H locs hP hD hS => ?_)
        have hP : va_P g.1 vwCl [aI g (p_t 12) 8 (upd f_t_12 ((o_t 8)).toNatClampNeg u_29), oX10 a_t p_t o_t, aI g (p_t 1) 800 f_t_1] H := hP
        have hD : va_D A [aI g (p_t 12) 8 (upd f_t_12 ((o_t 8)).toNatClampNeg u_29), oX10 a_t p_t o_t, aI g (p_t 1) 800 f_t_1] := hD
        refine lv_aload_n hx hb dX10_next_101 rfl (lv_at hl 0 rfl) ?_
        refine lv_dup hx hb dX10_next_102 rfl ?_
        refine va_get (D := g.1) (ci := 10) (v := .int (o_t 8)) (C := RX10) (T := TX10) (N := 35) hx hb hts iX10_next_X10 hown hK.1 hP 1 rfl rfl 8 (by decide) (hts _ kX10_next_75) (fun _ h9 => h9) rfl dX10_next_103 ?_
        refine lv_iconst (v := (1 : Int32)) hx hb dX10_next_106 (by decide) ?_
        refine lv_iadd hx hb dX10_next_107 ?_
        refine va_put (D := g.1) (ci := 10) (v := .int ((o_t 8) + (1 : Int32))) (ty := .int) (C := RX10) (T := TX10) (N := 35) hx hb hts iX10_next_X10 tyX10 tyX10_ok nmX10 hown hK.1 hP hD hS 1 rfl rfl 8 (by decide) (hts _ kX10_next_75) (fun _ h9 => h9) rfl (by decide +kernel) rfl rfl (Nat.le_of_ble_eq_true rfl) dX10_next_108 (fun H locs hP hD hS => ?_)
        have hP : va_P g.1 vwCl [aI g (p_t 12) 8 (upd f_t_12 ((o_t 8)).toNatClampNeg u_29), oX10 a_t p_t (upd o_t 8 ((o_t 8) + (1 : Int32))), aI g (p_t 1) 800 f_t_1] H := hP
        have hD : va_D A [aI g (p_t 12) 8 (upd f_t_12 ((o_t 8)).toNatClampNeg u_29), oX10 a_t p_t (upd o_t 8 ((o_t 8) + (1 : Int32))), aI g (p_t 1) 800 f_t_1] := hD
        refine lv_iinc (v := (x1 + (1 : Int32))) (lv' := [(1, .int (x1 + (1 : Int32))), (0, .ref a_t)]) hx hb dX10_next_111 hl (k := 1) rfl rfl (by decide) rfl (fun ls hl => ?_)
        refine lv_goto (tgt := 67) hx hb dX10_next_114 (by decide) ?_
        exact ih (x1 + (1 : Int32)) (upd o_t 8 ((o_t 8) + (1 : Int32))) (upd f_t_12 ((o_t 8)).toNatClampNeg u_29) hF _ _ _ (hP.sub [1, 2, 0] rfl) (hD.sub [1, 2, 0] rfl rfl) hS (lv_sub hl [1, 0] rfl)
set_option maxHeartbeats 4000000 in
set_option maxRecDepth 100000 in
theorem mX10_next (l : Launch) (g : GG) (a_t : Nat) (p_t : Nat → Nat) (n : Nat) (o_t : Nat → Int32) (f_t_1 : Nat → Int32) (f_t_12 : Nat → Int32) (o_t' : Nat → Int32) (f_t_12' : Nat → Int32) (hF : fX10_next n o_t f_t_1 f_t_12 = some (o_t', f_t_12')) : MV l g yX10_next wsX10_next ({ frames := 1, cells := 0, slots := 0, locals := 21 } : Room) [.ref a_t] [oX10 a_t p_t o_t, aI g (p_t 1) 800 f_t_1, aI g (p_t 12) 8 f_t_12] [oX10 a_t p_t o_t', aI g (p_t 1) 800 f_t_1, aI g (p_t 12) 8 f_t_12'] := by
  refine MV.of (cc := cX10_next) (maxL := 4) (own := RX10) rfl rfl (by decide) (Nat.le_of_ble_eq_true rfl) ?_
  intro p e s m args below meth c A C0 hP hD hS ls hl
  obtain ⟨hx, hb, hml, hown, hts, hr, hlk, hK, hA, hSW⟩ := id C0
  have hl : lv_has ls 4 [(0, .ref a_t)] := hl
  rw [fX10_next] at hF
  refine lv_aload_n hx hb dX10_next_0 rfl (lv_at hl 0 rfl) ?_
  refine va_get (D := g.1) (ci := 10) (v := .int (o_t 5)) (C := RX10) (T := TX10) (N := 35) hx hb hts iX10_next_X10 hown hK.1 hP 0 rfl rfl 5 (by decide) (hts _ kX10_next_65) (fun _ h9 => h9) rfl dX10_next_1 ?_
  refine lv_istore_n (lv' := [(1, .int (o_t 5)), (0, .ref a_t)]) hx hb dX10_next_4 rfl hl (by decide) rfl (fun ls hl => ?_)
  refine wX10_next_L5 C0 a_t p_t n o_t f_t_1 f_t_12 o_t' f_t_12' _ ?_ n (o_t 5) hF _ _ _ (hP.sub [0, 1, 2] rfl) (hD.sub [0, 1, 2] rfl rfl) hS (lv_sub hl [1, 0] rfl)
  · intro x1_x5 H locs ls hF hP hD hS hl
    refine lv_aload_n hx hb dX10_next_21 rfl (lv_at hl 0 rfl) ?_
    refine lv_iload_n hx hb dX10_next_22 rfl (lv_at hl 1 rfl) ?_
    refine va_put (D := g.1) (ci := 10) (v := .int x1_x5) (ty := .int) (C := RX10) (T := TX10) (N := 35) hx hb hts iX10_next_X10 tyX10 tyX10_ok nmX10 hown hK.1 hP hD hS 0 rfl rfl 4 (by decide) (hts _ kX10_next_72) (fun _ h9 => h9) rfl (by decide +kernel) rfl rfl (Nat.le_of_ble_eq_true rfl) dX10_next_23 (fun H locs hP hD hS => ?_)
    have hP : va_P g.1 vwCl [oX10 a_t p_t (upd o_t 4 x1_x5), aI g (p_t 1) 800 f_t_1, aI g (p_t 12) 8 f_t_12] H := hP
    have hD : va_D A [oX10 a_t p_t (upd o_t 4 x1_x5), aI g (p_t 1) 800 f_t_1, aI g (p_t 12) 8 f_t_12] := hD
    refine lv_aload_n hx hb dX10_next_26 rfl (lv_at hl 0 rfl) ?_
    refine lv_iload_n hx hb dX10_next_27 rfl (lv_at hl 1 rfl) ?_
    obtain ⟨u_4, hu_5, hF⟩ := ob1_some hF
    refine call_i (wr := [aI g (p_t 12) 8 f_t_12]) (As := [.int x1_x5]) (rest := []) (ci := 10) (q0 := 0) C0 (mX10_look l g a_t p_t n x1_x5 (upd o_t 4 x1_x5) f_t_1 u_4 hu_5) (cwV 1 hts gX10_next_X10_look rfl rfl rfl (by decide +kernel) ⟨Nat.le_of_ble_eq_true rfl, Nat.le_of_ble_eq_true rfl⟩) hP hD hS [0, 1] [2] rfl rfl rfl rfl rfl (by decide) rfl rfl hl.1 rfl rfl (Nat.le_of_ble_eq_true rfl) ⟨Nat.zero_le _, Nat.zero_le _⟩ dX10_next_28 ?_
    intro H locs hP hD hS
    refine lv_istore_n (lv' := [(2, .int u_4), (0, .ref a_t), (1, .int x1_x5)]) hx hb dX10_next_31 rfl hl (by decide) rfl (fun ls hl => ?_)
    refine lv_aload_n hx hb dX10_next_32 rfl (lv_at hl 1 rfl) ?_
    refine lv_iconst (v := (0 : Int32)) hx hb dX10_next_33 (by decide) ?_
    refine va_put (D := g.1) (ci := 10) (v := .int (0 : Int32)) (ty := .int) (C := RX10) (T := TX10) (N := 35) hx hb hts iX10_next_X10 tyX10 tyX10_ok nmX10 hown hK.1 hP hD hS 1 rfl rfl 8 (by decide) (hts _ kX10_next_75) (fun _ h9 => h9) rfl (by decide +kernel) rfl rfl (Nat.le_of_ble_eq_true rfl) dX10_next_34 (fun H locs hP hD hS => ?_)
    have hP : va_P g.1 vwCl [aI g (p_t 12) 8 f_t_12, oX10 a_t p_t (upd (upd o_t 4 x1_x5) 8 (0 : Int32)), aI g (p_t 1) 800 f_t_1] H := hP
    have hD : va_D A [aI g (p_t 12) 8 f_t_12, oX10 a_t p_t (upd (upd o_t 4 x1_x5) 8 (0 : Int32)), aI g (p_t 1) 800 f_t_1] := hD
    refine lv_aload_n hx hb dX10_next_37 rfl (lv_at hl 1 rfl) ?_
    refine lv_iconst (v := (0 : Int32)) hx hb dX10_next_38 (by decide) ?_
    refine va_put (D := g.1) (ci := 10) (v := .int (0 : Int32)) (ty := .int) (C := RX10) (T := TX10) (N := 35) hx hb hts iX10_next_X10 tyX10 tyX10_ok nmX10 hown hK.1 hP hD hS 1 rfl rfl 7 (by decide) (hts _ kX10_next_78) (fun _ h9 => h9) rfl (by decide +kernel) rfl rfl (Nat.le_of_ble_eq_true rfl) dX10_next_39 (fun H locs hP hD hS => ?_)
    have hP : va_P g.1 vwCl [aI g (p_t 12) 8 f_t_12, oX10 a_t p_t (upd (upd (upd o_t 4 x1_x5) 8 (0 : Int32)) 7 (0 : Int32)), aI g (p_t 1) 800 f_t_1] H := hP
    have hD : va_D A [aI g (p_t 12) 8 f_t_12, oX10 a_t p_t (upd (upd (upd o_t 4 x1_x5) 8 (0 : Int32)) 7 (0 : Int32)), aI g (p_t 1) 800 f_t_1] := hD
    refine lv_iload_n hx hb dX10_next_42 rfl (lv_at hl 0 rfl) ?_
    refine lv_iconst (v := (-1 : Int32)) hx hb dX10_next_43 (by decide) ?_
    refine lv_icmp_ne (tgt := 60) hx hb dX10_next_44 (by decide) (fun c_6 => ?_) (fun c_6 => ?_)
    · have hF := it_n c_6 hF
      refine lv_iload_n hx hb dX10_next_60 rfl (lv_at hl 0 rfl) ?_
      obtain ⟨u_7, hu_8, hF⟩ := ob1_some hF
      refine call_si (wr := [aI g (p_t 12) 8 f_t_12, oX10 a_t p_t (upd (upd (upd o_t 4 x1_x5) 8 (0 : Int32)) 7 (0 : Int32)), aI g (p_t 1) 800 f_t_1]) (As := [.int u_4]) (rest := []) C0 (mX10_isSmall l g n u_4 u_7 hu_8) (va_cwS 1 hts gX10_next_X10_isSmall rfl rfl rfl (by decide +kernel) ⟨Nat.le_of_ble_eq_true rfl, Nat.le_of_ble_eq_true rfl⟩) hP hD hS [] [0, 1, 2] rfl rfl rfl rfl rfl (by decide) hl.1 rfl rfl (Nat.le_of_ble_eq_true rfl) ⟨Nat.zero_le _, Nat.zero_le _⟩ dX10_next_61 ?_
      intro H locs hP hD hS
      refine lv_if_eq (tgt := 143) hx hb dX10_next_64 (by decide) (fun c_9 => ?_) (fun c_9 => ?_)
      · have hF := it_p c_9 hF
        refine lv_iload_n hx hb dX10_next_143 rfl (lv_at hl 0 rfl) ?_
        obtain ⟨u_10, hu_11, hF⟩ := ob1_some hF
        refine call_si (wr := [aI g (p_t 12) 8 f_t_12, oX10 a_t p_t (upd (upd (upd o_t 4 x1_x5) 8 (0 : Int32)) 7 (0 : Int32)), aI g (p_t 1) 800 f_t_1]) (As := [.int u_4]) (rest := []) C0 (mX10_isDigit l g n u_4 u_10 hu_11) (va_cwS 1 hts gX10_next_X10_isDigit rfl rfl rfl (by decide +kernel) ⟨Nat.le_of_ble_eq_true rfl, Nat.le_of_ble_eq_true rfl⟩) hP hD hS [] [0, 1, 2] rfl rfl rfl rfl rfl (by decide) hl.1 rfl rfl (Nat.le_of_ble_eq_true rfl) ⟨Nat.zero_le _, Nat.zero_le _⟩ dX10_next_144 ?_
        intro H locs hP hD hS
        refine lv_if_eq (tgt := 219) hx hb dX10_next_147 (by decide) (fun c_12 => ?_) (fun c_12 => ?_)
        · have hF := it_p c_12 hF
          refine lv_aload_n hx hb dX10_next_219 rfl (lv_at hl 1 rfl) ?_
          refine lv_iload_n hx hb dX10_next_220 rfl (lv_at hl 2 rfl) ?_
          refine lv_iconst (v := (1 : Int32)) hx hb dX10_next_221 (by decide) ?_
          refine lv_iadd hx hb dX10_next_222 ?_
          refine va_put (D := g.1) (ci := 10) (v := .int (x1_x5 + (1 : Int32))) (ty := .int) (C := RX10) (T := TX10) (N := 35) hx hb hts iX10_next_X10 tyX10 tyX10_ok nmX10 hown hK.1 hP hD hS 1 rfl rfl 5 (by decide) (hts _ kX10_next_65) (fun _ h9 => h9) rfl (by decide +kernel) rfl rfl (Nat.le_of_ble_eq_true rfl) dX10_next_223 (fun H locs hP hD hS => ?_)
          have hP : va_P g.1 vwCl [aI g (p_t 12) 8 f_t_12, oX10 a_t p_t (upd (upd (upd (upd o_t 4 x1_x5) 8 (0 : Int32)) 7 (0 : Int32)) 5 (x1_x5 + (1 : Int32))), aI g (p_t 1) 800 f_t_1] H := hP
          have hD : va_D A [aI g (p_t 12) 8 f_t_12, oX10 a_t p_t (upd (upd (upd (upd o_t 4 x1_x5) 8 (0 : Int32)) 7 (0 : Int32)) 5 (x1_x5 + (1 : Int32))), aI g (p_t 1) 800 f_t_1] := hD
          refine lv_aload_n hx hb dX10_next_226 rfl (lv_at hl 1 rfl) ?_
          refine lv_iload_n hx hb dX10_next_227 rfl (lv_at hl 0 rfl) ?_
          refine lv_bipush (v := (59 : Int32)) hx hb dX10_next_228 (by decide) ?_
          refine lv_icmp_ne (tgt := 237) hx hb dX10_next_230 (by decide) (fun c_13 => ?_) (fun c_13 => ?_)
          · have hF := it_n c_13 hF
            refine lv_iconst (v := (1 : Int32)) hx hb dX10_next_237 (by decide) ?_
            refine va_put (D := g.1) (ci := 10) (v := .int (1 : Int32)) (ty := .int) (C := RX10) (T := TX10) (N := 35) hx hb hts iX10_next_X10 tyX10 tyX10_ok nmX10 hown hK.1 hP hD hS 1 rfl rfl 6 (by decide) (hts _ kX10_next_81) (fun _ h9 => h9) rfl (by decide +kernel) rfl rfl (Nat.le_of_ble_eq_true rfl) dX10_next_238 (fun H locs hP hD hS => ?_)
            have hP : va_P g.1 vwCl [aI g (p_t 12) 8 f_t_12, oX10 a_t p_t (upd (upd (upd (upd (upd o_t 4 x1_x5) 8 (0 : Int32)) 7 (0 : Int32)) 5 (x1_x5 + (1 : Int32))) 6 (1 : Int32)), aI g (p_t 1) 800 f_t_1] H := hP
            have hD : va_D A [aI g (p_t 12) 8 f_t_12, oX10 a_t p_t (upd (upd (upd (upd (upd o_t 4 x1_x5) 8 (0 : Int32)) 7 (0 : Int32)) 5 (x1_x5 + (1 : Int32))) 6 (1 : Int32)), aI g (p_t 1) 800 f_t_1] := hD
            cases hF
            exact ret_v C0 hP hD hS [1, 2, 0] rfl rfl rfl dX10_next_241
          · have hF := it_p c_13 hF
            refine lv_iload_n hx hb dX10_next_233 rfl (lv_at hl 0 rfl) ?_
            refine lv_goto (tgt := 238) hx hb dX10_next_234 (by decide) ?_
            refine va_put (D := g.1) (ci := 10) (v := .int u_4) (ty := .int) (C := RX10) (T := TX10) (N := 35) hx hb hts iX10_next_X10 tyX10 tyX10_ok nmX10 hown hK.1 hP hD hS 1 rfl rfl 6 (by decide) (hts _ kX10_next_81) (fun _ h9 => h9) rfl (by decide +kernel) rfl rfl (Nat.le_of_ble_eq_true rfl) dX10_next_238 (fun H locs hP hD hS => ?_)
            have hP : va_P g.1 vwCl [aI g (p_t 12) 8 f_t_12, oX10 a_t p_t (upd (upd (upd (upd (upd o_t 4 x1_x5) 8 (0 : Int32)) 7 (0 : Int32)) 5 (x1_x5 + (1 : Int32))) 6 u_4), aI g (p_t 1) 800 f_t_1] H := hP
            have hD : va_D A [aI g (p_t 12) 8 f_t_12, oX10 a_t p_t (upd (upd (upd (upd (upd o_t 4 x1_x5) 8 (0 : Int32)) 7 (0 : Int32)) 5 (x1_x5 + (1 : Int32))) 6 u_4), aI g (p_t 1) 800 f_t_1] := hD
            cases hF
            exact ret_v C0 hP hD hS [1, 2, 0] rfl rfl rfl dX10_next_241
        · have hF := it_n c_12 hF
          refine lv_iconst (v := (0 : Int32)) hx hb dX10_next_150 (by decide) ?_
          refine lv_istore_n (lv' := [(3, .int (0 : Int32)), (2, .int u_4), (0, .ref a_t), (1, .int x1_x5)]) hx hb dX10_next_151 rfl hl (by decide) rfl (fun ls hl => ?_)
          refine wX10_next_L152 C0 a_t p_t n f_t_1 f_t_12 o_t' f_t_12' _ ?_ n x1_x5 (0 : Int32) (upd (upd (upd o_t 4 x1_x5) 8 (0 : Int32)) 7 (0 : Int32)) hF _ _ _ (hP.sub [1, 2, 0] rfl) (hD.sub [1, 2, 0] rfl rfl) hS (lv_sub hl [2, 3, 0] rfl)
          · intro x1_x152 x3_x152 o_t_x152 H locs ls hF hP hD hS hl
            refine lv_aload_n hx hb dX10_next_197 rfl (lv_at hl 0 rfl) ?_
            refine lv_iload_n hx hb dX10_next_198 rfl (lv_at hl 1 rfl) ?_
            refine va_put (D := g.1) (ci := 10) (v := .int x1_x152) (ty := .int) (C := RX10) (T := TX10) (N := 35) hx hb hts iX10_next_X10 tyX10 tyX10_ok nmX10 hown hK.1 hP hD hS 0 rfl rfl 5 (by decide) (hts _ kX10_next_65) (fun _ h9 => h9) rfl (by decide +kernel) rfl rfl (Nat.le_of_ble_eq_true rfl) dX10_next_199 (fun H locs hP hD hS => ?_)
            have hP : va_P g.1 vwCl [oX10 a_t p_t (upd o_t_x152 5 x1_x152), aI g (p_t 1) 800 f_t_1, aI g (p_t 12) 8 f_t_12] H := hP
            have hD : va_D A [oX10 a_t p_t (upd o_t_x152 5 x1_x152), aI g (p_t 1) 800 f_t_1, aI g (p_t 12) 8 f_t_12] := hD
            refine lv_aload_n hx hb dX10_next_202 rfl (lv_at hl 0 rfl) ?_
            refine lv_iload_n hx hb dX10_next_203 rfl (lv_at hl 2 rfl) ?_
            refine lv_iconst (v := (3 : Int32)) hx hb dX10_next_204 (by decide) ?_
            refine lv_icmp_le (tgt := 212) hx hb dX10_next_205 (by decide) (fun c_22 => ?_) (fun c_22 => ?_)
            · have hF := it_p c_22 hF
              refine lv_iconst (v := (3 : Int32)) hx hb dX10_next_212 (by decide) ?_
              refine va_put (D := g.1) (ci := 10) (v := .int (3 : Int32)) (ty := .int) (C := RX10) (T := TX10) (N := 35) hx hb hts iX10_next_X10 tyX10 tyX10_ok nmX10 hown hK.1 hP hD hS 0 rfl rfl 6 (by decide) (hts _ kX10_next_81) (fun _ h9 => h9) rfl (by decide +kernel) rfl rfl (Nat.le_of_ble_eq_true rfl) dX10_next_213 (fun H locs hP hD hS => ?_)
              have hP : va_P g.1 vwCl [oX10 a_t p_t (upd (upd o_t_x152 5 x1_x152) 6 (3 : Int32)), aI g (p_t 1) 800 f_t_1, aI g (p_t 12) 8 f_t_12] H := hP
              have hD : va_D A [oX10 a_t p_t (upd (upd o_t_x152 5 x1_x152) 6 (3 : Int32)), aI g (p_t 1) 800 f_t_1, aI g (p_t 12) 8 f_t_12] := hD
              refine lv_goto (tgt := 241) hx hb dX10_next_216 (by decide) ?_
              cases hF
              exact ret_v C0 hP hD hS [0, 1, 2] rfl rfl rfl dX10_next_241
            · have hF := it_n c_22 hF
              refine lv_iconst (v := (1 : Int32)) hx hb dX10_next_208 (by decide) ?_
              refine lv_goto (tgt := 213) hx hb dX10_next_209 (by decide) ?_
              refine va_put (D := g.1) (ci := 10) (v := .int (1 : Int32)) (ty := .int) (C := RX10) (T := TX10) (N := 35) hx hb hts iX10_next_X10 tyX10 tyX10_ok nmX10 hown hK.1 hP hD hS 0 rfl rfl 6 (by decide) (hts _ kX10_next_81) (fun _ h9 => h9) rfl (by decide +kernel) rfl rfl (Nat.le_of_ble_eq_true rfl) dX10_next_213 (fun H locs hP hD hS => ?_)
              have hP : va_P g.1 vwCl [oX10 a_t p_t (upd (upd o_t_x152 5 x1_x152) 6 (1 : Int32)), aI g (p_t 1) 800 f_t_1, aI g (p_t 12) 8 f_t_12] H := hP
              have hD : va_D A [oX10 a_t p_t (upd (upd o_t_x152 5 x1_x152) 6 (1 : Int32)), aI g (p_t 1) 800 f_t_1, aI g (p_t 12) 8 f_t_12] := hD
              refine lv_goto (tgt := 241) hx hb dX10_next_216 (by decide) ?_
              cases hF
              exact ret_v C0 hP hD hS [0, 1, 2] rfl rfl rfl dX10_next_241
      · have hF := it_n c_9 hF
        refine wX10_next_L67 C0 a_t p_t n f_t_1 o_t' f_t_12' _ ?_ n x1_x5 (upd (upd (upd o_t 4 x1_x5) 8 (0 : Int32)) 7 (0 : Int32)) f_t_12 hF _ _ _ (hP.sub [1, 2, 0] rfl) (hD.sub [1, 2, 0] rfl rfl) hS (lv_sub hl [1, 2] rfl)
        · intro x1_x67 o_t_x67 f_t_12_x67 H locs ls hF hP hD hS hl
          refine lv_aload_n hx hb dX10_next_117 rfl (lv_at hl 0 rfl) ?_
          refine lv_iload_n hx hb dX10_next_118 rfl (lv_at hl 1 rfl) ?_
          refine va_put (D := g.1) (ci := 10) (v := .int x1_x67) (ty := .int) (C := RX10) (T := TX10) (N := 35) hx hb hts iX10_next_X10 tyX10 tyX10_ok nmX10 hown hK.1 hP hD hS 0 rfl rfl 5 (by decide) (hts _ kX10_next_65) (fun _ h9 => h9) rfl (by decide +kernel) rfl rfl (Nat.le_of_ble_eq_true rfl) dX10_next_119 (fun H locs hP hD hS => ?_)
          have hP : va_P g.1 vwCl [oX10 a_t p_t (upd o_t_x67 5 x1_x67), aI g (p_t 1) 800 f_t_1, aI g (p_t 12) 8 f_t_12_x67] H := hP
          have hD : va_D A [oX10 a_t p_t (upd o_t_x67 5 x1_x67), aI g (p_t 1) 800 f_t_1, aI g (p_t 12) 8 f_t_12_x67] := hD
          refine lv_aload_n hx hb dX10_next_122 rfl (lv_at hl 0 rfl) ?_
          refine lv_aload_n hx hb dX10_next_123 rfl (lv_at hl 0 rfl) ?_
          refine va_get (D := g.1) (ci := 10) (v := .int (o_t_x67 8)) (C := RX10) (T := TX10) (N := 35) hx hb hts iX10_next_X10 hown hK.1 hP 0 rfl rfl 8 (by decide) (hts _ kX10_next_75) (fun _ h9 => h9) rfl dX10_next_124 ?_
          refine lv_bipush (v := (8 : Int32)) hx hb dX10_next_127 (by decide) ?_
          refine lv_icmp_le (tgt := 136) hx hb dX10_next_129 (by decide) (fun c_32 => ?_) (fun c_32 => ?_)
          · have hF := it_p c_32 hF
            refine lv_iconst (v := (2 : Int32)) hx hb dX10_next_136 (by decide) ?_
            refine va_put (D := g.1) (ci := 10) (v := .int (2 : Int32)) (ty := .int) (C := RX10) (T := TX10) (N := 35) hx hb hts iX10_next_X10 tyX10 tyX10_ok nmX10 hown hK.1 hP hD hS 0 rfl rfl 6 (by decide) (hts _ kX10_next_81) (fun _ h9 => h9) rfl (by decide +kernel) rfl rfl (Nat.le_of_ble_eq_true rfl) dX10_next_137 (fun H locs hP hD hS => ?_)
            have hP : va_P g.1 vwCl [oX10 a_t p_t (upd (upd o_t_x67 5 x1_x67) 6 (2 : Int32)), aI g (p_t 1) 800 f_t_1, aI g (p_t 12) 8 f_t_12_x67] H := hP
            have hD : va_D A [oX10 a_t p_t (upd (upd o_t_x67 5 x1_x67) 6 (2 : Int32)), aI g (p_t 1) 800 f_t_1, aI g (p_t 12) 8 f_t_12_x67] := hD
            refine lv_goto (tgt := 241) hx hb dX10_next_140 (by decide) ?_
            cases hF
            exact ret_v C0 hP hD hS [0, 1, 2] rfl rfl rfl dX10_next_241
          · have hF := it_n c_32 hF
            refine lv_iconst (v := (1 : Int32)) hx hb dX10_next_132 (by decide) ?_
            refine lv_goto (tgt := 137) hx hb dX10_next_133 (by decide) ?_
            refine va_put (D := g.1) (ci := 10) (v := .int (1 : Int32)) (ty := .int) (C := RX10) (T := TX10) (N := 35) hx hb hts iX10_next_X10 tyX10 tyX10_ok nmX10 hown hK.1 hP hD hS 0 rfl rfl 6 (by decide) (hts _ kX10_next_81) (fun _ h9 => h9) rfl (by decide +kernel) rfl rfl (Nat.le_of_ble_eq_true rfl) dX10_next_137 (fun H locs hP hD hS => ?_)
            have hP : va_P g.1 vwCl [oX10 a_t p_t (upd (upd o_t_x67 5 x1_x67) 6 (1 : Int32)), aI g (p_t 1) 800 f_t_1, aI g (p_t 12) 8 f_t_12_x67] H := hP
            have hD : va_D A [oX10 a_t p_t (upd (upd o_t_x67 5 x1_x67) 6 (1 : Int32)), aI g (p_t 1) 800 f_t_1, aI g (p_t 12) 8 f_t_12_x67] := hD
            refine lv_goto (tgt := 241) hx hb dX10_next_140 (by decide) ?_
            cases hF
            exact ret_v C0 hP hD hS [0, 1, 2] rfl rfl rfl dX10_next_241
    · have hF := it_p c_6 hF
      refine lv_aload_n hx hb dX10_next_47 rfl (lv_at hl 1 rfl) ?_
      refine lv_iconst (v := (0 : Int32)) hx hb dX10_next_48 (by decide) ?_
      refine va_put (D := g.1) (ci := 10) (v := .int (0 : Int32)) (ty := .int) (C := RX10) (T := TX10) (N := 35) hx hb hts iX10_next_X10 tyX10 tyX10_ok nmX10 hown hK.1 hP hD hS 1 rfl rfl 6 (by decide) (hts _ kX10_next_81) (fun _ h9 => h9) rfl (by decide +kernel) rfl rfl (Nat.le_of_ble_eq_true rfl) dX10_next_49 (fun H locs hP hD hS => ?_)
      have hP : va_P g.1 vwCl [aI g (p_t 12) 8 f_t_12, oX10 a_t p_t (upd (upd (upd (upd o_t 4 x1_x5) 8 (0 : Int32)) 7 (0 : Int32)) 6 (0 : Int32)), aI g (p_t 1) 800 f_t_1] H := hP
      have hD : va_D A [aI g (p_t 12) 8 f_t_12, oX10 a_t p_t (upd (upd (upd (upd o_t 4 x1_x5) 8 (0 : Int32)) 7 (0 : Int32)) 6 (0 : Int32)), aI g (p_t 1) 800 f_t_1] := hD
      refine lv_aload_n hx hb dX10_next_52 rfl (lv_at hl 1 rfl) ?_
      refine lv_iload_n hx hb dX10_next_53 rfl (lv_at hl 2 rfl) ?_
      refine va_put (D := g.1) (ci := 10) (v := .int x1_x5) (ty := .int) (C := RX10) (T := TX10) (N := 35) hx hb hts iX10_next_X10 tyX10 tyX10_ok nmX10 hown hK.1 hP hD hS 1 rfl rfl 5 (by decide) (hts _ kX10_next_65) (fun _ h9 => h9) rfl (by decide +kernel) rfl rfl (Nat.le_of_ble_eq_true rfl) dX10_next_54 (fun H locs hP hD hS => ?_)
      have hP : va_P g.1 vwCl [aI g (p_t 12) 8 f_t_12, oX10 a_t p_t (upd (upd (upd (upd (upd o_t 4 x1_x5) 8 (0 : Int32)) 7 (0 : Int32)) 6 (0 : Int32)) 5 x1_x5), aI g (p_t 1) 800 f_t_1] H := hP
      have hD : va_D A [aI g (p_t 12) 8 f_t_12, oX10 a_t p_t (upd (upd (upd (upd (upd o_t 4 x1_x5) 8 (0 : Int32)) 7 (0 : Int32)) 6 (0 : Int32)) 5 x1_x5), aI g (p_t 1) 800 f_t_1] := hD
      refine lv_goto (tgt := 241) hx hb dX10_next_57 (by decide) ?_
      cases hF
      exact ret_v C0 hP hD hS [1, 2, 0] rfl rfl rfl dX10_next_241

theorem dAX10_wrong : ∀ q ∈ ([(0, (.aload_n 0, 1)), (1, (.getfield 91, 3)), (4, (.ifCond .eq 4, 3)), (7, (.return_, 1)), (8, (.aload_n 0, 1)), (9, (.iconst 1, 1)), (10, (.putfield 91, 3)), (13, (.aload_n 0, 1)), (14, (.iload_n 1, 1)), (15, (.putfield 95, 3)), (18, (.aload_n 0, 1)), (19, (.iload_n 2, 1)), (20, (.putfield 13, 3)), (23, (.return_, 1))] : List (Nat × (Instr × Nat))), decode cX10_wrong q.1 = .ok q.2 := by decide +kernel
theorem dX10_wrong_0 : decode cX10_wrong 0 = .ok (.aload_n 0, 1) := dAX10_wrong (0, (.aload_n 0, 1)) (List.mem_of_getElem? (i := 0) rfl)
theorem dX10_wrong_1 : decode cX10_wrong 1 = .ok (.getfield 91, 3) := dAX10_wrong (1, (.getfield 91, 3)) (List.mem_of_getElem? (i := 1) rfl)
theorem dX10_wrong_4 : decode cX10_wrong 4 = .ok (.ifCond .eq 4, 3) := dAX10_wrong (4, (.ifCond .eq 4, 3)) (List.mem_of_getElem? (i := 2) rfl)
theorem dX10_wrong_7 : decode cX10_wrong 7 = .ok (.return_, 1) := dAX10_wrong (7, (.return_, 1)) (List.mem_of_getElem? (i := 3) rfl)
theorem dX10_wrong_8 : decode cX10_wrong 8 = .ok (.aload_n 0, 1) := dAX10_wrong (8, (.aload_n 0, 1)) (List.mem_of_getElem? (i := 4) rfl)
theorem dX10_wrong_9 : decode cX10_wrong 9 = .ok (.iconst 1, 1) := dAX10_wrong (9, (.iconst 1, 1)) (List.mem_of_getElem? (i := 5) rfl)
theorem dX10_wrong_10 : decode cX10_wrong 10 = .ok (.putfield 91, 3) := dAX10_wrong (10, (.putfield 91, 3)) (List.mem_of_getElem? (i := 6) rfl)
theorem dX10_wrong_13 : decode cX10_wrong 13 = .ok (.aload_n 0, 1) := dAX10_wrong (13, (.aload_n 0, 1)) (List.mem_of_getElem? (i := 7) rfl)
theorem dX10_wrong_14 : decode cX10_wrong 14 = .ok (.iload_n 1, 1) := dAX10_wrong (14, (.iload_n 1, 1)) (List.mem_of_getElem? (i := 8) rfl)
theorem dX10_wrong_15 : decode cX10_wrong 15 = .ok (.putfield 95, 3) := dAX10_wrong (15, (.putfield 95, 3)) (List.mem_of_getElem? (i := 9) rfl)
theorem dX10_wrong_18 : decode cX10_wrong 18 = .ok (.aload_n 0, 1) := dAX10_wrong (18, (.aload_n 0, 1)) (List.mem_of_getElem? (i := 10) rfl)
theorem dX10_wrong_19 : decode cX10_wrong 19 = .ok (.iload_n 2, 1) := dAX10_wrong (19, (.iload_n 2, 1)) (List.mem_of_getElem? (i := 11) rfl)
theorem dX10_wrong_20 : decode cX10_wrong 20 = .ok (.putfield 13, 3) := dAX10_wrong (20, (.putfield 13, 3)) (List.mem_of_getElem? (i := 12) rfl)
theorem dX10_wrong_23 : decode cX10_wrong 23 = .ok (.return_, 1) := dAX10_wrong (23, (.return_, 1)) (List.mem_of_getElem? (i := 13) rfl)
theorem kX10_wrong_91 : Cond.fieldLink RX10 91 "EveningVowModel" "failed" "Z" ∈ wsX10_wrong := List.mem_of_getElem? (i := 1) rfl
theorem iX10_wrong_X10 : ∀ w ∈ u_ws RX10 TX10 35, w ∈ wsX10_wrong := fun w h => (List.mem_cons_of_mem _ (List.mem_append_right _ h))
theorem kX10_wrong_95 : Cond.fieldLink RX10 95 "EveningVowModel" "fault" "I" ∈ wsX10_wrong := List.mem_of_getElem? (i := 2) rfl
theorem kX10_wrong_13 : Cond.fieldLink RX10 13 "EveningVowModel" "place" "I" ∈ wsX10_wrong := List.mem_of_getElem? (i := 3) rfl
set_option maxHeartbeats 4000000 in
set_option maxRecDepth 100000 in
theorem mX10_wrong (l : Launch) (g : GG) (a_t : Nat) (p_t : Nat → Nat) (n : Nat) (x1 : Int32) (x2 : Int32) (o_t : Nat → Int32) (o_t' : Nat → Int32) (hF : fX10_wrong n x1 x2 o_t = some (o_t')) : MV l g yX10_wrong wsX10_wrong ({ frames := 0, cells := 0, slots := 0, locals := 0 } : Room) [.ref a_t, .int x1, .int x2] [oX10 a_t p_t o_t] [oX10 a_t p_t o_t'] := by
  refine MV.of (cc := cX10_wrong) (maxL := 3) (own := RX10) rfl rfl (by decide) (Nat.le_of_ble_eq_true rfl) ?_
  intro p e s m args below meth c A C0 hP hD hS ls hl
  obtain ⟨hx, hb, hml, hown, hts, hr, hlk, hK, hA, hSW⟩ := id C0
  have hl : lv_has ls 3 [(0, .ref a_t), (1, .int x1), (2, .int x2)] := hl
  rw [fX10_wrong] at hF
  refine lv_aload_n hx hb dX10_wrong_0 rfl (lv_at hl 0 rfl) ?_
  refine va_get (D := g.1) (ci := 10) (v := .int (o_t 13)) (C := RX10) (T := TX10) (N := 35) hx hb hts iX10_wrong_X10 hown hK.1 hP 0 rfl rfl 13 (by decide) (hts _ kX10_wrong_91) (fun _ h9 => h9) rfl dX10_wrong_1 ?_
  refine lv_if_eq (tgt := 8) hx hb dX10_wrong_4 (by decide) (fun c_1 => ?_) (fun c_1 => ?_)
  · have hF := it_p c_1 hF
    refine lv_aload_n hx hb dX10_wrong_8 rfl (lv_at hl 0 rfl) ?_
    refine lv_iconst (v := (1 : Int32)) hx hb dX10_wrong_9 (by decide) ?_
    refine va_put (D := g.1) (ci := 10) (v := .int (1 : Int32)) (ty := .boolean) (C := RX10) (T := TX10) (N := 35) hx hb hts iX10_wrong_X10 tyX10 tyX10_ok nmX10 hown hK.1 hP hD hS 0 rfl rfl 13 (by decide) (hts _ kX10_wrong_91) (fun _ h9 => h9) rfl (by decide +kernel) rfl rfl (Nat.le_of_ble_eq_true rfl) dX10_wrong_10 (fun H locs hP hD hS => ?_)
    have hP : va_P g.1 vwCl [oX10 a_t p_t (upd o_t 13 (1 : Int32))] H := hP
    have hD : va_D A [oX10 a_t p_t (upd o_t 13 (1 : Int32))] := hD
    refine lv_aload_n hx hb dX10_wrong_13 rfl (lv_at hl 0 rfl) ?_
    refine lv_iload_n hx hb dX10_wrong_14 rfl (lv_at hl 1 rfl) ?_
    refine va_put (D := g.1) (ci := 10) (v := .int x1) (ty := .int) (C := RX10) (T := TX10) (N := 35) hx hb hts iX10_wrong_X10 tyX10 tyX10_ok nmX10 hown hK.1 hP hD hS 0 rfl rfl 9 (by decide) (hts _ kX10_wrong_95) (fun _ h9 => h9) rfl (by decide +kernel) rfl rfl (Nat.le_of_ble_eq_true rfl) dX10_wrong_15 (fun H locs hP hD hS => ?_)
    have hP : va_P g.1 vwCl [oX10 a_t p_t (upd (upd o_t 13 (1 : Int32)) 9 x1)] H := hP
    have hD : va_D A [oX10 a_t p_t (upd (upd o_t 13 (1 : Int32)) 9 x1)] := hD
    refine lv_aload_n hx hb dX10_wrong_18 rfl (lv_at hl 0 rfl) ?_
    refine lv_iload_n hx hb dX10_wrong_19 rfl (lv_at hl 2 rfl) ?_
    refine va_put (D := g.1) (ci := 10) (v := .int x2) (ty := .int) (C := RX10) (T := TX10) (N := 35) hx hb hts iX10_wrong_X10 tyX10 tyX10_ok nmX10 hown hK.1 hP hD hS 0 rfl rfl 10 (by decide) (hts _ kX10_wrong_13) (fun _ h9 => h9) rfl (by decide +kernel) rfl rfl (Nat.le_of_ble_eq_true rfl) dX10_wrong_20 (fun H locs hP hD hS => ?_)
    have hP : va_P g.1 vwCl [oX10 a_t p_t (upd (upd (upd o_t 13 (1 : Int32)) 9 x1) 10 x2)] H := hP
    have hD : va_D A [oX10 a_t p_t (upd (upd (upd o_t 13 (1 : Int32)) 9 x1) 10 x2)] := hD
    cases hF
    exact ret_v C0 hP hD hS [0] rfl rfl rfl dX10_wrong_23
  · have hF := it_n c_1 hF
    cases hF
    exact ret_v C0 hP hD hS [0] rfl rfl rfl dX10_wrong_7

theorem dAX10_find : ∀ q ∈ ([(0, (.iconst 0, 1)), (1, (.istore_n 1, 1)), (2, (.iload_n 1, 1)), (3, (.bipush 16, 2)), (5, (.if_icmp .ge 99, 3)), (8, (.aload_n 0, 1)), (9, (.getfield 23, 3)), (12, (.bipush 122, 2)), (14, (.iload_n 1, 1)), (15, (.iadd, 1)), (16, (.iaload, 1)), (17, (.ifCond .le 23, 3)), (20, (.aload_n 0, 1)), (21, (.getfield 23, 3)), (24, (.bipush 122, 2)), (26, (.iload_n 1, 1)), (27, (.iadd, 1)), (28, (.iaload, 1)), (29, (.aload_n 0, 1)), (30, (.getfield 75, 3)), (33, (.if_icmp .ne 7, 3)), (36, (.iconst 1, 1)), (37, (.goto 4, 3)), (40, (.iconst 0, 1)), (41, (.istore_n 2, 1)), (42, (.iconst 0, 1)), (43, (.istore_n 3, 1)), (44, (.iload_n 3, 1)), (45, (.aload_n 0, 1)), (46, (.getfield 75, 3)), (49, (.if_icmp .ge 43, 3)), (52, (.iload_n 2, 1)), (53, (.ifCond .eq 39, 3)), (56, (.aload_n 0, 1)), (57, (.getfield 23, 3)), (60, (.sipush 138, 3)), (63, (.bipush 8, 2)), (65, (.iload_n 1, 1)), (66, (.imul, 1)), (67, (.iadd, 1)), (68, (.iload_n 3, 1)), (69, (.iadd, 1)), (70, (.iaload, 1)), (71, (.aload_n 0, 1)), (72, (.getfield 17, 3)), (75, (.iload_n 3, 1)), (76, (.iaload, 1)), (77, (.if_icmp .ne 7, 3)), (80, (.iconst 1, 1)), (81, (.goto 4, 3)), (84, (.iconst 0, 1)), (85, (.istore_n 2, 1)), (86, (.iinc 3 1, 3)), (89, (.goto (-45), 3)), (92, (.iload_n 2, 1)), (93, (.ifCond .eq 5, 3)), (96, (.iload_n 1, 1)), (97, (.ireturn, 1)), (98, (.iinc 1 1, 3)), (101, (.goto (-99), 3)), (104, (.iconst (-1), 1)), (105, (.ireturn, 1))] : List (Nat × (Instr × Nat))), decode cX10_find q.1 = .ok q.2 := by decide +kernel
theorem dX10_find_0 : decode cX10_find 0 = .ok (.iconst 0, 1) := dAX10_find (0, (.iconst 0, 1)) (List.mem_of_getElem? (i := 0) rfl)
theorem dX10_find_1 : decode cX10_find 1 = .ok (.istore_n 1, 1) := dAX10_find (1, (.istore_n 1, 1)) (List.mem_of_getElem? (i := 1) rfl)
theorem dX10_find_2 : decode cX10_find 2 = .ok (.iload_n 1, 1) := dAX10_find (2, (.iload_n 1, 1)) (List.mem_of_getElem? (i := 2) rfl)
theorem dX10_find_3 : decode cX10_find 3 = .ok (.bipush 16, 2) := dAX10_find (3, (.bipush 16, 2)) (List.mem_of_getElem? (i := 3) rfl)
theorem dX10_find_5 : decode cX10_find 5 = .ok (.if_icmp .ge 99, 3) := dAX10_find (5, (.if_icmp .ge 99, 3)) (List.mem_of_getElem? (i := 4) rfl)
theorem dX10_find_8 : decode cX10_find 8 = .ok (.aload_n 0, 1) := dAX10_find (8, (.aload_n 0, 1)) (List.mem_of_getElem? (i := 5) rfl)
theorem dX10_find_9 : decode cX10_find 9 = .ok (.getfield 23, 3) := dAX10_find (9, (.getfield 23, 3)) (List.mem_of_getElem? (i := 6) rfl)
theorem dX10_find_12 : decode cX10_find 12 = .ok (.bipush 122, 2) := dAX10_find (12, (.bipush 122, 2)) (List.mem_of_getElem? (i := 7) rfl)
theorem dX10_find_14 : decode cX10_find 14 = .ok (.iload_n 1, 1) := dAX10_find (14, (.iload_n 1, 1)) (List.mem_of_getElem? (i := 8) rfl)
theorem dX10_find_15 : decode cX10_find 15 = .ok (.iadd, 1) := dAX10_find (15, (.iadd, 1)) (List.mem_of_getElem? (i := 9) rfl)
theorem dX10_find_16 : decode cX10_find 16 = .ok (.iaload, 1) := dAX10_find (16, (.iaload, 1)) (List.mem_of_getElem? (i := 10) rfl)
theorem dX10_find_17 : decode cX10_find 17 = .ok (.ifCond .le 23, 3) := dAX10_find (17, (.ifCond .le 23, 3)) (List.mem_of_getElem? (i := 11) rfl)
theorem dX10_find_20 : decode cX10_find 20 = .ok (.aload_n 0, 1) := dAX10_find (20, (.aload_n 0, 1)) (List.mem_of_getElem? (i := 12) rfl)
theorem dX10_find_21 : decode cX10_find 21 = .ok (.getfield 23, 3) := dAX10_find (21, (.getfield 23, 3)) (List.mem_of_getElem? (i := 13) rfl)
theorem dX10_find_24 : decode cX10_find 24 = .ok (.bipush 122, 2) := dAX10_find (24, (.bipush 122, 2)) (List.mem_of_getElem? (i := 14) rfl)
theorem dX10_find_26 : decode cX10_find 26 = .ok (.iload_n 1, 1) := dAX10_find (26, (.iload_n 1, 1)) (List.mem_of_getElem? (i := 15) rfl)
theorem dX10_find_27 : decode cX10_find 27 = .ok (.iadd, 1) := dAX10_find (27, (.iadd, 1)) (List.mem_of_getElem? (i := 16) rfl)
theorem dX10_find_28 : decode cX10_find 28 = .ok (.iaload, 1) := dAX10_find (28, (.iaload, 1)) (List.mem_of_getElem? (i := 17) rfl)
theorem dX10_find_29 : decode cX10_find 29 = .ok (.aload_n 0, 1) := dAX10_find (29, (.aload_n 0, 1)) (List.mem_of_getElem? (i := 18) rfl)
theorem dX10_find_30 : decode cX10_find 30 = .ok (.getfield 75, 3) := dAX10_find (30, (.getfield 75, 3)) (List.mem_of_getElem? (i := 19) rfl)
theorem dX10_find_33 : decode cX10_find 33 = .ok (.if_icmp .ne 7, 3) := dAX10_find (33, (.if_icmp .ne 7, 3)) (List.mem_of_getElem? (i := 20) rfl)
theorem dX10_find_36 : decode cX10_find 36 = .ok (.iconst 1, 1) := dAX10_find (36, (.iconst 1, 1)) (List.mem_of_getElem? (i := 21) rfl)
theorem dX10_find_37 : decode cX10_find 37 = .ok (.goto 4, 3) := dAX10_find (37, (.goto 4, 3)) (List.mem_of_getElem? (i := 22) rfl)
theorem dX10_find_40 : decode cX10_find 40 = .ok (.iconst 0, 1) := dAX10_find (40, (.iconst 0, 1)) (List.mem_of_getElem? (i := 23) rfl)
theorem dX10_find_41 : decode cX10_find 41 = .ok (.istore_n 2, 1) := dAX10_find (41, (.istore_n 2, 1)) (List.mem_of_getElem? (i := 24) rfl)
theorem dX10_find_42 : decode cX10_find 42 = .ok (.iconst 0, 1) := dAX10_find (42, (.iconst 0, 1)) (List.mem_of_getElem? (i := 25) rfl)
theorem dX10_find_43 : decode cX10_find 43 = .ok (.istore_n 3, 1) := dAX10_find (43, (.istore_n 3, 1)) (List.mem_of_getElem? (i := 26) rfl)
theorem dX10_find_44 : decode cX10_find 44 = .ok (.iload_n 3, 1) := dAX10_find (44, (.iload_n 3, 1)) (List.mem_of_getElem? (i := 27) rfl)
theorem dX10_find_45 : decode cX10_find 45 = .ok (.aload_n 0, 1) := dAX10_find (45, (.aload_n 0, 1)) (List.mem_of_getElem? (i := 28) rfl)
theorem dX10_find_46 : decode cX10_find 46 = .ok (.getfield 75, 3) := dAX10_find (46, (.getfield 75, 3)) (List.mem_of_getElem? (i := 29) rfl)
theorem dX10_find_49 : decode cX10_find 49 = .ok (.if_icmp .ge 43, 3) := dAX10_find (49, (.if_icmp .ge 43, 3)) (List.mem_of_getElem? (i := 30) rfl)
theorem dX10_find_52 : decode cX10_find 52 = .ok (.iload_n 2, 1) := dAX10_find (52, (.iload_n 2, 1)) (List.mem_of_getElem? (i := 31) rfl)
theorem dX10_find_53 : decode cX10_find 53 = .ok (.ifCond .eq 39, 3) := dAX10_find (53, (.ifCond .eq 39, 3)) (List.mem_of_getElem? (i := 32) rfl)
theorem dX10_find_56 : decode cX10_find 56 = .ok (.aload_n 0, 1) := dAX10_find (56, (.aload_n 0, 1)) (List.mem_of_getElem? (i := 33) rfl)
theorem dX10_find_57 : decode cX10_find 57 = .ok (.getfield 23, 3) := dAX10_find (57, (.getfield 23, 3)) (List.mem_of_getElem? (i := 34) rfl)
theorem dX10_find_60 : decode cX10_find 60 = .ok (.sipush 138, 3) := dAX10_find (60, (.sipush 138, 3)) (List.mem_of_getElem? (i := 35) rfl)
theorem dX10_find_63 : decode cX10_find 63 = .ok (.bipush 8, 2) := dAX10_find (63, (.bipush 8, 2)) (List.mem_of_getElem? (i := 36) rfl)
theorem dX10_find_65 : decode cX10_find 65 = .ok (.iload_n 1, 1) := dAX10_find (65, (.iload_n 1, 1)) (List.mem_of_getElem? (i := 37) rfl)
theorem dX10_find_66 : decode cX10_find 66 = .ok (.imul, 1) := dAX10_find (66, (.imul, 1)) (List.mem_of_getElem? (i := 38) rfl)
theorem dX10_find_67 : decode cX10_find 67 = .ok (.iadd, 1) := dAX10_find (67, (.iadd, 1)) (List.mem_of_getElem? (i := 39) rfl)
theorem dX10_find_68 : decode cX10_find 68 = .ok (.iload_n 3, 1) := dAX10_find (68, (.iload_n 3, 1)) (List.mem_of_getElem? (i := 40) rfl)
theorem dX10_find_69 : decode cX10_find 69 = .ok (.iadd, 1) := dAX10_find (69, (.iadd, 1)) (List.mem_of_getElem? (i := 41) rfl)
theorem dX10_find_70 : decode cX10_find 70 = .ok (.iaload, 1) := dAX10_find (70, (.iaload, 1)) (List.mem_of_getElem? (i := 42) rfl)
theorem dX10_find_71 : decode cX10_find 71 = .ok (.aload_n 0, 1) := dAX10_find (71, (.aload_n 0, 1)) (List.mem_of_getElem? (i := 43) rfl)
theorem dX10_find_72 : decode cX10_find 72 = .ok (.getfield 17, 3) := dAX10_find (72, (.getfield 17, 3)) (List.mem_of_getElem? (i := 44) rfl)
theorem dX10_find_75 : decode cX10_find 75 = .ok (.iload_n 3, 1) := dAX10_find (75, (.iload_n 3, 1)) (List.mem_of_getElem? (i := 45) rfl)
theorem dX10_find_76 : decode cX10_find 76 = .ok (.iaload, 1) := dAX10_find (76, (.iaload, 1)) (List.mem_of_getElem? (i := 46) rfl)
theorem dX10_find_77 : decode cX10_find 77 = .ok (.if_icmp .ne 7, 3) := dAX10_find (77, (.if_icmp .ne 7, 3)) (List.mem_of_getElem? (i := 47) rfl)
theorem dX10_find_80 : decode cX10_find 80 = .ok (.iconst 1, 1) := dAX10_find (80, (.iconst 1, 1)) (List.mem_of_getElem? (i := 48) rfl)
theorem dX10_find_81 : decode cX10_find 81 = .ok (.goto 4, 3) := dAX10_find (81, (.goto 4, 3)) (List.mem_of_getElem? (i := 49) rfl)
theorem dX10_find_84 : decode cX10_find 84 = .ok (.iconst 0, 1) := dAX10_find (84, (.iconst 0, 1)) (List.mem_of_getElem? (i := 50) rfl)
theorem dX10_find_85 : decode cX10_find 85 = .ok (.istore_n 2, 1) := dAX10_find (85, (.istore_n 2, 1)) (List.mem_of_getElem? (i := 51) rfl)
theorem dX10_find_86 : decode cX10_find 86 = .ok (.iinc 3 1, 3) := dAX10_find (86, (.iinc 3 1, 3)) (List.mem_of_getElem? (i := 52) rfl)
theorem dX10_find_89 : decode cX10_find 89 = .ok (.goto (-45), 3) := dAX10_find (89, (.goto (-45), 3)) (List.mem_of_getElem? (i := 53) rfl)
theorem dX10_find_92 : decode cX10_find 92 = .ok (.iload_n 2, 1) := dAX10_find (92, (.iload_n 2, 1)) (List.mem_of_getElem? (i := 54) rfl)
theorem dX10_find_93 : decode cX10_find 93 = .ok (.ifCond .eq 5, 3) := dAX10_find (93, (.ifCond .eq 5, 3)) (List.mem_of_getElem? (i := 55) rfl)
theorem dX10_find_96 : decode cX10_find 96 = .ok (.iload_n 1, 1) := dAX10_find (96, (.iload_n 1, 1)) (List.mem_of_getElem? (i := 56) rfl)
theorem dX10_find_97 : decode cX10_find 97 = .ok (.ireturn, 1) := dAX10_find (97, (.ireturn, 1)) (List.mem_of_getElem? (i := 57) rfl)
theorem dX10_find_98 : decode cX10_find 98 = .ok (.iinc 1 1, 3) := dAX10_find (98, (.iinc 1 1, 3)) (List.mem_of_getElem? (i := 58) rfl)
theorem dX10_find_101 : decode cX10_find 101 = .ok (.goto (-99), 3) := dAX10_find (101, (.goto (-99), 3)) (List.mem_of_getElem? (i := 59) rfl)
theorem dX10_find_104 : decode cX10_find 104 = .ok (.iconst (-1), 1) := dAX10_find (104, (.iconst (-1), 1)) (List.mem_of_getElem? (i := 60) rfl)
theorem dX10_find_105 : decode cX10_find 105 = .ok (.ireturn, 1) := dAX10_find (105, (.ireturn, 1)) (List.mem_of_getElem? (i := 61) rfl)
theorem kX10_find_23 : Cond.fieldLink RX10 23 "EveningVowModel" "fresh" "[I" ∈ wsX10_find := List.mem_of_getElem? (i := 1) rfl
theorem iX10_find_X10 : ∀ w ∈ u_ws RX10 TX10 35, w ∈ wsX10_find := fun w h => (List.mem_cons_of_mem _ (List.mem_append_right _ h))
theorem kX10_find_75 : Cond.fieldLink RX10 75 "EveningVowModel" "nameSize" "I" ∈ wsX10_find := List.mem_of_getElem? (i := 2) rfl
theorem kX10_find_17 : Cond.fieldLink RX10 17 "EveningVowModel" "letters" "[I" ∈ wsX10_find := List.mem_of_getElem? (i := 3) rfl
set_option maxHeartbeats 4000000 in
set_option maxRecDepth 100000 in
theorem wX10_find_L44 {p : Program} {l : Launch} {e : Env} {s : State} {m : MethodId} {args : Array Value} {below : List Frame} {meth : Method} {c : Code} {g : GG} {A : Nat → Prop} (C0 : Cx p s m args meth c cX10_find 4 (some .int) RX10 wsX10_find g A) (a_t : Nat) (p_t : Nat → Nat) (n : Nat) (x1 : Int32) (o_t : Nat → Int32) (f_t_12 : Nat → Int32) (f_t_16 : Nat → Int32)  (r : Int32) (K : Int32 → Option (Int32)) (hKx : ∀ (x2 : Int32) (H : Heap) (locs : List Loc) (ls : Array Slot), K x2 = some (r) → va_P g.1 vwCl [oX10 a_t p_t o_t, aI g (p_t 12) 8 f_t_12, aI g (p_t 16) 266 f_t_16] H → va_D A [oX10 a_t p_t o_t, aI g (p_t 12) 8 f_t_12, aI g (p_t 16) 266 f_t_16] → va_S A s.heap H locs → lv_has ls 4 [(0, .ref a_t), (1, .int x1), (2, .int x2)] → W p l e ({ frames := 0, cells := 0, slots := 0, locals := 0 } : Room) s m args below meth c H locs 0 0 (MQ below (EndI g r [oX10 a_t p_t o_t, aI g (p_t 12) 8 f_t_12, aI g (p_t 16) 266 f_t_16] A) args s 0 0 A) (F0 m 92 ls [])) : ∀ (k : Nat) (x2 : Int32) (x3 : Int32), fX10_find_L44 n x1 o_t f_t_12 f_t_16 K k x2 x3 = some (r) → ∀ (H : Heap) (locs : List Loc) (ls : Array Slot), va_P g.1 vwCl [oX10 a_t p_t o_t, aI g (p_t 12) 8 f_t_12, aI g (p_t 16) 266 f_t_16] H → va_D A [oX10 a_t p_t o_t, aI g (p_t 12) 8 f_t_12, aI g (p_t 16) 266 f_t_16] → va_S A s.heap H locs → lv_has ls 4 [(0, .ref a_t), (1, .int x1), (2, .int x2), (3, .int x3)] → W p l e ({ frames := 0, cells := 0, slots := 0, locals := 0 } : Room) s m args below meth c H locs 0 0 (MQ below (EndI g r [oX10 a_t p_t o_t, aI g (p_t 12) 8 f_t_12, aI g (p_t 16) 266 f_t_16] A) args s 0 0 A) (F0 m 44 ls []) := by
  obtain ⟨hx, hb, hml, hown, hts, hr, hlk, hK, hA, hSW⟩ := id C0
  intro k
  induction k with
  | zero =>
    intro x2 x3 hF
    exact absurd hF (by simp [fX10_find_L44])
  | succ k ih =>
    intro x2 x3 hF H locs ls hP hD hS hl
    rw [fX10_find_L44] at hF
    refine lv_iload_n hx hb dX10_find_44 rfl (lv_at hl 3 rfl) ?_
    refine lv_aload_n hx hb dX10_find_45 rfl (lv_at hl 0 rfl) ?_
    refine va_get (D := g.1) (ci := 10) (v := .int (o_t 8)) (C := RX10) (T := TX10) (N := 35) hx hb hts iX10_find_X10 hown hK.1 hP 0 rfl rfl 8 (by decide) (hts _ kX10_find_75) (fun _ h9 => h9) rfl dX10_find_46 ?_
    refine lv_icmp_ge (tgt := 92) hx hb dX10_find_49 (by decide) (fun c_4 => ?_) (fun c_4 => ?_)
    · have hF := it_p c_4 hF
      exact hKx x2 _ _ _ hF (hP.sub [0, 1, 2] rfl) (hD.sub [0, 1, 2] rfl rfl) hS (lv_sub hl [0, 1, 2] rfl)
    · have hF := it_n c_4 hF
      refine lv_iload_n hx hb dX10_find_52 rfl (lv_at hl 2 rfl) ?_
      refine lv_if_eq (tgt := 92) hx hb dX10_find_53 (by decide) (fun c_5 => ?_) (fun c_5 => ?_)
      · have hF := it_p c_5 hF
        exact hKx x2 _ _ _ hF (hP.sub [0, 1, 2] rfl) (hD.sub [0, 1, 2] rfl rfl) hS (lv_sub hl [0, 1, 2] rfl)
      · have hF := it_n c_5 hF
        refine lv_aload_n hx hb dX10_find_56 rfl (lv_at hl 0 rfl) ?_
        refine va_get (D := g.1) (ci := 10) (v := .ref (p_t 16)) (C := RX10) (T := TX10) (N := 35) hx hb hts iX10_find_X10 hown hK.1 hP 0 rfl rfl 16 (by decide) (hts _ kX10_find_23) (fun _ h9 => h9) rfl dX10_find_57 ?_
        refine lv_sipush (v := (138 : Int32)) hx hb dX10_find_60 (by decide) ?_
        refine lv_bipush (v := (8 : Int32)) hx hb dX10_find_63 (by decide) ?_
        refine lv_iload_n hx hb dX10_find_65 rfl (lv_at hl 1 rfl) ?_
        refine lv_imul hx hb dX10_find_66 ?_
        refine lv_iadd hx hb dX10_find_67 ?_
        refine lv_iload_n hx hb dX10_find_68 rfl (lv_at hl 3 rfl) ?_
        refine lv_iadd hx hb dX10_find_69 ?_
        obtain ⟨h_6, hF⟩ := it_ck hF
        refine va_iald hx hb hK.1 hP 2 0 rfl rfl h_6 dX10_find_70 ?_
        refine lv_aload_n hx hb dX10_find_71 rfl (lv_at hl 0 rfl) ?_
        refine va_get (D := g.1) (ci := 10) (v := .ref (p_t 12)) (C := RX10) (T := TX10) (N := 35) hx hb hts iX10_find_X10 hown hK.1 hP 0 rfl rfl 12 (by decide) (hts _ kX10_find_17) (fun _ h9 => h9) rfl dX10_find_72 ?_
        refine lv_iload_n hx hb dX10_find_75 rfl (lv_at hl 3 rfl) ?_
        obtain ⟨h_7, hF⟩ := it_ck hF
        refine va_iald hx hb hK.1 hP 1 0 rfl rfl h_7 dX10_find_76 ?_
        refine lv_icmp_ne (tgt := 84) hx hb dX10_find_77 (by decide) (fun c_8 => ?_) (fun c_8 => ?_)
        · have hF := it_n c_8 hF
          refine lv_iconst (v := (0 : Int32)) hx hb dX10_find_84 (by decide) ?_
          refine lv_istore_n (lv' := [(2, .int (0 : Int32)), (0, .ref a_t), (1, .int x1), (3, .int x3)]) hx hb dX10_find_85 rfl hl (by decide) rfl (fun ls hl => ?_)
          refine lv_iinc (v := (x3 + (1 : Int32))) (lv' := [(3, .int (x3 + (1 : Int32))), (2, .int (0 : Int32)), (0, .ref a_t), (1, .int x1)]) hx hb dX10_find_86 hl (k := 3) rfl rfl (by decide) rfl (fun ls hl => ?_)
          refine lv_goto (tgt := 44) hx hb dX10_find_89 (by decide) ?_
          exact ih (0 : Int32) (x3 + (1 : Int32)) hF _ _ _ (hP.sub [0, 1, 2] rfl) (hD.sub [0, 1, 2] rfl rfl) hS (lv_sub hl [2, 3, 1, 0] rfl)
        · have hF := it_p c_8 hF
          refine lv_iconst (v := (1 : Int32)) hx hb dX10_find_80 (by decide) ?_
          refine lv_goto (tgt := 85) hx hb dX10_find_81 (by decide) ?_
          refine lv_istore_n (lv' := [(2, .int (1 : Int32)), (0, .ref a_t), (1, .int x1), (3, .int x3)]) hx hb dX10_find_85 rfl hl (by decide) rfl (fun ls hl => ?_)
          refine lv_iinc (v := (x3 + (1 : Int32))) (lv' := [(3, .int (x3 + (1 : Int32))), (2, .int (1 : Int32)), (0, .ref a_t), (1, .int x1)]) hx hb dX10_find_86 hl (k := 3) rfl rfl (by decide) rfl (fun ls hl => ?_)
          refine lv_goto (tgt := 44) hx hb dX10_find_89 (by decide) ?_
          exact ih (1 : Int32) (x3 + (1 : Int32)) hF _ _ _ (hP.sub [0, 1, 2] rfl) (hD.sub [0, 1, 2] rfl rfl) hS (lv_sub hl [2, 3, 1, 0] rfl)
set_option maxHeartbeats 4000000 in
set_option maxRecDepth 100000 in
theorem wX10_find_L2 {p : Program} {l : Launch} {e : Env} {s : State} {m : MethodId} {args : Array Value} {below : List Frame} {meth : Method} {c : Code} {g : GG} {A : Nat → Prop} (C0 : Cx p s m args meth c cX10_find 4 (some .int) RX10 wsX10_find g A) (a_t : Nat) (p_t : Nat → Nat) (n : Nat) (o_t : Nat → Int32) (f_t_12 : Nat → Int32) (f_t_16 : Nat → Int32)  (r : Int32) (K : Unit → Option (Int32)) (hKx : ∀  (H : Heap) (locs : List Loc) (ls : Array Slot), K () = some (r) → va_P g.1 vwCl [oX10 a_t p_t o_t, aI g (p_t 12) 8 f_t_12, aI g (p_t 16) 266 f_t_16] H → va_D A [oX10 a_t p_t o_t, aI g (p_t 12) 8 f_t_12, aI g (p_t 16) 266 f_t_16] → va_S A s.heap H locs → lv_has ls 4 [] → W p l e ({ frames := 0, cells := 0, slots := 0, locals := 0 } : Room) s m args below meth c H locs 0 0 (MQ below (EndI g r [oX10 a_t p_t o_t, aI g (p_t 12) 8 f_t_12, aI g (p_t 16) 266 f_t_16] A) args s 0 0 A) (F0 m 104 ls [])) : ∀ (k : Nat) (x1 : Int32), fX10_find_L2 n o_t f_t_12 f_t_16 K k x1 = some (r) → ∀ (H : Heap) (locs : List Loc) (ls : Array Slot), va_P g.1 vwCl [oX10 a_t p_t o_t, aI g (p_t 12) 8 f_t_12, aI g (p_t 16) 266 f_t_16] H → va_D A [oX10 a_t p_t o_t, aI g (p_t 12) 8 f_t_12, aI g (p_t 16) 266 f_t_16] → va_S A s.heap H locs → lv_has ls 4 [(0, .ref a_t), (1, .int x1)] → W p l e ({ frames := 0, cells := 0, slots := 0, locals := 0 } : Room) s m args below meth c H locs 0 0 (MQ below (EndI g r [oX10 a_t p_t o_t, aI g (p_t 12) 8 f_t_12, aI g (p_t 16) 266 f_t_16] A) args s 0 0 A) (F0 m 2 ls []) := by
  obtain ⟨hx, hb, hml, hown, hts, hr, hlk, hK, hA, hSW⟩ := id C0
  intro k
  induction k with
  | zero =>
    intro x1 hF
    exact absurd hF (by simp [fX10_find_L2])
  | succ k ih =>
    intro x1 hF H locs ls hP hD hS hl
    rw [fX10_find_L2] at hF
    refine lv_iload_n hx hb dX10_find_2 rfl (lv_at hl 1 rfl) ?_
    refine lv_bipush (v := (16 : Int32)) hx hb dX10_find_3 (by decide) ?_
    refine lv_icmp_ge (tgt := 104) hx hb dX10_find_5 (by decide) (fun c_1 => ?_) (fun c_1 => ?_)
    · have hF := it_p c_1 hF
      exact hKx  _ _ _ hF (hP.sub [0, 1, 2] rfl) (hD.sub [0, 1, 2] rfl rfl) hS (lv_sub hl [] rfl)
    · have hF := it_n c_1 hF
      refine lv_aload_n hx hb dX10_find_8 rfl (lv_at hl 0 rfl) ?_
      refine va_get (D := g.1) (ci := 10) (v := .ref (p_t 16)) (C := RX10) (T := TX10) (N := 35) hx hb hts iX10_find_X10 hown hK.1 hP 0 rfl rfl 16 (by decide) (hts _ kX10_find_23) (fun _ h9 => h9) rfl dX10_find_9 ?_
      refine lv_bipush (v := (122 : Int32)) hx hb dX10_find_12 (by decide) ?_
      refine lv_iload_n hx hb dX10_find_14 rfl (lv_at hl 1 rfl) ?_
      refine lv_iadd hx hb dX10_find_15 ?_
      obtain ⟨h_2, hF⟩ := it_ck hF
      refine va_iald hx hb hK.1 hP 2 0 rfl rfl h_2 dX10_find_16 ?_
      refine lv_if_le (tgt := 40) hx hb dX10_find_17 (by decide) (fun c_3 => ?_) (fun c_3 => ?_)
      · have hF := it_p c_3 hF
        refine lv_iconst (v := (0 : Int32)) hx hb dX10_find_40 (by decide) ?_
        refine lv_istore_n (lv' := [(2, .int (0 : Int32)), (0, .ref a_t), (1, .int x1)]) hx hb dX10_find_41 rfl hl (by decide) rfl (fun ls hl => ?_)
        refine lv_iconst (v := (0 : Int32)) hx hb dX10_find_42 (by decide) ?_
        refine lv_istore_n (lv' := [(3, .int (0 : Int32)), (2, .int (0 : Int32)), (0, .ref a_t), (1, .int x1)]) hx hb dX10_find_43 rfl hl (by decide) rfl (fun ls hl => ?_)
        refine wX10_find_L44 C0 a_t p_t n x1 o_t f_t_12 f_t_16 r _ ?_ n (0 : Int32) (0 : Int32) hF _ _ _ (hP.sub [0, 1, 2] rfl) (hD.sub [0, 1, 2] rfl rfl) hS (lv_sub hl [2, 3, 1, 0] rfl)
        · intro x2_x44 H locs ls hF hP hD hS hl
          refine lv_iload_n hx hb dX10_find_92 rfl (lv_at hl 2 rfl) ?_
          refine lv_if_eq (tgt := 98) hx hb dX10_find_93 (by decide) (fun c_9 => ?_) (fun c_9 => ?_)
          · have hF := it_p c_9 hF
            refine lv_iinc (v := (x1 + (1 : Int32))) (lv' := [(1, .int (x1 + (1 : Int32))), (0, .ref a_t), (2, .int x2_x44)]) hx hb dX10_find_98 hl (k := 1) rfl rfl (by decide) rfl (fun ls hl => ?_)
            refine lv_goto (tgt := 2) hx hb dX10_find_101 (by decide) ?_
            exact ih (x1 + (1 : Int32)) hF _ _ _ (hP.sub [0, 1, 2] rfl) (hD.sub [0, 1, 2] rfl rfl) hS (lv_sub hl [1, 0] rfl)
          · have hF := it_n c_9 hF
            refine lv_iload_n hx hb dX10_find_96 rfl (lv_at hl 1 rfl) ?_
            cases hF
            exact ret_i C0 hP hD hS [0, 1, 2] rfl rfl rfl dX10_find_97 rfl
      · have hF := it_n c_3 hF
        refine lv_aload_n hx hb dX10_find_20 rfl (lv_at hl 0 rfl) ?_
        refine va_get (D := g.1) (ci := 10) (v := .ref (p_t 16)) (C := RX10) (T := TX10) (N := 35) hx hb hts iX10_find_X10 hown hK.1 hP 0 rfl rfl 16 (by decide) (hts _ kX10_find_23) (fun _ h9 => h9) rfl dX10_find_21 ?_
        refine lv_bipush (v := (122 : Int32)) hx hb dX10_find_24 (by decide) ?_
        refine lv_iload_n hx hb dX10_find_26 rfl (lv_at hl 1 rfl) ?_
        refine lv_iadd hx hb dX10_find_27 ?_
        obtain ⟨h_10, hF⟩ := it_ck hF
        refine va_iald hx hb hK.1 hP 2 0 rfl rfl h_10 dX10_find_28 ?_
        refine lv_aload_n hx hb dX10_find_29 rfl (lv_at hl 0 rfl) ?_
        refine va_get (D := g.1) (ci := 10) (v := .int (o_t 8)) (C := RX10) (T := TX10) (N := 35) hx hb hts iX10_find_X10 hown hK.1 hP 0 rfl rfl 8 (by decide) (hts _ kX10_find_75) (fun _ h9 => h9) rfl dX10_find_30 ?_
        refine lv_icmp_ne (tgt := 40) hx hb dX10_find_33 (by decide) (fun c_11 => ?_) (fun c_11 => ?_)
        · have hF := it_n c_11 hF
          refine lv_iconst (v := (0 : Int32)) hx hb dX10_find_40 (by decide) ?_
          refine lv_istore_n (lv' := [(2, .int (0 : Int32)), (0, .ref a_t), (1, .int x1)]) hx hb dX10_find_41 rfl hl (by decide) rfl (fun ls hl => ?_)
          refine lv_iconst (v := (0 : Int32)) hx hb dX10_find_42 (by decide) ?_
          refine lv_istore_n (lv' := [(3, .int (0 : Int32)), (2, .int (0 : Int32)), (0, .ref a_t), (1, .int x1)]) hx hb dX10_find_43 rfl hl (by decide) rfl (fun ls hl => ?_)
          refine wX10_find_L44 C0 a_t p_t n x1 o_t f_t_12 f_t_16 r _ ?_ n (0 : Int32) (0 : Int32) hF _ _ _ (hP.sub [0, 1, 2] rfl) (hD.sub [0, 1, 2] rfl rfl) hS (lv_sub hl [2, 3, 1, 0] rfl)
          · intro x2_x44 H locs ls hF hP hD hS hl
            refine lv_iload_n hx hb dX10_find_92 rfl (lv_at hl 2 rfl) ?_
            refine lv_if_eq (tgt := 98) hx hb dX10_find_93 (by decide) (fun c_12 => ?_) (fun c_12 => ?_)
            · have hF := it_p c_12 hF
              refine lv_iinc (v := (x1 + (1 : Int32))) (lv' := [(1, .int (x1 + (1 : Int32))), (0, .ref a_t), (2, .int x2_x44)]) hx hb dX10_find_98 hl (k := 1) rfl rfl (by decide) rfl (fun ls hl => ?_)
              refine lv_goto (tgt := 2) hx hb dX10_find_101 (by decide) ?_
              exact ih (x1 + (1 : Int32)) hF _ _ _ (hP.sub [0, 1, 2] rfl) (hD.sub [0, 1, 2] rfl rfl) hS (lv_sub hl [1, 0] rfl)
            · have hF := it_n c_12 hF
              refine lv_iload_n hx hb dX10_find_96 rfl (lv_at hl 1 rfl) ?_
              cases hF
              exact ret_i C0 hP hD hS [0, 1, 2] rfl rfl rfl dX10_find_97 rfl
        · have hF := it_p c_11 hF
          refine lv_iconst (v := (1 : Int32)) hx hb dX10_find_36 (by decide) ?_
          refine lv_goto (tgt := 41) hx hb dX10_find_37 (by decide) ?_
          refine lv_istore_n (lv' := [(2, .int (1 : Int32)), (0, .ref a_t), (1, .int x1)]) hx hb dX10_find_41 rfl hl (by decide) rfl (fun ls hl => ?_)
          refine lv_iconst (v := (0 : Int32)) hx hb dX10_find_42 (by decide) ?_
          refine lv_istore_n (lv' := [(3, .int (0 : Int32)), (2, .int (1 : Int32)), (0, .ref a_t), (1, .int x1)]) hx hb dX10_find_43 rfl hl (by decide) rfl (fun ls hl => ?_)
          refine wX10_find_L44 C0 a_t p_t n x1 o_t f_t_12 f_t_16 r _ ?_ n (1 : Int32) (0 : Int32) hF _ _ _ (hP.sub [0, 1, 2] rfl) (hD.sub [0, 1, 2] rfl rfl) hS (lv_sub hl [2, 3, 1, 0] rfl)
          · intro x2_x44 H locs ls hF hP hD hS hl
            refine lv_iload_n hx hb dX10_find_92 rfl (lv_at hl 2 rfl) ?_
            refine lv_if_eq (tgt := 98) hx hb dX10_find_93 (by decide) (fun c_13 => ?_) (fun c_13 => ?_)
            · have hF := it_p c_13 hF
              refine lv_iinc (v := (x1 + (1 : Int32))) (lv' := [(1, .int (x1 + (1 : Int32))), (0, .ref a_t), (2, .int x2_x44)]) hx hb dX10_find_98 hl (k := 1) rfl rfl (by decide) rfl (fun ls hl => ?_)
              refine lv_goto (tgt := 2) hx hb dX10_find_101 (by decide) ?_
              exact ih (x1 + (1 : Int32)) hF _ _ _ (hP.sub [0, 1, 2] rfl) (hD.sub [0, 1, 2] rfl rfl) hS (lv_sub hl [1, 0] rfl)
            · have hF := it_n c_13 hF
              refine lv_iload_n hx hb dX10_find_96 rfl (lv_at hl 1 rfl) ?_
              cases hF
              exact ret_i C0 hP hD hS [0, 1, 2] rfl rfl rfl dX10_find_97 rfl
set_option maxHeartbeats 4000000 in
set_option maxRecDepth 100000 in
theorem mX10_find (l : Launch) (g : GG) (a_t : Nat) (p_t : Nat → Nat) (n : Nat) (o_t : Nat → Int32) (f_t_12 : Nat → Int32) (f_t_16 : Nat → Int32) (r : Int32) (hF : fX10_find n o_t f_t_12 f_t_16 = some (r)) : MI l g yX10_find wsX10_find ({ frames := 0, cells := 0, slots := 0, locals := 0 } : Room) [.ref a_t] [oX10 a_t p_t o_t, aI g (p_t 12) 8 f_t_12, aI g (p_t 16) 266 f_t_16] r [oX10 a_t p_t o_t, aI g (p_t 12) 8 f_t_12, aI g (p_t 16) 266 f_t_16] := by
  refine MI.of (cc := cX10_find) (maxL := 4) (rt := .int) (own := RX10) rfl rfl (by decide) (Nat.le_of_ble_eq_true rfl) ?_
  intro p e s m args below meth c A C0 hP hD hS ls hl
  obtain ⟨hx, hb, hml, hown, hts, hr, hlk, hK, hA, hSW⟩ := id C0
  have hl : lv_has ls 4 [(0, .ref a_t)] := hl
  rw [fX10_find] at hF
  refine lv_iconst (v := (0 : Int32)) hx hb dX10_find_0 (by decide) ?_
  refine lv_istore_n (lv' := [(1, .int (0 : Int32)), (0, .ref a_t)]) hx hb dX10_find_1 rfl hl (by decide) rfl (fun ls hl => ?_)
  refine wX10_find_L2 C0 a_t p_t n o_t f_t_12 f_t_16 r _ ?_ n (0 : Int32) hF _ _ _ (hP.sub [0, 1, 2] rfl) (hD.sub [0, 1, 2] rfl rfl) hS (lv_sub hl [1, 0] rfl)
  · intro  H locs ls hF hP hD hS hl
    refine lv_iconst (v := (-1 : Int32)) hx hb dX10_find_104 (by decide) ?_
    cases hF
    exact ret_i C0 hP hD hS [0, 1, 2] rfl rfl rfl dX10_find_105 rfl

theorem dAX10_number : ∀ q ∈ ([(0, (.aload_n 0, 1)), (1, (.getfield 91, 3)), (4, (.ifCond .eq 5, 3)), (7, (.iload_n 1, 1)), (8, (.ireturn, 1)), (9, (.aload_n 0, 1)), (10, (.getfield 81, 3)), (13, (.iconst 3, 1)), (14, (.if_icmp .eq 15, 3)), (17, (.aload_n 0, 1)), (18, (.iconst 1, 1)), (19, (.aload_n 0, 1)), (20, (.getfield 72, 3)), (23, (.invokevirtual 118, 3)), (26, (.goto 24, 3)), (29, (.aload_n 0, 1)), (30, (.getfield 78, 3)), (33, (.iload_n 1, 1)), (34, (.iload_n 2, 1)), (35, (.invokestatic 144, 3)), (38, (.ifCond .ne 12, 3)), (41, (.aload_n 0, 1)), (42, (.iconst 4, 1)), (43, (.aload_n 0, 1)), (44, (.getfield 72, 3)), (47, (.invokevirtual 118, 3)), (50, (.aload_n 0, 1)), (51, (.getfield 91, 3)), (54, (.ifCond .eq 5, 3)), (57, (.iload_n 1, 1)), (58, (.ireturn, 1)), (59, (.aload_n 0, 1)), (60, (.getfield 78, 3)), (63, (.istore_n 3, 1)), (64, (.aload_n 0, 1)), (65, (.invokevirtual 112, 3)), (68, (.iload_n 3, 1)), (69, (.ireturn, 1))] : List (Nat × (Instr × Nat))), decode cX10_number q.1 = .ok q.2 := by decide +kernel
theorem dX10_number_0 : decode cX10_number 0 = .ok (.aload_n 0, 1) := dAX10_number (0, (.aload_n 0, 1)) (List.mem_of_getElem? (i := 0) rfl)
theorem dX10_number_1 : decode cX10_number 1 = .ok (.getfield 91, 3) := dAX10_number (1, (.getfield 91, 3)) (List.mem_of_getElem? (i := 1) rfl)
theorem dX10_number_4 : decode cX10_number 4 = .ok (.ifCond .eq 5, 3) := dAX10_number (4, (.ifCond .eq 5, 3)) (List.mem_of_getElem? (i := 2) rfl)
theorem dX10_number_7 : decode cX10_number 7 = .ok (.iload_n 1, 1) := dAX10_number (7, (.iload_n 1, 1)) (List.mem_of_getElem? (i := 3) rfl)
theorem dX10_number_8 : decode cX10_number 8 = .ok (.ireturn, 1) := dAX10_number (8, (.ireturn, 1)) (List.mem_of_getElem? (i := 4) rfl)
theorem dX10_number_9 : decode cX10_number 9 = .ok (.aload_n 0, 1) := dAX10_number (9, (.aload_n 0, 1)) (List.mem_of_getElem? (i := 5) rfl)
theorem dX10_number_10 : decode cX10_number 10 = .ok (.getfield 81, 3) := dAX10_number (10, (.getfield 81, 3)) (List.mem_of_getElem? (i := 6) rfl)
theorem dX10_number_13 : decode cX10_number 13 = .ok (.iconst 3, 1) := dAX10_number (13, (.iconst 3, 1)) (List.mem_of_getElem? (i := 7) rfl)
theorem dX10_number_14 : decode cX10_number 14 = .ok (.if_icmp .eq 15, 3) := dAX10_number (14, (.if_icmp .eq 15, 3)) (List.mem_of_getElem? (i := 8) rfl)
theorem dX10_number_17 : decode cX10_number 17 = .ok (.aload_n 0, 1) := dAX10_number (17, (.aload_n 0, 1)) (List.mem_of_getElem? (i := 9) rfl)
theorem dX10_number_18 : decode cX10_number 18 = .ok (.iconst 1, 1) := dAX10_number (18, (.iconst 1, 1)) (List.mem_of_getElem? (i := 10) rfl)
theorem dX10_number_19 : decode cX10_number 19 = .ok (.aload_n 0, 1) := dAX10_number (19, (.aload_n 0, 1)) (List.mem_of_getElem? (i := 11) rfl)
theorem dX10_number_20 : decode cX10_number 20 = .ok (.getfield 72, 3) := dAX10_number (20, (.getfield 72, 3)) (List.mem_of_getElem? (i := 12) rfl)
theorem dX10_number_23 : decode cX10_number 23 = .ok (.invokevirtual 118, 3) := dAX10_number (23, (.invokevirtual 118, 3)) (List.mem_of_getElem? (i := 13) rfl)
theorem dX10_number_26 : decode cX10_number 26 = .ok (.goto 24, 3) := dAX10_number (26, (.goto 24, 3)) (List.mem_of_getElem? (i := 14) rfl)
theorem dX10_number_29 : decode cX10_number 29 = .ok (.aload_n 0, 1) := dAX10_number (29, (.aload_n 0, 1)) (List.mem_of_getElem? (i := 15) rfl)
theorem dX10_number_30 : decode cX10_number 30 = .ok (.getfield 78, 3) := dAX10_number (30, (.getfield 78, 3)) (List.mem_of_getElem? (i := 16) rfl)
theorem dX10_number_33 : decode cX10_number 33 = .ok (.iload_n 1, 1) := dAX10_number (33, (.iload_n 1, 1)) (List.mem_of_getElem? (i := 17) rfl)
theorem dX10_number_34 : decode cX10_number 34 = .ok (.iload_n 2, 1) := dAX10_number (34, (.iload_n 2, 1)) (List.mem_of_getElem? (i := 18) rfl)
theorem dX10_number_35 : decode cX10_number 35 = .ok (.invokestatic 144, 3) := dAX10_number (35, (.invokestatic 144, 3)) (List.mem_of_getElem? (i := 19) rfl)
theorem dX10_number_38 : decode cX10_number 38 = .ok (.ifCond .ne 12, 3) := dAX10_number (38, (.ifCond .ne 12, 3)) (List.mem_of_getElem? (i := 20) rfl)
theorem dX10_number_41 : decode cX10_number 41 = .ok (.aload_n 0, 1) := dAX10_number (41, (.aload_n 0, 1)) (List.mem_of_getElem? (i := 21) rfl)
theorem dX10_number_42 : decode cX10_number 42 = .ok (.iconst 4, 1) := dAX10_number (42, (.iconst 4, 1)) (List.mem_of_getElem? (i := 22) rfl)
theorem dX10_number_43 : decode cX10_number 43 = .ok (.aload_n 0, 1) := dAX10_number (43, (.aload_n 0, 1)) (List.mem_of_getElem? (i := 23) rfl)
theorem dX10_number_44 : decode cX10_number 44 = .ok (.getfield 72, 3) := dAX10_number (44, (.getfield 72, 3)) (List.mem_of_getElem? (i := 24) rfl)
theorem dX10_number_47 : decode cX10_number 47 = .ok (.invokevirtual 118, 3) := dAX10_number (47, (.invokevirtual 118, 3)) (List.mem_of_getElem? (i := 25) rfl)
theorem dX10_number_50 : decode cX10_number 50 = .ok (.aload_n 0, 1) := dAX10_number (50, (.aload_n 0, 1)) (List.mem_of_getElem? (i := 26) rfl)
theorem dX10_number_51 : decode cX10_number 51 = .ok (.getfield 91, 3) := dAX10_number (51, (.getfield 91, 3)) (List.mem_of_getElem? (i := 27) rfl)
theorem dX10_number_54 : decode cX10_number 54 = .ok (.ifCond .eq 5, 3) := dAX10_number (54, (.ifCond .eq 5, 3)) (List.mem_of_getElem? (i := 28) rfl)
theorem dX10_number_57 : decode cX10_number 57 = .ok (.iload_n 1, 1) := dAX10_number (57, (.iload_n 1, 1)) (List.mem_of_getElem? (i := 29) rfl)
theorem dX10_number_58 : decode cX10_number 58 = .ok (.ireturn, 1) := dAX10_number (58, (.ireturn, 1)) (List.mem_of_getElem? (i := 30) rfl)
theorem dX10_number_59 : decode cX10_number 59 = .ok (.aload_n 0, 1) := dAX10_number (59, (.aload_n 0, 1)) (List.mem_of_getElem? (i := 31) rfl)
theorem dX10_number_60 : decode cX10_number 60 = .ok (.getfield 78, 3) := dAX10_number (60, (.getfield 78, 3)) (List.mem_of_getElem? (i := 32) rfl)
theorem dX10_number_63 : decode cX10_number 63 = .ok (.istore_n 3, 1) := dAX10_number (63, (.istore_n 3, 1)) (List.mem_of_getElem? (i := 33) rfl)
theorem dX10_number_64 : decode cX10_number 64 = .ok (.aload_n 0, 1) := dAX10_number (64, (.aload_n 0, 1)) (List.mem_of_getElem? (i := 34) rfl)
theorem dX10_number_65 : decode cX10_number 65 = .ok (.invokevirtual 112, 3) := dAX10_number (65, (.invokevirtual 112, 3)) (List.mem_of_getElem? (i := 35) rfl)
theorem dX10_number_68 : decode cX10_number 68 = .ok (.iload_n 3, 1) := dAX10_number (68, (.iload_n 3, 1)) (List.mem_of_getElem? (i := 36) rfl)
theorem dX10_number_69 : decode cX10_number 69 = .ok (.ireturn, 1) := dAX10_number (69, (.ireturn, 1)) (List.mem_of_getElem? (i := 37) rfl)
set_option maxRecDepth 20000 in
theorem ggX10_number_X10_wrong : GoodIn wsX10_number wsX10_wrong := goodIn_r _ [9, 1, 10, 11, 34, 35, 36, 37, 38, 39, 40, 41, 42, 43, 44, 45, 46, 47, 48, 49, 50, 51, 52, 53, 54, 55, 56, 57, 58, 59, 60, 61, 62, 63, 64, 65, 66, 67, 68] rfl (by decide +kernel)
set_option maxRecDepth 20000 in
theorem gX10_number_X10_wrong : GoodIn wsX10_number (wsV RX10 118 RX10 yX10_wrong wsX10_wrong) := goodIn_app (goodIn_of _ (by decide +kernel)) ggX10_number_X10_wrong
set_option maxRecDepth 20000 in
theorem ggX10_number_X10_in : GoodIn wsX10_number wsX10_in := goodIn_r _ [14] rfl (by decide +kernel)
set_option maxRecDepth 20000 in
theorem gX10_number_X10_in : GoodIn wsX10_number (va_wsS RX10 144 yX10_in wsX10_in) := goodIn_app (goodIn_of _ (by decide +kernel)) ggX10_number_X10_in
set_option maxRecDepth 20000 in
theorem ggX10_number_X10_next : GoodIn wsX10_number wsX10_next := goodIn_r _ [18, 19, 3, 20, 4, 2, 21, 22, 23, 24, 8, 25, 26, 27, 28, 29, 30, 31, 32, 33, 34, 35, 36, 37, 38, 39, 40, 41, 42, 43, 44, 45, 46, 47, 48, 49, 50, 51, 52, 53, 54, 55, 56, 57, 58, 59, 60, 61, 62, 63, 64, 65, 66, 67, 68] rfl (by decide +kernel)
set_option maxRecDepth 20000 in
theorem gX10_number_X10_next : GoodIn wsX10_number (wsV RX10 112 RX10 yX10_next wsX10_next) := goodIn_app (goodIn_of _ (by decide +kernel)) ggX10_number_X10_next
theorem kX10_number_91 : Cond.fieldLink RX10 91 "EveningVowModel" "failed" "Z" ∈ wsX10_number := List.mem_of_getElem? (i := 1) rfl
theorem iX10_number_X10 : ∀ w ∈ u_ws RX10 TX10 35, w ∈ wsX10_number := fun w h => (List.mem_cons_of_mem _ (List.mem_append_right _ h))
theorem kX10_number_81 : Cond.fieldLink RX10 81 "EveningVowModel" "token" "I" ∈ wsX10_number := List.mem_of_getElem? (i := 2) rfl
theorem kX10_number_78 : Cond.fieldLink RX10 78 "EveningVowModel" "whole" "I" ∈ wsX10_number := List.mem_of_getElem? (i := 4) rfl
theorem kX10_number_72 : Cond.fieldLink RX10 72 "EveningVowModel" "at" "I" ∈ wsX10_number := List.mem_of_getElem? (i := 3) rfl
set_option maxHeartbeats 4000000 in
set_option maxRecDepth 100000 in
theorem mX10_number (l : Launch) (g : GG) (a_t : Nat) (p_t : Nat → Nat) (n : Nat) (x1 : Int32) (x2 : Int32) (o_t : Nat → Int32) (f_t_1 : Nat → Int32) (f_t_12 : Nat → Int32) (r : Int32) (o_t' : Nat → Int32) (f_t_12' : Nat → Int32) (hF : fX10_number n x1 x2 o_t f_t_1 f_t_12 = some (r, o_t', f_t_12')) : MI l g yX10_number wsX10_number ({ frames := 2, cells := 0, slots := 0, locals := 44 } : Room) [.ref a_t, .int x1, .int x2] [oX10 a_t p_t o_t, aI g (p_t 1) 800 f_t_1, aI g (p_t 12) 8 f_t_12] r [oX10 a_t p_t o_t', aI g (p_t 1) 800 f_t_1, aI g (p_t 12) 8 f_t_12'] := by
  refine MI.of (cc := cX10_number) (maxL := 4) (rt := .int) (own := RX10) rfl rfl (by decide) (Nat.le_of_ble_eq_true rfl) ?_
  intro p e s m args below meth c A C0 hP hD hS ls hl
  obtain ⟨hx, hb, hml, hown, hts, hr, hlk, hK, hA, hSW⟩ := id C0
  have hl : lv_has ls 4 [(0, .ref a_t), (1, .int x1), (2, .int x2)] := hl
  rw [fX10_number] at hF
  refine lv_aload_n hx hb dX10_number_0 rfl (lv_at hl 0 rfl) ?_
  refine va_get (D := g.1) (ci := 10) (v := .int (o_t 13)) (C := RX10) (T := TX10) (N := 35) hx hb hts iX10_number_X10 hown hK.1 hP 0 rfl rfl 13 (by decide) (hts _ kX10_number_91) (fun _ h9 => h9) rfl dX10_number_1 ?_
  refine lv_if_eq (tgt := 9) hx hb dX10_number_4 (by decide) (fun c_1 => ?_) (fun c_1 => ?_)
  · have hF := it_p c_1 hF
    refine lv_aload_n hx hb dX10_number_9 rfl (lv_at hl 0 rfl) ?_
    refine va_get (D := g.1) (ci := 10) (v := .int (o_t 6)) (C := RX10) (T := TX10) (N := 35) hx hb hts iX10_number_X10 hown hK.1 hP 0 rfl rfl 6 (by decide) (hts _ kX10_number_81) (fun _ h9 => h9) rfl dX10_number_10 ?_
    refine lv_iconst (v := (3 : Int32)) hx hb dX10_number_13 (by decide) ?_
    obtain ⟨J50, eJ50, hF⟩ := jn_some hF
    have hJ50 : ∀ (o_t_50 : Nat → Int32) (H : Heap) (locs : List Loc) (ls : Array Slot), J50 o_t_50 = some (r, o_t', f_t_12') → va_P g.1 vwCl [oX10 a_t p_t o_t_50, aI g (p_t 1) 800 f_t_1, aI g (p_t 12) 8 f_t_12] H → va_D A [oX10 a_t p_t o_t_50, aI g (p_t 1) 800 f_t_1, aI g (p_t 12) 8 f_t_12] → va_S A s.heap H locs → lv_has ls 4 [(0, .ref a_t), (1, .int x1)] → W p l e ({ frames := 2, cells := 0, slots := 0, locals := 44 } : Room) s m args below meth c H locs 0 0 (MQ below (EndI g r [oX10 a_t p_t o_t', aI g (p_t 1) 800 f_t_1, aI g (p_t 12) 8 f_t_12'] A) args s 0 0 A) (F0 m 50 ls []) := by
      intro o_t_50 H locs ls hF hP hD hS hl
      have hF := jj1 eJ50 hF
      refine lv_aload_n hx hb dX10_number_50 rfl (lv_at hl 0 rfl) ?_
      refine va_get (D := g.1) (ci := 10) (v := .int (o_t_50 13)) (C := RX10) (T := TX10) (N := 35) hx hb hts iX10_number_X10 hown hK.1 hP 0 rfl rfl 13 (by decide) (hts _ kX10_number_91) (fun _ h9 => h9) rfl dX10_number_51 ?_
      refine lv_if_eq (tgt := 59) hx hb dX10_number_54 (by decide) (fun c_2 => ?_) (fun c_2 => ?_)
      · have hF := it_p c_2 hF
        refine lv_aload_n hx hb dX10_number_59 rfl (lv_at hl 0 rfl) ?_
        refine va_get (D := g.1) (ci := 10) (v := .int (o_t_50 7)) (C := RX10) (T := TX10) (N := 35) hx hb hts iX10_number_X10 hown hK.1 hP 0 rfl rfl 7 (by decide) (hts _ kX10_number_78) (fun _ h9 => h9) rfl dX10_number_60 ?_
        refine lv_istore_n (lv' := [(3, .int (o_t_50 7)), (0, .ref a_t), (1, .int x1)]) hx hb dX10_number_63 rfl hl (by decide) rfl (fun ls hl => ?_)
        refine lv_aload_n hx hb dX10_number_64 rfl (lv_at hl 1 rfl) ?_
        obtain ⟨u_3, u_4, hu_5, hF⟩ := ob2_some hF
        refine call_v (wr := []) (As := []) (rest := []) (ci := 10) (q0 := 0) C0 (mX10_next l g a_t p_t n o_t_50 f_t_1 f_t_12 u_3 u_4 hu_5) (cwV 0 hts gX10_number_X10_next rfl rfl rfl (by decide +kernel) ⟨Nat.le_of_ble_eq_true rfl, Nat.le_of_ble_eq_true rfl⟩) hP hD hS [0, 1, 2] [] rfl rfl rfl rfl rfl (by decide) rfl rfl hl.1 rfl rfl (Nat.le_of_ble_eq_true rfl) ⟨Nat.zero_le _, Nat.zero_le _⟩ dX10_number_65 ?_
        intro H locs hP hD hS
        refine lv_iload_n hx hb dX10_number_68 rfl (lv_at hl 0 rfl) ?_
        cases hF
        exact ret_i C0 hP hD hS [0, 1, 2] rfl rfl rfl dX10_number_69 rfl
      · have hF := it_n c_2 hF
        refine lv_iload_n hx hb dX10_number_57 rfl (lv_at hl 1 rfl) ?_
        cases hF
        exact ret_i C0 hP hD hS [0, 1, 2] rfl rfl rfl dX10_number_58 rfl
    refine lv_icmp_eq (tgt := 29) hx hb dX10_number_14 (by decide) (fun c_6 => ?_) (fun c_6 => ?_)
    · have hF := it_p c_6 hF
      refine lv_aload_n hx hb dX10_number_29 rfl (lv_at hl 0 rfl) ?_
      refine va_get (D := g.1) (ci := 10) (v := .int (o_t 7)) (C := RX10) (T := TX10) (N := 35) hx hb hts iX10_number_X10 hown hK.1 hP 0 rfl rfl 7 (by decide) (hts _ kX10_number_78) (fun _ h9 => h9) rfl dX10_number_30 ?_
      refine lv_iload_n hx hb dX10_number_33 rfl (lv_at hl 1 rfl) ?_
      refine lv_iload_n hx hb dX10_number_34 rfl (lv_at hl 2 rfl) ?_
      obtain ⟨u_7, hu_8, hF⟩ := ob1_some hF
      refine call_si (wr := [oX10 a_t p_t o_t, aI g (p_t 1) 800 f_t_1, aI g (p_t 12) 8 f_t_12]) (As := [.int (o_t 7), .int x1, .int x2]) (rest := []) C0 (mX10_in l g n (o_t 7) x1 x2 u_7 hu_8) (va_cwS 3 hts gX10_number_X10_in rfl rfl rfl (by decide +kernel) ⟨Nat.le_of_ble_eq_true rfl, Nat.le_of_ble_eq_true rfl⟩) hP hD hS [] [0, 1, 2] rfl rfl rfl rfl rfl (by decide) hl.1 rfl rfl (Nat.le_of_ble_eq_true rfl) ⟨Nat.zero_le _, Nat.zero_le _⟩ dX10_number_35 ?_
      intro H locs hP hD hS
      refine lv_if_ne (tgt := 50) hx hb dX10_number_38 (by decide) (fun c_9 => ?_) (fun c_9 => ?_)
      · have hF := it_n c_9 hF
        exact hJ50 o_t _ _ _ hF (hP.sub [0, 1, 2] rfl) (hD.sub [0, 1, 2] rfl rfl) hS (lv_sub hl [0, 1] rfl)
      · have hF := it_p c_9 hF
        refine lv_aload_n hx hb dX10_number_41 rfl (lv_at hl 0 rfl) ?_
        refine lv_iconst (v := (4 : Int32)) hx hb dX10_number_42 (by decide) ?_
        refine lv_aload_n hx hb dX10_number_43 rfl (lv_at hl 0 rfl) ?_
        refine va_get (D := g.1) (ci := 10) (v := .int (o_t 4)) (C := RX10) (T := TX10) (N := 35) hx hb hts iX10_number_X10 hown hK.1 hP 0 rfl rfl 4 (by decide) (hts _ kX10_number_72) (fun _ h9 => h9) rfl dX10_number_44 ?_
        obtain ⟨u_10, hu_11, hF⟩ := ob1_some hF
        refine call_v (wr := [aI g (p_t 1) 800 f_t_1, aI g (p_t 12) 8 f_t_12]) (As := [.int (4 : Int32), .int (o_t 4)]) (rest := []) (ci := 10) (q0 := 0) C0 (mX10_wrong l g a_t p_t n (4 : Int32) (o_t 4) o_t u_10 hu_11) (cwV 2 hts gX10_number_X10_wrong rfl rfl rfl (by decide +kernel) ⟨Nat.le_of_ble_eq_true rfl, Nat.le_of_ble_eq_true rfl⟩) hP hD hS [0] [1, 2] rfl rfl rfl rfl rfl (by decide) rfl rfl hl.1 rfl rfl (Nat.le_of_ble_eq_true rfl) ⟨Nat.zero_le _, Nat.zero_le _⟩ dX10_number_47 ?_
        intro H locs hP hD hS
        exact hJ50 u_10 _ _ _ hF (hP.sub [2, 0, 1] rfl) (hD.sub [2, 0, 1] rfl rfl) hS (lv_sub hl [0, 1] rfl)
    · have hF := it_n c_6 hF
      refine lv_aload_n hx hb dX10_number_17 rfl (lv_at hl 0 rfl) ?_
      refine lv_iconst (v := (1 : Int32)) hx hb dX10_number_18 (by decide) ?_
      refine lv_aload_n hx hb dX10_number_19 rfl (lv_at hl 0 rfl) ?_
      refine va_get (D := g.1) (ci := 10) (v := .int (o_t 4)) (C := RX10) (T := TX10) (N := 35) hx hb hts iX10_number_X10 hown hK.1 hP 0 rfl rfl 4 (by decide) (hts _ kX10_number_72) (fun _ h9 => h9) rfl dX10_number_20 ?_
      obtain ⟨u_12, hu_13, hF⟩ := ob1_some hF
      refine call_v (wr := [aI g (p_t 1) 800 f_t_1, aI g (p_t 12) 8 f_t_12]) (As := [.int (1 : Int32), .int (o_t 4)]) (rest := []) (ci := 10) (q0 := 0) C0 (mX10_wrong l g a_t p_t n (1 : Int32) (o_t 4) o_t u_12 hu_13) (cwV 2 hts gX10_number_X10_wrong rfl rfl rfl (by decide +kernel) ⟨Nat.le_of_ble_eq_true rfl, Nat.le_of_ble_eq_true rfl⟩) hP hD hS [0] [1, 2] rfl rfl rfl rfl rfl (by decide) rfl rfl hl.1 rfl rfl (Nat.le_of_ble_eq_true rfl) ⟨Nat.zero_le _, Nat.zero_le _⟩ dX10_number_23 ?_
      intro H locs hP hD hS
      refine lv_goto (tgt := 50) hx hb dX10_number_26 (by decide) ?_
      exact hJ50 u_12 _ _ _ hF (hP.sub [2, 0, 1] rfl) (hD.sub [2, 0, 1] rfl rfl) hS (lv_sub hl [0, 1] rfl)
  · have hF := it_n c_1 hF
    refine lv_iload_n hx hb dX10_number_7 rfl (lv_at hl 1 rfl) ?_
    cases hF
    exact ret_i C0 hP hD hS [0, 1, 2] rfl rfl rfl dX10_number_8 rfl

theorem dAX10_layTold : ∀ q ∈ ([(0, (.iconst 0, 1)), (1, (.istore_n 2, 1)), (2, (.iload_n 2, 1)), (3, (.bipush 17, 2)), (5, (.if_icmp .ge 13, 3)), (8, (.aload_n 1, 1)), (9, (.iload_n 2, 1)), (10, (.iconst 0, 1)), (11, (.iastore, 1)), (12, (.iinc 2 1, 3)), (15, (.goto (-13), 3)), (18, (.iconst 0, 1)), (19, (.istore_n 2, 1)), (20, (.iload_n 2, 1)), (21, (.aload_n 0, 1)), (22, (.getfield 20, 3)), (25, (.iconst 3, 1)), (26, (.iaload, 1)), (27, (.if_icmp .ge 25, 3)), (30, (.aload_n 1, 1)), (31, (.iload_n 2, 1)), (32, (.aload_n 0, 1)), (33, (.getfield 20, 3)), (36, (.bipush 9, 2)), (38, (.iconst 4, 1)), (39, (.iload_n 2, 1)), (40, (.imul, 1)), (41, (.iadd, 1)), (42, (.iconst 1, 1)), (43, (.iadd, 1)), (44, (.iaload, 1)), (45, (.iastore, 1)), (46, (.iinc 2 1, 3)), (49, (.goto (-29), 3)), (52, (.aload_n 1, 1)), (53, (.bipush 15, 2)), (55, (.aload_n 0, 1)), (56, (.getfield 20, 3)), (59, (.iconst 0, 1)), (60, (.iaload, 1)), (61, (.iastore, 1)), (62, (.return_, 1))] : List (Nat × (Instr × Nat))), decode cX10_layTold q.1 = .ok q.2 := by decide +kernel
theorem dX10_layTold_0 : decode cX10_layTold 0 = .ok (.iconst 0, 1) := dAX10_layTold (0, (.iconst 0, 1)) (List.mem_of_getElem? (i := 0) rfl)
theorem dX10_layTold_1 : decode cX10_layTold 1 = .ok (.istore_n 2, 1) := dAX10_layTold (1, (.istore_n 2, 1)) (List.mem_of_getElem? (i := 1) rfl)
theorem dX10_layTold_2 : decode cX10_layTold 2 = .ok (.iload_n 2, 1) := dAX10_layTold (2, (.iload_n 2, 1)) (List.mem_of_getElem? (i := 2) rfl)
theorem dX10_layTold_3 : decode cX10_layTold 3 = .ok (.bipush 17, 2) := dAX10_layTold (3, (.bipush 17, 2)) (List.mem_of_getElem? (i := 3) rfl)
theorem dX10_layTold_5 : decode cX10_layTold 5 = .ok (.if_icmp .ge 13, 3) := dAX10_layTold (5, (.if_icmp .ge 13, 3)) (List.mem_of_getElem? (i := 4) rfl)
theorem dX10_layTold_8 : decode cX10_layTold 8 = .ok (.aload_n 1, 1) := dAX10_layTold (8, (.aload_n 1, 1)) (List.mem_of_getElem? (i := 5) rfl)
theorem dX10_layTold_9 : decode cX10_layTold 9 = .ok (.iload_n 2, 1) := dAX10_layTold (9, (.iload_n 2, 1)) (List.mem_of_getElem? (i := 6) rfl)
theorem dX10_layTold_10 : decode cX10_layTold 10 = .ok (.iconst 0, 1) := dAX10_layTold (10, (.iconst 0, 1)) (List.mem_of_getElem? (i := 7) rfl)
theorem dX10_layTold_11 : decode cX10_layTold 11 = .ok (.iastore, 1) := dAX10_layTold (11, (.iastore, 1)) (List.mem_of_getElem? (i := 8) rfl)
theorem dX10_layTold_12 : decode cX10_layTold 12 = .ok (.iinc 2 1, 3) := dAX10_layTold (12, (.iinc 2 1, 3)) (List.mem_of_getElem? (i := 9) rfl)
theorem dX10_layTold_15 : decode cX10_layTold 15 = .ok (.goto (-13), 3) := dAX10_layTold (15, (.goto (-13), 3)) (List.mem_of_getElem? (i := 10) rfl)
theorem dX10_layTold_18 : decode cX10_layTold 18 = .ok (.iconst 0, 1) := dAX10_layTold (18, (.iconst 0, 1)) (List.mem_of_getElem? (i := 11) rfl)
theorem dX10_layTold_19 : decode cX10_layTold 19 = .ok (.istore_n 2, 1) := dAX10_layTold (19, (.istore_n 2, 1)) (List.mem_of_getElem? (i := 12) rfl)
theorem dX10_layTold_20 : decode cX10_layTold 20 = .ok (.iload_n 2, 1) := dAX10_layTold (20, (.iload_n 2, 1)) (List.mem_of_getElem? (i := 13) rfl)
theorem dX10_layTold_21 : decode cX10_layTold 21 = .ok (.aload_n 0, 1) := dAX10_layTold (21, (.aload_n 0, 1)) (List.mem_of_getElem? (i := 14) rfl)
theorem dX10_layTold_22 : decode cX10_layTold 22 = .ok (.getfield 20, 3) := dAX10_layTold (22, (.getfield 20, 3)) (List.mem_of_getElem? (i := 15) rfl)
theorem dX10_layTold_25 : decode cX10_layTold 25 = .ok (.iconst 3, 1) := dAX10_layTold (25, (.iconst 3, 1)) (List.mem_of_getElem? (i := 16) rfl)
theorem dX10_layTold_26 : decode cX10_layTold 26 = .ok (.iaload, 1) := dAX10_layTold (26, (.iaload, 1)) (List.mem_of_getElem? (i := 17) rfl)
theorem dX10_layTold_27 : decode cX10_layTold 27 = .ok (.if_icmp .ge 25, 3) := dAX10_layTold (27, (.if_icmp .ge 25, 3)) (List.mem_of_getElem? (i := 18) rfl)
theorem dX10_layTold_30 : decode cX10_layTold 30 = .ok (.aload_n 1, 1) := dAX10_layTold (30, (.aload_n 1, 1)) (List.mem_of_getElem? (i := 19) rfl)
theorem dX10_layTold_31 : decode cX10_layTold 31 = .ok (.iload_n 2, 1) := dAX10_layTold (31, (.iload_n 2, 1)) (List.mem_of_getElem? (i := 20) rfl)
theorem dX10_layTold_32 : decode cX10_layTold 32 = .ok (.aload_n 0, 1) := dAX10_layTold (32, (.aload_n 0, 1)) (List.mem_of_getElem? (i := 21) rfl)
theorem dX10_layTold_33 : decode cX10_layTold 33 = .ok (.getfield 20, 3) := dAX10_layTold (33, (.getfield 20, 3)) (List.mem_of_getElem? (i := 22) rfl)
theorem dX10_layTold_36 : decode cX10_layTold 36 = .ok (.bipush 9, 2) := dAX10_layTold (36, (.bipush 9, 2)) (List.mem_of_getElem? (i := 23) rfl)
theorem dX10_layTold_38 : decode cX10_layTold 38 = .ok (.iconst 4, 1) := dAX10_layTold (38, (.iconst 4, 1)) (List.mem_of_getElem? (i := 24) rfl)
theorem dX10_layTold_39 : decode cX10_layTold 39 = .ok (.iload_n 2, 1) := dAX10_layTold (39, (.iload_n 2, 1)) (List.mem_of_getElem? (i := 25) rfl)
theorem dX10_layTold_40 : decode cX10_layTold 40 = .ok (.imul, 1) := dAX10_layTold (40, (.imul, 1)) (List.mem_of_getElem? (i := 26) rfl)
theorem dX10_layTold_41 : decode cX10_layTold 41 = .ok (.iadd, 1) := dAX10_layTold (41, (.iadd, 1)) (List.mem_of_getElem? (i := 27) rfl)
theorem dX10_layTold_42 : decode cX10_layTold 42 = .ok (.iconst 1, 1) := dAX10_layTold (42, (.iconst 1, 1)) (List.mem_of_getElem? (i := 28) rfl)
theorem dX10_layTold_43 : decode cX10_layTold 43 = .ok (.iadd, 1) := dAX10_layTold (43, (.iadd, 1)) (List.mem_of_getElem? (i := 29) rfl)
theorem dX10_layTold_44 : decode cX10_layTold 44 = .ok (.iaload, 1) := dAX10_layTold (44, (.iaload, 1)) (List.mem_of_getElem? (i := 30) rfl)
theorem dX10_layTold_45 : decode cX10_layTold 45 = .ok (.iastore, 1) := dAX10_layTold (45, (.iastore, 1)) (List.mem_of_getElem? (i := 31) rfl)
theorem dX10_layTold_46 : decode cX10_layTold 46 = .ok (.iinc 2 1, 3) := dAX10_layTold (46, (.iinc 2 1, 3)) (List.mem_of_getElem? (i := 32) rfl)
theorem dX10_layTold_49 : decode cX10_layTold 49 = .ok (.goto (-29), 3) := dAX10_layTold (49, (.goto (-29), 3)) (List.mem_of_getElem? (i := 33) rfl)
theorem dX10_layTold_52 : decode cX10_layTold 52 = .ok (.aload_n 1, 1) := dAX10_layTold (52, (.aload_n 1, 1)) (List.mem_of_getElem? (i := 34) rfl)
theorem dX10_layTold_53 : decode cX10_layTold 53 = .ok (.bipush 15, 2) := dAX10_layTold (53, (.bipush 15, 2)) (List.mem_of_getElem? (i := 35) rfl)
theorem dX10_layTold_55 : decode cX10_layTold 55 = .ok (.aload_n 0, 1) := dAX10_layTold (55, (.aload_n 0, 1)) (List.mem_of_getElem? (i := 36) rfl)
theorem dX10_layTold_56 : decode cX10_layTold 56 = .ok (.getfield 20, 3) := dAX10_layTold (56, (.getfield 20, 3)) (List.mem_of_getElem? (i := 37) rfl)
theorem dX10_layTold_59 : decode cX10_layTold 59 = .ok (.iconst 0, 1) := dAX10_layTold (59, (.iconst 0, 1)) (List.mem_of_getElem? (i := 38) rfl)
theorem dX10_layTold_60 : decode cX10_layTold 60 = .ok (.iaload, 1) := dAX10_layTold (60, (.iaload, 1)) (List.mem_of_getElem? (i := 39) rfl)
theorem dX10_layTold_61 : decode cX10_layTold 61 = .ok (.iastore, 1) := dAX10_layTold (61, (.iastore, 1)) (List.mem_of_getElem? (i := 40) rfl)
theorem dX10_layTold_62 : decode cX10_layTold 62 = .ok (.return_, 1) := dAX10_layTold (62, (.return_, 1)) (List.mem_of_getElem? (i := 41) rfl)
theorem kX10_layTold_20 : Cond.fieldLink RX10 20 "EveningVowModel" "\x72" "[I" ∈ wsX10_layTold := List.mem_of_getElem? (i := 1) rfl
theorem iX10_layTold_X10 : ∀ w ∈ u_ws RX10 TX10 35, w ∈ wsX10_layTold := fun w h => (List.mem_cons_of_mem _ (List.mem_append_right _ h))
set_option maxHeartbeats 4000000 in
set_option maxRecDepth 100000 in
theorem wX10_layTold_L2 {p : Program} {l : Launch} {e : Env} {s : State} {m : MethodId} {args : Array Value} {below : List Frame} {meth : Method} {c : Code} {g : GG} {A : Nat → Prop} (C0 : Cx p s m args meth c cX10_layTold 3 none RX10 wsX10_layTold g A) (a_t : Nat) (a_r1 : Nat) (p_t : Nat → Nat) (n : Nat) (o_t : Nat → Int32) (f_t_15 : Nat → Int32) (f_r1' : Nat → Int32) (K : (Nat → Int32) → Option ((Nat → Int32))) (hKx : ∀ (f_r1 : Nat → Int32) (H : Heap) (locs : List Loc) (ls : Array Slot), K f_r1 = some (f_r1') → va_P g.1 vwCl [oX10 a_t p_t o_t, aI g (p_t 15) 266 f_t_15, aI g a_r1 17 f_r1] H → va_D A [oX10 a_t p_t o_t, aI g (p_t 15) 266 f_t_15, aI g a_r1 17 f_r1] → va_S A s.heap H locs → lv_has ls 3 [(0, .ref a_t), (1, .ref a_r1)] → W p l e ({ frames := 0, cells := 0, slots := 0, locals := 0 } : Room) s m args below meth c H locs 0 0 (MQ below (EndV g [oX10 a_t p_t o_t, aI g (p_t 15) 266 f_t_15, aI g a_r1 17 f_r1'] A) args s 0 0 A) (F0 m 18 ls [])) : ∀ (k : Nat) (x2 : Int32) (f_r1 : Nat → Int32), fX10_layTold_L2 n K k x2 f_r1 = some (f_r1') → ∀ (H : Heap) (locs : List Loc) (ls : Array Slot), va_P g.1 vwCl [oX10 a_t p_t o_t, aI g (p_t 15) 266 f_t_15, aI g a_r1 17 f_r1] H → va_D A [oX10 a_t p_t o_t, aI g (p_t 15) 266 f_t_15, aI g a_r1 17 f_r1] → va_S A s.heap H locs → lv_has ls 3 [(0, .ref a_t), (1, .ref a_r1), (2, .int x2)] → W p l e ({ frames := 0, cells := 0, slots := 0, locals := 0 } : Room) s m args below meth c H locs 0 0 (MQ below (EndV g [oX10 a_t p_t o_t, aI g (p_t 15) 266 f_t_15, aI g a_r1 17 f_r1'] A) args s 0 0 A) (F0 m 2 ls []) := by
  obtain ⟨hx, hb, hml, hown, hts, hr, hlk, hK, hA, hSW⟩ := id C0
  intro k
  induction k with
  | zero =>
    intro x2 f_r1 hF
    exact absurd hF (by simp [fX10_layTold_L2])
  | succ k ih =>
    intro x2 f_r1 hF H locs ls hP hD hS hl
    rw [fX10_layTold_L2] at hF
    refine lv_iload_n hx hb dX10_layTold_2 rfl (lv_at hl 2 rfl) ?_
    refine lv_bipush (v := (17 : Int32)) hx hb dX10_layTold_3 (by decide) ?_
    refine lv_icmp_ge (tgt := 18) hx hb dX10_layTold_5 (by decide) (fun c_1 => ?_) (fun c_1 => ?_)
    · have hF := it_p c_1 hF
      exact hKx f_r1 _ _ _ hF (hP.sub [0, 1, 2] rfl) (hD.sub [0, 1, 2] rfl rfl) hS (lv_sub hl [0, 1] rfl)
    · have hF := it_n c_1 hF
      refine lv_aload_n hx hb dX10_layTold_8 rfl (lv_at hl 1 rfl) ?_
      refine lv_iload_n hx hb dX10_layTold_9 rfl (lv_at hl 2 rfl) ?_
      refine lv_iconst (v := (0 : Int32)) hx hb dX10_layTold_10 (by decide) ?_
      obtain ⟨h_2, hF⟩ := it_ck hF
      refine va_iast hx hb hK.1 hP hD hS 2 0 rfl rfl h_2 dX10_layTold_11 (fun H locs hP hD hS => ?_)
      have hP : va_P g.1 vwCl [oX10 a_t p_t o_t, aI g (p_t 15) 266 f_t_15, aI g a_r1 17 (upd f_r1 (x2).toNatClampNeg (0 : Int32))] H := hP
      have hD : va_D A [oX10 a_t p_t o_t, aI g (p_t 15) 266 f_t_15, aI g a_r1 17 (upd f_r1 (x2).toNatClampNeg (0 : Int32))] := hD
      refine lv_iinc (v := (x2 + (1 : Int32))) (lv' := [(2, .int (x2 + (1 : Int32))), (0, .ref a_t), (1, .ref a_r1)]) hx hb dX10_layTold_12 hl (k := 2) rfl rfl (by decide) rfl (fun ls hl => ?_)
      refine lv_goto (tgt := 2) hx hb dX10_layTold_15 (by decide) ?_
      exact ih (x2 + (1 : Int32)) (upd f_r1 (x2).toNatClampNeg (0 : Int32)) hF _ _ _ (hP.sub [0, 1, 2] rfl) (hD.sub [0, 1, 2] rfl rfl) hS (lv_sub hl [1, 2, 0] rfl)
set_option maxHeartbeats 4000000 in
set_option maxRecDepth 100000 in
theorem wX10_layTold_L20 {p : Program} {l : Launch} {e : Env} {s : State} {m : MethodId} {args : Array Value} {below : List Frame} {meth : Method} {c : Code} {g : GG} {A : Nat → Prop} (C0 : Cx p s m args meth c cX10_layTold 3 none RX10 wsX10_layTold g A) (a_t : Nat) (a_r1 : Nat) (p_t : Nat → Nat) (n : Nat) (o_t : Nat → Int32) (f_t_15 : Nat → Int32)  (f_r1' : Nat → Int32) (K : (Nat → Int32) → Option ((Nat → Int32))) (hKx : ∀ (f_r1 : Nat → Int32) (H : Heap) (locs : List Loc) (ls : Array Slot), K f_r1 = some (f_r1') → va_P g.1 vwCl [oX10 a_t p_t o_t, aI g (p_t 15) 266 f_t_15, aI g a_r1 17 f_r1] H → va_D A [oX10 a_t p_t o_t, aI g (p_t 15) 266 f_t_15, aI g a_r1 17 f_r1] → va_S A s.heap H locs → lv_has ls 3 [(0, .ref a_t), (1, .ref a_r1)] → W p l e ({ frames := 0, cells := 0, slots := 0, locals := 0 } : Room) s m args below meth c H locs 0 0 (MQ below (EndV g [oX10 a_t p_t o_t, aI g (p_t 15) 266 f_t_15, aI g a_r1 17 f_r1'] A) args s 0 0 A) (F0 m 52 ls [])) : ∀ (k : Nat) (x2 : Int32) (f_r1 : Nat → Int32), fX10_layTold_L20 n o_t f_t_15 K k x2 f_r1 = some (f_r1') → ∀ (H : Heap) (locs : List Loc) (ls : Array Slot), va_P g.1 vwCl [oX10 a_t p_t o_t, aI g (p_t 15) 266 f_t_15, aI g a_r1 17 f_r1] H → va_D A [oX10 a_t p_t o_t, aI g (p_t 15) 266 f_t_15, aI g a_r1 17 f_r1] → va_S A s.heap H locs → lv_has ls 3 [(0, .ref a_t), (1, .ref a_r1), (2, .int x2)] → W p l e ({ frames := 0, cells := 0, slots := 0, locals := 0 } : Room) s m args below meth c H locs 0 0 (MQ below (EndV g [oX10 a_t p_t o_t, aI g (p_t 15) 266 f_t_15, aI g a_r1 17 f_r1'] A) args s 0 0 A) (F0 m 20 ls []) := by
  obtain ⟨hx, hb, hml, hown, hts, hr, hlk, hK, hA, hSW⟩ := id C0
  intro k
  induction k with
  | zero =>
    intro x2 f_r1 hF
    exact absurd hF (by simp [fX10_layTold_L20])
  | succ k ih =>
    intro x2 f_r1 hF H locs ls hP hD hS hl
    rw [fX10_layTold_L20] at hF
    refine lv_iload_n hx hb dX10_layTold_20 rfl (lv_at hl 2 rfl) ?_
    refine lv_aload_n hx hb dX10_layTold_21 rfl (lv_at hl 0 rfl) ?_
    refine va_get (D := g.1) (ci := 10) (v := .ref (p_t 15)) (C := RX10) (T := TX10) (N := 35) hx hb hts iX10_layTold_X10 hown hK.1 hP 0 rfl rfl 15 (by decide) (hts _ kX10_layTold_20) (fun _ h9 => h9) rfl dX10_layTold_22 ?_
    refine lv_iconst (v := (3 : Int32)) hx hb dX10_layTold_25 (by decide) ?_
    refine va_iald_k (j := 3) hx hb hK.1 hP 1 0 rfl rfl (by unfold vp_in; decide) rfl dX10_layTold_26 ?_
    refine lv_icmp_ge (tgt := 52) hx hb dX10_layTold_27 (by decide) (fun c_3 => ?_) (fun c_3 => ?_)
    · have hF := it_p c_3 hF
      exact hKx f_r1 _ _ _ hF (hP.sub [0, 1, 2] rfl) (hD.sub [0, 1, 2] rfl rfl) hS (lv_sub hl [0, 1] rfl)
    · have hF := it_n c_3 hF
      refine lv_aload_n hx hb dX10_layTold_30 rfl (lv_at hl 1 rfl) ?_
      refine lv_iload_n hx hb dX10_layTold_31 rfl (lv_at hl 2 rfl) ?_
      refine lv_aload_n hx hb dX10_layTold_32 rfl (lv_at hl 0 rfl) ?_
      refine va_get (D := g.1) (ci := 10) (v := .ref (p_t 15)) (C := RX10) (T := TX10) (N := 35) hx hb hts iX10_layTold_X10 hown hK.1 hP 0 rfl rfl 15 (by decide) (hts _ kX10_layTold_20) (fun _ h9 => h9) rfl dX10_layTold_33 ?_
      refine lv_bipush (v := (9 : Int32)) hx hb dX10_layTold_36 (by decide) ?_
      refine lv_iconst (v := (4 : Int32)) hx hb dX10_layTold_38 (by decide) ?_
      refine lv_iload_n hx hb dX10_layTold_39 rfl (lv_at hl 2 rfl) ?_
      refine lv_imul hx hb dX10_layTold_40 ?_
      refine lv_iadd hx hb dX10_layTold_41 ?_
      refine lv_iconst (v := (1 : Int32)) hx hb dX10_layTold_42 (by decide) ?_
      refine lv_iadd hx hb dX10_layTold_43 ?_
      obtain ⟨h_4, hF⟩ := it_ck hF
      refine va_iald hx hb hK.1 hP 1 0 rfl rfl h_4 dX10_layTold_44 ?_
      obtain ⟨h_5, hF⟩ := it_ck hF
      refine va_iast hx hb hK.1 hP hD hS 2 0 rfl rfl h_5 dX10_layTold_45 (fun H locs hP hD hS => ?_)
      have hP : va_P g.1 vwCl [oX10 a_t p_t o_t, aI g (p_t 15) 266 f_t_15, aI g a_r1 17 (upd f_r1 (x2).toNatClampNeg (f_t_15 ((((9 : Int32) + ((4 : Int32) * x2)) + (1 : Int32))).toNatClampNeg))] H := hP
      have hD : va_D A [oX10 a_t p_t o_t, aI g (p_t 15) 266 f_t_15, aI g a_r1 17 (upd f_r1 (x2).toNatClampNeg (f_t_15 ((((9 : Int32) + ((4 : Int32) * x2)) + (1 : Int32))).toNatClampNeg))] := hD
      refine lv_iinc (v := (x2 + (1 : Int32))) (lv' := [(2, .int (x2 + (1 : Int32))), (0, .ref a_t), (1, .ref a_r1)]) hx hb dX10_layTold_46 hl (k := 2) rfl rfl (by decide) rfl (fun ls hl => ?_)
      refine lv_goto (tgt := 20) hx hb dX10_layTold_49 (by decide) ?_
      exact ih (x2 + (1 : Int32)) (upd f_r1 (x2).toNatClampNeg (f_t_15 ((((9 : Int32) + ((4 : Int32) * x2)) + (1 : Int32))).toNatClampNeg)) hF _ _ _ (hP.sub [0, 1, 2] rfl) (hD.sub [0, 1, 2] rfl rfl) hS (lv_sub hl [1, 2, 0] rfl)
set_option maxHeartbeats 4000000 in
set_option maxRecDepth 100000 in
theorem mX10_layTold (l : Launch) (g : GG) (a_t : Nat) (a_r1 : Nat) (p_t : Nat → Nat) (n : Nat) (o_t : Nat → Int32) (f_t_15 : Nat → Int32) (f_r1 : Nat → Int32) (f_r1' : Nat → Int32) (hF : fX10_layTold n o_t f_t_15 f_r1 = some (f_r1')) : MV l g yX10_layTold wsX10_layTold ({ frames := 0, cells := 0, slots := 0, locals := 0 } : Room) [.ref a_t, .ref a_r1] [oX10 a_t p_t o_t, aI g (p_t 15) 266 f_t_15, aI g a_r1 17 f_r1] [oX10 a_t p_t o_t, aI g (p_t 15) 266 f_t_15, aI g a_r1 17 f_r1'] := by
  refine MV.of (cc := cX10_layTold) (maxL := 3) (own := RX10) rfl rfl (by decide) (Nat.le_of_ble_eq_true rfl) ?_
  intro p e s m args below meth c A C0 hP hD hS ls hl
  obtain ⟨hx, hb, hml, hown, hts, hr, hlk, hK, hA, hSW⟩ := id C0
  have hl : lv_has ls 3 [(0, .ref a_t), (1, .ref a_r1)] := hl
  rw [fX10_layTold] at hF
  refine lv_iconst (v := (0 : Int32)) hx hb dX10_layTold_0 (by decide) ?_
  refine lv_istore_n (lv' := [(2, .int (0 : Int32)), (0, .ref a_t), (1, .ref a_r1)]) hx hb dX10_layTold_1 rfl hl (by decide) rfl (fun ls hl => ?_)
  refine wX10_layTold_L2 C0 a_t a_r1 p_t n o_t f_t_15 f_r1' _ ?_ n (0 : Int32) f_r1 hF _ _ _ (hP.sub [0, 1, 2] rfl) (hD.sub [0, 1, 2] rfl rfl) hS (lv_sub hl [1, 2, 0] rfl)
  · intro f_r1_x2 H locs ls hF hP hD hS hl
    refine lv_iconst (v := (0 : Int32)) hx hb dX10_layTold_18 (by decide) ?_
    refine lv_istore_n (lv' := [(2, .int (0 : Int32)), (0, .ref a_t), (1, .ref a_r1)]) hx hb dX10_layTold_19 rfl hl (by decide) rfl (fun ls hl => ?_)
    refine wX10_layTold_L20 C0 a_t a_r1 p_t n o_t f_t_15 f_r1' _ ?_ n (0 : Int32) f_r1_x2 hF _ _ _ (hP.sub [0, 1, 2] rfl) (hD.sub [0, 1, 2] rfl rfl) hS (lv_sub hl [1, 2, 0] rfl)
    · intro f_r1_x20 H locs ls hF hP hD hS hl
      refine lv_aload_n hx hb dX10_layTold_52 rfl (lv_at hl 1 rfl) ?_
      refine lv_bipush (v := (15 : Int32)) hx hb dX10_layTold_53 (by decide) ?_
      refine lv_aload_n hx hb dX10_layTold_55 rfl (lv_at hl 0 rfl) ?_
      refine va_get (D := g.1) (ci := 10) (v := .ref (p_t 15)) (C := RX10) (T := TX10) (N := 35) hx hb hts iX10_layTold_X10 hown hK.1 hP 0 rfl rfl 15 (by decide) (hts _ kX10_layTold_20) (fun _ h9 => h9) rfl dX10_layTold_56 ?_
      refine lv_iconst (v := (0 : Int32)) hx hb dX10_layTold_59 (by decide) ?_
      refine va_iald_k (j := 0) hx hb hK.1 hP 1 0 rfl rfl (by unfold vp_in; decide) rfl dX10_layTold_60 ?_
      refine va_iast hx hb hK.1 hP hD hS 2 0 rfl rfl (by unfold vp_in; decide) dX10_layTold_61 (fun H locs hP hD hS => ?_)
      have hP : va_P g.1 vwCl [oX10 a_t p_t o_t, aI g (p_t 15) 266 f_t_15, aI g a_r1 17 (upd f_r1_x20 15 (f_t_15 0))] H := hP
      have hD : va_D A [oX10 a_t p_t o_t, aI g (p_t 15) 266 f_t_15, aI g a_r1 17 (upd f_r1_x20 15 (f_t_15 0))] := hD
      cases hF
      exact ret_v C0 hP hD hS [0, 1, 2] rfl rfl rfl dX10_layTold_62

theorem dAX10_fault : ∀ q ∈ ([(0, (.aload_n 0, 1)), (1, (.iconst 0, 1)), (2, (.putfield 53, 3)), (5, (.aload_n 0, 1)), (6, (.getfield 95, 3)), (9, (.ireturn, 1))] : List (Nat × (Instr × Nat))), decode cX10_fault q.1 = .ok q.2 := by decide +kernel
theorem dX10_fault_0 : decode cX10_fault 0 = .ok (.aload_n 0, 1) := dAX10_fault (0, (.aload_n 0, 1)) (List.mem_of_getElem? (i := 0) rfl)
theorem dX10_fault_1 : decode cX10_fault 1 = .ok (.iconst 0, 1) := dAX10_fault (1, (.iconst 0, 1)) (List.mem_of_getElem? (i := 1) rfl)
theorem dX10_fault_2 : decode cX10_fault 2 = .ok (.putfield 53, 3) := dAX10_fault (2, (.putfield 53, 3)) (List.mem_of_getElem? (i := 2) rfl)
theorem dX10_fault_5 : decode cX10_fault 5 = .ok (.aload_n 0, 1) := dAX10_fault (5, (.aload_n 0, 1)) (List.mem_of_getElem? (i := 3) rfl)
theorem dX10_fault_6 : decode cX10_fault 6 = .ok (.getfield 95, 3) := dAX10_fault (6, (.getfield 95, 3)) (List.mem_of_getElem? (i := 4) rfl)
theorem dX10_fault_9 : decode cX10_fault 9 = .ok (.ireturn, 1) := dAX10_fault (9, (.ireturn, 1)) (List.mem_of_getElem? (i := 5) rfl)
theorem kX10_fault_53 : Cond.fieldLink RX10 53 "EveningVowModel" "thrown" "I" ∈ wsX10_fault := List.mem_of_getElem? (i := 1) rfl
theorem iX10_fault_X10 : ∀ w ∈ u_ws RX10 TX10 35, w ∈ wsX10_fault := fun w h => (List.mem_cons_of_mem _ (List.mem_append_right _ h))
theorem kX10_fault_95 : Cond.fieldLink RX10 95 "EveningVowModel" "fault" "I" ∈ wsX10_fault := List.mem_of_getElem? (i := 2) rfl
set_option maxHeartbeats 4000000 in
set_option maxRecDepth 100000 in
theorem mX10_fault (l : Launch) (g : GG) (a_t : Nat) (p_t : Nat → Nat) (n : Nat) (o_t : Nat → Int32) (r : Int32) (o_t' : Nat → Int32) (hF : fX10_fault n o_t = some (r, o_t')) : MI l g yX10_fault wsX10_fault ({ frames := 0, cells := 0, slots := 0, locals := 0 } : Room) [.ref a_t] [oX10 a_t p_t o_t] r [oX10 a_t p_t o_t'] := by
  refine MI.of (cc := cX10_fault) (maxL := 1) (rt := .int) (own := RX10) rfl rfl (by decide) (Nat.le_of_ble_eq_true rfl) ?_
  intro p e s m args below meth c A C0 hP hD hS ls hl
  obtain ⟨hx, hb, hml, hown, hts, hr, hlk, hK, hA, hSW⟩ := id C0
  have hl : lv_has ls 1 [(0, .ref a_t)] := hl
  rw [fX10_fault] at hF
  refine lv_aload_n hx hb dX10_fault_0 rfl (lv_at hl 0 rfl) ?_
  refine lv_iconst (v := (0 : Int32)) hx hb dX10_fault_1 (by decide) ?_
  refine va_put (D := g.1) (ci := 10) (v := .int (0 : Int32)) (ty := .int) (C := RX10) (T := TX10) (N := 35) hx hb hts iX10_fault_X10 tyX10 tyX10_ok nmX10 hown hK.1 hP hD hS 0 rfl rfl 0 (by decide) (hts _ kX10_fault_53) (fun _ h9 => h9) rfl (by decide +kernel) rfl rfl (Nat.le_of_ble_eq_true rfl) dX10_fault_2 (fun H locs hP hD hS => ?_)
  have hP : va_P g.1 vwCl [oX10 a_t p_t (upd o_t 0 (0 : Int32))] H := hP
  have hD : va_D A [oX10 a_t p_t (upd o_t 0 (0 : Int32))] := hD
  refine lv_aload_n hx hb dX10_fault_5 rfl (lv_at hl 0 rfl) ?_
  refine va_get (D := g.1) (ci := 10) (v := .int (o_t 9)) (C := RX10) (T := TX10) (N := 35) hx hb hts iX10_fault_X10 hown hK.1 hP 0 rfl rfl 9 (by decide) (hts _ kX10_fault_95) (fun _ h9 => h9) rfl dX10_fault_6 ?_
  cases hF
  exact ret_i C0 hP hD hS [0] rfl rfl rfl dX10_fault_9 rfl

theorem dAX10_where : ∀ q ∈ ([(0, (.aload_n 0, 1)), (1, (.iconst 0, 1)), (2, (.putfield 53, 3)), (5, (.aload_n 0, 1)), (6, (.getfield 56, 3)), (9, (.iconst 4, 1)), (10, (.if_icmp .ne 10, 3)), (13, (.aload_n 0, 1)), (14, (.getfield 13, 3)), (17, (.goto 4, 3)), (20, (.iconst (-1), 1)), (21, (.ireturn, 1))] : List (Nat × (Instr × Nat))), decode cX10_where q.1 = .ok q.2 := by decide +kernel
theorem dX10_where_0 : decode cX10_where 0 = .ok (.aload_n 0, 1) := dAX10_where (0, (.aload_n 0, 1)) (List.mem_of_getElem? (i := 0) rfl)
theorem dX10_where_1 : decode cX10_where 1 = .ok (.iconst 0, 1) := dAX10_where (1, (.iconst 0, 1)) (List.mem_of_getElem? (i := 1) rfl)
theorem dX10_where_2 : decode cX10_where 2 = .ok (.putfield 53, 3) := dAX10_where (2, (.putfield 53, 3)) (List.mem_of_getElem? (i := 2) rfl)
theorem dX10_where_5 : decode cX10_where 5 = .ok (.aload_n 0, 1) := dAX10_where (5, (.aload_n 0, 1)) (List.mem_of_getElem? (i := 3) rfl)
theorem dX10_where_6 : decode cX10_where 6 = .ok (.getfield 56, 3) := dAX10_where (6, (.getfield 56, 3)) (List.mem_of_getElem? (i := 4) rfl)
theorem dX10_where_9 : decode cX10_where 9 = .ok (.iconst 4, 1) := dAX10_where (9, (.iconst 4, 1)) (List.mem_of_getElem? (i := 5) rfl)
theorem dX10_where_10 : decode cX10_where 10 = .ok (.if_icmp .ne 10, 3) := dAX10_where (10, (.if_icmp .ne 10, 3)) (List.mem_of_getElem? (i := 6) rfl)
theorem dX10_where_13 : decode cX10_where 13 = .ok (.aload_n 0, 1) := dAX10_where (13, (.aload_n 0, 1)) (List.mem_of_getElem? (i := 7) rfl)
theorem dX10_where_14 : decode cX10_where 14 = .ok (.getfield 13, 3) := dAX10_where (14, (.getfield 13, 3)) (List.mem_of_getElem? (i := 8) rfl)
theorem dX10_where_17 : decode cX10_where 17 = .ok (.goto 4, 3) := dAX10_where (17, (.goto 4, 3)) (List.mem_of_getElem? (i := 9) rfl)
theorem dX10_where_20 : decode cX10_where 20 = .ok (.iconst (-1), 1) := dAX10_where (20, (.iconst (-1), 1)) (List.mem_of_getElem? (i := 10) rfl)
theorem dX10_where_21 : decode cX10_where 21 = .ok (.ireturn, 1) := dAX10_where (21, (.ireturn, 1)) (List.mem_of_getElem? (i := 11) rfl)
theorem kX10_where_53 : Cond.fieldLink RX10 53 "EveningVowModel" "thrown" "I" ∈ wsX10_where := List.mem_of_getElem? (i := 1) rfl
theorem iX10_where_X10 : ∀ w ∈ u_ws RX10 TX10 35, w ∈ wsX10_where := fun w h => (List.mem_cons_of_mem _ (List.mem_append_right _ h))
theorem kX10_where_56 : Cond.fieldLink RX10 56 "EveningVowModel" "trouble" "I" ∈ wsX10_where := List.mem_of_getElem? (i := 2) rfl
theorem kX10_where_13 : Cond.fieldLink RX10 13 "EveningVowModel" "place" "I" ∈ wsX10_where := List.mem_of_getElem? (i := 3) rfl
set_option maxHeartbeats 4000000 in
set_option maxRecDepth 100000 in
theorem mX10_where (l : Launch) (g : GG) (a_t : Nat) (p_t : Nat → Nat) (n : Nat) (o_t : Nat → Int32) (r : Int32) (o_t' : Nat → Int32) (hF : fX10_where n o_t = some (r, o_t')) : MI l g yX10_where wsX10_where ({ frames := 0, cells := 0, slots := 0, locals := 0 } : Room) [.ref a_t] [oX10 a_t p_t o_t] r [oX10 a_t p_t o_t'] := by
  refine MI.of (cc := cX10_where) (maxL := 1) (rt := .int) (own := RX10) rfl rfl (by decide) (Nat.le_of_ble_eq_true rfl) ?_
  intro p e s m args below meth c A C0 hP hD hS ls hl
  obtain ⟨hx, hb, hml, hown, hts, hr, hlk, hK, hA, hSW⟩ := id C0
  have hl : lv_has ls 1 [(0, .ref a_t)] := hl
  rw [fX10_where] at hF
  refine lv_aload_n hx hb dX10_where_0 rfl (lv_at hl 0 rfl) ?_
  refine lv_iconst (v := (0 : Int32)) hx hb dX10_where_1 (by decide) ?_
  refine va_put (D := g.1) (ci := 10) (v := .int (0 : Int32)) (ty := .int) (C := RX10) (T := TX10) (N := 35) hx hb hts iX10_where_X10 tyX10 tyX10_ok nmX10 hown hK.1 hP hD hS 0 rfl rfl 0 (by decide) (hts _ kX10_where_53) (fun _ h9 => h9) rfl (by decide +kernel) rfl rfl (Nat.le_of_ble_eq_true rfl) dX10_where_2 (fun H locs hP hD hS => ?_)
  have hP : va_P g.1 vwCl [oX10 a_t p_t (upd o_t 0 (0 : Int32))] H := hP
  have hD : va_D A [oX10 a_t p_t (upd o_t 0 (0 : Int32))] := hD
  refine lv_aload_n hx hb dX10_where_5 rfl (lv_at hl 0 rfl) ?_
  refine va_get (D := g.1) (ci := 10) (v := .int (o_t 11)) (C := RX10) (T := TX10) (N := 35) hx hb hts iX10_where_X10 hown hK.1 hP 0 rfl rfl 11 (by decide) (hts _ kX10_where_56) (fun _ h9 => h9) rfl dX10_where_6 ?_
  refine lv_iconst (v := (4 : Int32)) hx hb dX10_where_9 (by decide) ?_
  refine lv_icmp_ne (tgt := 20) hx hb dX10_where_10 (by decide) (fun c_1 => ?_) (fun c_1 => ?_)
  · have hF := it_n c_1 hF
    refine lv_iconst (v := (-1 : Int32)) hx hb dX10_where_20 (by decide) ?_
    cases hF
    exact ret_i C0 hP hD hS [0] rfl rfl rfl dX10_where_21 rfl
  · have hF := it_p c_1 hF
    refine lv_aload_n hx hb dX10_where_13 rfl (lv_at hl 0 rfl) ?_
    refine va_get (D := g.1) (ci := 10) (v := .int (o_t 10)) (C := RX10) (T := TX10) (N := 35) hx hb hts iX10_where_X10 hown hK.1 hP 0 rfl rfl 10 (by decide) (hts _ kX10_where_13) (fun _ h9 => h9) rfl dX10_where_14 ?_
    refine lv_goto (tgt := 21) hx hb dX10_where_17 (by decide) ?_
    cases hF
    exact ret_i C0 hP hD hS [0] rfl rfl rfl dX10_where_21 rfl

theorem dAX10_isGuest : ∀ q ∈ ([(0, (.aload_n 0, 1)), (1, (.getfield 176, 3)), (4, (.ifCond .eq 23, 3)), (7, (.iload_n 1, 1)), (8, (.iconst 0, 1)), (9, (.aload_n 0, 1)), (10, (.getfield 20, 3)), (13, (.iconst 3, 1)), (14, (.iaload, 1)), (15, (.iconst 1, 1)), (16, (.isub, 1)), (17, (.invokestatic 144, 3)), (20, (.ifCond .eq 7, 3)), (23, (.iconst 1, 1)), (24, (.goto 4, 3)), (27, (.iconst 0, 1)), (28, (.ireturn, 1))] : List (Nat × (Instr × Nat))), decode cX10_isGuest q.1 = .ok q.2 := by decide +kernel
theorem dX10_isGuest_0 : decode cX10_isGuest 0 = .ok (.aload_n 0, 1) := dAX10_isGuest (0, (.aload_n 0, 1)) (List.mem_of_getElem? (i := 0) rfl)
theorem dX10_isGuest_1 : decode cX10_isGuest 1 = .ok (.getfield 176, 3) := dAX10_isGuest (1, (.getfield 176, 3)) (List.mem_of_getElem? (i := 1) rfl)
theorem dX10_isGuest_4 : decode cX10_isGuest 4 = .ok (.ifCond .eq 23, 3) := dAX10_isGuest (4, (.ifCond .eq 23, 3)) (List.mem_of_getElem? (i := 2) rfl)
theorem dX10_isGuest_7 : decode cX10_isGuest 7 = .ok (.iload_n 1, 1) := dAX10_isGuest (7, (.iload_n 1, 1)) (List.mem_of_getElem? (i := 3) rfl)
theorem dX10_isGuest_8 : decode cX10_isGuest 8 = .ok (.iconst 0, 1) := dAX10_isGuest (8, (.iconst 0, 1)) (List.mem_of_getElem? (i := 4) rfl)
theorem dX10_isGuest_9 : decode cX10_isGuest 9 = .ok (.aload_n 0, 1) := dAX10_isGuest (9, (.aload_n 0, 1)) (List.mem_of_getElem? (i := 5) rfl)
theorem dX10_isGuest_10 : decode cX10_isGuest 10 = .ok (.getfield 20, 3) := dAX10_isGuest (10, (.getfield 20, 3)) (List.mem_of_getElem? (i := 6) rfl)
theorem dX10_isGuest_13 : decode cX10_isGuest 13 = .ok (.iconst 3, 1) := dAX10_isGuest (13, (.iconst 3, 1)) (List.mem_of_getElem? (i := 7) rfl)
theorem dX10_isGuest_14 : decode cX10_isGuest 14 = .ok (.iaload, 1) := dAX10_isGuest (14, (.iaload, 1)) (List.mem_of_getElem? (i := 8) rfl)
theorem dX10_isGuest_15 : decode cX10_isGuest 15 = .ok (.iconst 1, 1) := dAX10_isGuest (15, (.iconst 1, 1)) (List.mem_of_getElem? (i := 9) rfl)
theorem dX10_isGuest_16 : decode cX10_isGuest 16 = .ok (.isub, 1) := dAX10_isGuest (16, (.isub, 1)) (List.mem_of_getElem? (i := 10) rfl)
theorem dX10_isGuest_17 : decode cX10_isGuest 17 = .ok (.invokestatic 144, 3) := dAX10_isGuest (17, (.invokestatic 144, 3)) (List.mem_of_getElem? (i := 11) rfl)
theorem dX10_isGuest_20 : decode cX10_isGuest 20 = .ok (.ifCond .eq 7, 3) := dAX10_isGuest (20, (.ifCond .eq 7, 3)) (List.mem_of_getElem? (i := 12) rfl)
theorem dX10_isGuest_23 : decode cX10_isGuest 23 = .ok (.iconst 1, 1) := dAX10_isGuest (23, (.iconst 1, 1)) (List.mem_of_getElem? (i := 13) rfl)
theorem dX10_isGuest_24 : decode cX10_isGuest 24 = .ok (.goto 4, 3) := dAX10_isGuest (24, (.goto 4, 3)) (List.mem_of_getElem? (i := 14) rfl)
theorem dX10_isGuest_27 : decode cX10_isGuest 27 = .ok (.iconst 0, 1) := dAX10_isGuest (27, (.iconst 0, 1)) (List.mem_of_getElem? (i := 15) rfl)
theorem dX10_isGuest_28 : decode cX10_isGuest 28 = .ok (.ireturn, 1) := dAX10_isGuest (28, (.ireturn, 1)) (List.mem_of_getElem? (i := 16) rfl)
set_option maxRecDepth 20000 in
theorem ggX10_isGuest_X10_in : GoodIn wsX10_isGuest wsX10_in := goodIn_r _ [6] rfl (by decide +kernel)
set_option maxRecDepth 20000 in
theorem gX10_isGuest_X10_in : GoodIn wsX10_isGuest (va_wsS RX10 144 yX10_in wsX10_in) := goodIn_app (goodIn_of _ (by decide +kernel)) ggX10_isGuest_X10_in
theorem kX10_isGuest_176 : Cond.fieldLink RX10 176 "EveningVowModel" "hasEvening" "Z" ∈ wsX10_isGuest := List.mem_of_getElem? (i := 1) rfl
theorem iX10_isGuest_X10 : ∀ w ∈ u_ws RX10 TX10 35, w ∈ wsX10_isGuest := fun w h => (List.mem_cons_of_mem _ (List.mem_append_right _ h))
theorem kX10_isGuest_20 : Cond.fieldLink RX10 20 "EveningVowModel" "\x72" "[I" ∈ wsX10_isGuest := List.mem_of_getElem? (i := 2) rfl
set_option maxHeartbeats 4000000 in
set_option maxRecDepth 100000 in
theorem mX10_isGuest (l : Launch) (g : GG) (a_t : Nat) (p_t : Nat → Nat) (n : Nat) (x1 : Int32) (o_t : Nat → Int32) (f_t_15 : Nat → Int32) (r : Int32) (hF : fX10_isGuest n x1 o_t f_t_15 = some (r)) : MI l g yX10_isGuest wsX10_isGuest ({ frames := 1, cells := 0, slots := 0, locals := 22 } : Room) [.ref a_t, .int x1] [oX10 a_t p_t o_t, aI g (p_t 15) 266 f_t_15] r [oX10 a_t p_t o_t, aI g (p_t 15) 266 f_t_15] := by
  refine MI.of (cc := cX10_isGuest) (maxL := 2) (rt := .boolean) (own := RX10) rfl rfl (by decide) (Nat.le_of_ble_eq_true rfl) ?_
  intro p e s m args below meth c A C0 hP hD hS ls hl
  obtain ⟨hx, hb, hml, hown, hts, hr, hlk, hK, hA, hSW⟩ := id C0
  have hl : lv_has ls 2 [(0, .ref a_t), (1, .int x1)] := hl
  rw [fX10_isGuest] at hF
  refine lv_aload_n hx hb dX10_isGuest_0 rfl (lv_at hl 0 rfl) ?_
  refine va_get (D := g.1) (ci := 10) (v := .int (o_t 14)) (C := RX10) (T := TX10) (N := 35) hx hb hts iX10_isGuest_X10 hown hK.1 hP 0 rfl rfl 14 (by decide) (hts _ kX10_isGuest_176) (fun _ h9 => h9) rfl dX10_isGuest_1 ?_
  refine lv_if_eq (tgt := 27) hx hb dX10_isGuest_4 (by decide) (fun c_1 => ?_) (fun c_1 => ?_)
  · have hF := it_p c_1 hF
    refine lv_iconst (v := (0 : Int32)) hx hb dX10_isGuest_27 (by decide) ?_
    cases hF
    exact ret_z C0 hP hD hS [0, 1] rfl rfl rfl dX10_isGuest_28 rfl rfl
  · have hF := it_n c_1 hF
    refine lv_iload_n hx hb dX10_isGuest_7 rfl (lv_at hl 1 rfl) ?_
    refine lv_iconst (v := (0 : Int32)) hx hb dX10_isGuest_8 (by decide) ?_
    refine lv_aload_n hx hb dX10_isGuest_9 rfl (lv_at hl 0 rfl) ?_
    refine va_get (D := g.1) (ci := 10) (v := .ref (p_t 15)) (C := RX10) (T := TX10) (N := 35) hx hb hts iX10_isGuest_X10 hown hK.1 hP 0 rfl rfl 15 (by decide) (hts _ kX10_isGuest_20) (fun _ h9 => h9) rfl dX10_isGuest_10 ?_
    refine lv_iconst (v := (3 : Int32)) hx hb dX10_isGuest_13 (by decide) ?_
    refine va_iald_k (j := 3) hx hb hK.1 hP 1 0 rfl rfl (by unfold vp_in; decide) rfl dX10_isGuest_14 ?_
    refine lv_iconst (v := (1 : Int32)) hx hb dX10_isGuest_15 (by decide) ?_
    refine lv_isub hx hb dX10_isGuest_16 ?_
    obtain ⟨u_2, hu_3, hF⟩ := ob1_some hF
    refine call_si (wr := [oX10 a_t p_t o_t, aI g (p_t 15) 266 f_t_15]) (As := [.int x1, .int (0 : Int32), .int ((f_t_15 3) - (1 : Int32))]) (rest := []) C0 (mX10_in l g n x1 (0 : Int32) ((f_t_15 3) - (1 : Int32)) u_2 hu_3) (va_cwS 3 hts gX10_isGuest_X10_in rfl rfl rfl (by decide +kernel) ⟨Nat.le_of_ble_eq_true rfl, Nat.le_of_ble_eq_true rfl⟩) hP hD hS [] [0, 1] rfl rfl rfl rfl rfl (by decide) hl.1 rfl rfl (Nat.le_of_ble_eq_true rfl) ⟨Nat.zero_le _, Nat.zero_le _⟩ dX10_isGuest_17 ?_
    intro H locs hP hD hS
    refine lv_if_eq (tgt := 27) hx hb dX10_isGuest_20 (by decide) (fun c_4 => ?_) (fun c_4 => ?_)
    · have hF := it_p c_4 hF
      refine lv_iconst (v := (0 : Int32)) hx hb dX10_isGuest_27 (by decide) ?_
      cases hF
      exact ret_z C0 hP hD hS [0, 1] rfl rfl rfl dX10_isGuest_28 rfl rfl
    · have hF := it_n c_4 hF
      refine lv_iconst (v := (1 : Int32)) hx hb dX10_isGuest_23 (by decide) ?_
      refine lv_goto (tgt := 28) hx hb dX10_isGuest_24 (by decide) ?_
      cases hF
      exact ret_z C0 hP hD hS [0, 1] rfl rfl rfl dX10_isGuest_28 rfl rfl

theorem dAX10_kindOf : ∀ q ∈ ([(0, (.aload_n 0, 1)), (1, (.getfield 20, 3)), (4, (.bipush 9, 2)), (6, (.iconst 4, 1)), (7, (.iload_n 1, 1)), (8, (.imul, 1)), (9, (.iadd, 1)), (10, (.iaload, 1)), (11, (.ireturn, 1))] : List (Nat × (Instr × Nat))), decode cX10_kindOf q.1 = .ok q.2 := by decide +kernel
theorem dX10_kindOf_0 : decode cX10_kindOf 0 = .ok (.aload_n 0, 1) := dAX10_kindOf (0, (.aload_n 0, 1)) (List.mem_of_getElem? (i := 0) rfl)
theorem dX10_kindOf_1 : decode cX10_kindOf 1 = .ok (.getfield 20, 3) := dAX10_kindOf (1, (.getfield 20, 3)) (List.mem_of_getElem? (i := 1) rfl)
theorem dX10_kindOf_4 : decode cX10_kindOf 4 = .ok (.bipush 9, 2) := dAX10_kindOf (4, (.bipush 9, 2)) (List.mem_of_getElem? (i := 2) rfl)
theorem dX10_kindOf_6 : decode cX10_kindOf 6 = .ok (.iconst 4, 1) := dAX10_kindOf (6, (.iconst 4, 1)) (List.mem_of_getElem? (i := 3) rfl)
theorem dX10_kindOf_7 : decode cX10_kindOf 7 = .ok (.iload_n 1, 1) := dAX10_kindOf (7, (.iload_n 1, 1)) (List.mem_of_getElem? (i := 4) rfl)
theorem dX10_kindOf_8 : decode cX10_kindOf 8 = .ok (.imul, 1) := dAX10_kindOf (8, (.imul, 1)) (List.mem_of_getElem? (i := 5) rfl)
theorem dX10_kindOf_9 : decode cX10_kindOf 9 = .ok (.iadd, 1) := dAX10_kindOf (9, (.iadd, 1)) (List.mem_of_getElem? (i := 6) rfl)
theorem dX10_kindOf_10 : decode cX10_kindOf 10 = .ok (.iaload, 1) := dAX10_kindOf (10, (.iaload, 1)) (List.mem_of_getElem? (i := 7) rfl)
theorem dX10_kindOf_11 : decode cX10_kindOf 11 = .ok (.ireturn, 1) := dAX10_kindOf (11, (.ireturn, 1)) (List.mem_of_getElem? (i := 8) rfl)
theorem kX10_kindOf_20 : Cond.fieldLink RX10 20 "EveningVowModel" "\x72" "[I" ∈ wsX10_kindOf := List.mem_of_getElem? (i := 1) rfl
theorem iX10_kindOf_X10 : ∀ w ∈ u_ws RX10 TX10 35, w ∈ wsX10_kindOf := fun w h => (List.mem_cons_of_mem _ (List.mem_append_right _ h))
set_option maxHeartbeats 4000000 in
set_option maxRecDepth 100000 in
theorem mX10_kindOf (l : Launch) (g : GG) (a_t : Nat) (p_t : Nat → Nat) (n : Nat) (x1 : Int32) (o_t : Nat → Int32) (f_t_15 : Nat → Int32) (r : Int32) (hF : fX10_kindOf n x1 o_t f_t_15 = some (r)) : MI l g yX10_kindOf wsX10_kindOf ({ frames := 0, cells := 0, slots := 0, locals := 0 } : Room) [.ref a_t, .int x1] [oX10 a_t p_t o_t, aI g (p_t 15) 266 f_t_15] r [oX10 a_t p_t o_t, aI g (p_t 15) 266 f_t_15] := by
  refine MI.of (cc := cX10_kindOf) (maxL := 2) (rt := .int) (own := RX10) rfl rfl (by decide) (Nat.le_of_ble_eq_true rfl) ?_
  intro p e s m args below meth c A C0 hP hD hS ls hl
  obtain ⟨hx, hb, hml, hown, hts, hr, hlk, hK, hA, hSW⟩ := id C0
  have hl : lv_has ls 2 [(0, .ref a_t), (1, .int x1)] := hl
  rw [fX10_kindOf] at hF
  refine lv_aload_n hx hb dX10_kindOf_0 rfl (lv_at hl 0 rfl) ?_
  refine va_get (D := g.1) (ci := 10) (v := .ref (p_t 15)) (C := RX10) (T := TX10) (N := 35) hx hb hts iX10_kindOf_X10 hown hK.1 hP 0 rfl rfl 15 (by decide) (hts _ kX10_kindOf_20) (fun _ h9 => h9) rfl dX10_kindOf_1 ?_
  refine lv_bipush (v := (9 : Int32)) hx hb dX10_kindOf_4 (by decide) ?_
  refine lv_iconst (v := (4 : Int32)) hx hb dX10_kindOf_6 (by decide) ?_
  refine lv_iload_n hx hb dX10_kindOf_7 rfl (lv_at hl 1 rfl) ?_
  refine lv_imul hx hb dX10_kindOf_8 ?_
  refine lv_iadd hx hb dX10_kindOf_9 ?_
  obtain ⟨h_1, hF⟩ := it_ck hF
  refine va_iald hx hb hK.1 hP 1 0 rfl rfl h_1 dX10_kindOf_10 ?_
  cases hF
  exact ret_i C0 hP hD hS [0, 1] rfl rfl rfl dX10_kindOf_11 rfl

theorem dAX10_sinksOf : ∀ q ∈ ([(0, (.aload_n 0, 1)), (1, (.getfield 20, 3)), (4, (.bipush 9, 2)), (6, (.iconst 4, 1)), (7, (.iload_n 1, 1)), (8, (.imul, 1)), (9, (.iadd, 1)), (10, (.iconst 2, 1)), (11, (.iadd, 1)), (12, (.iaload, 1)), (13, (.ireturn, 1))] : List (Nat × (Instr × Nat))), decode cX10_sinksOf q.1 = .ok q.2 := by decide +kernel
theorem dX10_sinksOf_0 : decode cX10_sinksOf 0 = .ok (.aload_n 0, 1) := dAX10_sinksOf (0, (.aload_n 0, 1)) (List.mem_of_getElem? (i := 0) rfl)
theorem dX10_sinksOf_1 : decode cX10_sinksOf 1 = .ok (.getfield 20, 3) := dAX10_sinksOf (1, (.getfield 20, 3)) (List.mem_of_getElem? (i := 1) rfl)
theorem dX10_sinksOf_4 : decode cX10_sinksOf 4 = .ok (.bipush 9, 2) := dAX10_sinksOf (4, (.bipush 9, 2)) (List.mem_of_getElem? (i := 2) rfl)
theorem dX10_sinksOf_6 : decode cX10_sinksOf 6 = .ok (.iconst 4, 1) := dAX10_sinksOf (6, (.iconst 4, 1)) (List.mem_of_getElem? (i := 3) rfl)
theorem dX10_sinksOf_7 : decode cX10_sinksOf 7 = .ok (.iload_n 1, 1) := dAX10_sinksOf (7, (.iload_n 1, 1)) (List.mem_of_getElem? (i := 4) rfl)
theorem dX10_sinksOf_8 : decode cX10_sinksOf 8 = .ok (.imul, 1) := dAX10_sinksOf (8, (.imul, 1)) (List.mem_of_getElem? (i := 5) rfl)
theorem dX10_sinksOf_9 : decode cX10_sinksOf 9 = .ok (.iadd, 1) := dAX10_sinksOf (9, (.iadd, 1)) (List.mem_of_getElem? (i := 6) rfl)
theorem dX10_sinksOf_10 : decode cX10_sinksOf 10 = .ok (.iconst 2, 1) := dAX10_sinksOf (10, (.iconst 2, 1)) (List.mem_of_getElem? (i := 7) rfl)
theorem dX10_sinksOf_11 : decode cX10_sinksOf 11 = .ok (.iadd, 1) := dAX10_sinksOf (11, (.iadd, 1)) (List.mem_of_getElem? (i := 8) rfl)
theorem dX10_sinksOf_12 : decode cX10_sinksOf 12 = .ok (.iaload, 1) := dAX10_sinksOf (12, (.iaload, 1)) (List.mem_of_getElem? (i := 9) rfl)
theorem dX10_sinksOf_13 : decode cX10_sinksOf 13 = .ok (.ireturn, 1) := dAX10_sinksOf (13, (.ireturn, 1)) (List.mem_of_getElem? (i := 10) rfl)
theorem kX10_sinksOf_20 : Cond.fieldLink RX10 20 "EveningVowModel" "\x72" "[I" ∈ wsX10_sinksOf := List.mem_of_getElem? (i := 1) rfl
theorem iX10_sinksOf_X10 : ∀ w ∈ u_ws RX10 TX10 35, w ∈ wsX10_sinksOf := fun w h => (List.mem_cons_of_mem _ (List.mem_append_right _ h))
set_option maxHeartbeats 4000000 in
set_option maxRecDepth 100000 in
theorem mX10_sinksOf (l : Launch) (g : GG) (a_t : Nat) (p_t : Nat → Nat) (n : Nat) (x1 : Int32) (o_t : Nat → Int32) (f_t_15 : Nat → Int32) (r : Int32) (hF : fX10_sinksOf n x1 o_t f_t_15 = some (r)) : MI l g yX10_sinksOf wsX10_sinksOf ({ frames := 0, cells := 0, slots := 0, locals := 0 } : Room) [.ref a_t, .int x1] [oX10 a_t p_t o_t, aI g (p_t 15) 266 f_t_15] r [oX10 a_t p_t o_t, aI g (p_t 15) 266 f_t_15] := by
  refine MI.of (cc := cX10_sinksOf) (maxL := 2) (rt := .int) (own := RX10) rfl rfl (by decide) (Nat.le_of_ble_eq_true rfl) ?_
  intro p e s m args below meth c A C0 hP hD hS ls hl
  obtain ⟨hx, hb, hml, hown, hts, hr, hlk, hK, hA, hSW⟩ := id C0
  have hl : lv_has ls 2 [(0, .ref a_t), (1, .int x1)] := hl
  rw [fX10_sinksOf] at hF
  refine lv_aload_n hx hb dX10_sinksOf_0 rfl (lv_at hl 0 rfl) ?_
  refine va_get (D := g.1) (ci := 10) (v := .ref (p_t 15)) (C := RX10) (T := TX10) (N := 35) hx hb hts iX10_sinksOf_X10 hown hK.1 hP 0 rfl rfl 15 (by decide) (hts _ kX10_sinksOf_20) (fun _ h9 => h9) rfl dX10_sinksOf_1 ?_
  refine lv_bipush (v := (9 : Int32)) hx hb dX10_sinksOf_4 (by decide) ?_
  refine lv_iconst (v := (4 : Int32)) hx hb dX10_sinksOf_6 (by decide) ?_
  refine lv_iload_n hx hb dX10_sinksOf_7 rfl (lv_at hl 1 rfl) ?_
  refine lv_imul hx hb dX10_sinksOf_8 ?_
  refine lv_iadd hx hb dX10_sinksOf_9 ?_
  refine lv_iconst (v := (2 : Int32)) hx hb dX10_sinksOf_10 (by decide) ?_
  refine lv_iadd hx hb dX10_sinksOf_11 ?_
  obtain ⟨h_1, hF⟩ := it_ck hF
  refine va_iald hx hb hK.1 hP 1 0 rfl rfl h_1 dX10_sinksOf_12 ?_
  cases hF
  exact ret_i C0 hP hD hS [0, 1] rfl rfl rfl dX10_sinksOf_13 rfl

theorem dAX10_isIn : ∀ q ∈ ([(0, (.aload_n 0, 1)), (1, (.bipush 7, 2)), (3, (.iload_n 1, 1)), (4, (.iadd, 1)), (5, (.iaload, 1)), (6, (.ifCond .ne 7, 3)), (9, (.iconst 1, 1)), (10, (.goto 4, 3)), (13, (.iconst 0, 1)), (14, (.ireturn, 1))] : List (Nat × (Instr × Nat))), decode cX10_isIn q.1 = .ok q.2 := by decide +kernel
theorem dX10_isIn_0 : decode cX10_isIn 0 = .ok (.aload_n 0, 1) := dAX10_isIn (0, (.aload_n 0, 1)) (List.mem_of_getElem? (i := 0) rfl)
theorem dX10_isIn_1 : decode cX10_isIn 1 = .ok (.bipush 7, 2) := dAX10_isIn (1, (.bipush 7, 2)) (List.mem_of_getElem? (i := 1) rfl)
theorem dX10_isIn_3 : decode cX10_isIn 3 = .ok (.iload_n 1, 1) := dAX10_isIn (3, (.iload_n 1, 1)) (List.mem_of_getElem? (i := 2) rfl)
theorem dX10_isIn_4 : decode cX10_isIn 4 = .ok (.iadd, 1) := dAX10_isIn (4, (.iadd, 1)) (List.mem_of_getElem? (i := 3) rfl)
theorem dX10_isIn_5 : decode cX10_isIn 5 = .ok (.iaload, 1) := dAX10_isIn (5, (.iaload, 1)) (List.mem_of_getElem? (i := 4) rfl)
theorem dX10_isIn_6 : decode cX10_isIn 6 = .ok (.ifCond .ne 7, 3) := dAX10_isIn (6, (.ifCond .ne 7, 3)) (List.mem_of_getElem? (i := 5) rfl)
theorem dX10_isIn_9 : decode cX10_isIn 9 = .ok (.iconst 1, 1) := dAX10_isIn (9, (.iconst 1, 1)) (List.mem_of_getElem? (i := 6) rfl)
theorem dX10_isIn_10 : decode cX10_isIn 10 = .ok (.goto 4, 3) := dAX10_isIn (10, (.goto 4, 3)) (List.mem_of_getElem? (i := 7) rfl)
theorem dX10_isIn_13 : decode cX10_isIn 13 = .ok (.iconst 0, 1) := dAX10_isIn (13, (.iconst 0, 1)) (List.mem_of_getElem? (i := 8) rfl)
theorem dX10_isIn_14 : decode cX10_isIn 14 = .ok (.ireturn, 1) := dAX10_isIn (14, (.ireturn, 1)) (List.mem_of_getElem? (i := 9) rfl)
set_option maxHeartbeats 4000000 in
set_option maxRecDepth 100000 in
theorem mX10_isIn (l : Launch) (g : GG) (a_r0 : Nat)  (n : Nat) (x1 : Int32) (f_r0 : Nat → Int32) (r : Int32) (hF : fX10_isIn n x1 f_r0 = some (r)) : MI l g yX10_isIn wsX10_isIn ({ frames := 0, cells := 0, slots := 0, locals := 0 } : Room) [.ref a_r0, .int x1] [aI g a_r0 17 f_r0] r [aI g a_r0 17 f_r0] := by
  refine MI.of (cc := cX10_isIn) (maxL := 2) (rt := .boolean) (own := RX10) rfl rfl (by decide) (Nat.le_of_ble_eq_true rfl) ?_
  intro p e s m args below meth c A C0 hP hD hS ls hl
  obtain ⟨hx, hb, hml, hown, hts, hr, hlk, hK, hA, hSW⟩ := id C0
  have hl : lv_has ls 2 [(0, .ref a_r0), (1, .int x1)] := hl
  rw [fX10_isIn] at hF
  refine lv_aload_n hx hb dX10_isIn_0 rfl (lv_at hl 0 rfl) ?_
  refine lv_bipush (v := (7 : Int32)) hx hb dX10_isIn_1 (by decide) ?_
  refine lv_iload_n hx hb dX10_isIn_3 rfl (lv_at hl 1 rfl) ?_
  refine lv_iadd hx hb dX10_isIn_4 ?_
  obtain ⟨h_1, hF⟩ := it_ck hF
  refine va_iald hx hb hK.1 hP 0 0 rfl rfl h_1 dX10_isIn_5 ?_
  refine lv_if_ne (tgt := 13) hx hb dX10_isIn_6 (by decide) (fun c_2 => ?_) (fun c_2 => ?_)
  · have hF := it_n c_2 hF
    refine lv_iconst (v := (0 : Int32)) hx hb dX10_isIn_13 (by decide) ?_
    cases hF
    exact ret_z C0 hP hD hS [0] rfl rfl rfl dX10_isIn_14 rfl rfl
  · have hF := it_p c_2 hF
    refine lv_iconst (v := (1 : Int32)) hx hb dX10_isIn_9 (by decide) ?_
    refine lv_goto (tgt := 14) hx hb dX10_isIn_10 (by decide) ?_
    cases hF
    exact ret_z C0 hP hD hS [0] rfl rfl rfl dX10_isIn_14 rfl rfl

theorem dAX10_thereOf : ∀ q ∈ ([(0, (.iconst 0, 1)), (1, (.istore_n 2, 1)), (2, (.iconst 0, 1)), (3, (.istore_n 3, 1)), (4, (.iload_n 3, 1)), (5, (.aload_n 0, 1)), (6, (.getfield 20, 3)), (9, (.iconst 3, 1)), (10, (.iaload, 1)), (11, (.if_icmp .ge 27, 3)), (14, (.iload_n 2, 1)), (15, (.aload_n 1, 1)), (16, (.iload_n 3, 1)), (17, (.invokestatic 248, 3)), (20, (.ifCond .eq 9, 3)), (23, (.iconst 1, 1)), (24, (.iload_n 3, 1)), (25, (.ishl, 1)), (26, (.goto 4, 3)), (29, (.iconst 0, 1)), (30, (.ior, 1)), (31, (.istore_n 2, 1)), (32, (.iinc 3 1, 3)), (35, (.goto (-31), 3)), (38, (.iload_n 2, 1)), (39, (.ireturn, 1))] : List (Nat × (Instr × Nat))), decode cX10_thereOf q.1 = .ok q.2 := by decide +kernel
theorem dX10_thereOf_0 : decode cX10_thereOf 0 = .ok (.iconst 0, 1) := dAX10_thereOf (0, (.iconst 0, 1)) (List.mem_of_getElem? (i := 0) rfl)
theorem dX10_thereOf_1 : decode cX10_thereOf 1 = .ok (.istore_n 2, 1) := dAX10_thereOf (1, (.istore_n 2, 1)) (List.mem_of_getElem? (i := 1) rfl)
theorem dX10_thereOf_2 : decode cX10_thereOf 2 = .ok (.iconst 0, 1) := dAX10_thereOf (2, (.iconst 0, 1)) (List.mem_of_getElem? (i := 2) rfl)
theorem dX10_thereOf_3 : decode cX10_thereOf 3 = .ok (.istore_n 3, 1) := dAX10_thereOf (3, (.istore_n 3, 1)) (List.mem_of_getElem? (i := 3) rfl)
theorem dX10_thereOf_4 : decode cX10_thereOf 4 = .ok (.iload_n 3, 1) := dAX10_thereOf (4, (.iload_n 3, 1)) (List.mem_of_getElem? (i := 4) rfl)
theorem dX10_thereOf_5 : decode cX10_thereOf 5 = .ok (.aload_n 0, 1) := dAX10_thereOf (5, (.aload_n 0, 1)) (List.mem_of_getElem? (i := 5) rfl)
theorem dX10_thereOf_6 : decode cX10_thereOf 6 = .ok (.getfield 20, 3) := dAX10_thereOf (6, (.getfield 20, 3)) (List.mem_of_getElem? (i := 6) rfl)
theorem dX10_thereOf_9 : decode cX10_thereOf 9 = .ok (.iconst 3, 1) := dAX10_thereOf (9, (.iconst 3, 1)) (List.mem_of_getElem? (i := 7) rfl)
theorem dX10_thereOf_10 : decode cX10_thereOf 10 = .ok (.iaload, 1) := dAX10_thereOf (10, (.iaload, 1)) (List.mem_of_getElem? (i := 8) rfl)
theorem dX10_thereOf_11 : decode cX10_thereOf 11 = .ok (.if_icmp .ge 27, 3) := dAX10_thereOf (11, (.if_icmp .ge 27, 3)) (List.mem_of_getElem? (i := 9) rfl)
theorem dX10_thereOf_14 : decode cX10_thereOf 14 = .ok (.iload_n 2, 1) := dAX10_thereOf (14, (.iload_n 2, 1)) (List.mem_of_getElem? (i := 10) rfl)
theorem dX10_thereOf_15 : decode cX10_thereOf 15 = .ok (.aload_n 1, 1) := dAX10_thereOf (15, (.aload_n 1, 1)) (List.mem_of_getElem? (i := 11) rfl)
theorem dX10_thereOf_16 : decode cX10_thereOf 16 = .ok (.iload_n 3, 1) := dAX10_thereOf (16, (.iload_n 3, 1)) (List.mem_of_getElem? (i := 12) rfl)
theorem dX10_thereOf_17 : decode cX10_thereOf 17 = .ok (.invokestatic 248, 3) := dAX10_thereOf (17, (.invokestatic 248, 3)) (List.mem_of_getElem? (i := 13) rfl)
theorem dX10_thereOf_20 : decode cX10_thereOf 20 = .ok (.ifCond .eq 9, 3) := dAX10_thereOf (20, (.ifCond .eq 9, 3)) (List.mem_of_getElem? (i := 14) rfl)
theorem dX10_thereOf_23 : decode cX10_thereOf 23 = .ok (.iconst 1, 1) := dAX10_thereOf (23, (.iconst 1, 1)) (List.mem_of_getElem? (i := 15) rfl)
theorem dX10_thereOf_24 : decode cX10_thereOf 24 = .ok (.iload_n 3, 1) := dAX10_thereOf (24, (.iload_n 3, 1)) (List.mem_of_getElem? (i := 16) rfl)
theorem dX10_thereOf_25 : decode cX10_thereOf 25 = .ok (.ishl, 1) := dAX10_thereOf (25, (.ishl, 1)) (List.mem_of_getElem? (i := 17) rfl)
theorem dX10_thereOf_26 : decode cX10_thereOf 26 = .ok (.goto 4, 3) := dAX10_thereOf (26, (.goto 4, 3)) (List.mem_of_getElem? (i := 18) rfl)
theorem dX10_thereOf_29 : decode cX10_thereOf 29 = .ok (.iconst 0, 1) := dAX10_thereOf (29, (.iconst 0, 1)) (List.mem_of_getElem? (i := 19) rfl)
theorem dX10_thereOf_30 : decode cX10_thereOf 30 = .ok (.ior, 1) := dAX10_thereOf (30, (.ior, 1)) (List.mem_of_getElem? (i := 20) rfl)
theorem dX10_thereOf_31 : decode cX10_thereOf 31 = .ok (.istore_n 2, 1) := dAX10_thereOf (31, (.istore_n 2, 1)) (List.mem_of_getElem? (i := 21) rfl)
theorem dX10_thereOf_32 : decode cX10_thereOf 32 = .ok (.iinc 3 1, 3) := dAX10_thereOf (32, (.iinc 3 1, 3)) (List.mem_of_getElem? (i := 22) rfl)
theorem dX10_thereOf_35 : decode cX10_thereOf 35 = .ok (.goto (-31), 3) := dAX10_thereOf (35, (.goto (-31), 3)) (List.mem_of_getElem? (i := 23) rfl)
theorem dX10_thereOf_38 : decode cX10_thereOf 38 = .ok (.iload_n 2, 1) := dAX10_thereOf (38, (.iload_n 2, 1)) (List.mem_of_getElem? (i := 24) rfl)
theorem dX10_thereOf_39 : decode cX10_thereOf 39 = .ok (.ireturn, 1) := dAX10_thereOf (39, (.ireturn, 1)) (List.mem_of_getElem? (i := 25) rfl)
set_option maxRecDepth 20000 in
theorem ggX10_thereOf_X10_isIn : GoodIn wsX10_thereOf wsX10_isIn := goodIn_r _ [5] rfl (by decide +kernel)
set_option maxRecDepth 20000 in
theorem gX10_thereOf_X10_isIn : GoodIn wsX10_thereOf (va_wsS RX10 248 yX10_isIn wsX10_isIn) := goodIn_app (goodIn_of _ (by decide +kernel)) ggX10_thereOf_X10_isIn
theorem kX10_thereOf_20 : Cond.fieldLink RX10 20 "EveningVowModel" "\x72" "[I" ∈ wsX10_thereOf := List.mem_of_getElem? (i := 1) rfl
theorem iX10_thereOf_X10 : ∀ w ∈ u_ws RX10 TX10 35, w ∈ wsX10_thereOf := fun w h => (List.mem_cons_of_mem _ (List.mem_append_right _ h))
set_option maxHeartbeats 4000000 in
set_option maxRecDepth 100000 in
theorem wX10_thereOf_L4 {p : Program} {l : Launch} {e : Env} {s : State} {m : MethodId} {args : Array Value} {below : List Frame} {meth : Method} {c : Code} {g : GG} {A : Nat → Prop} (C0 : Cx p s m args meth c cX10_thereOf 4 (some .int) RX10 wsX10_thereOf g A) (a_t : Nat) (a_r1 : Nat) (p_t : Nat → Nat) (n : Nat) (o_t : Nat → Int32) (f_t_15 : Nat → Int32) (f_r1 : Nat → Int32)  (r : Int32) (K : Int32 → Option (Int32)) (hKx : ∀ (x2 : Int32) (H : Heap) (locs : List Loc) (ls : Array Slot), K x2 = some (r) → va_P g.1 vwCl [oX10 a_t p_t o_t, aI g (p_t 15) 266 f_t_15, aI g a_r1 17 f_r1] H → va_D A [oX10 a_t p_t o_t, aI g (p_t 15) 266 f_t_15, aI g a_r1 17 f_r1] → va_S A s.heap H locs → lv_has ls 4 [(2, .int x2)] → W p l e ({ frames := 1, cells := 0, slots := 0, locals := 21 } : Room) s m args below meth c H locs 0 0 (MQ below (EndI g r [oX10 a_t p_t o_t, aI g (p_t 15) 266 f_t_15, aI g a_r1 17 f_r1] A) args s 0 0 A) (F0 m 38 ls [])) : ∀ (k : Nat) (x2 : Int32) (x3 : Int32), fX10_thereOf_L4 n o_t f_t_15 f_r1 K k x2 x3 = some (r) → ∀ (H : Heap) (locs : List Loc) (ls : Array Slot), va_P g.1 vwCl [oX10 a_t p_t o_t, aI g (p_t 15) 266 f_t_15, aI g a_r1 17 f_r1] H → va_D A [oX10 a_t p_t o_t, aI g (p_t 15) 266 f_t_15, aI g a_r1 17 f_r1] → va_S A s.heap H locs → lv_has ls 4 [(0, .ref a_t), (1, .ref a_r1), (2, .int x2), (3, .int x3)] → W p l e ({ frames := 1, cells := 0, slots := 0, locals := 21 } : Room) s m args below meth c H locs 0 0 (MQ below (EndI g r [oX10 a_t p_t o_t, aI g (p_t 15) 266 f_t_15, aI g a_r1 17 f_r1] A) args s 0 0 A) (F0 m 4 ls []) := by
  obtain ⟨hx, hb, hml, hown, hts, hr, hlk, hK, hA, hSW⟩ := id C0
  intro k
  induction k with
  | zero =>
    intro x2 x3 hF
    exact absurd hF (by simp [fX10_thereOf_L4])
  | succ k ih =>
    intro x2 x3 hF H locs ls hP hD hS hl
    rw [fX10_thereOf_L4] at hF
    refine lv_iload_n hx hb dX10_thereOf_4 rfl (lv_at hl 3 rfl) ?_
    refine lv_aload_n hx hb dX10_thereOf_5 rfl (lv_at hl 0 rfl) ?_
    refine va_get (D := g.1) (ci := 10) (v := .ref (p_t 15)) (C := RX10) (T := TX10) (N := 35) hx hb hts iX10_thereOf_X10 hown hK.1 hP 0 rfl rfl 15 (by decide) (hts _ kX10_thereOf_20) (fun _ h9 => h9) rfl dX10_thereOf_6 ?_
    refine lv_iconst (v := (3 : Int32)) hx hb dX10_thereOf_9 (by decide) ?_
    refine va_iald_k (j := 3) hx hb hK.1 hP 1 0 rfl rfl (by unfold vp_in; decide) rfl dX10_thereOf_10 ?_
    refine lv_icmp_ge (tgt := 38) hx hb dX10_thereOf_11 (by decide) (fun c_1 => ?_) (fun c_1 => ?_)
    · have hF := it_p c_1 hF
      exact hKx x2 _ _ _ hF (hP.sub [0, 1, 2] rfl) (hD.sub [0, 1, 2] rfl rfl) hS (lv_sub hl [2] rfl)
    · have hF := it_n c_1 hF
      refine lv_iload_n hx hb dX10_thereOf_14 rfl (lv_at hl 2 rfl) ?_
      refine lv_aload_n hx hb dX10_thereOf_15 rfl (lv_at hl 1 rfl) ?_
      refine lv_iload_n hx hb dX10_thereOf_16 rfl (lv_at hl 3 rfl) ?_
      obtain ⟨u_2, hu_3, hF⟩ := ob1_some hF
      refine call_si (wr := [oX10 a_t p_t o_t, aI g (p_t 15) 266 f_t_15]) (As := [.ref a_r1, .int x3]) (rest := [.int x2]) C0 (mX10_isIn l g a_r1 n x3 f_r1 u_2 hu_3) (va_cwS 2 hts gX10_thereOf_X10_isIn rfl rfl rfl (by decide +kernel) ⟨Nat.le_of_ble_eq_true rfl, Nat.le_of_ble_eq_true rfl⟩) hP hD hS [2] [0, 1] rfl rfl rfl rfl rfl (by decide) hl.1 rfl rfl (Nat.le_of_ble_eq_true rfl) ⟨Nat.zero_le _, Nat.zero_le _⟩ dX10_thereOf_17 ?_
      intro H locs hP hD hS
      refine lv_if_eq (tgt := 29) hx hb dX10_thereOf_20 (by decide) (fun c_4 => ?_) (fun c_4 => ?_)
      · have hF := it_p c_4 hF
        refine lv_iconst (v := (0 : Int32)) hx hb dX10_thereOf_29 (by decide) ?_
        refine lv_ior hx hb dX10_thereOf_30 ?_
        refine lv_istore_n (lv' := [(2, .int (x2 ||| (0 : Int32))), (0, .ref a_t), (1, .ref a_r1), (3, .int x3)]) hx hb dX10_thereOf_31 rfl hl (by decide) rfl (fun ls hl => ?_)
        refine lv_iinc (v := (x3 + (1 : Int32))) (lv' := [(3, .int (x3 + (1 : Int32))), (2, .int (x2 ||| (0 : Int32))), (0, .ref a_t), (1, .ref a_r1)]) hx hb dX10_thereOf_32 hl (k := 3) rfl rfl (by decide) rfl (fun ls hl => ?_)
        refine lv_goto (tgt := 4) hx hb dX10_thereOf_35 (by decide) ?_
        exact ih (x2 ||| (0 : Int32)) (x3 + (1 : Int32)) hF _ _ _ (hP.sub [0, 1, 2] rfl) (hD.sub [0, 1, 2] rfl rfl) hS (lv_sub hl [2, 3, 1, 0] rfl)
      · have hF := it_n c_4 hF
        refine lv_iconst (v := (1 : Int32)) hx hb dX10_thereOf_23 (by decide) ?_
        refine lv_iload_n hx hb dX10_thereOf_24 rfl (lv_at hl 3 rfl) ?_
        refine lv_ishl hx hb dX10_thereOf_25 ?_
        refine lv_goto (tgt := 30) hx hb dX10_thereOf_26 (by decide) ?_
        refine lv_ior hx hb dX10_thereOf_30 ?_
        refine lv_istore_n (lv' := [(2, .int (x2 ||| ((1 : Int32) <<< (x3 &&& 31)))), (0, .ref a_t), (1, .ref a_r1), (3, .int x3)]) hx hb dX10_thereOf_31 rfl hl (by decide) rfl (fun ls hl => ?_)
        refine lv_iinc (v := (x3 + (1 : Int32))) (lv' := [(3, .int (x3 + (1 : Int32))), (2, .int (x2 ||| ((1 : Int32) <<< (x3 &&& 31)))), (0, .ref a_t), (1, .ref a_r1)]) hx hb dX10_thereOf_32 hl (k := 3) rfl rfl (by decide) rfl (fun ls hl => ?_)
        refine lv_goto (tgt := 4) hx hb dX10_thereOf_35 (by decide) ?_
        exact ih (x2 ||| ((1 : Int32) <<< (x3 &&& 31))) (x3 + (1 : Int32)) hF _ _ _ (hP.sub [0, 1, 2] rfl) (hD.sub [0, 1, 2] rfl rfl) hS (lv_sub hl [2, 3, 1, 0] rfl)
set_option maxHeartbeats 4000000 in
set_option maxRecDepth 100000 in
theorem mX10_thereOf (l : Launch) (g : GG) (a_t : Nat) (a_r1 : Nat) (p_t : Nat → Nat) (n : Nat) (o_t : Nat → Int32) (f_t_15 : Nat → Int32) (f_r1 : Nat → Int32) (r : Int32) (hF : fX10_thereOf n o_t f_t_15 f_r1 = some (r)) : MI l g yX10_thereOf wsX10_thereOf ({ frames := 1, cells := 0, slots := 0, locals := 21 } : Room) [.ref a_t, .ref a_r1] [oX10 a_t p_t o_t, aI g (p_t 15) 266 f_t_15, aI g a_r1 17 f_r1] r [oX10 a_t p_t o_t, aI g (p_t 15) 266 f_t_15, aI g a_r1 17 f_r1] := by
  refine MI.of (cc := cX10_thereOf) (maxL := 4) (rt := .int) (own := RX10) rfl rfl (by decide) (Nat.le_of_ble_eq_true rfl) ?_
  intro p e s m args below meth c A C0 hP hD hS ls hl
  obtain ⟨hx, hb, hml, hown, hts, hr, hlk, hK, hA, hSW⟩ := id C0
  have hl : lv_has ls 4 [(0, .ref a_t), (1, .ref a_r1)] := hl
  rw [fX10_thereOf] at hF
  refine lv_iconst (v := (0 : Int32)) hx hb dX10_thereOf_0 (by decide) ?_
  refine lv_istore_n (lv' := [(2, .int (0 : Int32)), (0, .ref a_t), (1, .ref a_r1)]) hx hb dX10_thereOf_1 rfl hl (by decide) rfl (fun ls hl => ?_)
  refine lv_iconst (v := (0 : Int32)) hx hb dX10_thereOf_2 (by decide) ?_
  refine lv_istore_n (lv' := [(3, .int (0 : Int32)), (2, .int (0 : Int32)), (0, .ref a_t), (1, .ref a_r1)]) hx hb dX10_thereOf_3 rfl hl (by decide) rfl (fun ls hl => ?_)
  refine wX10_thereOf_L4 C0 a_t a_r1 p_t n o_t f_t_15 f_r1 r _ ?_ n (0 : Int32) (0 : Int32) hF _ _ _ (hP.sub [0, 1, 2] rfl) (hD.sub [0, 1, 2] rfl rfl) hS (lv_sub hl [2, 3, 1, 0] rfl)
  · intro x2_x4 H locs ls hF hP hD hS hl
    refine lv_iload_n hx hb dX10_thereOf_38 rfl (lv_at hl 0 rfl) ?_
    cases hF
    exact ret_i C0 hP hD hS [0, 1, 2] rfl rfl rfl dX10_thereOf_39 rfl

theorem dAX10_willOf : ∀ q ∈ ([(0, (.aload_n 1, 1)), (1, (.iload_n 2, 1)), (2, (.iaload, 1)), (3, (.istore_n 3, 1)), (4, (.iconst 0, 1)), (5, (.istore 4, 2)), (7, (.iload 4, 2)), (9, (.aload_n 0, 1)), (10, (.getfield 20, 3)), (13, (.iconst 3, 1)), (14, (.iaload, 1)), (15, (.if_icmp .ge 46, 3)), (18, (.iload_n 3, 1)), (19, (.iload 4, 2)), (21, (.iload_n 2, 1)), (22, (.if_icmp .eq 30, 3)), (25, (.aload_n 1, 1)), (26, (.iload 4, 2)), (28, (.invokestatic 248, 3)), (31, (.ifCond .eq 21, 3)), (34, (.aload_n 0, 1)), (35, (.getfield 20, 3)), (38, (.bipush 37, 2)), (40, (.bipush 7, 2)), (42, (.iload_n 2, 1)), (43, (.imul, 1)), (44, (.iadd, 1)), (45, (.iload 4, 2)), (47, (.iadd, 1)), (48, (.iaload, 1)), (49, (.goto 4, 3)), (52, (.iconst 0, 1)), (53, (.iadd, 1)), (54, (.istore_n 3, 1)), (55, (.iinc 4 1, 3)), (58, (.goto (-51), 3)), (61, (.iload_n 3, 1)), (62, (.ireturn, 1))] : List (Nat × (Instr × Nat))), decode cX10_willOf q.1 = .ok q.2 := by decide +kernel
theorem dX10_willOf_0 : decode cX10_willOf 0 = .ok (.aload_n 1, 1) := dAX10_willOf (0, (.aload_n 1, 1)) (List.mem_of_getElem? (i := 0) rfl)
theorem dX10_willOf_1 : decode cX10_willOf 1 = .ok (.iload_n 2, 1) := dAX10_willOf (1, (.iload_n 2, 1)) (List.mem_of_getElem? (i := 1) rfl)
theorem dX10_willOf_2 : decode cX10_willOf 2 = .ok (.iaload, 1) := dAX10_willOf (2, (.iaload, 1)) (List.mem_of_getElem? (i := 2) rfl)
theorem dX10_willOf_3 : decode cX10_willOf 3 = .ok (.istore_n 3, 1) := dAX10_willOf (3, (.istore_n 3, 1)) (List.mem_of_getElem? (i := 3) rfl)
theorem dX10_willOf_4 : decode cX10_willOf 4 = .ok (.iconst 0, 1) := dAX10_willOf (4, (.iconst 0, 1)) (List.mem_of_getElem? (i := 4) rfl)
theorem dX10_willOf_5 : decode cX10_willOf 5 = .ok (.istore 4, 2) := dAX10_willOf (5, (.istore 4, 2)) (List.mem_of_getElem? (i := 5) rfl)
theorem dX10_willOf_7 : decode cX10_willOf 7 = .ok (.iload 4, 2) := dAX10_willOf (7, (.iload 4, 2)) (List.mem_of_getElem? (i := 6) rfl)
theorem dX10_willOf_9 : decode cX10_willOf 9 = .ok (.aload_n 0, 1) := dAX10_willOf (9, (.aload_n 0, 1)) (List.mem_of_getElem? (i := 7) rfl)
theorem dX10_willOf_10 : decode cX10_willOf 10 = .ok (.getfield 20, 3) := dAX10_willOf (10, (.getfield 20, 3)) (List.mem_of_getElem? (i := 8) rfl)
theorem dX10_willOf_13 : decode cX10_willOf 13 = .ok (.iconst 3, 1) := dAX10_willOf (13, (.iconst 3, 1)) (List.mem_of_getElem? (i := 9) rfl)
theorem dX10_willOf_14 : decode cX10_willOf 14 = .ok (.iaload, 1) := dAX10_willOf (14, (.iaload, 1)) (List.mem_of_getElem? (i := 10) rfl)
theorem dX10_willOf_15 : decode cX10_willOf 15 = .ok (.if_icmp .ge 46, 3) := dAX10_willOf (15, (.if_icmp .ge 46, 3)) (List.mem_of_getElem? (i := 11) rfl)
theorem dX10_willOf_18 : decode cX10_willOf 18 = .ok (.iload_n 3, 1) := dAX10_willOf (18, (.iload_n 3, 1)) (List.mem_of_getElem? (i := 12) rfl)
theorem dX10_willOf_19 : decode cX10_willOf 19 = .ok (.iload 4, 2) := dAX10_willOf (19, (.iload 4, 2)) (List.mem_of_getElem? (i := 13) rfl)
theorem dX10_willOf_21 : decode cX10_willOf 21 = .ok (.iload_n 2, 1) := dAX10_willOf (21, (.iload_n 2, 1)) (List.mem_of_getElem? (i := 14) rfl)
theorem dX10_willOf_22 : decode cX10_willOf 22 = .ok (.if_icmp .eq 30, 3) := dAX10_willOf (22, (.if_icmp .eq 30, 3)) (List.mem_of_getElem? (i := 15) rfl)
theorem dX10_willOf_25 : decode cX10_willOf 25 = .ok (.aload_n 1, 1) := dAX10_willOf (25, (.aload_n 1, 1)) (List.mem_of_getElem? (i := 16) rfl)
theorem dX10_willOf_26 : decode cX10_willOf 26 = .ok (.iload 4, 2) := dAX10_willOf (26, (.iload 4, 2)) (List.mem_of_getElem? (i := 17) rfl)
theorem dX10_willOf_28 : decode cX10_willOf 28 = .ok (.invokestatic 248, 3) := dAX10_willOf (28, (.invokestatic 248, 3)) (List.mem_of_getElem? (i := 18) rfl)
theorem dX10_willOf_31 : decode cX10_willOf 31 = .ok (.ifCond .eq 21, 3) := dAX10_willOf (31, (.ifCond .eq 21, 3)) (List.mem_of_getElem? (i := 19) rfl)
theorem dX10_willOf_34 : decode cX10_willOf 34 = .ok (.aload_n 0, 1) := dAX10_willOf (34, (.aload_n 0, 1)) (List.mem_of_getElem? (i := 20) rfl)
theorem dX10_willOf_35 : decode cX10_willOf 35 = .ok (.getfield 20, 3) := dAX10_willOf (35, (.getfield 20, 3)) (List.mem_of_getElem? (i := 21) rfl)
theorem dX10_willOf_38 : decode cX10_willOf 38 = .ok (.bipush 37, 2) := dAX10_willOf (38, (.bipush 37, 2)) (List.mem_of_getElem? (i := 22) rfl)
theorem dX10_willOf_40 : decode cX10_willOf 40 = .ok (.bipush 7, 2) := dAX10_willOf (40, (.bipush 7, 2)) (List.mem_of_getElem? (i := 23) rfl)
theorem dX10_willOf_42 : decode cX10_willOf 42 = .ok (.iload_n 2, 1) := dAX10_willOf (42, (.iload_n 2, 1)) (List.mem_of_getElem? (i := 24) rfl)
theorem dX10_willOf_43 : decode cX10_willOf 43 = .ok (.imul, 1) := dAX10_willOf (43, (.imul, 1)) (List.mem_of_getElem? (i := 25) rfl)
theorem dX10_willOf_44 : decode cX10_willOf 44 = .ok (.iadd, 1) := dAX10_willOf (44, (.iadd, 1)) (List.mem_of_getElem? (i := 26) rfl)
theorem dX10_willOf_45 : decode cX10_willOf 45 = .ok (.iload 4, 2) := dAX10_willOf (45, (.iload 4, 2)) (List.mem_of_getElem? (i := 27) rfl)
theorem dX10_willOf_47 : decode cX10_willOf 47 = .ok (.iadd, 1) := dAX10_willOf (47, (.iadd, 1)) (List.mem_of_getElem? (i := 28) rfl)
theorem dX10_willOf_48 : decode cX10_willOf 48 = .ok (.iaload, 1) := dAX10_willOf (48, (.iaload, 1)) (List.mem_of_getElem? (i := 29) rfl)
theorem dX10_willOf_49 : decode cX10_willOf 49 = .ok (.goto 4, 3) := dAX10_willOf (49, (.goto 4, 3)) (List.mem_of_getElem? (i := 30) rfl)
theorem dX10_willOf_52 : decode cX10_willOf 52 = .ok (.iconst 0, 1) := dAX10_willOf (52, (.iconst 0, 1)) (List.mem_of_getElem? (i := 31) rfl)
theorem dX10_willOf_53 : decode cX10_willOf 53 = .ok (.iadd, 1) := dAX10_willOf (53, (.iadd, 1)) (List.mem_of_getElem? (i := 32) rfl)
theorem dX10_willOf_54 : decode cX10_willOf 54 = .ok (.istore_n 3, 1) := dAX10_willOf (54, (.istore_n 3, 1)) (List.mem_of_getElem? (i := 33) rfl)
theorem dX10_willOf_55 : decode cX10_willOf 55 = .ok (.iinc 4 1, 3) := dAX10_willOf (55, (.iinc 4 1, 3)) (List.mem_of_getElem? (i := 34) rfl)
theorem dX10_willOf_58 : decode cX10_willOf 58 = .ok (.goto (-51), 3) := dAX10_willOf (58, (.goto (-51), 3)) (List.mem_of_getElem? (i := 35) rfl)
theorem dX10_willOf_61 : decode cX10_willOf 61 = .ok (.iload_n 3, 1) := dAX10_willOf (61, (.iload_n 3, 1)) (List.mem_of_getElem? (i := 36) rfl)
theorem dX10_willOf_62 : decode cX10_willOf 62 = .ok (.ireturn, 1) := dAX10_willOf (62, (.ireturn, 1)) (List.mem_of_getElem? (i := 37) rfl)
set_option maxRecDepth 20000 in
theorem ggX10_willOf_X10_isIn : GoodIn wsX10_willOf wsX10_isIn := goodIn_r _ [5] rfl (by decide +kernel)
set_option maxRecDepth 20000 in
theorem gX10_willOf_X10_isIn : GoodIn wsX10_willOf (va_wsS RX10 248 yX10_isIn wsX10_isIn) := goodIn_app (goodIn_of _ (by decide +kernel)) ggX10_willOf_X10_isIn
theorem kX10_willOf_20 : Cond.fieldLink RX10 20 "EveningVowModel" "\x72" "[I" ∈ wsX10_willOf := List.mem_of_getElem? (i := 1) rfl
theorem iX10_willOf_X10 : ∀ w ∈ u_ws RX10 TX10 35, w ∈ wsX10_willOf := fun w h => (List.mem_cons_of_mem _ (List.mem_append_right _ h))
set_option maxHeartbeats 4000000 in
set_option maxRecDepth 100000 in
theorem wX10_willOf_L7 {p : Program} {l : Launch} {e : Env} {s : State} {m : MethodId} {args : Array Value} {below : List Frame} {meth : Method} {c : Code} {g : GG} {A : Nat → Prop} (C0 : Cx p s m args meth c cX10_willOf 5 (some .int) RX10 wsX10_willOf g A) (a_t : Nat) (a_r1 : Nat) (p_t : Nat → Nat) (n : Nat) (x2 : Int32) (o_t : Nat → Int32) (f_t_15 : Nat → Int32) (f_r1 : Nat → Int32)  (r : Int32) (K : Int32 → Option (Int32)) (hKx : ∀ (x3 : Int32) (H : Heap) (locs : List Loc) (ls : Array Slot), K x3 = some (r) → va_P g.1 vwCl [oX10 a_t p_t o_t, aI g (p_t 15) 266 f_t_15, aI g a_r1 17 f_r1] H → va_D A [oX10 a_t p_t o_t, aI g (p_t 15) 266 f_t_15, aI g a_r1 17 f_r1] → va_S A s.heap H locs → lv_has ls 5 [(3, .int x3)] → W p l e ({ frames := 1, cells := 0, slots := 0, locals := 21 } : Room) s m args below meth c H locs 0 0 (MQ below (EndI g r [oX10 a_t p_t o_t, aI g (p_t 15) 266 f_t_15, aI g a_r1 17 f_r1] A) args s 0 0 A) (F0 m 61 ls [])) : ∀ (k : Nat) (x3 : Int32) (x4 : Int32), fX10_willOf_L7 n x2 o_t f_t_15 f_r1 K k x3 x4 = some (r) → ∀ (H : Heap) (locs : List Loc) (ls : Array Slot), va_P g.1 vwCl [oX10 a_t p_t o_t, aI g (p_t 15) 266 f_t_15, aI g a_r1 17 f_r1] H → va_D A [oX10 a_t p_t o_t, aI g (p_t 15) 266 f_t_15, aI g a_r1 17 f_r1] → va_S A s.heap H locs → lv_has ls 5 [(0, .ref a_t), (1, .ref a_r1), (2, .int x2), (3, .int x3), (4, .int x4)] → W p l e ({ frames := 1, cells := 0, slots := 0, locals := 21 } : Room) s m args below meth c H locs 0 0 (MQ below (EndI g r [oX10 a_t p_t o_t, aI g (p_t 15) 266 f_t_15, aI g a_r1 17 f_r1] A) args s 0 0 A) (F0 m 7 ls []) := by
  obtain ⟨hx, hb, hml, hown, hts, hr, hlk, hK, hA, hSW⟩ := id C0
  intro k
  induction k with
  | zero =>
    intro x3 x4 hF
    exact absurd hF (by simp [fX10_willOf_L7])
  | succ k ih =>
    intro x3 x4 hF H locs ls hP hD hS hl
    rw [fX10_willOf_L7] at hF
    refine lv_iload hx hb dX10_willOf_7 (lv_at hl 4 rfl) ?_
    refine lv_aload_n hx hb dX10_willOf_9 rfl (lv_at hl 0 rfl) ?_
    refine va_get (D := g.1) (ci := 10) (v := .ref (p_t 15)) (C := RX10) (T := TX10) (N := 35) hx hb hts iX10_willOf_X10 hown hK.1 hP 0 rfl rfl 15 (by decide) (hts _ kX10_willOf_20) (fun _ h9 => h9) rfl dX10_willOf_10 ?_
    refine lv_iconst (v := (3 : Int32)) hx hb dX10_willOf_13 (by decide) ?_
    refine va_iald_k (j := 3) hx hb hK.1 hP 1 0 rfl rfl (by unfold vp_in; decide) rfl dX10_willOf_14 ?_
    refine lv_icmp_ge (tgt := 61) hx hb dX10_willOf_15 (by decide) (fun c_2 => ?_) (fun c_2 => ?_)
    · have hF := it_p c_2 hF
      exact hKx x3 _ _ _ hF (hP.sub [0, 1, 2] rfl) (hD.sub [0, 1, 2] rfl rfl) hS (lv_sub hl [3] rfl)
    · have hF := it_n c_2 hF
      refine lv_iload_n hx hb dX10_willOf_18 rfl (lv_at hl 3 rfl) ?_
      refine lv_iload hx hb dX10_willOf_19 (lv_at hl 4 rfl) ?_
      refine lv_iload_n hx hb dX10_willOf_21 rfl (lv_at hl 2 rfl) ?_
      refine lv_icmp_eq (tgt := 52) hx hb dX10_willOf_22 (by decide) (fun c_3 => ?_) (fun c_3 => ?_)
      · have hF := it_p c_3 hF
        refine lv_iconst (v := (0 : Int32)) hx hb dX10_willOf_52 (by decide) ?_
        refine lv_iadd hx hb dX10_willOf_53 ?_
        refine lv_istore_n (lv' := [(3, .int (x3 + (0 : Int32))), (0, .ref a_t), (1, .ref a_r1), (2, .int x2), (4, .int x4)]) hx hb dX10_willOf_54 rfl hl (by decide) rfl (fun ls hl => ?_)
        refine lv_iinc (v := (x4 + (1 : Int32))) (lv' := [(4, .int (x4 + (1 : Int32))), (3, .int (x3 + (0 : Int32))), (0, .ref a_t), (1, .ref a_r1), (2, .int x2)]) hx hb dX10_willOf_55 hl (k := 4) rfl rfl (by decide) rfl (fun ls hl => ?_)
        refine lv_goto (tgt := 7) hx hb dX10_willOf_58 (by decide) ?_
        exact ih (x3 + (0 : Int32)) (x4 + (1 : Int32)) hF _ _ _ (hP.sub [0, 1, 2] rfl) (hD.sub [0, 1, 2] rfl rfl) hS (lv_sub hl [2, 3, 4, 1, 0] rfl)
      · have hF := it_n c_3 hF
        refine lv_aload_n hx hb dX10_willOf_25 rfl (lv_at hl 1 rfl) ?_
        refine lv_iload hx hb dX10_willOf_26 (lv_at hl 4 rfl) ?_
        obtain ⟨u_4, hu_5, hF⟩ := ob1_some hF
        refine call_si (wr := [oX10 a_t p_t o_t, aI g (p_t 15) 266 f_t_15]) (As := [.ref a_r1, .int x4]) (rest := [.int x3]) C0 (mX10_isIn l g a_r1 n x4 f_r1 u_4 hu_5) (va_cwS 2 hts gX10_willOf_X10_isIn rfl rfl rfl (by decide +kernel) ⟨Nat.le_of_ble_eq_true rfl, Nat.le_of_ble_eq_true rfl⟩) hP hD hS [2] [0, 1] rfl rfl rfl rfl rfl (by decide) hl.1 rfl rfl (Nat.le_of_ble_eq_true rfl) ⟨Nat.zero_le _, Nat.zero_le _⟩ dX10_willOf_28 ?_
        intro H locs hP hD hS
        refine lv_if_eq (tgt := 52) hx hb dX10_willOf_31 (by decide) (fun c_6 => ?_) (fun c_6 => ?_)
        · have hF := it_p c_6 hF
          refine lv_iconst (v := (0 : Int32)) hx hb dX10_willOf_52 (by decide) ?_
          refine lv_iadd hx hb dX10_willOf_53 ?_
          refine lv_istore_n (lv' := [(3, .int (x3 + (0 : Int32))), (0, .ref a_t), (1, .ref a_r1), (2, .int x2), (4, .int x4)]) hx hb dX10_willOf_54 rfl hl (by decide) rfl (fun ls hl => ?_)
          refine lv_iinc (v := (x4 + (1 : Int32))) (lv' := [(4, .int (x4 + (1 : Int32))), (3, .int (x3 + (0 : Int32))), (0, .ref a_t), (1, .ref a_r1), (2, .int x2)]) hx hb dX10_willOf_55 hl (k := 4) rfl rfl (by decide) rfl (fun ls hl => ?_)
          refine lv_goto (tgt := 7) hx hb dX10_willOf_58 (by decide) ?_
          exact ih (x3 + (0 : Int32)) (x4 + (1 : Int32)) hF _ _ _ (hP.sub [0, 1, 2] rfl) (hD.sub [0, 1, 2] rfl rfl) hS (lv_sub hl [2, 3, 4, 1, 0] rfl)
        · have hF := it_n c_6 hF
          refine lv_aload_n hx hb dX10_willOf_34 rfl (lv_at hl 0 rfl) ?_
          refine va_get (D := g.1) (ci := 10) (v := .ref (p_t 15)) (C := RX10) (T := TX10) (N := 35) hx hb hts iX10_willOf_X10 hown hK.1 hP 0 rfl rfl 15 (by decide) (hts _ kX10_willOf_20) (fun _ h9 => h9) rfl dX10_willOf_35 ?_
          refine lv_bipush (v := (37 : Int32)) hx hb dX10_willOf_38 (by decide) ?_
          refine lv_bipush (v := (7 : Int32)) hx hb dX10_willOf_40 (by decide) ?_
          refine lv_iload_n hx hb dX10_willOf_42 rfl (lv_at hl 2 rfl) ?_
          refine lv_imul hx hb dX10_willOf_43 ?_
          refine lv_iadd hx hb dX10_willOf_44 ?_
          refine lv_iload hx hb dX10_willOf_45 (lv_at hl 4 rfl) ?_
          refine lv_iadd hx hb dX10_willOf_47 ?_
          obtain ⟨h_7, hF⟩ := it_ck hF
          refine va_iald hx hb hK.1 hP 1 0 rfl rfl h_7 dX10_willOf_48 ?_
          refine lv_goto (tgt := 53) hx hb dX10_willOf_49 (by decide) ?_
          refine lv_iadd hx hb dX10_willOf_53 ?_
          refine lv_istore_n (lv' := [(3, .int (x3 + (f_t_15 ((((37 : Int32) + ((7 : Int32) * x2)) + x4)).toNatClampNeg))), (0, .ref a_t), (1, .ref a_r1), (2, .int x2), (4, .int x4)]) hx hb dX10_willOf_54 rfl hl (by decide) rfl (fun ls hl => ?_)
          refine lv_iinc (v := (x4 + (1 : Int32))) (lv' := [(4, .int (x4 + (1 : Int32))), (3, .int (x3 + (f_t_15 ((((37 : Int32) + ((7 : Int32) * x2)) + x4)).toNatClampNeg))), (0, .ref a_t), (1, .ref a_r1), (2, .int x2)]) hx hb dX10_willOf_55 hl (k := 4) rfl rfl (by decide) rfl (fun ls hl => ?_)
          refine lv_goto (tgt := 7) hx hb dX10_willOf_58 (by decide) ?_
          exact ih (x3 + (f_t_15 ((((37 : Int32) + ((7 : Int32) * x2)) + x4)).toNatClampNeg)) (x4 + (1 : Int32)) hF _ _ _ (hP.sub [0, 1, 2] rfl) (hD.sub [0, 1, 2] rfl rfl) hS (lv_sub hl [2, 3, 4, 1, 0] rfl)
set_option maxHeartbeats 4000000 in
set_option maxRecDepth 100000 in
theorem mX10_willOf (l : Launch) (g : GG) (a_t : Nat) (a_r1 : Nat) (p_t : Nat → Nat) (n : Nat) (x2 : Int32) (o_t : Nat → Int32) (f_t_15 : Nat → Int32) (f_r1 : Nat → Int32) (r : Int32) (hF : fX10_willOf n x2 o_t f_t_15 f_r1 = some (r)) : MI l g yX10_willOf wsX10_willOf ({ frames := 1, cells := 0, slots := 0, locals := 21 } : Room) [.ref a_t, .ref a_r1, .int x2] [oX10 a_t p_t o_t, aI g (p_t 15) 266 f_t_15, aI g a_r1 17 f_r1] r [oX10 a_t p_t o_t, aI g (p_t 15) 266 f_t_15, aI g a_r1 17 f_r1] := by
  refine MI.of (cc := cX10_willOf) (maxL := 5) (rt := .int) (own := RX10) rfl rfl (by decide) (Nat.le_of_ble_eq_true rfl) ?_
  intro p e s m args below meth c A C0 hP hD hS ls hl
  obtain ⟨hx, hb, hml, hown, hts, hr, hlk, hK, hA, hSW⟩ := id C0
  have hl : lv_has ls 5 [(0, .ref a_t), (1, .ref a_r1), (2, .int x2)] := hl
  rw [fX10_willOf] at hF
  refine lv_aload_n hx hb dX10_willOf_0 rfl (lv_at hl 1 rfl) ?_
  refine lv_iload_n hx hb dX10_willOf_1 rfl (lv_at hl 2 rfl) ?_
  obtain ⟨h_1, hF⟩ := it_ck hF
  refine va_iald hx hb hK.1 hP 2 0 rfl rfl h_1 dX10_willOf_2 ?_
  refine lv_istore_n (lv' := [(3, .int (f_r1 (x2).toNatClampNeg)), (0, .ref a_t), (1, .ref a_r1), (2, .int x2)]) hx hb dX10_willOf_3 rfl hl (by decide) rfl (fun ls hl => ?_)
  refine lv_iconst (v := (0 : Int32)) hx hb dX10_willOf_4 (by decide) ?_
  refine lv_istore (lv' := [(4, .int (0 : Int32)), (3, .int (f_r1 (x2).toNatClampNeg)), (0, .ref a_t), (1, .ref a_r1), (2, .int x2)]) hx hb dX10_willOf_5 hl (by decide) rfl (fun ls hl => ?_)
  refine wX10_willOf_L7 C0 a_t a_r1 p_t n x2 o_t f_t_15 f_r1 r _ ?_ n (f_r1 (x2).toNatClampNeg) (0 : Int32) hF _ _ _ (hP.sub [0, 1, 2] rfl) (hD.sub [0, 1, 2] rfl rfl) hS (lv_sub hl [2, 3, 4, 1, 0] rfl)
  · intro x3_x7 H locs ls hF hP hD hS hl
    refine lv_iload_n hx hb dX10_willOf_61 rfl (lv_at hl 0 rfl) ?_
    cases hF
    exact ret_i C0 hP hD hS [0, 1, 2] rfl rfl rfl dX10_willOf_62 rfl

theorem dAX10_goes : ∀ q ∈ ([(0, (.iconst 0, 1)), (1, (.istore_n 3, 1)), (2, (.iload_n 3, 1)), (3, (.aload_n 0, 1)), (4, (.getfield 20, 3)), (7, (.iconst 3, 1)), (8, (.iaload, 1)), (9, (.if_icmp .ge 29, 3)), (12, (.iload_n 2, 1)), (13, (.iload_n 3, 1)), (14, (.invokestatic 252, 3)), (17, (.ifCond .eq 15, 3)), (20, (.aload_n 1, 1)), (21, (.bipush 7, 2)), (23, (.iload_n 3, 1)), (24, (.iadd, 1)), (25, (.aload_n 1, 1)), (26, (.bipush 14, 2)), (28, (.iaload, 1)), (29, (.iconst 1, 1)), (30, (.iadd, 1)), (31, (.iastore, 1)), (32, (.iinc 3 1, 3)), (35, (.goto (-33), 3)), (38, (.iconst 0, 1)), (39, (.istore_n 3, 1)), (40, (.iload_n 3, 1)), (41, (.aload_n 0, 1)), (42, (.getfield 20, 3)), (45, (.iconst 3, 1)), (46, (.iaload, 1)), (47, (.if_icmp .ge 61, 3)), (50, (.aload_n 0, 1)), (51, (.getfield 20, 3)), (54, (.bipush 9, 2)), (56, (.iconst 4, 1)), (57, (.iload_n 3, 1)), (58, (.imul, 1)), (59, (.iadd, 1)), (60, (.iconst 3, 1)), (61, (.iadd, 1)), (62, (.iaload, 1)), (63, (.iconst 1, 1)), (64, (.isub, 1)), (65, (.istore 4, 2)), (67, (.iload_n 2, 1)), (68, (.iload_n 3, 1)), (69, (.invokestatic 252, 3)), (72, (.ifCond .eq 30, 3)), (75, (.iload 4, 2)), (77, (.ifCond .lt 25, 3)), (80, (.aload_n 1, 1)), (81, (.iload 4, 2)), (83, (.invokestatic 248, 3)), (86, (.ifCond .eq 16, 3)), (89, (.aload_n 1, 1)), (90, (.iload 4, 2)), (92, (.dup2, 1)), (93, (.iaload, 1)), (94, (.aload_n 0, 1)), (95, (.getfield 20, 3)), (98, (.iconst 2, 1)), (99, (.iaload, 1)), (100, (.isub, 1)), (101, (.iastore, 1)), (102, (.iinc 3 1, 3)), (105, (.goto (-65), 3)), (108, (.return_, 1))] : List (Nat × (Instr × Nat))), decode cX10_goes q.1 = .ok q.2 := by decide +kernel
theorem dX10_goes_0 : decode cX10_goes 0 = .ok (.iconst 0, 1) := dAX10_goes (0, (.iconst 0, 1)) (List.mem_of_getElem? (i := 0) rfl)
theorem dX10_goes_1 : decode cX10_goes 1 = .ok (.istore_n 3, 1) := dAX10_goes (1, (.istore_n 3, 1)) (List.mem_of_getElem? (i := 1) rfl)
theorem dX10_goes_2 : decode cX10_goes 2 = .ok (.iload_n 3, 1) := dAX10_goes (2, (.iload_n 3, 1)) (List.mem_of_getElem? (i := 2) rfl)
theorem dX10_goes_3 : decode cX10_goes 3 = .ok (.aload_n 0, 1) := dAX10_goes (3, (.aload_n 0, 1)) (List.mem_of_getElem? (i := 3) rfl)
theorem dX10_goes_4 : decode cX10_goes 4 = .ok (.getfield 20, 3) := dAX10_goes (4, (.getfield 20, 3)) (List.mem_of_getElem? (i := 4) rfl)
theorem dX10_goes_7 : decode cX10_goes 7 = .ok (.iconst 3, 1) := dAX10_goes (7, (.iconst 3, 1)) (List.mem_of_getElem? (i := 5) rfl)
theorem dX10_goes_8 : decode cX10_goes 8 = .ok (.iaload, 1) := dAX10_goes (8, (.iaload, 1)) (List.mem_of_getElem? (i := 6) rfl)
theorem dX10_goes_9 : decode cX10_goes 9 = .ok (.if_icmp .ge 29, 3) := dAX10_goes (9, (.if_icmp .ge 29, 3)) (List.mem_of_getElem? (i := 7) rfl)
theorem dX10_goes_12 : decode cX10_goes 12 = .ok (.iload_n 2, 1) := dAX10_goes (12, (.iload_n 2, 1)) (List.mem_of_getElem? (i := 8) rfl)
theorem dX10_goes_13 : decode cX10_goes 13 = .ok (.iload_n 3, 1) := dAX10_goes (13, (.iload_n 3, 1)) (List.mem_of_getElem? (i := 9) rfl)
theorem dX10_goes_14 : decode cX10_goes 14 = .ok (.invokestatic 252, 3) := dAX10_goes (14, (.invokestatic 252, 3)) (List.mem_of_getElem? (i := 10) rfl)
theorem dX10_goes_17 : decode cX10_goes 17 = .ok (.ifCond .eq 15, 3) := dAX10_goes (17, (.ifCond .eq 15, 3)) (List.mem_of_getElem? (i := 11) rfl)
theorem dX10_goes_20 : decode cX10_goes 20 = .ok (.aload_n 1, 1) := dAX10_goes (20, (.aload_n 1, 1)) (List.mem_of_getElem? (i := 12) rfl)
theorem dX10_goes_21 : decode cX10_goes 21 = .ok (.bipush 7, 2) := dAX10_goes (21, (.bipush 7, 2)) (List.mem_of_getElem? (i := 13) rfl)
theorem dX10_goes_23 : decode cX10_goes 23 = .ok (.iload_n 3, 1) := dAX10_goes (23, (.iload_n 3, 1)) (List.mem_of_getElem? (i := 14) rfl)
theorem dX10_goes_24 : decode cX10_goes 24 = .ok (.iadd, 1) := dAX10_goes (24, (.iadd, 1)) (List.mem_of_getElem? (i := 15) rfl)
theorem dX10_goes_25 : decode cX10_goes 25 = .ok (.aload_n 1, 1) := dAX10_goes (25, (.aload_n 1, 1)) (List.mem_of_getElem? (i := 16) rfl)
theorem dX10_goes_26 : decode cX10_goes 26 = .ok (.bipush 14, 2) := dAX10_goes (26, (.bipush 14, 2)) (List.mem_of_getElem? (i := 17) rfl)
theorem dX10_goes_28 : decode cX10_goes 28 = .ok (.iaload, 1) := dAX10_goes (28, (.iaload, 1)) (List.mem_of_getElem? (i := 18) rfl)
theorem dX10_goes_29 : decode cX10_goes 29 = .ok (.iconst 1, 1) := dAX10_goes (29, (.iconst 1, 1)) (List.mem_of_getElem? (i := 19) rfl)
theorem dX10_goes_30 : decode cX10_goes 30 = .ok (.iadd, 1) := dAX10_goes (30, (.iadd, 1)) (List.mem_of_getElem? (i := 20) rfl)
theorem dX10_goes_31 : decode cX10_goes 31 = .ok (.iastore, 1) := dAX10_goes (31, (.iastore, 1)) (List.mem_of_getElem? (i := 21) rfl)
theorem dX10_goes_32 : decode cX10_goes 32 = .ok (.iinc 3 1, 3) := dAX10_goes (32, (.iinc 3 1, 3)) (List.mem_of_getElem? (i := 22) rfl)
theorem dX10_goes_35 : decode cX10_goes 35 = .ok (.goto (-33), 3) := dAX10_goes (35, (.goto (-33), 3)) (List.mem_of_getElem? (i := 23) rfl)
theorem dX10_goes_38 : decode cX10_goes 38 = .ok (.iconst 0, 1) := dAX10_goes (38, (.iconst 0, 1)) (List.mem_of_getElem? (i := 24) rfl)
theorem dX10_goes_39 : decode cX10_goes 39 = .ok (.istore_n 3, 1) := dAX10_goes (39, (.istore_n 3, 1)) (List.mem_of_getElem? (i := 25) rfl)
theorem dX10_goes_40 : decode cX10_goes 40 = .ok (.iload_n 3, 1) := dAX10_goes (40, (.iload_n 3, 1)) (List.mem_of_getElem? (i := 26) rfl)
theorem dX10_goes_41 : decode cX10_goes 41 = .ok (.aload_n 0, 1) := dAX10_goes (41, (.aload_n 0, 1)) (List.mem_of_getElem? (i := 27) rfl)
theorem dX10_goes_42 : decode cX10_goes 42 = .ok (.getfield 20, 3) := dAX10_goes (42, (.getfield 20, 3)) (List.mem_of_getElem? (i := 28) rfl)
theorem dX10_goes_45 : decode cX10_goes 45 = .ok (.iconst 3, 1) := dAX10_goes (45, (.iconst 3, 1)) (List.mem_of_getElem? (i := 29) rfl)
theorem dX10_goes_46 : decode cX10_goes 46 = .ok (.iaload, 1) := dAX10_goes (46, (.iaload, 1)) (List.mem_of_getElem? (i := 30) rfl)
theorem dX10_goes_47 : decode cX10_goes 47 = .ok (.if_icmp .ge 61, 3) := dAX10_goes (47, (.if_icmp .ge 61, 3)) (List.mem_of_getElem? (i := 31) rfl)
theorem dX10_goes_50 : decode cX10_goes 50 = .ok (.aload_n 0, 1) := dAX10_goes (50, (.aload_n 0, 1)) (List.mem_of_getElem? (i := 32) rfl)
theorem dX10_goes_51 : decode cX10_goes 51 = .ok (.getfield 20, 3) := dAX10_goes (51, (.getfield 20, 3)) (List.mem_of_getElem? (i := 33) rfl)
theorem dX10_goes_54 : decode cX10_goes 54 = .ok (.bipush 9, 2) := dAX10_goes (54, (.bipush 9, 2)) (List.mem_of_getElem? (i := 34) rfl)
theorem dX10_goes_56 : decode cX10_goes 56 = .ok (.iconst 4, 1) := dAX10_goes (56, (.iconst 4, 1)) (List.mem_of_getElem? (i := 35) rfl)
theorem dX10_goes_57 : decode cX10_goes 57 = .ok (.iload_n 3, 1) := dAX10_goes (57, (.iload_n 3, 1)) (List.mem_of_getElem? (i := 36) rfl)
theorem dX10_goes_58 : decode cX10_goes 58 = .ok (.imul, 1) := dAX10_goes (58, (.imul, 1)) (List.mem_of_getElem? (i := 37) rfl)
theorem dX10_goes_59 : decode cX10_goes 59 = .ok (.iadd, 1) := dAX10_goes (59, (.iadd, 1)) (List.mem_of_getElem? (i := 38) rfl)
theorem dX10_goes_60 : decode cX10_goes 60 = .ok (.iconst 3, 1) := dAX10_goes (60, (.iconst 3, 1)) (List.mem_of_getElem? (i := 39) rfl)
theorem dX10_goes_61 : decode cX10_goes 61 = .ok (.iadd, 1) := dAX10_goes (61, (.iadd, 1)) (List.mem_of_getElem? (i := 40) rfl)
theorem dX10_goes_62 : decode cX10_goes 62 = .ok (.iaload, 1) := dAX10_goes (62, (.iaload, 1)) (List.mem_of_getElem? (i := 41) rfl)
theorem dX10_goes_63 : decode cX10_goes 63 = .ok (.iconst 1, 1) := dAX10_goes (63, (.iconst 1, 1)) (List.mem_of_getElem? (i := 42) rfl)
theorem dX10_goes_64 : decode cX10_goes 64 = .ok (.isub, 1) := dAX10_goes (64, (.isub, 1)) (List.mem_of_getElem? (i := 43) rfl)
theorem dX10_goes_65 : decode cX10_goes 65 = .ok (.istore 4, 2) := dAX10_goes (65, (.istore 4, 2)) (List.mem_of_getElem? (i := 44) rfl)
theorem dX10_goes_67 : decode cX10_goes 67 = .ok (.iload_n 2, 1) := dAX10_goes (67, (.iload_n 2, 1)) (List.mem_of_getElem? (i := 45) rfl)
theorem dX10_goes_68 : decode cX10_goes 68 = .ok (.iload_n 3, 1) := dAX10_goes (68, (.iload_n 3, 1)) (List.mem_of_getElem? (i := 46) rfl)
theorem dX10_goes_69 : decode cX10_goes 69 = .ok (.invokestatic 252, 3) := dAX10_goes (69, (.invokestatic 252, 3)) (List.mem_of_getElem? (i := 47) rfl)
theorem dX10_goes_72 : decode cX10_goes 72 = .ok (.ifCond .eq 30, 3) := dAX10_goes (72, (.ifCond .eq 30, 3)) (List.mem_of_getElem? (i := 48) rfl)
theorem dX10_goes_75 : decode cX10_goes 75 = .ok (.iload 4, 2) := dAX10_goes (75, (.iload 4, 2)) (List.mem_of_getElem? (i := 49) rfl)
theorem dX10_goes_77 : decode cX10_goes 77 = .ok (.ifCond .lt 25, 3) := dAX10_goes (77, (.ifCond .lt 25, 3)) (List.mem_of_getElem? (i := 50) rfl)
theorem dX10_goes_80 : decode cX10_goes 80 = .ok (.aload_n 1, 1) := dAX10_goes (80, (.aload_n 1, 1)) (List.mem_of_getElem? (i := 51) rfl)
theorem dX10_goes_81 : decode cX10_goes 81 = .ok (.iload 4, 2) := dAX10_goes (81, (.iload 4, 2)) (List.mem_of_getElem? (i := 52) rfl)
theorem dX10_goes_83 : decode cX10_goes 83 = .ok (.invokestatic 248, 3) := dAX10_goes (83, (.invokestatic 248, 3)) (List.mem_of_getElem? (i := 53) rfl)
theorem dX10_goes_86 : decode cX10_goes 86 = .ok (.ifCond .eq 16, 3) := dAX10_goes (86, (.ifCond .eq 16, 3)) (List.mem_of_getElem? (i := 54) rfl)
theorem dX10_goes_89 : decode cX10_goes 89 = .ok (.aload_n 1, 1) := dAX10_goes (89, (.aload_n 1, 1)) (List.mem_of_getElem? (i := 55) rfl)
theorem dX10_goes_90 : decode cX10_goes 90 = .ok (.iload 4, 2) := dAX10_goes (90, (.iload 4, 2)) (List.mem_of_getElem? (i := 56) rfl)
theorem dX10_goes_92 : decode cX10_goes 92 = .ok (.dup2, 1) := dAX10_goes (92, (.dup2, 1)) (List.mem_of_getElem? (i := 57) rfl)
theorem dX10_goes_93 : decode cX10_goes 93 = .ok (.iaload, 1) := dAX10_goes (93, (.iaload, 1)) (List.mem_of_getElem? (i := 58) rfl)
theorem dX10_goes_94 : decode cX10_goes 94 = .ok (.aload_n 0, 1) := dAX10_goes (94, (.aload_n 0, 1)) (List.mem_of_getElem? (i := 59) rfl)
theorem dX10_goes_95 : decode cX10_goes 95 = .ok (.getfield 20, 3) := dAX10_goes (95, (.getfield 20, 3)) (List.mem_of_getElem? (i := 60) rfl)
theorem dX10_goes_98 : decode cX10_goes 98 = .ok (.iconst 2, 1) := dAX10_goes (98, (.iconst 2, 1)) (List.mem_of_getElem? (i := 61) rfl)
theorem dX10_goes_99 : decode cX10_goes 99 = .ok (.iaload, 1) := dAX10_goes (99, (.iaload, 1)) (List.mem_of_getElem? (i := 62) rfl)
theorem dX10_goes_100 : decode cX10_goes 100 = .ok (.isub, 1) := dAX10_goes (100, (.isub, 1)) (List.mem_of_getElem? (i := 63) rfl)
theorem dX10_goes_101 : decode cX10_goes 101 = .ok (.iastore, 1) := dAX10_goes (101, (.iastore, 1)) (List.mem_of_getElem? (i := 64) rfl)
theorem dX10_goes_102 : decode cX10_goes 102 = .ok (.iinc 3 1, 3) := dAX10_goes (102, (.iinc 3 1, 3)) (List.mem_of_getElem? (i := 65) rfl)
theorem dX10_goes_105 : decode cX10_goes 105 = .ok (.goto (-65), 3) := dAX10_goes (105, (.goto (-65), 3)) (List.mem_of_getElem? (i := 66) rfl)
theorem dX10_goes_108 : decode cX10_goes 108 = .ok (.return_, 1) := dAX10_goes (108, (.return_, 1)) (List.mem_of_getElem? (i := 67) rfl)
set_option maxRecDepth 20000 in
theorem ggX10_goes_X10_hasBit : GoodIn wsX10_goes wsX10_hasBit := goodIn_r _ [5] rfl (by decide +kernel)
set_option maxRecDepth 20000 in
theorem gX10_goes_X10_hasBit : GoodIn wsX10_goes (va_wsS RX10 252 yX10_hasBit wsX10_hasBit) := goodIn_app (goodIn_of _ (by decide +kernel)) ggX10_goes_X10_hasBit
set_option maxRecDepth 20000 in
theorem ggX10_goes_X10_isIn : GoodIn wsX10_goes wsX10_isIn := goodIn_r _ [8] rfl (by decide +kernel)
set_option maxRecDepth 20000 in
theorem gX10_goes_X10_isIn : GoodIn wsX10_goes (va_wsS RX10 248 yX10_isIn wsX10_isIn) := goodIn_app (goodIn_of _ (by decide +kernel)) ggX10_goes_X10_isIn
theorem kX10_goes_20 : Cond.fieldLink RX10 20 "EveningVowModel" "\x72" "[I" ∈ wsX10_goes := List.mem_of_getElem? (i := 1) rfl
theorem iX10_goes_X10 : ∀ w ∈ u_ws RX10 TX10 35, w ∈ wsX10_goes := fun w h => (List.mem_cons_of_mem _ (List.mem_append_right _ h))
set_option maxHeartbeats 4000000 in
set_option maxRecDepth 100000 in
theorem wX10_goes_L2 {p : Program} {l : Launch} {e : Env} {s : State} {m : MethodId} {args : Array Value} {below : List Frame} {meth : Method} {c : Code} {g : GG} {A : Nat → Prop} (C0 : Cx p s m args meth c cX10_goes 5 none RX10 wsX10_goes g A) (a_t : Nat) (a_r1 : Nat) (p_t : Nat → Nat) (n : Nat) (x2 : Int32) (o_t : Nat → Int32) (f_t_15 : Nat → Int32)  (f_r1' : Nat → Int32) (K : (Nat → Int32) → Option ((Nat → Int32))) (hKx : ∀ (f_r1 : Nat → Int32) (H : Heap) (locs : List Loc) (ls : Array Slot), K f_r1 = some (f_r1') → va_P g.1 vwCl [oX10 a_t p_t o_t, aI g (p_t 15) 266 f_t_15, aI g a_r1 17 f_r1] H → va_D A [oX10 a_t p_t o_t, aI g (p_t 15) 266 f_t_15, aI g a_r1 17 f_r1] → va_S A s.heap H locs → lv_has ls 5 [(0, .ref a_t), (1, .ref a_r1), (2, .int x2)] → W p l e ({ frames := 1, cells := 0, slots := 0, locals := 21 } : Room) s m args below meth c H locs 0 0 (MQ below (EndV g [oX10 a_t p_t o_t, aI g (p_t 15) 266 f_t_15, aI g a_r1 17 f_r1'] A) args s 0 0 A) (F0 m 38 ls [])) : ∀ (k : Nat) (x3 : Int32) (f_r1 : Nat → Int32), fX10_goes_L2 n x2 o_t f_t_15 K k x3 f_r1 = some (f_r1') → ∀ (H : Heap) (locs : List Loc) (ls : Array Slot), va_P g.1 vwCl [oX10 a_t p_t o_t, aI g (p_t 15) 266 f_t_15, aI g a_r1 17 f_r1] H → va_D A [oX10 a_t p_t o_t, aI g (p_t 15) 266 f_t_15, aI g a_r1 17 f_r1] → va_S A s.heap H locs → lv_has ls 5 [(0, .ref a_t), (1, .ref a_r1), (2, .int x2), (3, .int x3)] → W p l e ({ frames := 1, cells := 0, slots := 0, locals := 21 } : Room) s m args below meth c H locs 0 0 (MQ below (EndV g [oX10 a_t p_t o_t, aI g (p_t 15) 266 f_t_15, aI g a_r1 17 f_r1'] A) args s 0 0 A) (F0 m 2 ls []) := by
  obtain ⟨hx, hb, hml, hown, hts, hr, hlk, hK, hA, hSW⟩ := id C0
  intro k
  induction k with
  | zero =>
    intro x3 f_r1 hF
    exact absurd hF (by simp [fX10_goes_L2])
  | succ k ih =>
    intro x3 f_r1 hF H locs ls hP hD hS hl
    rw [fX10_goes_L2] at hF
    refine lv_iload_n hx hb dX10_goes_2 rfl (lv_at hl 3 rfl) ?_
    refine lv_aload_n hx hb dX10_goes_3 rfl (lv_at hl 0 rfl) ?_
    refine va_get (D := g.1) (ci := 10) (v := .ref (p_t 15)) (C := RX10) (T := TX10) (N := 35) hx hb hts iX10_goes_X10 hown hK.1 hP 0 rfl rfl 15 (by decide) (hts _ kX10_goes_20) (fun _ h9 => h9) rfl dX10_goes_4 ?_
    refine lv_iconst (v := (3 : Int32)) hx hb dX10_goes_7 (by decide) ?_
    refine va_iald_k (j := 3) hx hb hK.1 hP 1 0 rfl rfl (by unfold vp_in; decide) rfl dX10_goes_8 ?_
    refine lv_icmp_ge (tgt := 38) hx hb dX10_goes_9 (by decide) (fun c_1 => ?_) (fun c_1 => ?_)
    · have hF := it_p c_1 hF
      exact hKx f_r1 _ _ _ hF (hP.sub [0, 1, 2] rfl) (hD.sub [0, 1, 2] rfl rfl) hS (lv_sub hl [0, 1, 2] rfl)
    · have hF := it_n c_1 hF
      refine lv_iload_n hx hb dX10_goes_12 rfl (lv_at hl 2 rfl) ?_
      refine lv_iload_n hx hb dX10_goes_13 rfl (lv_at hl 3 rfl) ?_
      obtain ⟨u_2, hu_3, hF⟩ := ob1_some hF
      refine call_si (wr := [oX10 a_t p_t o_t, aI g (p_t 15) 266 f_t_15, aI g a_r1 17 f_r1]) (As := [.int x2, .int x3]) (rest := []) C0 (mX10_hasBit l g n x2 x3 u_2 hu_3) (va_cwS 2 hts gX10_goes_X10_hasBit rfl rfl rfl (by decide +kernel) ⟨Nat.le_of_ble_eq_true rfl, Nat.le_of_ble_eq_true rfl⟩) hP hD hS [] [0, 1, 2] rfl rfl rfl rfl rfl (by decide) hl.1 rfl rfl (Nat.le_of_ble_eq_true rfl) ⟨Nat.zero_le _, Nat.zero_le _⟩ dX10_goes_14 ?_
      intro H locs hP hD hS
      refine lv_if_eq (tgt := 32) hx hb dX10_goes_17 (by decide) (fun c_4 => ?_) (fun c_4 => ?_)
      · have hF := it_p c_4 hF
        refine lv_iinc (v := (x3 + (1 : Int32))) (lv' := [(3, .int (x3 + (1 : Int32))), (0, .ref a_t), (1, .ref a_r1), (2, .int x2)]) hx hb dX10_goes_32 hl (k := 3) rfl rfl (by decide) rfl (fun ls hl => ?_)
        refine lv_goto (tgt := 2) hx hb dX10_goes_35 (by decide) ?_
        exact ih (x3 + (1 : Int32)) f_r1 hF _ _ _ (hP.sub [0, 1, 2] rfl) (hD.sub [0, 1, 2] rfl rfl) hS (lv_sub hl [1, 2, 3, 0] rfl)
      · have hF := it_n c_4 hF
        refine lv_aload_n hx hb dX10_goes_20 rfl (lv_at hl 1 rfl) ?_
        refine lv_bipush (v := (7 : Int32)) hx hb dX10_goes_21 (by decide) ?_
        refine lv_iload_n hx hb dX10_goes_23 rfl (lv_at hl 3 rfl) ?_
        refine lv_iadd hx hb dX10_goes_24 ?_
        refine lv_aload_n hx hb dX10_goes_25 rfl (lv_at hl 1 rfl) ?_
        refine lv_bipush (v := (14 : Int32)) hx hb dX10_goes_26 (by decide) ?_
        refine va_iald_k (j := 14) hx hb hK.1 hP 2 0 rfl rfl (by unfold vp_in; decide) rfl dX10_goes_28 ?_
        refine lv_iconst (v := (1 : Int32)) hx hb dX10_goes_29 (by decide) ?_
        refine lv_iadd hx hb dX10_goes_30 ?_
        obtain ⟨h_5, hF⟩ := it_ck hF
        refine va_iast hx hb hK.1 hP hD hS 2 0 rfl rfl h_5 dX10_goes_31 (fun H locs hP hD hS => ?_)
        have hP : va_P g.1 vwCl [oX10 a_t p_t o_t, aI g (p_t 15) 266 f_t_15, aI g a_r1 17 (upd f_r1 (((7 : Int32) + x3)).toNatClampNeg ((f_r1 14) + (1 : Int32)))] H := hP
        have hD : va_D A [oX10 a_t p_t o_t, aI g (p_t 15) 266 f_t_15, aI g a_r1 17 (upd f_r1 (((7 : Int32) + x3)).toNatClampNeg ((f_r1 14) + (1 : Int32)))] := hD
        refine lv_iinc (v := (x3 + (1 : Int32))) (lv' := [(3, .int (x3 + (1 : Int32))), (0, .ref a_t), (1, .ref a_r1), (2, .int x2)]) hx hb dX10_goes_32 hl (k := 3) rfl rfl (by decide) rfl (fun ls hl => ?_)
        refine lv_goto (tgt := 2) hx hb dX10_goes_35 (by decide) ?_
        exact ih (x3 + (1 : Int32)) (upd f_r1 (((7 : Int32) + x3)).toNatClampNeg ((f_r1 14) + (1 : Int32))) hF _ _ _ (hP.sub [0, 1, 2] rfl) (hD.sub [0, 1, 2] rfl rfl) hS (lv_sub hl [1, 2, 3, 0] rfl)
set_option maxHeartbeats 4000000 in
set_option maxRecDepth 100000 in
theorem wX10_goes_L40 {p : Program} {l : Launch} {e : Env} {s : State} {m : MethodId} {args : Array Value} {below : List Frame} {meth : Method} {c : Code} {g : GG} {A : Nat → Prop} (C0 : Cx p s m args meth c cX10_goes 5 none RX10 wsX10_goes g A) (a_t : Nat) (a_r1 : Nat) (p_t : Nat → Nat) (n : Nat) (x2 : Int32) (o_t : Nat → Int32) (f_t_15 : Nat → Int32)  (f_r1' : Nat → Int32) (K : (Nat → Int32) → Option ((Nat → Int32))) (hKx : ∀ (f_r1 : Nat → Int32) (H : Heap) (locs : List Loc) (ls : Array Slot), K f_r1 = some (f_r1') → va_P g.1 vwCl [oX10 a_t p_t o_t, aI g (p_t 15) 266 f_t_15, aI g a_r1 17 f_r1] H → va_D A [oX10 a_t p_t o_t, aI g (p_t 15) 266 f_t_15, aI g a_r1 17 f_r1] → va_S A s.heap H locs → lv_has ls 5 [] → W p l e ({ frames := 1, cells := 0, slots := 0, locals := 21 } : Room) s m args below meth c H locs 0 0 (MQ below (EndV g [oX10 a_t p_t o_t, aI g (p_t 15) 266 f_t_15, aI g a_r1 17 f_r1'] A) args s 0 0 A) (F0 m 108 ls [])) : ∀ (k : Nat) (x3 : Int32) (f_r1 : Nat → Int32), fX10_goes_L40 n x2 o_t f_t_15 K k x3 f_r1 = some (f_r1') → ∀ (H : Heap) (locs : List Loc) (ls : Array Slot), va_P g.1 vwCl [oX10 a_t p_t o_t, aI g (p_t 15) 266 f_t_15, aI g a_r1 17 f_r1] H → va_D A [oX10 a_t p_t o_t, aI g (p_t 15) 266 f_t_15, aI g a_r1 17 f_r1] → va_S A s.heap H locs → lv_has ls 5 [(0, .ref a_t), (1, .ref a_r1), (2, .int x2), (3, .int x3)] → W p l e ({ frames := 1, cells := 0, slots := 0, locals := 21 } : Room) s m args below meth c H locs 0 0 (MQ below (EndV g [oX10 a_t p_t o_t, aI g (p_t 15) 266 f_t_15, aI g a_r1 17 f_r1'] A) args s 0 0 A) (F0 m 40 ls []) := by
  obtain ⟨hx, hb, hml, hown, hts, hr, hlk, hK, hA, hSW⟩ := id C0
  intro k
  induction k with
  | zero =>
    intro x3 f_r1 hF
    exact absurd hF (by simp [fX10_goes_L40])
  | succ k ih =>
    intro x3 f_r1 hF H locs ls hP hD hS hl
    rw [fX10_goes_L40] at hF
    refine lv_iload_n hx hb dX10_goes_40 rfl (lv_at hl 3 rfl) ?_
    refine lv_aload_n hx hb dX10_goes_41 rfl (lv_at hl 0 rfl) ?_
    refine va_get (D := g.1) (ci := 10) (v := .ref (p_t 15)) (C := RX10) (T := TX10) (N := 35) hx hb hts iX10_goes_X10 hown hK.1 hP 0 rfl rfl 15 (by decide) (hts _ kX10_goes_20) (fun _ h9 => h9) rfl dX10_goes_42 ?_
    refine lv_iconst (v := (3 : Int32)) hx hb dX10_goes_45 (by decide) ?_
    refine va_iald_k (j := 3) hx hb hK.1 hP 1 0 rfl rfl (by unfold vp_in; decide) rfl dX10_goes_46 ?_
    refine lv_icmp_ge (tgt := 108) hx hb dX10_goes_47 (by decide) (fun c_6 => ?_) (fun c_6 => ?_)
    · have hF := it_p c_6 hF
      exact hKx f_r1 _ _ _ hF (hP.sub [0, 1, 2] rfl) (hD.sub [0, 1, 2] rfl rfl) hS (lv_sub hl [] rfl)
    · have hF := it_n c_6 hF
      refine lv_aload_n hx hb dX10_goes_50 rfl (lv_at hl 0 rfl) ?_
      refine va_get (D := g.1) (ci := 10) (v := .ref (p_t 15)) (C := RX10) (T := TX10) (N := 35) hx hb hts iX10_goes_X10 hown hK.1 hP 0 rfl rfl 15 (by decide) (hts _ kX10_goes_20) (fun _ h9 => h9) rfl dX10_goes_51 ?_
      refine lv_bipush (v := (9 : Int32)) hx hb dX10_goes_54 (by decide) ?_
      refine lv_iconst (v := (4 : Int32)) hx hb dX10_goes_56 (by decide) ?_
      refine lv_iload_n hx hb dX10_goes_57 rfl (lv_at hl 3 rfl) ?_
      refine lv_imul hx hb dX10_goes_58 ?_
      refine lv_iadd hx hb dX10_goes_59 ?_
      refine lv_iconst (v := (3 : Int32)) hx hb dX10_goes_60 (by decide) ?_
      refine lv_iadd hx hb dX10_goes_61 ?_
      obtain ⟨h_7, hF⟩ := it_ck hF
      refine va_iald hx hb hK.1 hP 1 0 rfl rfl h_7 dX10_goes_62 ?_
      refine lv_iconst (v := (1 : Int32)) hx hb dX10_goes_63 (by decide) ?_
      refine lv_isub hx hb dX10_goes_64 ?_
      refine lv_istore (lv' := [(4, .int ((f_t_15 ((((9 : Int32) + ((4 : Int32) * x3)) + (3 : Int32))).toNatClampNeg) - (1 : Int32))), (0, .ref a_t), (1, .ref a_r1), (2, .int x2), (3, .int x3)]) hx hb dX10_goes_65 hl (by decide) rfl (fun ls hl => ?_)
      refine lv_iload_n hx hb dX10_goes_67 rfl (lv_at hl 3 rfl) ?_
      refine lv_iload_n hx hb dX10_goes_68 rfl (lv_at hl 4 rfl) ?_
      obtain ⟨u_8, hu_9, hF⟩ := ob1_some hF
      refine call_si (wr := [oX10 a_t p_t o_t, aI g (p_t 15) 266 f_t_15, aI g a_r1 17 f_r1]) (As := [.int x2, .int x3]) (rest := []) C0 (mX10_hasBit l g n x2 x3 u_8 hu_9) (va_cwS 2 hts gX10_goes_X10_hasBit rfl rfl rfl (by decide +kernel) ⟨Nat.le_of_ble_eq_true rfl, Nat.le_of_ble_eq_true rfl⟩) hP hD hS [] [0, 1, 2] rfl rfl rfl rfl rfl (by decide) hl.1 rfl rfl (Nat.le_of_ble_eq_true rfl) ⟨Nat.zero_le _, Nat.zero_le _⟩ dX10_goes_69 ?_
      intro H locs hP hD hS
      refine lv_if_eq (tgt := 102) hx hb dX10_goes_72 (by decide) (fun c_10 => ?_) (fun c_10 => ?_)
      · have hF := it_p c_10 hF
        refine lv_iinc (v := (x3 + (1 : Int32))) (lv' := [(3, .int (x3 + (1 : Int32))), (4, .int ((f_t_15 ((((9 : Int32) + ((4 : Int32) * x3)) + (3 : Int32))).toNatClampNeg) - (1 : Int32))), (0, .ref a_t), (1, .ref a_r1), (2, .int x2)]) hx hb dX10_goes_102 hl (k := 4) rfl rfl (by decide) rfl (fun ls hl => ?_)
        refine lv_goto (tgt := 40) hx hb dX10_goes_105 (by decide) ?_
        exact ih (x3 + (1 : Int32)) f_r1 hF _ _ _ (hP.sub [0, 1, 2] rfl) (hD.sub [0, 1, 2] rfl rfl) hS (lv_sub hl [2, 3, 4, 0] rfl)
      · have hF := it_n c_10 hF
        refine lv_iload hx hb dX10_goes_75 (lv_at hl 0 rfl) ?_
        refine lv_if_lt (tgt := 102) hx hb dX10_goes_77 (by decide) (fun c_11 => ?_) (fun c_11 => ?_)
        · have hF := it_p c_11 hF
          refine lv_iinc (v := (x3 + (1 : Int32))) (lv' := [(3, .int (x3 + (1 : Int32))), (4, .int ((f_t_15 ((((9 : Int32) + ((4 : Int32) * x3)) + (3 : Int32))).toNatClampNeg) - (1 : Int32))), (0, .ref a_t), (1, .ref a_r1), (2, .int x2)]) hx hb dX10_goes_102 hl (k := 4) rfl rfl (by decide) rfl (fun ls hl => ?_)
          refine lv_goto (tgt := 40) hx hb dX10_goes_105 (by decide) ?_
          exact ih (x3 + (1 : Int32)) f_r1 hF _ _ _ (hP.sub [0, 1, 2] rfl) (hD.sub [0, 1, 2] rfl rfl) hS (lv_sub hl [2, 3, 4, 0] rfl)
        · have hF := it_n c_11 hF
          refine lv_aload_n hx hb dX10_goes_80 rfl (lv_at hl 2 rfl) ?_
          refine lv_iload hx hb dX10_goes_81 (lv_at hl 0 rfl) ?_
          obtain ⟨u_12, hu_13, hF⟩ := ob1_some hF
          refine call_si (wr := [oX10 a_t p_t o_t, aI g (p_t 15) 266 f_t_15]) (As := [.ref a_r1, .int ((f_t_15 ((((9 : Int32) + ((4 : Int32) * x3)) + (3 : Int32))).toNatClampNeg) - (1 : Int32))]) (rest := []) C0 (mX10_isIn l g a_r1 n ((f_t_15 ((((9 : Int32) + ((4 : Int32) * x3)) + (3 : Int32))).toNatClampNeg) - (1 : Int32)) f_r1 u_12 hu_13) (va_cwS 2 hts gX10_goes_X10_isIn rfl rfl rfl (by decide +kernel) ⟨Nat.le_of_ble_eq_true rfl, Nat.le_of_ble_eq_true rfl⟩) hP hD hS [2] [0, 1] rfl rfl rfl rfl rfl (by decide) hl.1 rfl rfl (Nat.le_of_ble_eq_true rfl) ⟨Nat.zero_le _, Nat.zero_le _⟩ dX10_goes_83 ?_
          intro H locs hP hD hS
          refine lv_if_eq (tgt := 102) hx hb dX10_goes_86 (by decide) (fun c_14 => ?_) (fun c_14 => ?_)
          · have hF := it_p c_14 hF
            refine lv_iinc (v := (x3 + (1 : Int32))) (lv' := [(3, .int (x3 + (1 : Int32))), (4, .int ((f_t_15 ((((9 : Int32) + ((4 : Int32) * x3)) + (3 : Int32))).toNatClampNeg) - (1 : Int32))), (0, .ref a_t), (1, .ref a_r1), (2, .int x2)]) hx hb dX10_goes_102 hl (k := 4) rfl rfl (by decide) rfl (fun ls hl => ?_)
            refine lv_goto (tgt := 40) hx hb dX10_goes_105 (by decide) ?_
            exact ih (x3 + (1 : Int32)) f_r1 hF _ _ _ (hP.sub [0, 1, 2] rfl) (hD.sub [0, 1, 2] rfl rfl) hS (lv_sub hl [2, 3, 4, 0] rfl)
          · have hF := it_n c_14 hF
            refine lv_aload_n hx hb dX10_goes_89 rfl (lv_at hl 2 rfl) ?_
            refine lv_iload hx hb dX10_goes_90 (lv_at hl 0 rfl) ?_
            refine lv_dup2_11 hx hb dX10_goes_92 rfl rfl ?_
            obtain ⟨h_15, hF⟩ := it_ck hF
            refine va_iald hx hb hK.1 hP 2 0 rfl rfl h_15 dX10_goes_93 ?_
            refine lv_aload_n hx hb dX10_goes_94 rfl (lv_at hl 1 rfl) ?_
            refine va_get (D := g.1) (ci := 10) (v := .ref (p_t 15)) (C := RX10) (T := TX10) (N := 35) hx hb hts iX10_goes_X10 hown hK.1 hP 0 rfl rfl 15 (by decide) (hts _ kX10_goes_20) (fun _ h9 => h9) rfl dX10_goes_95 ?_
            refine lv_iconst (v := (2 : Int32)) hx hb dX10_goes_98 (by decide) ?_
            refine va_iald_k (j := 2) hx hb hK.1 hP 1 0 rfl rfl (by unfold vp_in; decide) rfl dX10_goes_99 ?_
            refine lv_isub hx hb dX10_goes_100 ?_
            obtain ⟨h_16, hF⟩ := it_ck hF
            refine va_iast hx hb hK.1 hP hD hS 2 0 rfl rfl h_16 dX10_goes_101 (fun H locs hP hD hS => ?_)
            have hP : va_P g.1 vwCl [oX10 a_t p_t o_t, aI g (p_t 15) 266 f_t_15, aI g a_r1 17 (upd f_r1 (((f_t_15 ((((9 : Int32) + ((4 : Int32) * x3)) + (3 : Int32))).toNatClampNeg) - (1 : Int32))).toNatClampNeg ((f_r1 (((f_t_15 ((((9 : Int32) + ((4 : Int32) * x3)) + (3 : Int32))).toNatClampNeg) - (1 : Int32))).toNatClampNeg) - (f_t_15 2)))] H := hP
            have hD : va_D A [oX10 a_t p_t o_t, aI g (p_t 15) 266 f_t_15, aI g a_r1 17 (upd f_r1 (((f_t_15 ((((9 : Int32) + ((4 : Int32) * x3)) + (3 : Int32))).toNatClampNeg) - (1 : Int32))).toNatClampNeg ((f_r1 (((f_t_15 ((((9 : Int32) + ((4 : Int32) * x3)) + (3 : Int32))).toNatClampNeg) - (1 : Int32))).toNatClampNeg) - (f_t_15 2)))] := hD
            refine lv_iinc (v := (x3 + (1 : Int32))) (lv' := [(3, .int (x3 + (1 : Int32))), (4, .int ((f_t_15 ((((9 : Int32) + ((4 : Int32) * x3)) + (3 : Int32))).toNatClampNeg) - (1 : Int32))), (0, .ref a_t), (1, .ref a_r1), (2, .int x2)]) hx hb dX10_goes_102 hl (k := 4) rfl rfl (by decide) rfl (fun ls hl => ?_)
            refine lv_goto (tgt := 40) hx hb dX10_goes_105 (by decide) ?_
            exact ih (x3 + (1 : Int32)) (upd f_r1 (((f_t_15 ((((9 : Int32) + ((4 : Int32) * x3)) + (3 : Int32))).toNatClampNeg) - (1 : Int32))).toNatClampNeg ((f_r1 (((f_t_15 ((((9 : Int32) + ((4 : Int32) * x3)) + (3 : Int32))).toNatClampNeg) - (1 : Int32))).toNatClampNeg) - (f_t_15 2))) hF _ _ _ (hP.sub [0, 1, 2] rfl) (hD.sub [0, 1, 2] rfl rfl) hS (lv_sub hl [2, 3, 4, 0] rfl)
set_option maxHeartbeats 4000000 in
set_option maxRecDepth 100000 in
theorem mX10_goes (l : Launch) (g : GG) (a_t : Nat) (a_r1 : Nat) (p_t : Nat → Nat) (n : Nat) (x2 : Int32) (o_t : Nat → Int32) (f_t_15 : Nat → Int32) (f_r1 : Nat → Int32) (f_r1' : Nat → Int32) (hF : fX10_goes n x2 o_t f_t_15 f_r1 = some (f_r1')) : MV l g yX10_goes wsX10_goes ({ frames := 1, cells := 0, slots := 0, locals := 21 } : Room) [.ref a_t, .ref a_r1, .int x2] [oX10 a_t p_t o_t, aI g (p_t 15) 266 f_t_15, aI g a_r1 17 f_r1] [oX10 a_t p_t o_t, aI g (p_t 15) 266 f_t_15, aI g a_r1 17 f_r1'] := by
  refine MV.of (cc := cX10_goes) (maxL := 5) (own := RX10) rfl rfl (by decide) (Nat.le_of_ble_eq_true rfl) ?_
  intro p e s m args below meth c A C0 hP hD hS ls hl
  obtain ⟨hx, hb, hml, hown, hts, hr, hlk, hK, hA, hSW⟩ := id C0
  have hl : lv_has ls 5 [(0, .ref a_t), (1, .ref a_r1), (2, .int x2)] := hl
  rw [fX10_goes] at hF
  refine lv_iconst (v := (0 : Int32)) hx hb dX10_goes_0 (by decide) ?_
  refine lv_istore_n (lv' := [(3, .int (0 : Int32)), (0, .ref a_t), (1, .ref a_r1), (2, .int x2)]) hx hb dX10_goes_1 rfl hl (by decide) rfl (fun ls hl => ?_)
  refine wX10_goes_L2 C0 a_t a_r1 p_t n x2 o_t f_t_15 f_r1' _ ?_ n (0 : Int32) f_r1 hF _ _ _ (hP.sub [0, 1, 2] rfl) (hD.sub [0, 1, 2] rfl rfl) hS (lv_sub hl [1, 2, 3, 0] rfl)
  · intro f_r1_x2 H locs ls hF hP hD hS hl
    refine lv_iconst (v := (0 : Int32)) hx hb dX10_goes_38 (by decide) ?_
    refine lv_istore_n (lv' := [(3, .int (0 : Int32)), (0, .ref a_t), (1, .ref a_r1), (2, .int x2)]) hx hb dX10_goes_39 rfl hl (by decide) rfl (fun ls hl => ?_)
    refine wX10_goes_L40 C0 a_t a_r1 p_t n x2 o_t f_t_15 f_r1' _ ?_ n (0 : Int32) f_r1_x2 hF _ _ _ (hP.sub [0, 1, 2] rfl) (hD.sub [0, 1, 2] rfl rfl) hS (lv_sub hl [1, 2, 3, 0] rfl)
    · intro f_r1_x40 H locs ls hF hP hD hS hl
      cases hF
      exact ret_v C0 hP hD hS [0, 1, 2] rfl rfl rfl dX10_goes_108

theorem dAX10_leaves : ∀ q ∈ ([(0, (.iconst 0, 1)), (1, (.istore_n 2, 1)), (2, (.aload_n 0, 1)), (3, (.iconst 0, 1)), (4, (.putfield 256, 3)), (7, (.iconst 1, 1)), (8, (.istore_n 3, 1)), (9, (.iload_n 3, 1)), (10, (.ifCond .eq 142, 3)), (13, (.aload_n 0, 1)), (14, (.aload_n 1, 1)), (15, (.invokevirtual 259, 3)), (18, (.iconst 1, 1)), (19, (.aload_n 0, 1)), (20, (.getfield 20, 3)), (23, (.iconst 3, 1)), (24, (.iaload, 1)), (25, (.ishl, 1)), (26, (.iconst 1, 1)), (27, (.isub, 1)), (28, (.if_icmp .eq 7, 3)), (31, (.iconst 1, 1)), (32, (.goto 4, 3)), (35, (.iconst 0, 1)), (36, (.istore 4, 2)), (38, (.iconst 0, 1)), (39, (.istore 5, 2)), (41, (.iconst 0, 1)), (42, (.istore 6, 2)), (44, (.iload 6, 2)), (46, (.aload_n 0, 1)), (47, (.getfield 20, 3)), (50, (.iconst 3, 1)), (51, (.iaload, 1)), (52, (.if_icmp .ge 56, 3)), (55, (.iload 5, 2)), (57, (.aload_n 1, 1)), (58, (.iload 6, 2)), (60, (.invokestatic 248, 3)), (63, (.ifCond .eq 35, 3)), (66, (.aload_n 0, 1)), (67, (.aload_n 1, 1)), (68, (.iload 6, 2)), (70, (.invokevirtual 263, 3)), (73, (.ifCond .gt 25, 3)), (76, (.iload 4, 2)), (78, (.ifCond .ne 13, 3)), (81, (.aload_n 0, 1)), (82, (.iload 6, 2)), (84, (.invokevirtual 267, 3)), (87, (.iconst 1, 1)), (88, (.if_icmp .eq 10, 3)), (91, (.iconst 1, 1)), (92, (.iload 6, 2)), (94, (.ishl, 1)), (95, (.goto 4, 3)), (98, (.iconst 0, 1)), (99, (.ior, 1)), (100, (.istore 5, 2)), (102, (.iinc 6 1, 3)), (105, (.goto (-61), 3)), (108, (.aload_n 0, 1)), (109, (.aload_n 1, 1)), (110, (.iload 5, 2)), (112, (.invokevirtual 270, 3)), (115, (.iload_n 2, 1)), (116, (.iload 5, 2)), (118, (.ior, 1)), (119, (.istore_n 2, 1)), (120, (.iload 5, 2)), (122, (.ifCond .eq 7, 3)), (125, (.iconst 1, 1)), (126, (.goto 4, 3)), (129, (.iconst 0, 1)), (130, (.istore_n 3, 1)), (131, (.aload_n 0, 1)), (132, (.dup, 1)), (133, (.getfield 256, 3)), (136, (.iload_n 3, 1)), (137, (.ifCond .eq 7, 3)), (140, (.iconst 1, 1)), (141, (.goto 4, 3)), (144, (.iconst 0, 1)), (145, (.iadd, 1)), (146, (.putfield 256, 3)), (149, (.goto (-140), 3)), (152, (.iload_n 2, 1)), (153, (.ireturn, 1))] : List (Nat × (Instr × Nat))), decode cX10_leaves q.1 = .ok q.2 := by decide +kernel
theorem dX10_leaves_0 : decode cX10_leaves 0 = .ok (.iconst 0, 1) := dAX10_leaves (0, (.iconst 0, 1)) (List.mem_of_getElem? (i := 0) rfl)
theorem dX10_leaves_1 : decode cX10_leaves 1 = .ok (.istore_n 2, 1) := dAX10_leaves (1, (.istore_n 2, 1)) (List.mem_of_getElem? (i := 1) rfl)
theorem dX10_leaves_2 : decode cX10_leaves 2 = .ok (.aload_n 0, 1) := dAX10_leaves (2, (.aload_n 0, 1)) (List.mem_of_getElem? (i := 2) rfl)
theorem dX10_leaves_3 : decode cX10_leaves 3 = .ok (.iconst 0, 1) := dAX10_leaves (3, (.iconst 0, 1)) (List.mem_of_getElem? (i := 3) rfl)
theorem dX10_leaves_4 : decode cX10_leaves 4 = .ok (.putfield 256, 3) := dAX10_leaves (4, (.putfield 256, 3)) (List.mem_of_getElem? (i := 4) rfl)
theorem dX10_leaves_7 : decode cX10_leaves 7 = .ok (.iconst 1, 1) := dAX10_leaves (7, (.iconst 1, 1)) (List.mem_of_getElem? (i := 5) rfl)
theorem dX10_leaves_8 : decode cX10_leaves 8 = .ok (.istore_n 3, 1) := dAX10_leaves (8, (.istore_n 3, 1)) (List.mem_of_getElem? (i := 6) rfl)
theorem dX10_leaves_9 : decode cX10_leaves 9 = .ok (.iload_n 3, 1) := dAX10_leaves (9, (.iload_n 3, 1)) (List.mem_of_getElem? (i := 7) rfl)
theorem dX10_leaves_10 : decode cX10_leaves 10 = .ok (.ifCond .eq 142, 3) := dAX10_leaves (10, (.ifCond .eq 142, 3)) (List.mem_of_getElem? (i := 8) rfl)
theorem dX10_leaves_13 : decode cX10_leaves 13 = .ok (.aload_n 0, 1) := dAX10_leaves (13, (.aload_n 0, 1)) (List.mem_of_getElem? (i := 9) rfl)
theorem dX10_leaves_14 : decode cX10_leaves 14 = .ok (.aload_n 1, 1) := dAX10_leaves (14, (.aload_n 1, 1)) (List.mem_of_getElem? (i := 10) rfl)
theorem dX10_leaves_15 : decode cX10_leaves 15 = .ok (.invokevirtual 259, 3) := dAX10_leaves (15, (.invokevirtual 259, 3)) (List.mem_of_getElem? (i := 11) rfl)
theorem dX10_leaves_18 : decode cX10_leaves 18 = .ok (.iconst 1, 1) := dAX10_leaves (18, (.iconst 1, 1)) (List.mem_of_getElem? (i := 12) rfl)
theorem dX10_leaves_19 : decode cX10_leaves 19 = .ok (.aload_n 0, 1) := dAX10_leaves (19, (.aload_n 0, 1)) (List.mem_of_getElem? (i := 13) rfl)
theorem dX10_leaves_20 : decode cX10_leaves 20 = .ok (.getfield 20, 3) := dAX10_leaves (20, (.getfield 20, 3)) (List.mem_of_getElem? (i := 14) rfl)
theorem dX10_leaves_23 : decode cX10_leaves 23 = .ok (.iconst 3, 1) := dAX10_leaves (23, (.iconst 3, 1)) (List.mem_of_getElem? (i := 15) rfl)
theorem dX10_leaves_24 : decode cX10_leaves 24 = .ok (.iaload, 1) := dAX10_leaves (24, (.iaload, 1)) (List.mem_of_getElem? (i := 16) rfl)
theorem dX10_leaves_25 : decode cX10_leaves 25 = .ok (.ishl, 1) := dAX10_leaves (25, (.ishl, 1)) (List.mem_of_getElem? (i := 17) rfl)
theorem dX10_leaves_26 : decode cX10_leaves 26 = .ok (.iconst 1, 1) := dAX10_leaves (26, (.iconst 1, 1)) (List.mem_of_getElem? (i := 18) rfl)
theorem dX10_leaves_27 : decode cX10_leaves 27 = .ok (.isub, 1) := dAX10_leaves (27, (.isub, 1)) (List.mem_of_getElem? (i := 19) rfl)
theorem dX10_leaves_28 : decode cX10_leaves 28 = .ok (.if_icmp .eq 7, 3) := dAX10_leaves (28, (.if_icmp .eq 7, 3)) (List.mem_of_getElem? (i := 20) rfl)
theorem dX10_leaves_31 : decode cX10_leaves 31 = .ok (.iconst 1, 1) := dAX10_leaves (31, (.iconst 1, 1)) (List.mem_of_getElem? (i := 21) rfl)
theorem dX10_leaves_32 : decode cX10_leaves 32 = .ok (.goto 4, 3) := dAX10_leaves (32, (.goto 4, 3)) (List.mem_of_getElem? (i := 22) rfl)
theorem dX10_leaves_35 : decode cX10_leaves 35 = .ok (.iconst 0, 1) := dAX10_leaves (35, (.iconst 0, 1)) (List.mem_of_getElem? (i := 23) rfl)
theorem dX10_leaves_36 : decode cX10_leaves 36 = .ok (.istore 4, 2) := dAX10_leaves (36, (.istore 4, 2)) (List.mem_of_getElem? (i := 24) rfl)
theorem dX10_leaves_38 : decode cX10_leaves 38 = .ok (.iconst 0, 1) := dAX10_leaves (38, (.iconst 0, 1)) (List.mem_of_getElem? (i := 25) rfl)
theorem dX10_leaves_39 : decode cX10_leaves 39 = .ok (.istore 5, 2) := dAX10_leaves (39, (.istore 5, 2)) (List.mem_of_getElem? (i := 26) rfl)
theorem dX10_leaves_41 : decode cX10_leaves 41 = .ok (.iconst 0, 1) := dAX10_leaves (41, (.iconst 0, 1)) (List.mem_of_getElem? (i := 27) rfl)
theorem dX10_leaves_42 : decode cX10_leaves 42 = .ok (.istore 6, 2) := dAX10_leaves (42, (.istore 6, 2)) (List.mem_of_getElem? (i := 28) rfl)
theorem dX10_leaves_44 : decode cX10_leaves 44 = .ok (.iload 6, 2) := dAX10_leaves (44, (.iload 6, 2)) (List.mem_of_getElem? (i := 29) rfl)
theorem dX10_leaves_46 : decode cX10_leaves 46 = .ok (.aload_n 0, 1) := dAX10_leaves (46, (.aload_n 0, 1)) (List.mem_of_getElem? (i := 30) rfl)
theorem dX10_leaves_47 : decode cX10_leaves 47 = .ok (.getfield 20, 3) := dAX10_leaves (47, (.getfield 20, 3)) (List.mem_of_getElem? (i := 31) rfl)
theorem dX10_leaves_50 : decode cX10_leaves 50 = .ok (.iconst 3, 1) := dAX10_leaves (50, (.iconst 3, 1)) (List.mem_of_getElem? (i := 32) rfl)
theorem dX10_leaves_51 : decode cX10_leaves 51 = .ok (.iaload, 1) := dAX10_leaves (51, (.iaload, 1)) (List.mem_of_getElem? (i := 33) rfl)
theorem dX10_leaves_52 : decode cX10_leaves 52 = .ok (.if_icmp .ge 56, 3) := dAX10_leaves (52, (.if_icmp .ge 56, 3)) (List.mem_of_getElem? (i := 34) rfl)
theorem dX10_leaves_55 : decode cX10_leaves 55 = .ok (.iload 5, 2) := dAX10_leaves (55, (.iload 5, 2)) (List.mem_of_getElem? (i := 35) rfl)
theorem dX10_leaves_57 : decode cX10_leaves 57 = .ok (.aload_n 1, 1) := dAX10_leaves (57, (.aload_n 1, 1)) (List.mem_of_getElem? (i := 36) rfl)
theorem dX10_leaves_58 : decode cX10_leaves 58 = .ok (.iload 6, 2) := dAX10_leaves (58, (.iload 6, 2)) (List.mem_of_getElem? (i := 37) rfl)
theorem dX10_leaves_60 : decode cX10_leaves 60 = .ok (.invokestatic 248, 3) := dAX10_leaves (60, (.invokestatic 248, 3)) (List.mem_of_getElem? (i := 38) rfl)
theorem dX10_leaves_63 : decode cX10_leaves 63 = .ok (.ifCond .eq 35, 3) := dAX10_leaves (63, (.ifCond .eq 35, 3)) (List.mem_of_getElem? (i := 39) rfl)
theorem dX10_leaves_66 : decode cX10_leaves 66 = .ok (.aload_n 0, 1) := dAX10_leaves (66, (.aload_n 0, 1)) (List.mem_of_getElem? (i := 40) rfl)
theorem dX10_leaves_67 : decode cX10_leaves 67 = .ok (.aload_n 1, 1) := dAX10_leaves (67, (.aload_n 1, 1)) (List.mem_of_getElem? (i := 41) rfl)
theorem dX10_leaves_68 : decode cX10_leaves 68 = .ok (.iload 6, 2) := dAX10_leaves (68, (.iload 6, 2)) (List.mem_of_getElem? (i := 42) rfl)
theorem dX10_leaves_70 : decode cX10_leaves 70 = .ok (.invokevirtual 263, 3) := dAX10_leaves (70, (.invokevirtual 263, 3)) (List.mem_of_getElem? (i := 43) rfl)
theorem dX10_leaves_73 : decode cX10_leaves 73 = .ok (.ifCond .gt 25, 3) := dAX10_leaves (73, (.ifCond .gt 25, 3)) (List.mem_of_getElem? (i := 44) rfl)
theorem dX10_leaves_76 : decode cX10_leaves 76 = .ok (.iload 4, 2) := dAX10_leaves (76, (.iload 4, 2)) (List.mem_of_getElem? (i := 45) rfl)
theorem dX10_leaves_78 : decode cX10_leaves 78 = .ok (.ifCond .ne 13, 3) := dAX10_leaves (78, (.ifCond .ne 13, 3)) (List.mem_of_getElem? (i := 46) rfl)
theorem dX10_leaves_81 : decode cX10_leaves 81 = .ok (.aload_n 0, 1) := dAX10_leaves (81, (.aload_n 0, 1)) (List.mem_of_getElem? (i := 47) rfl)
theorem dX10_leaves_82 : decode cX10_leaves 82 = .ok (.iload 6, 2) := dAX10_leaves (82, (.iload 6, 2)) (List.mem_of_getElem? (i := 48) rfl)
theorem dX10_leaves_84 : decode cX10_leaves 84 = .ok (.invokevirtual 267, 3) := dAX10_leaves (84, (.invokevirtual 267, 3)) (List.mem_of_getElem? (i := 49) rfl)
theorem dX10_leaves_87 : decode cX10_leaves 87 = .ok (.iconst 1, 1) := dAX10_leaves (87, (.iconst 1, 1)) (List.mem_of_getElem? (i := 50) rfl)
theorem dX10_leaves_88 : decode cX10_leaves 88 = .ok (.if_icmp .eq 10, 3) := dAX10_leaves (88, (.if_icmp .eq 10, 3)) (List.mem_of_getElem? (i := 51) rfl)
theorem dX10_leaves_91 : decode cX10_leaves 91 = .ok (.iconst 1, 1) := dAX10_leaves (91, (.iconst 1, 1)) (List.mem_of_getElem? (i := 52) rfl)
theorem dX10_leaves_92 : decode cX10_leaves 92 = .ok (.iload 6, 2) := dAX10_leaves (92, (.iload 6, 2)) (List.mem_of_getElem? (i := 53) rfl)
theorem dX10_leaves_94 : decode cX10_leaves 94 = .ok (.ishl, 1) := dAX10_leaves (94, (.ishl, 1)) (List.mem_of_getElem? (i := 54) rfl)
theorem dX10_leaves_95 : decode cX10_leaves 95 = .ok (.goto 4, 3) := dAX10_leaves (95, (.goto 4, 3)) (List.mem_of_getElem? (i := 55) rfl)
theorem dX10_leaves_98 : decode cX10_leaves 98 = .ok (.iconst 0, 1) := dAX10_leaves (98, (.iconst 0, 1)) (List.mem_of_getElem? (i := 56) rfl)
theorem dX10_leaves_99 : decode cX10_leaves 99 = .ok (.ior, 1) := dAX10_leaves (99, (.ior, 1)) (List.mem_of_getElem? (i := 57) rfl)
theorem dX10_leaves_100 : decode cX10_leaves 100 = .ok (.istore 5, 2) := dAX10_leaves (100, (.istore 5, 2)) (List.mem_of_getElem? (i := 58) rfl)
theorem dX10_leaves_102 : decode cX10_leaves 102 = .ok (.iinc 6 1, 3) := dAX10_leaves (102, (.iinc 6 1, 3)) (List.mem_of_getElem? (i := 59) rfl)
theorem dX10_leaves_105 : decode cX10_leaves 105 = .ok (.goto (-61), 3) := dAX10_leaves (105, (.goto (-61), 3)) (List.mem_of_getElem? (i := 60) rfl)
theorem dX10_leaves_108 : decode cX10_leaves 108 = .ok (.aload_n 0, 1) := dAX10_leaves (108, (.aload_n 0, 1)) (List.mem_of_getElem? (i := 61) rfl)
theorem dX10_leaves_109 : decode cX10_leaves 109 = .ok (.aload_n 1, 1) := dAX10_leaves (109, (.aload_n 1, 1)) (List.mem_of_getElem? (i := 62) rfl)
theorem dX10_leaves_110 : decode cX10_leaves 110 = .ok (.iload 5, 2) := dAX10_leaves (110, (.iload 5, 2)) (List.mem_of_getElem? (i := 63) rfl)
theorem dX10_leaves_112 : decode cX10_leaves 112 = .ok (.invokevirtual 270, 3) := dAX10_leaves (112, (.invokevirtual 270, 3)) (List.mem_of_getElem? (i := 64) rfl)
theorem dX10_leaves_115 : decode cX10_leaves 115 = .ok (.iload_n 2, 1) := dAX10_leaves (115, (.iload_n 2, 1)) (List.mem_of_getElem? (i := 65) rfl)
theorem dX10_leaves_116 : decode cX10_leaves 116 = .ok (.iload 5, 2) := dAX10_leaves (116, (.iload 5, 2)) (List.mem_of_getElem? (i := 66) rfl)
theorem dX10_leaves_118 : decode cX10_leaves 118 = .ok (.ior, 1) := dAX10_leaves (118, (.ior, 1)) (List.mem_of_getElem? (i := 67) rfl)
theorem dX10_leaves_119 : decode cX10_leaves 119 = .ok (.istore_n 2, 1) := dAX10_leaves (119, (.istore_n 2, 1)) (List.mem_of_getElem? (i := 68) rfl)
theorem dX10_leaves_120 : decode cX10_leaves 120 = .ok (.iload 5, 2) := dAX10_leaves (120, (.iload 5, 2)) (List.mem_of_getElem? (i := 69) rfl)
theorem dX10_leaves_122 : decode cX10_leaves 122 = .ok (.ifCond .eq 7, 3) := dAX10_leaves (122, (.ifCond .eq 7, 3)) (List.mem_of_getElem? (i := 70) rfl)
theorem dX10_leaves_125 : decode cX10_leaves 125 = .ok (.iconst 1, 1) := dAX10_leaves (125, (.iconst 1, 1)) (List.mem_of_getElem? (i := 71) rfl)
theorem dX10_leaves_126 : decode cX10_leaves 126 = .ok (.goto 4, 3) := dAX10_leaves (126, (.goto 4, 3)) (List.mem_of_getElem? (i := 72) rfl)
theorem dX10_leaves_129 : decode cX10_leaves 129 = .ok (.iconst 0, 1) := dAX10_leaves (129, (.iconst 0, 1)) (List.mem_of_getElem? (i := 73) rfl)
theorem dX10_leaves_130 : decode cX10_leaves 130 = .ok (.istore_n 3, 1) := dAX10_leaves (130, (.istore_n 3, 1)) (List.mem_of_getElem? (i := 74) rfl)
theorem dX10_leaves_131 : decode cX10_leaves 131 = .ok (.aload_n 0, 1) := dAX10_leaves (131, (.aload_n 0, 1)) (List.mem_of_getElem? (i := 75) rfl)
theorem dX10_leaves_132 : decode cX10_leaves 132 = .ok (.dup, 1) := dAX10_leaves (132, (.dup, 1)) (List.mem_of_getElem? (i := 76) rfl)
theorem dX10_leaves_133 : decode cX10_leaves 133 = .ok (.getfield 256, 3) := dAX10_leaves (133, (.getfield 256, 3)) (List.mem_of_getElem? (i := 77) rfl)
theorem dX10_leaves_136 : decode cX10_leaves 136 = .ok (.iload_n 3, 1) := dAX10_leaves (136, (.iload_n 3, 1)) (List.mem_of_getElem? (i := 78) rfl)
theorem dX10_leaves_137 : decode cX10_leaves 137 = .ok (.ifCond .eq 7, 3) := dAX10_leaves (137, (.ifCond .eq 7, 3)) (List.mem_of_getElem? (i := 79) rfl)
theorem dX10_leaves_140 : decode cX10_leaves 140 = .ok (.iconst 1, 1) := dAX10_leaves (140, (.iconst 1, 1)) (List.mem_of_getElem? (i := 80) rfl)
theorem dX10_leaves_141 : decode cX10_leaves 141 = .ok (.goto 4, 3) := dAX10_leaves (141, (.goto 4, 3)) (List.mem_of_getElem? (i := 81) rfl)
theorem dX10_leaves_144 : decode cX10_leaves 144 = .ok (.iconst 0, 1) := dAX10_leaves (144, (.iconst 0, 1)) (List.mem_of_getElem? (i := 82) rfl)
theorem dX10_leaves_145 : decode cX10_leaves 145 = .ok (.iadd, 1) := dAX10_leaves (145, (.iadd, 1)) (List.mem_of_getElem? (i := 83) rfl)
theorem dX10_leaves_146 : decode cX10_leaves 146 = .ok (.putfield 256, 3) := dAX10_leaves (146, (.putfield 256, 3)) (List.mem_of_getElem? (i := 84) rfl)
theorem dX10_leaves_149 : decode cX10_leaves 149 = .ok (.goto (-140), 3) := dAX10_leaves (149, (.goto (-140), 3)) (List.mem_of_getElem? (i := 85) rfl)
theorem dX10_leaves_152 : decode cX10_leaves 152 = .ok (.iload_n 2, 1) := dAX10_leaves (152, (.iload_n 2, 1)) (List.mem_of_getElem? (i := 86) rfl)
theorem dX10_leaves_153 : decode cX10_leaves 153 = .ok (.ireturn, 1) := dAX10_leaves (153, (.ireturn, 1)) (List.mem_of_getElem? (i := 87) rfl)
set_option maxRecDepth 20000 in
theorem ggX10_leaves_X10_thereOf : GoodIn wsX10_leaves wsX10_thereOf := goodIn_r _ [7, 2, 8, 9, 6, 10, 26, 27, 28, 29, 30, 31, 32, 33, 34, 35, 36, 37, 38, 39, 40, 41, 42, 43, 44, 45, 46, 47, 48, 49, 50, 51, 52, 53, 54, 55, 56, 57, 58, 59, 60] rfl (by decide +kernel)
set_option maxRecDepth 20000 in
theorem gX10_leaves_X10_thereOf : GoodIn wsX10_leaves (wsV RX10 259 RX10 yX10_thereOf wsX10_thereOf) := goodIn_app (goodIn_of _ (by decide +kernel)) ggX10_leaves_X10_thereOf
set_option maxRecDepth 20000 in
theorem ggX10_leaves_X10_isIn : GoodIn wsX10_leaves wsX10_isIn := goodIn_r _ [10] rfl (by decide +kernel)
set_option maxRecDepth 20000 in
theorem gX10_leaves_X10_isIn : GoodIn wsX10_leaves (va_wsS RX10 248 yX10_isIn wsX10_isIn) := goodIn_app (goodIn_of _ (by decide +kernel)) ggX10_leaves_X10_isIn
set_option maxRecDepth 20000 in
theorem ggX10_leaves_X10_willOf : GoodIn wsX10_leaves wsX10_willOf := goodIn_r _ [14, 2, 8, 9, 6, 10, 26, 27, 28, 29, 30, 31, 32, 33, 34, 35, 36, 37, 38, 39, 40, 41, 42, 43, 44, 45, 46, 47, 48, 49, 50, 51, 52, 53, 54, 55, 56, 57, 58, 59, 60] rfl (by decide +kernel)
set_option maxRecDepth 20000 in
theorem gX10_leaves_X10_willOf : GoodIn wsX10_leaves (wsV RX10 263 RX10 yX10_willOf wsX10_willOf) := goodIn_app (goodIn_of _ (by decide +kernel)) ggX10_leaves_X10_willOf
set_option maxRecDepth 20000 in
theorem ggX10_leaves_X10_kindOf : GoodIn wsX10_leaves wsX10_kindOf := goodIn_r _ [18, 2, 26, 27, 28, 29, 30, 31, 32, 33, 34, 35, 36, 37, 38, 39, 40, 41, 42, 43, 44, 45, 46, 47, 48, 49, 50, 51, 52, 53, 54, 55, 56, 57, 58, 59, 60] rfl (by decide +kernel)
set_option maxRecDepth 20000 in
theorem gX10_leaves_X10_kindOf : GoodIn wsX10_leaves (wsV RX10 267 RX10 yX10_kindOf wsX10_kindOf) := goodIn_app (goodIn_of _ (by decide +kernel)) ggX10_leaves_X10_kindOf
set_option maxRecDepth 20000 in
theorem ggX10_leaves_X10_goes : GoodIn wsX10_leaves wsX10_goes := goodIn_r _ [22, 2, 23, 24, 6, 25, 8, 9, 10, 26, 27, 28, 29, 30, 31, 32, 33, 34, 35, 36, 37, 38, 39, 40, 41, 42, 43, 44, 45, 46, 47, 48, 49, 50, 51, 52, 53, 54, 55, 56, 57, 58, 59, 60] rfl (by decide +kernel)
set_option maxRecDepth 20000 in
theorem gX10_leaves_X10_goes : GoodIn wsX10_leaves (wsV RX10 270 RX10 yX10_goes wsX10_goes) := goodIn_app (goodIn_of _ (by decide +kernel)) ggX10_leaves_X10_goes
theorem kX10_leaves_256 : Cond.fieldLink RX10 256 "EveningVowModel" "roundMany" "I" ∈ wsX10_leaves := List.mem_of_getElem? (i := 1) rfl
theorem iX10_leaves_X10 : ∀ w ∈ u_ws RX10 TX10 35, w ∈ wsX10_leaves := fun w h => (List.mem_cons_of_mem _ (List.mem_append_right _ h))
theorem kX10_leaves_20 : Cond.fieldLink RX10 20 "EveningVowModel" "\x72" "[I" ∈ wsX10_leaves := List.mem_of_getElem? (i := 2) rfl
set_option maxHeartbeats 4000000 in
set_option maxRecDepth 100000 in
theorem wX10_leaves_L44 {p : Program} {l : Launch} {e : Env} {s : State} {m : MethodId} {args : Array Value} {below : List Frame} {meth : Method} {c : Code} {g : GG} {A : Nat → Prop} (C0 : Cx p s m args meth c cX10_leaves 7 (some .int) RX10 wsX10_leaves g A) (a_t : Nat) (a_r1 : Nat) (p_t : Nat → Nat) (n : Nat) (x2 : Int32) (x4 : Int32) (o_t : Nat → Int32) (f_t_15 : Nat → Int32) (f_r1 : Nat → Int32)  (r : Int32) (o_t' : Nat → Int32) (f_r1' : Nat → Int32) (K : Int32 → Option (Int32 × (Nat → Int32) × (Nat → Int32))) (hKx : ∀ (x5 : Int32) (H : Heap) (locs : List Loc) (ls : Array Slot), K x5 = some (r, o_t', f_r1') → va_P g.1 vwCl [oX10 a_t p_t o_t, aI g (p_t 15) 266 f_t_15, aI g a_r1 17 f_r1] H → va_D A [oX10 a_t p_t o_t, aI g (p_t 15) 266 f_t_15, aI g a_r1 17 f_r1] → va_S A s.heap H locs → lv_has ls 7 [(0, .ref a_t), (1, .ref a_r1), (2, .int x2), (5, .int x5)] → W p l e ({ frames := 2, cells := 0, slots := 0, locals := 45 } : Room) s m args below meth c H locs 0 0 (MQ below (EndI g r [oX10 a_t p_t o_t', aI g (p_t 15) 266 f_t_15, aI g a_r1 17 f_r1'] A) args s 0 0 A) (F0 m 108 ls [])) : ∀ (k : Nat) (x5 : Int32) (x6 : Int32), fX10_leaves_L44 n x2 x4 o_t f_t_15 f_r1 K k x5 x6 = some (r, o_t', f_r1') → ∀ (H : Heap) (locs : List Loc) (ls : Array Slot), va_P g.1 vwCl [oX10 a_t p_t o_t, aI g (p_t 15) 266 f_t_15, aI g a_r1 17 f_r1] H → va_D A [oX10 a_t p_t o_t, aI g (p_t 15) 266 f_t_15, aI g a_r1 17 f_r1] → va_S A s.heap H locs → lv_has ls 7 [(0, .ref a_t), (1, .ref a_r1), (2, .int x2), (4, .int x4), (5, .int x5), (6, .int x6)] → W p l e ({ frames := 2, cells := 0, slots := 0, locals := 45 } : Room) s m args below meth c H locs 0 0 (MQ below (EndI g r [oX10 a_t p_t o_t', aI g (p_t 15) 266 f_t_15, aI g a_r1 17 f_r1'] A) args s 0 0 A) (F0 m 44 ls []) := by
  obtain ⟨hx, hb, hml, hown, hts, hr, hlk, hK, hA, hSW⟩ := id C0
  intro k
  induction k with
  | zero =>
    intro x5 x6 hF
    exact absurd hF (by simp [fX10_leaves_L44])
  | succ k ih =>
    intro x5 x6 hF H locs ls hP hD hS hl
    rw [fX10_leaves_L44] at hF
    refine lv_iload hx hb dX10_leaves_44 (lv_at hl 5 rfl) ?_
    refine lv_aload_n hx hb dX10_leaves_46 rfl (lv_at hl 0 rfl) ?_
    refine va_get (D := g.1) (ci := 10) (v := .ref (p_t 15)) (C := RX10) (T := TX10) (N := 35) hx hb hts iX10_leaves_X10 hown hK.1 hP 0 rfl rfl 15 (by decide) (hts _ kX10_leaves_20) (fun _ h9 => h9) rfl dX10_leaves_47 ?_
    refine lv_iconst (v := (3 : Int32)) hx hb dX10_leaves_50 (by decide) ?_
    refine va_iald_k (j := 3) hx hb hK.1 hP 1 0 rfl rfl (by unfold vp_in; decide) rfl dX10_leaves_51 ?_
    refine lv_icmp_ge (tgt := 108) hx hb dX10_leaves_52 (by decide) (fun c_5 => ?_) (fun c_5 => ?_)
    · have hF := it_p c_5 hF
      exact hKx x5 _ _ _ hF (hP.sub [0, 1, 2] rfl) (hD.sub [0, 1, 2] rfl rfl) hS (lv_sub hl [0, 1, 2, 4] rfl)
    · have hF := it_n c_5 hF
      refine lv_iload hx hb dX10_leaves_55 (lv_at hl 4 rfl) ?_
      refine lv_aload_n hx hb dX10_leaves_57 rfl (lv_at hl 1 rfl) ?_
      refine lv_iload hx hb dX10_leaves_58 (lv_at hl 5 rfl) ?_
      obtain ⟨u_6, hu_7, hF⟩ := ob1_some hF
      refine call_si (wr := [oX10 a_t p_t o_t, aI g (p_t 15) 266 f_t_15]) (As := [.ref a_r1, .int x6]) (rest := [.int x5]) C0 (mX10_isIn l g a_r1 n x6 f_r1 u_6 hu_7) (va_cwS 2 hts gX10_leaves_X10_isIn rfl rfl rfl (by decide +kernel) ⟨Nat.le_of_ble_eq_true rfl, Nat.le_of_ble_eq_true rfl⟩) hP hD hS [2] [0, 1] rfl rfl rfl rfl rfl (by decide) hl.1 rfl rfl (Nat.le_of_ble_eq_true rfl) ⟨Nat.zero_le _, Nat.zero_le _⟩ dX10_leaves_60 ?_
      intro H locs hP hD hS
      refine lv_if_eq (tgt := 98) hx hb dX10_leaves_63 (by decide) (fun c_8 => ?_) (fun c_8 => ?_)
      · have hF := it_p c_8 hF
        refine lv_iconst (v := (0 : Int32)) hx hb dX10_leaves_98 (by decide) ?_
        refine lv_ior hx hb dX10_leaves_99 ?_
        refine lv_istore (lv' := [(5, .int (x5 ||| (0 : Int32))), (0, .ref a_t), (1, .ref a_r1), (2, .int x2), (4, .int x4), (6, .int x6)]) hx hb dX10_leaves_100 hl (by decide) rfl (fun ls hl => ?_)
        refine lv_iinc (v := (x6 + (1 : Int32))) (lv' := [(6, .int (x6 + (1 : Int32))), (5, .int (x5 ||| (0 : Int32))), (0, .ref a_t), (1, .ref a_r1), (2, .int x2), (4, .int x4)]) hx hb dX10_leaves_102 hl (k := 5) rfl rfl (by decide) rfl (fun ls hl => ?_)
        refine lv_goto (tgt := 44) hx hb dX10_leaves_105 (by decide) ?_
        exact ih (x5 ||| (0 : Int32)) (x6 + (1 : Int32)) hF _ _ _ (hP.sub [0, 1, 2] rfl) (hD.sub [0, 1, 2] rfl rfl) hS (lv_sub hl [2, 3, 4, 5, 1, 0] rfl)
      · have hF := it_n c_8 hF
        refine lv_aload_n hx hb dX10_leaves_66 rfl (lv_at hl 0 rfl) ?_
        refine lv_aload_n hx hb dX10_leaves_67 rfl (lv_at hl 1 rfl) ?_
        refine lv_iload hx hb dX10_leaves_68 (lv_at hl 5 rfl) ?_
        obtain ⟨u_9, hu_10, hF⟩ := ob1_some hF
        refine call_i (wr := []) (As := [.ref a_r1, .int x6]) (rest := [.int x5]) (ci := 10) (q0 := 0) C0 (mX10_willOf l g a_t a_r1 p_t n x6 o_t f_t_15 f_r1 u_9 hu_10) (cwV 2 hts gX10_leaves_X10_willOf rfl rfl rfl (by decide +kernel) ⟨Nat.le_of_ble_eq_true rfl, Nat.le_of_ble_eq_true rfl⟩) hP hD hS [0, 1, 2] [] rfl rfl rfl rfl rfl (by decide) rfl rfl hl.1 rfl rfl (Nat.le_of_ble_eq_true rfl) ⟨Nat.zero_le _, Nat.zero_le _⟩ dX10_leaves_70 ?_
        intro H locs hP hD hS
        refine lv_if_gt (tgt := 98) hx hb dX10_leaves_73 (by decide) (fun c_11 => ?_) (fun c_11 => ?_)
        · have hF := it_p c_11 hF
          refine lv_iconst (v := (0 : Int32)) hx hb dX10_leaves_98 (by decide) ?_
          refine lv_ior hx hb dX10_leaves_99 ?_
          refine lv_istore (lv' := [(5, .int (x5 ||| (0 : Int32))), (0, .ref a_t), (1, .ref a_r1), (2, .int x2), (4, .int x4), (6, .int x6)]) hx hb dX10_leaves_100 hl (by decide) rfl (fun ls hl => ?_)
          refine lv_iinc (v := (x6 + (1 : Int32))) (lv' := [(6, .int (x6 + (1 : Int32))), (5, .int (x5 ||| (0 : Int32))), (0, .ref a_t), (1, .ref a_r1), (2, .int x2), (4, .int x4)]) hx hb dX10_leaves_102 hl (k := 5) rfl rfl (by decide) rfl (fun ls hl => ?_)
          refine lv_goto (tgt := 44) hx hb dX10_leaves_105 (by decide) ?_
          exact ih (x5 ||| (0 : Int32)) (x6 + (1 : Int32)) hF _ _ _ (hP.sub [0, 1, 2] rfl) (hD.sub [0, 1, 2] rfl rfl) hS (lv_sub hl [2, 3, 4, 5, 1, 0] rfl)
        · have hF := it_n c_11 hF
          refine lv_iload hx hb dX10_leaves_76 (lv_at hl 3 rfl) ?_
          refine lv_if_ne (tgt := 91) hx hb dX10_leaves_78 (by decide) (fun c_12 => ?_) (fun c_12 => ?_)
          · have hF := it_n c_12 hF
            refine lv_iconst (v := (1 : Int32)) hx hb dX10_leaves_91 (by decide) ?_
            refine lv_iload hx hb dX10_leaves_92 (lv_at hl 5 rfl) ?_
            refine lv_ishl hx hb dX10_leaves_94 ?_
            refine lv_goto (tgt := 99) hx hb dX10_leaves_95 (by decide) ?_
            refine lv_ior hx hb dX10_leaves_99 ?_
            refine lv_istore (lv' := [(5, .int (x5 ||| ((1 : Int32) <<< (x6 &&& 31)))), (0, .ref a_t), (1, .ref a_r1), (2, .int x2), (4, .int x4), (6, .int x6)]) hx hb dX10_leaves_100 hl (by decide) rfl (fun ls hl => ?_)
            refine lv_iinc (v := (x6 + (1 : Int32))) (lv' := [(6, .int (x6 + (1 : Int32))), (5, .int (x5 ||| ((1 : Int32) <<< (x6 &&& 31)))), (0, .ref a_t), (1, .ref a_r1), (2, .int x2), (4, .int x4)]) hx hb dX10_leaves_102 hl (k := 5) rfl rfl (by decide) rfl (fun ls hl => ?_)
            refine lv_goto (tgt := 44) hx hb dX10_leaves_105 (by decide) ?_
            exact ih (x5 ||| ((1 : Int32) <<< (x6 &&& 31))) (x6 + (1 : Int32)) hF _ _ _ (hP.sub [0, 1, 2] rfl) (hD.sub [0, 1, 2] rfl rfl) hS (lv_sub hl [2, 3, 4, 5, 1, 0] rfl)
          · have hF := it_p c_12 hF
            refine lv_aload_n hx hb dX10_leaves_81 rfl (lv_at hl 0 rfl) ?_
            refine lv_iload hx hb dX10_leaves_82 (lv_at hl 5 rfl) ?_
            obtain ⟨u_13, hu_14, hF⟩ := ob1_some hF
            refine call_i (wr := [aI g a_r1 17 f_r1]) (As := [.int x6]) (rest := [.int x5]) (ci := 10) (q0 := 0) C0 (mX10_kindOf l g a_t p_t n x6 o_t f_t_15 u_13 hu_14) (cwV 1 hts gX10_leaves_X10_kindOf rfl rfl rfl (by decide +kernel) ⟨Nat.le_of_ble_eq_true rfl, Nat.le_of_ble_eq_true rfl⟩) hP hD hS [0, 1] [2] rfl rfl rfl rfl rfl (by decide) rfl rfl hl.1 rfl rfl (Nat.le_of_ble_eq_true rfl) ⟨Nat.zero_le _, Nat.zero_le _⟩ dX10_leaves_84 ?_
            intro H locs hP hD hS
            refine lv_iconst (v := (1 : Int32)) hx hb dX10_leaves_87 (by decide) ?_
            refine lv_icmp_eq (tgt := 98) hx hb dX10_leaves_88 (by decide) (fun c_15 => ?_) (fun c_15 => ?_)
            · have hF := it_p c_15 hF
              refine lv_iconst (v := (0 : Int32)) hx hb dX10_leaves_98 (by decide) ?_
              refine lv_ior hx hb dX10_leaves_99 ?_
              refine lv_istore (lv' := [(5, .int (x5 ||| (0 : Int32))), (0, .ref a_t), (1, .ref a_r1), (2, .int x2), (4, .int x4), (6, .int x6)]) hx hb dX10_leaves_100 hl (by decide) rfl (fun ls hl => ?_)
              refine lv_iinc (v := (x6 + (1 : Int32))) (lv' := [(6, .int (x6 + (1 : Int32))), (5, .int (x5 ||| (0 : Int32))), (0, .ref a_t), (1, .ref a_r1), (2, .int x2), (4, .int x4)]) hx hb dX10_leaves_102 hl (k := 5) rfl rfl (by decide) rfl (fun ls hl => ?_)
              refine lv_goto (tgt := 44) hx hb dX10_leaves_105 (by decide) ?_
              exact ih (x5 ||| (0 : Int32)) (x6 + (1 : Int32)) hF _ _ _ (hP.sub [1, 2, 0] rfl) (hD.sub [1, 2, 0] rfl rfl) hS (lv_sub hl [2, 3, 4, 5, 1, 0] rfl)
            · have hF := it_n c_15 hF
              refine lv_iconst (v := (1 : Int32)) hx hb dX10_leaves_91 (by decide) ?_
              refine lv_iload hx hb dX10_leaves_92 (lv_at hl 5 rfl) ?_
              refine lv_ishl hx hb dX10_leaves_94 ?_
              refine lv_goto (tgt := 99) hx hb dX10_leaves_95 (by decide) ?_
              refine lv_ior hx hb dX10_leaves_99 ?_
              refine lv_istore (lv' := [(5, .int (x5 ||| ((1 : Int32) <<< (x6 &&& 31)))), (0, .ref a_t), (1, .ref a_r1), (2, .int x2), (4, .int x4), (6, .int x6)]) hx hb dX10_leaves_100 hl (by decide) rfl (fun ls hl => ?_)
              refine lv_iinc (v := (x6 + (1 : Int32))) (lv' := [(6, .int (x6 + (1 : Int32))), (5, .int (x5 ||| ((1 : Int32) <<< (x6 &&& 31)))), (0, .ref a_t), (1, .ref a_r1), (2, .int x2), (4, .int x4)]) hx hb dX10_leaves_102 hl (k := 5) rfl rfl (by decide) rfl (fun ls hl => ?_)
              refine lv_goto (tgt := 44) hx hb dX10_leaves_105 (by decide) ?_
              exact ih (x5 ||| ((1 : Int32) <<< (x6 &&& 31))) (x6 + (1 : Int32)) hF _ _ _ (hP.sub [1, 2, 0] rfl) (hD.sub [1, 2, 0] rfl rfl) hS (lv_sub hl [2, 3, 4, 5, 1, 0] rfl)
set_option maxHeartbeats 4000000 in
set_option maxRecDepth 100000 in
theorem wX10_leaves_L9 {p : Program} {l : Launch} {e : Env} {s : State} {m : MethodId} {args : Array Value} {below : List Frame} {meth : Method} {c : Code} {g : GG} {A : Nat → Prop} (C0 : Cx p s m args meth c cX10_leaves 7 (some .int) RX10 wsX10_leaves g A) (a_t : Nat) (a_r1 : Nat) (p_t : Nat → Nat) (n : Nat) (f_t_15 : Nat → Int32)  (r : Int32) (o_t' : Nat → Int32) (f_r1' : Nat → Int32) (K : Int32 → (Nat → Int32) → (Nat → Int32) → Option (Int32 × (Nat → Int32) × (Nat → Int32))) (hKx : ∀ (x2 : Int32) (o_t : Nat → Int32) (f_r1 : Nat → Int32) (H : Heap) (locs : List Loc) (ls : Array Slot), K x2 o_t f_r1 = some (r, o_t', f_r1') → va_P g.1 vwCl [oX10 a_t p_t o_t, aI g (p_t 15) 266 f_t_15, aI g a_r1 17 f_r1] H → va_D A [oX10 a_t p_t o_t, aI g (p_t 15) 266 f_t_15, aI g a_r1 17 f_r1] → va_S A s.heap H locs → lv_has ls 7 [(2, .int x2)] → W p l e ({ frames := 2, cells := 0, slots := 0, locals := 45 } : Room) s m args below meth c H locs 0 0 (MQ below (EndI g r [oX10 a_t p_t o_t', aI g (p_t 15) 266 f_t_15, aI g a_r1 17 f_r1'] A) args s 0 0 A) (F0 m 152 ls [])) : ∀ (k : Nat) (x2 : Int32) (x3 : Int32) (o_t : Nat → Int32) (f_r1 : Nat → Int32), fX10_leaves_L9 n f_t_15 K k x2 x3 o_t f_r1 = some (r, o_t', f_r1') → ∀ (H : Heap) (locs : List Loc) (ls : Array Slot), va_P g.1 vwCl [oX10 a_t p_t o_t, aI g (p_t 15) 266 f_t_15, aI g a_r1 17 f_r1] H → va_D A [oX10 a_t p_t o_t, aI g (p_t 15) 266 f_t_15, aI g a_r1 17 f_r1] → va_S A s.heap H locs → lv_has ls 7 [(0, .ref a_t), (1, .ref a_r1), (2, .int x2), (3, .int x3)] → W p l e ({ frames := 2, cells := 0, slots := 0, locals := 45 } : Room) s m args below meth c H locs 0 0 (MQ below (EndI g r [oX10 a_t p_t o_t', aI g (p_t 15) 266 f_t_15, aI g a_r1 17 f_r1'] A) args s 0 0 A) (F0 m 9 ls []) := by
  obtain ⟨hx, hb, hml, hown, hts, hr, hlk, hK, hA, hSW⟩ := id C0
  intro k
  induction k with
  | zero =>
    intro x2 x3 o_t f_r1 hF
    exact absurd hF (by simp [fX10_leaves_L9])
  | succ k ih =>
    intro x2 x3 o_t f_r1 hF H locs ls hP hD hS hl
    rw [fX10_leaves_L9] at hF
    refine lv_iload_n hx hb dX10_leaves_9 rfl (lv_at hl 3 rfl) ?_
    refine lv_if_eq (tgt := 152) hx hb dX10_leaves_10 (by decide) (fun c_1 => ?_) (fun c_1 => ?_)
    · have hF := it_p c_1 hF
      exact hKx x2 o_t f_r1 _ _ _ hF (hP.sub [0, 1, 2] rfl) (hD.sub [0, 1, 2] rfl rfl) hS (lv_sub hl [2] rfl)
    · have hF := it_n c_1 hF
      refine lv_aload_n hx hb dX10_leaves_13 rfl (lv_at hl 0 rfl) ?_
      refine lv_aload_n hx hb dX10_leaves_14 rfl (lv_at hl 1 rfl) ?_
      obtain ⟨u_2, hu_3, hF⟩ := ob1_some hF
      refine call_i (wr := []) (As := [.ref a_r1]) (rest := []) (ci := 10) (q0 := 0) C0 (mX10_thereOf l g a_t a_r1 p_t n o_t f_t_15 f_r1 u_2 hu_3) (cwV 1 hts gX10_leaves_X10_thereOf rfl rfl rfl (by decide +kernel) ⟨Nat.le_of_ble_eq_true rfl, Nat.le_of_ble_eq_true rfl⟩) hP hD hS [0, 1, 2] [] rfl rfl rfl rfl rfl (by decide) rfl rfl hl.1 rfl rfl (Nat.le_of_ble_eq_true rfl) ⟨Nat.zero_le _, Nat.zero_le _⟩ dX10_leaves_15 ?_
      intro H locs hP hD hS
      refine lv_iconst (v := (1 : Int32)) hx hb dX10_leaves_18 (by decide) ?_
      refine lv_aload_n hx hb dX10_leaves_19 rfl (lv_at hl 0 rfl) ?_
      refine va_get (D := g.1) (ci := 10) (v := .ref (p_t 15)) (C := RX10) (T := TX10) (N := 35) hx hb hts iX10_leaves_X10 hown hK.1 hP 0 rfl rfl 15 (by decide) (hts _ kX10_leaves_20) (fun _ h9 => h9) rfl dX10_leaves_20 ?_
      refine lv_iconst (v := (3 : Int32)) hx hb dX10_leaves_23 (by decide) ?_
      refine va_iald_k (j := 3) hx hb hK.1 hP 1 0 rfl rfl (by unfold vp_in; decide) rfl dX10_leaves_24 ?_
      refine lv_ishl hx hb dX10_leaves_25 ?_
      refine lv_iconst (v := (1 : Int32)) hx hb dX10_leaves_26 (by decide) ?_
      refine lv_isub hx hb dX10_leaves_27 ?_
      refine lv_icmp_eq (tgt := 35) hx hb dX10_leaves_28 (by decide) (fun c_4 => ?_) (fun c_4 => ?_)
      · have hF := it_p c_4 hF
        refine lv_iconst (v := (0 : Int32)) hx hb dX10_leaves_35 (by decide) ?_
        refine lv_istore (lv' := [(4, .int (0 : Int32)), (0, .ref a_t), (1, .ref a_r1), (2, .int x2), (3, .int x3)]) hx hb dX10_leaves_36 hl (by decide) rfl (fun ls hl => ?_)
        refine lv_iconst (v := (0 : Int32)) hx hb dX10_leaves_38 (by decide) ?_
        refine lv_istore (lv' := [(5, .int (0 : Int32)), (4, .int (0 : Int32)), (0, .ref a_t), (1, .ref a_r1), (2, .int x2), (3, .int x3)]) hx hb dX10_leaves_39 hl (by decide) rfl (fun ls hl => ?_)
        refine lv_iconst (v := (0 : Int32)) hx hb dX10_leaves_41 (by decide) ?_
        refine lv_istore (lv' := [(6, .int (0 : Int32)), (5, .int (0 : Int32)), (4, .int (0 : Int32)), (0, .ref a_t), (1, .ref a_r1), (2, .int x2), (3, .int x3)]) hx hb dX10_leaves_42 hl (by decide) rfl (fun ls hl => ?_)
        refine wX10_leaves_L44 C0 a_t a_r1 p_t n x2 (0 : Int32) o_t f_t_15 f_r1 r o_t' f_r1' _ ?_ n (0 : Int32) (0 : Int32) hF _ _ _ (hP.sub [0, 1, 2] rfl) (hD.sub [0, 1, 2] rfl rfl) hS (lv_sub hl [3, 4, 5, 2, 1, 0] rfl)
        · intro x5_x44 H locs ls hF hP hD hS hl
          refine lv_aload_n hx hb dX10_leaves_108 rfl (lv_at hl 0 rfl) ?_
          refine lv_aload_n hx hb dX10_leaves_109 rfl (lv_at hl 1 rfl) ?_
          refine lv_iload hx hb dX10_leaves_110 (lv_at hl 3 rfl) ?_
          obtain ⟨u_16, hu_17, hF⟩ := ob1_some hF
          refine call_v (wr := []) (As := [.ref a_r1, .int x5_x44]) (rest := []) (ci := 10) (q0 := 0) C0 (mX10_goes l g a_t a_r1 p_t n x5_x44 o_t f_t_15 f_r1 u_16 hu_17) (cwV 2 hts gX10_leaves_X10_goes rfl rfl rfl (by decide +kernel) ⟨Nat.le_of_ble_eq_true rfl, Nat.le_of_ble_eq_true rfl⟩) hP hD hS [0, 1, 2] [] rfl rfl rfl rfl rfl (by decide) rfl rfl hl.1 rfl rfl (Nat.le_of_ble_eq_true rfl) ⟨Nat.zero_le _, Nat.zero_le _⟩ dX10_leaves_112 ?_
          intro H locs hP hD hS
          refine lv_iload_n hx hb dX10_leaves_115 rfl (lv_at hl 2 rfl) ?_
          refine lv_iload hx hb dX10_leaves_116 (lv_at hl 3 rfl) ?_
          refine lv_ior hx hb dX10_leaves_118 ?_
          refine lv_istore_n (lv' := [(2, .int (x2 ||| x5_x44)), (0, .ref a_t), (1, .ref a_r1), (5, .int x5_x44)]) hx hb dX10_leaves_119 rfl hl (by decide) rfl (fun ls hl => ?_)
          refine lv_iload hx hb dX10_leaves_120 (lv_at hl 3 rfl) ?_
          refine lv_if_eq (tgt := 129) hx hb dX10_leaves_122 (by decide) (fun c_18 => ?_) (fun c_18 => ?_)
          · have hF := it_p c_18 hF
            refine lv_iconst (v := (0 : Int32)) hx hb dX10_leaves_129 (by decide) ?_
            refine lv_istore_n (lv' := [(3, .int (0 : Int32)), (2, .int (x2 ||| x5_x44)), (0, .ref a_t), (1, .ref a_r1), (5, .int x5_x44)]) hx hb dX10_leaves_130 rfl hl (by decide) rfl (fun ls hl => ?_)
            refine lv_aload_n hx hb dX10_leaves_131 rfl (lv_at hl 2 rfl) ?_
            refine lv_dup hx hb dX10_leaves_132 rfl ?_
            refine va_get (D := g.1) (ci := 10) (v := .int (o_t 22)) (C := RX10) (T := TX10) (N := 35) hx hb hts iX10_leaves_X10 hown hK.1 hP 0 rfl rfl 22 (by decide) (hts _ kX10_leaves_256) (fun _ h9 => h9) rfl dX10_leaves_133 ?_
            refine lv_iload_n hx hb dX10_leaves_136 rfl (lv_at hl 0 rfl) ?_
            refine lv_if_eq (tgt := 144) hx hb dX10_leaves_137 (by decide) (fun c_19 => ?_) (fun c_19 => ?_)
            · skip
              refine lv_iconst (v := (0 : Int32)) hx hb dX10_leaves_144 (by decide) ?_
              refine lv_iadd hx hb dX10_leaves_145 ?_
              refine va_put (D := g.1) (ci := 10) (v := .int ((o_t 22) + (0 : Int32))) (ty := .int) (C := RX10) (T := TX10) (N := 35) hx hb hts iX10_leaves_X10 tyX10 tyX10_ok nmX10 hown hK.1 hP hD hS 0 rfl rfl 22 (by decide) (hts _ kX10_leaves_256) (fun _ h9 => h9) rfl (by decide +kernel) rfl rfl (Nat.le_of_ble_eq_true rfl) dX10_leaves_146 (fun H locs hP hD hS => ?_)
              have hP : va_P g.1 vwCl [oX10 a_t p_t (upd o_t 22 ((o_t 22) + (0 : Int32))), aI g (p_t 15) 266 f_t_15, aI g a_r1 17 u_16] H := hP
              have hD : va_D A [oX10 a_t p_t (upd o_t 22 ((o_t 22) + (0 : Int32))), aI g (p_t 15) 266 f_t_15, aI g a_r1 17 u_16] := hD
              refine lv_goto (tgt := 9) hx hb dX10_leaves_149 (by decide) ?_
              exact ih (x2 ||| x5_x44) (0 : Int32) (upd o_t 22 ((o_t 22) + (0 : Int32))) u_16 hF _ _ _ (hP.sub [0, 1, 2] rfl) (hD.sub [0, 1, 2] rfl rfl) hS (lv_sub hl [2, 3, 1, 0] rfl)
            · exact absurd c_19 (by decide)
          · have hF := it_n c_18 hF
            refine lv_iconst (v := (1 : Int32)) hx hb dX10_leaves_125 (by decide) ?_
            refine lv_goto (tgt := 130) hx hb dX10_leaves_126 (by decide) ?_
            refine lv_istore_n (lv' := [(3, .int (1 : Int32)), (2, .int (x2 ||| x5_x44)), (0, .ref a_t), (1, .ref a_r1), (5, .int x5_x44)]) hx hb dX10_leaves_130 rfl hl (by decide) rfl (fun ls hl => ?_)
            refine lv_aload_n hx hb dX10_leaves_131 rfl (lv_at hl 2 rfl) ?_
            refine lv_dup hx hb dX10_leaves_132 rfl ?_
            refine va_get (D := g.1) (ci := 10) (v := .int (o_t 22)) (C := RX10) (T := TX10) (N := 35) hx hb hts iX10_leaves_X10 hown hK.1 hP 0 rfl rfl 22 (by decide) (hts _ kX10_leaves_256) (fun _ h9 => h9) rfl dX10_leaves_133 ?_
            refine lv_iload_n hx hb dX10_leaves_136 rfl (lv_at hl 0 rfl) ?_
            refine lv_if_eq (tgt := 144) hx hb dX10_leaves_137 (by decide) (fun c_20 => ?_) (fun c_20 => ?_)
            · exact absurd c_20 (by decide)
            · skip
              refine lv_iconst (v := (1 : Int32)) hx hb dX10_leaves_140 (by decide) ?_
              refine lv_goto (tgt := 145) hx hb dX10_leaves_141 (by decide) ?_
              refine lv_iadd hx hb dX10_leaves_145 ?_
              refine va_put (D := g.1) (ci := 10) (v := .int ((o_t 22) + (1 : Int32))) (ty := .int) (C := RX10) (T := TX10) (N := 35) hx hb hts iX10_leaves_X10 tyX10 tyX10_ok nmX10 hown hK.1 hP hD hS 0 rfl rfl 22 (by decide) (hts _ kX10_leaves_256) (fun _ h9 => h9) rfl (by decide +kernel) rfl rfl (Nat.le_of_ble_eq_true rfl) dX10_leaves_146 (fun H locs hP hD hS => ?_)
              have hP : va_P g.1 vwCl [oX10 a_t p_t (upd o_t 22 ((o_t 22) + (1 : Int32))), aI g (p_t 15) 266 f_t_15, aI g a_r1 17 u_16] H := hP
              have hD : va_D A [oX10 a_t p_t (upd o_t 22 ((o_t 22) + (1 : Int32))), aI g (p_t 15) 266 f_t_15, aI g a_r1 17 u_16] := hD
              refine lv_goto (tgt := 9) hx hb dX10_leaves_149 (by decide) ?_
              exact ih (x2 ||| x5_x44) (1 : Int32) (upd o_t 22 ((o_t 22) + (1 : Int32))) u_16 hF _ _ _ (hP.sub [0, 1, 2] rfl) (hD.sub [0, 1, 2] rfl rfl) hS (lv_sub hl [2, 3, 1, 0] rfl)
      · have hF := it_n c_4 hF
        refine lv_iconst (v := (1 : Int32)) hx hb dX10_leaves_31 (by decide) ?_
        refine lv_goto (tgt := 36) hx hb dX10_leaves_32 (by decide) ?_
        refine lv_istore (lv' := [(4, .int (1 : Int32)), (0, .ref a_t), (1, .ref a_r1), (2, .int x2), (3, .int x3)]) hx hb dX10_leaves_36 hl (by decide) rfl (fun ls hl => ?_)
        refine lv_iconst (v := (0 : Int32)) hx hb dX10_leaves_38 (by decide) ?_
        refine lv_istore (lv' := [(5, .int (0 : Int32)), (4, .int (1 : Int32)), (0, .ref a_t), (1, .ref a_r1), (2, .int x2), (3, .int x3)]) hx hb dX10_leaves_39 hl (by decide) rfl (fun ls hl => ?_)
        refine lv_iconst (v := (0 : Int32)) hx hb dX10_leaves_41 (by decide) ?_
        refine lv_istore (lv' := [(6, .int (0 : Int32)), (5, .int (0 : Int32)), (4, .int (1 : Int32)), (0, .ref a_t), (1, .ref a_r1), (2, .int x2), (3, .int x3)]) hx hb dX10_leaves_42 hl (by decide) rfl (fun ls hl => ?_)
        refine wX10_leaves_L44 C0 a_t a_r1 p_t n x2 (1 : Int32) o_t f_t_15 f_r1 r o_t' f_r1' _ ?_ n (0 : Int32) (0 : Int32) hF _ _ _ (hP.sub [0, 1, 2] rfl) (hD.sub [0, 1, 2] rfl rfl) hS (lv_sub hl [3, 4, 5, 2, 1, 0] rfl)
        · intro x5_x44 H locs ls hF hP hD hS hl
          refine lv_aload_n hx hb dX10_leaves_108 rfl (lv_at hl 0 rfl) ?_
          refine lv_aload_n hx hb dX10_leaves_109 rfl (lv_at hl 1 rfl) ?_
          refine lv_iload hx hb dX10_leaves_110 (lv_at hl 3 rfl) ?_
          obtain ⟨u_21, hu_22, hF⟩ := ob1_some hF
          refine call_v (wr := []) (As := [.ref a_r1, .int x5_x44]) (rest := []) (ci := 10) (q0 := 0) C0 (mX10_goes l g a_t a_r1 p_t n x5_x44 o_t f_t_15 f_r1 u_21 hu_22) (cwV 2 hts gX10_leaves_X10_goes rfl rfl rfl (by decide +kernel) ⟨Nat.le_of_ble_eq_true rfl, Nat.le_of_ble_eq_true rfl⟩) hP hD hS [0, 1, 2] [] rfl rfl rfl rfl rfl (by decide) rfl rfl hl.1 rfl rfl (Nat.le_of_ble_eq_true rfl) ⟨Nat.zero_le _, Nat.zero_le _⟩ dX10_leaves_112 ?_
          intro H locs hP hD hS
          refine lv_iload_n hx hb dX10_leaves_115 rfl (lv_at hl 2 rfl) ?_
          refine lv_iload hx hb dX10_leaves_116 (lv_at hl 3 rfl) ?_
          refine lv_ior hx hb dX10_leaves_118 ?_
          refine lv_istore_n (lv' := [(2, .int (x2 ||| x5_x44)), (0, .ref a_t), (1, .ref a_r1), (5, .int x5_x44)]) hx hb dX10_leaves_119 rfl hl (by decide) rfl (fun ls hl => ?_)
          refine lv_iload hx hb dX10_leaves_120 (lv_at hl 3 rfl) ?_
          refine lv_if_eq (tgt := 129) hx hb dX10_leaves_122 (by decide) (fun c_23 => ?_) (fun c_23 => ?_)
          · have hF := it_p c_23 hF
            refine lv_iconst (v := (0 : Int32)) hx hb dX10_leaves_129 (by decide) ?_
            refine lv_istore_n (lv' := [(3, .int (0 : Int32)), (2, .int (x2 ||| x5_x44)), (0, .ref a_t), (1, .ref a_r1), (5, .int x5_x44)]) hx hb dX10_leaves_130 rfl hl (by decide) rfl (fun ls hl => ?_)
            refine lv_aload_n hx hb dX10_leaves_131 rfl (lv_at hl 2 rfl) ?_
            refine lv_dup hx hb dX10_leaves_132 rfl ?_
            refine va_get (D := g.1) (ci := 10) (v := .int (o_t 22)) (C := RX10) (T := TX10) (N := 35) hx hb hts iX10_leaves_X10 hown hK.1 hP 0 rfl rfl 22 (by decide) (hts _ kX10_leaves_256) (fun _ h9 => h9) rfl dX10_leaves_133 ?_
            refine lv_iload_n hx hb dX10_leaves_136 rfl (lv_at hl 0 rfl) ?_
            refine lv_if_eq (tgt := 144) hx hb dX10_leaves_137 (by decide) (fun c_24 => ?_) (fun c_24 => ?_)
            · skip
              refine lv_iconst (v := (0 : Int32)) hx hb dX10_leaves_144 (by decide) ?_
              refine lv_iadd hx hb dX10_leaves_145 ?_
              refine va_put (D := g.1) (ci := 10) (v := .int ((o_t 22) + (0 : Int32))) (ty := .int) (C := RX10) (T := TX10) (N := 35) hx hb hts iX10_leaves_X10 tyX10 tyX10_ok nmX10 hown hK.1 hP hD hS 0 rfl rfl 22 (by decide) (hts _ kX10_leaves_256) (fun _ h9 => h9) rfl (by decide +kernel) rfl rfl (Nat.le_of_ble_eq_true rfl) dX10_leaves_146 (fun H locs hP hD hS => ?_)
              have hP : va_P g.1 vwCl [oX10 a_t p_t (upd o_t 22 ((o_t 22) + (0 : Int32))), aI g (p_t 15) 266 f_t_15, aI g a_r1 17 u_21] H := hP
              have hD : va_D A [oX10 a_t p_t (upd o_t 22 ((o_t 22) + (0 : Int32))), aI g (p_t 15) 266 f_t_15, aI g a_r1 17 u_21] := hD
              refine lv_goto (tgt := 9) hx hb dX10_leaves_149 (by decide) ?_
              exact ih (x2 ||| x5_x44) (0 : Int32) (upd o_t 22 ((o_t 22) + (0 : Int32))) u_21 hF _ _ _ (hP.sub [0, 1, 2] rfl) (hD.sub [0, 1, 2] rfl rfl) hS (lv_sub hl [2, 3, 1, 0] rfl)
            · exact absurd c_24 (by decide)
          · have hF := it_n c_23 hF
            refine lv_iconst (v := (1 : Int32)) hx hb dX10_leaves_125 (by decide) ?_
            refine lv_goto (tgt := 130) hx hb dX10_leaves_126 (by decide) ?_
            refine lv_istore_n (lv' := [(3, .int (1 : Int32)), (2, .int (x2 ||| x5_x44)), (0, .ref a_t), (1, .ref a_r1), (5, .int x5_x44)]) hx hb dX10_leaves_130 rfl hl (by decide) rfl (fun ls hl => ?_)
            refine lv_aload_n hx hb dX10_leaves_131 rfl (lv_at hl 2 rfl) ?_
            refine lv_dup hx hb dX10_leaves_132 rfl ?_
            refine va_get (D := g.1) (ci := 10) (v := .int (o_t 22)) (C := RX10) (T := TX10) (N := 35) hx hb hts iX10_leaves_X10 hown hK.1 hP 0 rfl rfl 22 (by decide) (hts _ kX10_leaves_256) (fun _ h9 => h9) rfl dX10_leaves_133 ?_
            refine lv_iload_n hx hb dX10_leaves_136 rfl (lv_at hl 0 rfl) ?_
            refine lv_if_eq (tgt := 144) hx hb dX10_leaves_137 (by decide) (fun c_25 => ?_) (fun c_25 => ?_)
            · exact absurd c_25 (by decide)
            · skip
              refine lv_iconst (v := (1 : Int32)) hx hb dX10_leaves_140 (by decide) ?_
              refine lv_goto (tgt := 145) hx hb dX10_leaves_141 (by decide) ?_
              refine lv_iadd hx hb dX10_leaves_145 ?_
              refine va_put (D := g.1) (ci := 10) (v := .int ((o_t 22) + (1 : Int32))) (ty := .int) (C := RX10) (T := TX10) (N := 35) hx hb hts iX10_leaves_X10 tyX10 tyX10_ok nmX10 hown hK.1 hP hD hS 0 rfl rfl 22 (by decide) (hts _ kX10_leaves_256) (fun _ h9 => h9) rfl (by decide +kernel) rfl rfl (Nat.le_of_ble_eq_true rfl) dX10_leaves_146 (fun H locs hP hD hS => ?_)
              have hP : va_P g.1 vwCl [oX10 a_t p_t (upd o_t 22 ((o_t 22) + (1 : Int32))), aI g (p_t 15) 266 f_t_15, aI g a_r1 17 u_21] H := hP
              have hD : va_D A [oX10 a_t p_t (upd o_t 22 ((o_t 22) + (1 : Int32))), aI g (p_t 15) 266 f_t_15, aI g a_r1 17 u_21] := hD
              refine lv_goto (tgt := 9) hx hb dX10_leaves_149 (by decide) ?_
              exact ih (x2 ||| x5_x44) (1 : Int32) (upd o_t 22 ((o_t 22) + (1 : Int32))) u_21 hF _ _ _ (hP.sub [0, 1, 2] rfl) (hD.sub [0, 1, 2] rfl rfl) hS (lv_sub hl [2, 3, 1, 0] rfl)
set_option maxHeartbeats 4000000 in
set_option maxRecDepth 100000 in
theorem mX10_leaves (l : Launch) (g : GG) (a_t : Nat) (a_r1 : Nat) (p_t : Nat → Nat) (n : Nat) (o_t : Nat → Int32) (f_t_15 : Nat → Int32) (f_r1 : Nat → Int32) (r : Int32) (o_t' : Nat → Int32) (f_r1' : Nat → Int32) (hF : fX10_leaves n o_t f_t_15 f_r1 = some (r, o_t', f_r1')) : MI l g yX10_leaves wsX10_leaves ({ frames := 2, cells := 0, slots := 0, locals := 45 } : Room) [.ref a_t, .ref a_r1] [oX10 a_t p_t o_t, aI g (p_t 15) 266 f_t_15, aI g a_r1 17 f_r1] r [oX10 a_t p_t o_t', aI g (p_t 15) 266 f_t_15, aI g a_r1 17 f_r1'] := by
  refine MI.of (cc := cX10_leaves) (maxL := 7) (rt := .int) (own := RX10) rfl rfl (by decide) (Nat.le_of_ble_eq_true rfl) ?_
  intro p e s m args below meth c A C0 hP hD hS ls hl
  obtain ⟨hx, hb, hml, hown, hts, hr, hlk, hK, hA, hSW⟩ := id C0
  have hl : lv_has ls 7 [(0, .ref a_t), (1, .ref a_r1)] := hl
  rw [fX10_leaves] at hF
  refine lv_iconst (v := (0 : Int32)) hx hb dX10_leaves_0 (by decide) ?_
  refine lv_istore_n (lv' := [(2, .int (0 : Int32)), (0, .ref a_t), (1, .ref a_r1)]) hx hb dX10_leaves_1 rfl hl (by decide) rfl (fun ls hl => ?_)
  refine lv_aload_n hx hb dX10_leaves_2 rfl (lv_at hl 1 rfl) ?_
  refine lv_iconst (v := (0 : Int32)) hx hb dX10_leaves_3 (by decide) ?_
  refine va_put (D := g.1) (ci := 10) (v := .int (0 : Int32)) (ty := .int) (C := RX10) (T := TX10) (N := 35) hx hb hts iX10_leaves_X10 tyX10 tyX10_ok nmX10 hown hK.1 hP hD hS 0 rfl rfl 22 (by decide) (hts _ kX10_leaves_256) (fun _ h9 => h9) rfl (by decide +kernel) rfl rfl (Nat.le_of_ble_eq_true rfl) dX10_leaves_4 (fun H locs hP hD hS => ?_)
  have hP : va_P g.1 vwCl [oX10 a_t p_t (upd o_t 22 (0 : Int32)), aI g (p_t 15) 266 f_t_15, aI g a_r1 17 f_r1] H := hP
  have hD : va_D A [oX10 a_t p_t (upd o_t 22 (0 : Int32)), aI g (p_t 15) 266 f_t_15, aI g a_r1 17 f_r1] := hD
  refine lv_iconst (v := (1 : Int32)) hx hb dX10_leaves_7 (by decide) ?_
  refine lv_istore_n (lv' := [(3, .int (1 : Int32)), (2, .int (0 : Int32)), (0, .ref a_t), (1, .ref a_r1)]) hx hb dX10_leaves_8 rfl hl (by decide) rfl (fun ls hl => ?_)
  refine wX10_leaves_L9 C0 a_t a_r1 p_t n f_t_15 r o_t' f_r1' _ ?_ n (0 : Int32) (1 : Int32) (upd o_t 22 (0 : Int32)) f_r1 hF _ _ _ (hP.sub [0, 1, 2] rfl) (hD.sub [0, 1, 2] rfl rfl) hS (lv_sub hl [2, 3, 1, 0] rfl)
  · intro x2_x9 o_t_x9 f_r1_x9 H locs ls hF hP hD hS hl
    refine lv_iload_n hx hb dX10_leaves_152 rfl (lv_at hl 0 rfl) ?_
    cases hF
    exact ret_i C0 hP hD hS [0, 1, 2] rfl rfl rfl dX10_leaves_153 rfl

theorem dAX10_doesSink : ∀ q ∈ ([(0, (.aload_n 1, 1)), (1, (.iload_n 2, 1)), (2, (.invokestatic 248, 3)), (5, (.ifCond .eq 34, 3)), (8, (.aload_n 0, 1)), (9, (.iload_n 2, 1)), (10, (.invokevirtual 267, 3)), (13, (.iconst 3, 1)), (14, (.if_icmp .eq 25, 3)), (17, (.aload_n 0, 1)), (18, (.iload_n 2, 1)), (19, (.invokevirtual 267, 3)), (22, (.iconst 2, 1)), (23, (.if_icmp .ne 12, 3)), (26, (.aload_n 1, 1)), (27, (.bipush 14, 2)), (29, (.iaload, 1)), (30, (.bipush 6, 2)), (32, (.if_icmp .lt 7, 3)), (35, (.iconst 1, 1)), (36, (.goto 4, 3)), (39, (.iconst 0, 1)), (40, (.ireturn, 1))] : List (Nat × (Instr × Nat))), decode cX10_doesSink q.1 = .ok q.2 := by decide +kernel
theorem dX10_doesSink_0 : decode cX10_doesSink 0 = .ok (.aload_n 1, 1) := dAX10_doesSink (0, (.aload_n 1, 1)) (List.mem_of_getElem? (i := 0) rfl)
theorem dX10_doesSink_1 : decode cX10_doesSink 1 = .ok (.iload_n 2, 1) := dAX10_doesSink (1, (.iload_n 2, 1)) (List.mem_of_getElem? (i := 1) rfl)
theorem dX10_doesSink_2 : decode cX10_doesSink 2 = .ok (.invokestatic 248, 3) := dAX10_doesSink (2, (.invokestatic 248, 3)) (List.mem_of_getElem? (i := 2) rfl)
theorem dX10_doesSink_5 : decode cX10_doesSink 5 = .ok (.ifCond .eq 34, 3) := dAX10_doesSink (5, (.ifCond .eq 34, 3)) (List.mem_of_getElem? (i := 3) rfl)
theorem dX10_doesSink_8 : decode cX10_doesSink 8 = .ok (.aload_n 0, 1) := dAX10_doesSink (8, (.aload_n 0, 1)) (List.mem_of_getElem? (i := 4) rfl)
theorem dX10_doesSink_9 : decode cX10_doesSink 9 = .ok (.iload_n 2, 1) := dAX10_doesSink (9, (.iload_n 2, 1)) (List.mem_of_getElem? (i := 5) rfl)
theorem dX10_doesSink_10 : decode cX10_doesSink 10 = .ok (.invokevirtual 267, 3) := dAX10_doesSink (10, (.invokevirtual 267, 3)) (List.mem_of_getElem? (i := 6) rfl)
theorem dX10_doesSink_13 : decode cX10_doesSink 13 = .ok (.iconst 3, 1) := dAX10_doesSink (13, (.iconst 3, 1)) (List.mem_of_getElem? (i := 7) rfl)
theorem dX10_doesSink_14 : decode cX10_doesSink 14 = .ok (.if_icmp .eq 25, 3) := dAX10_doesSink (14, (.if_icmp .eq 25, 3)) (List.mem_of_getElem? (i := 8) rfl)
theorem dX10_doesSink_17 : decode cX10_doesSink 17 = .ok (.aload_n 0, 1) := dAX10_doesSink (17, (.aload_n 0, 1)) (List.mem_of_getElem? (i := 9) rfl)
theorem dX10_doesSink_18 : decode cX10_doesSink 18 = .ok (.iload_n 2, 1) := dAX10_doesSink (18, (.iload_n 2, 1)) (List.mem_of_getElem? (i := 10) rfl)
theorem dX10_doesSink_19 : decode cX10_doesSink 19 = .ok (.invokevirtual 267, 3) := dAX10_doesSink (19, (.invokevirtual 267, 3)) (List.mem_of_getElem? (i := 11) rfl)
theorem dX10_doesSink_22 : decode cX10_doesSink 22 = .ok (.iconst 2, 1) := dAX10_doesSink (22, (.iconst 2, 1)) (List.mem_of_getElem? (i := 12) rfl)
theorem dX10_doesSink_23 : decode cX10_doesSink 23 = .ok (.if_icmp .ne 12, 3) := dAX10_doesSink (23, (.if_icmp .ne 12, 3)) (List.mem_of_getElem? (i := 13) rfl)
theorem dX10_doesSink_26 : decode cX10_doesSink 26 = .ok (.aload_n 1, 1) := dAX10_doesSink (26, (.aload_n 1, 1)) (List.mem_of_getElem? (i := 14) rfl)
theorem dX10_doesSink_27 : decode cX10_doesSink 27 = .ok (.bipush 14, 2) := dAX10_doesSink (27, (.bipush 14, 2)) (List.mem_of_getElem? (i := 15) rfl)
theorem dX10_doesSink_29 : decode cX10_doesSink 29 = .ok (.iaload, 1) := dAX10_doesSink (29, (.iaload, 1)) (List.mem_of_getElem? (i := 16) rfl)
theorem dX10_doesSink_30 : decode cX10_doesSink 30 = .ok (.bipush 6, 2) := dAX10_doesSink (30, (.bipush 6, 2)) (List.mem_of_getElem? (i := 17) rfl)
theorem dX10_doesSink_32 : decode cX10_doesSink 32 = .ok (.if_icmp .lt 7, 3) := dAX10_doesSink (32, (.if_icmp .lt 7, 3)) (List.mem_of_getElem? (i := 18) rfl)
theorem dX10_doesSink_35 : decode cX10_doesSink 35 = .ok (.iconst 1, 1) := dAX10_doesSink (35, (.iconst 1, 1)) (List.mem_of_getElem? (i := 19) rfl)
theorem dX10_doesSink_36 : decode cX10_doesSink 36 = .ok (.goto 4, 3) := dAX10_doesSink (36, (.goto 4, 3)) (List.mem_of_getElem? (i := 20) rfl)
theorem dX10_doesSink_39 : decode cX10_doesSink 39 = .ok (.iconst 0, 1) := dAX10_doesSink (39, (.iconst 0, 1)) (List.mem_of_getElem? (i := 21) rfl)
theorem dX10_doesSink_40 : decode cX10_doesSink 40 = .ok (.ireturn, 1) := dAX10_doesSink (40, (.ireturn, 1)) (List.mem_of_getElem? (i := 22) rfl)
set_option maxRecDepth 20000 in
theorem ggX10_doesSink_X10_isIn : GoodIn wsX10_doesSink wsX10_isIn := goodIn_r _ [4] rfl (by decide +kernel)
set_option maxRecDepth 20000 in
theorem gX10_doesSink_X10_isIn : GoodIn wsX10_doesSink (va_wsS RX10 248 yX10_isIn wsX10_isIn) := goodIn_app (goodIn_of _ (by decide +kernel)) ggX10_doesSink_X10_isIn
set_option maxRecDepth 20000 in
theorem ggX10_doesSink_X10_kindOf : GoodIn wsX10_doesSink wsX10_kindOf := goodIn_r _ [8, 9, 10, 11, 12, 13, 14, 15, 16, 17, 18, 19, 20, 21, 22, 23, 24, 25, 26, 27, 28, 29, 30, 31, 32, 33, 34, 35, 36, 37, 38, 39, 40, 41, 42, 43, 44] rfl (by decide +kernel)
set_option maxRecDepth 20000 in
theorem gX10_doesSink_X10_kindOf : GoodIn wsX10_doesSink (wsV RX10 267 RX10 yX10_kindOf wsX10_kindOf) := goodIn_app (goodIn_of _ (by decide +kernel)) ggX10_doesSink_X10_kindOf
set_option maxHeartbeats 4000000 in
set_option maxRecDepth 100000 in
theorem mX10_doesSink (l : Launch) (g : GG) (a_t : Nat) (a_r1 : Nat) (p_t : Nat → Nat) (n : Nat) (x2 : Int32) (o_t : Nat → Int32) (f_t_15 : Nat → Int32) (f_r1 : Nat → Int32) (r : Int32) (hF : fX10_doesSink n x2 o_t f_t_15 f_r1 = some (r)) : MI l g yX10_doesSink wsX10_doesSink ({ frames := 1, cells := 0, slots := 0, locals := 21 } : Room) [.ref a_t, .ref a_r1, .int x2] [oX10 a_t p_t o_t, aI g (p_t 15) 266 f_t_15, aI g a_r1 17 f_r1] r [oX10 a_t p_t o_t, aI g (p_t 15) 266 f_t_15, aI g a_r1 17 f_r1] := by
  refine MI.of (cc := cX10_doesSink) (maxL := 3) (rt := .boolean) (own := RX10) rfl rfl (by decide) (Nat.le_of_ble_eq_true rfl) ?_
  intro p e s m args below meth c A C0 hP hD hS ls hl
  obtain ⟨hx, hb, hml, hown, hts, hr, hlk, hK, hA, hSW⟩ := id C0
  have hl : lv_has ls 3 [(0, .ref a_t), (1, .ref a_r1), (2, .int x2)] := hl
  rw [fX10_doesSink] at hF
  refine lv_aload_n hx hb dX10_doesSink_0 rfl (lv_at hl 1 rfl) ?_
  refine lv_iload_n hx hb dX10_doesSink_1 rfl (lv_at hl 2 rfl) ?_
  obtain ⟨u_1, hu_2, hF⟩ := ob1_some hF
  refine call_si (wr := [oX10 a_t p_t o_t, aI g (p_t 15) 266 f_t_15]) (As := [.ref a_r1, .int x2]) (rest := []) C0 (mX10_isIn l g a_r1 n x2 f_r1 u_1 hu_2) (va_cwS 2 hts gX10_doesSink_X10_isIn rfl rfl rfl (by decide +kernel) ⟨Nat.le_of_ble_eq_true rfl, Nat.le_of_ble_eq_true rfl⟩) hP hD hS [2] [0, 1] rfl rfl rfl rfl rfl (by decide) hl.1 rfl rfl (Nat.le_of_ble_eq_true rfl) ⟨Nat.zero_le _, Nat.zero_le _⟩ dX10_doesSink_2 ?_
  intro H locs hP hD hS
  refine lv_if_eq (tgt := 39) hx hb dX10_doesSink_5 (by decide) (fun c_3 => ?_) (fun c_3 => ?_)
  · have hF := it_p c_3 hF
    refine lv_iconst (v := (0 : Int32)) hx hb dX10_doesSink_39 (by decide) ?_
    cases hF
    exact ret_z C0 hP hD hS [0, 1, 2] rfl rfl rfl dX10_doesSink_40 rfl rfl
  · have hF := it_n c_3 hF
    refine lv_aload_n hx hb dX10_doesSink_8 rfl (lv_at hl 0 rfl) ?_
    refine lv_iload_n hx hb dX10_doesSink_9 rfl (lv_at hl 2 rfl) ?_
    obtain ⟨u_4, hu_5, hF⟩ := ob1_some hF
    refine call_i (wr := [aI g a_r1 17 f_r1]) (As := [.int x2]) (rest := []) (ci := 10) (q0 := 0) C0 (mX10_kindOf l g a_t p_t n x2 o_t f_t_15 u_4 hu_5) (cwV 1 hts gX10_doesSink_X10_kindOf rfl rfl rfl (by decide +kernel) ⟨Nat.le_of_ble_eq_true rfl, Nat.le_of_ble_eq_true rfl⟩) hP hD hS [0, 1] [2] rfl rfl rfl rfl rfl (by decide) rfl rfl hl.1 rfl rfl (Nat.le_of_ble_eq_true rfl) ⟨Nat.zero_le _, Nat.zero_le _⟩ dX10_doesSink_10 ?_
    intro H locs hP hD hS
    refine lv_iconst (v := (3 : Int32)) hx hb dX10_doesSink_13 (by decide) ?_
    refine lv_icmp_eq (tgt := 39) hx hb dX10_doesSink_14 (by decide) (fun c_6 => ?_) (fun c_6 => ?_)
    · have hF := it_p c_6 hF
      refine lv_iconst (v := (0 : Int32)) hx hb dX10_doesSink_39 (by decide) ?_
      cases hF
      exact ret_z C0 hP hD hS [1, 2, 0] rfl rfl rfl dX10_doesSink_40 rfl rfl
    · have hF := it_n c_6 hF
      refine lv_aload_n hx hb dX10_doesSink_17 rfl (lv_at hl 0 rfl) ?_
      refine lv_iload_n hx hb dX10_doesSink_18 rfl (lv_at hl 2 rfl) ?_
      obtain ⟨u_7, hu_8, hF⟩ := ob1_some hF
      refine call_i (wr := [aI g a_r1 17 f_r1]) (As := [.int x2]) (rest := []) (ci := 10) (q0 := 0) C0 (mX10_kindOf l g a_t p_t n x2 o_t f_t_15 u_7 hu_8) (cwV 1 hts gX10_doesSink_X10_kindOf rfl rfl rfl (by decide +kernel) ⟨Nat.le_of_ble_eq_true rfl, Nat.le_of_ble_eq_true rfl⟩) hP hD hS [1, 2] [0] rfl rfl rfl rfl rfl (by decide) rfl rfl hl.1 rfl rfl (Nat.le_of_ble_eq_true rfl) ⟨Nat.zero_le _, Nat.zero_le _⟩ dX10_doesSink_19 ?_
      intro H locs hP hD hS
      refine lv_iconst (v := (2 : Int32)) hx hb dX10_doesSink_22 (by decide) ?_
      refine lv_icmp_ne (tgt := 35) hx hb dX10_doesSink_23 (by decide) (fun c_9 => ?_) (fun c_9 => ?_)
      · have hF := it_n c_9 hF
        refine lv_iconst (v := (1 : Int32)) hx hb dX10_doesSink_35 (by decide) ?_
        refine lv_goto (tgt := 40) hx hb dX10_doesSink_36 (by decide) ?_
        cases hF
        exact ret_z C0 hP hD hS [1, 2, 0] rfl rfl rfl dX10_doesSink_40 rfl rfl
      · have hF := it_p c_9 hF
        refine lv_aload_n hx hb dX10_doesSink_26 rfl (lv_at hl 1 rfl) ?_
        refine lv_bipush (v := (14 : Int32)) hx hb dX10_doesSink_27 (by decide) ?_
        refine va_iald_k (j := 14) hx hb hK.1 hP 0 0 rfl rfl (by unfold vp_in; decide) rfl dX10_doesSink_29 ?_
        refine lv_bipush (v := (6 : Int32)) hx hb dX10_doesSink_30 (by decide) ?_
        refine lv_icmp_lt (tgt := 39) hx hb dX10_doesSink_32 (by decide) (fun c_10 => ?_) (fun c_10 => ?_)
        · have hF := it_p c_10 hF
          refine lv_iconst (v := (0 : Int32)) hx hb dX10_doesSink_39 (by decide) ?_
          cases hF
          exact ret_z C0 hP hD hS [1, 2, 0] rfl rfl rfl dX10_doesSink_40 rfl rfl
        · have hF := it_n c_10 hF
          refine lv_iconst (v := (1 : Int32)) hx hb dX10_doesSink_35 (by decide) ?_
          refine lv_goto (tgt := 40) hx hb dX10_doesSink_36 (by decide) ?_
          cases hF
          exact ret_z C0 hP hD hS [1, 2, 0] rfl rfl rfl dX10_doesSink_40 rfl rfl

theorem dAX10_hourOf : ∀ q ∈ ([(0, (.iconst 0, 1)), (1, (.istore_n 2, 1)), (2, (.iload_n 2, 1)), (3, (.aload_n 0, 1)), (4, (.getfield 20, 3)), (7, (.iconst 3, 1)), (8, (.iaload, 1)), (9, (.if_icmp .ge 33, 3)), (12, (.aload_n 1, 1)), (13, (.iload_n 2, 1)), (14, (.dup2, 1)), (15, (.iaload, 1)), (16, (.aload_n 0, 1)), (17, (.aload_n 1, 1)), (18, (.iload_n 2, 1)), (19, (.invokevirtual 274, 3)), (22, (.ifCond .eq 11, 3)), (25, (.aload_n 0, 1)), (26, (.iload_n 2, 1)), (27, (.invokevirtual 277, 3)), (30, (.goto 4, 3)), (33, (.iconst 0, 1)), (34, (.isub, 1)), (35, (.iastore, 1)), (36, (.iinc 2 1, 3)), (39, (.goto (-37), 3)), (42, (.aload_n 1, 1)), (43, (.bipush 14, 2)), (45, (.dup2, 1)), (46, (.iaload, 1)), (47, (.iconst 1, 1)), (48, (.iadd, 1)), (49, (.iastore, 1)), (50, (.aload_n 0, 1)), (51, (.aload_n 1, 1)), (52, (.invokevirtual 280, 3)), (55, (.ireturn, 1))] : List (Nat × (Instr × Nat))), decode cX10_hourOf q.1 = .ok q.2 := by decide +kernel
theorem dX10_hourOf_0 : decode cX10_hourOf 0 = .ok (.iconst 0, 1) := dAX10_hourOf (0, (.iconst 0, 1)) (List.mem_of_getElem? (i := 0) rfl)
theorem dX10_hourOf_1 : decode cX10_hourOf 1 = .ok (.istore_n 2, 1) := dAX10_hourOf (1, (.istore_n 2, 1)) (List.mem_of_getElem? (i := 1) rfl)
theorem dX10_hourOf_2 : decode cX10_hourOf 2 = .ok (.iload_n 2, 1) := dAX10_hourOf (2, (.iload_n 2, 1)) (List.mem_of_getElem? (i := 2) rfl)
theorem dX10_hourOf_3 : decode cX10_hourOf 3 = .ok (.aload_n 0, 1) := dAX10_hourOf (3, (.aload_n 0, 1)) (List.mem_of_getElem? (i := 3) rfl)
theorem dX10_hourOf_4 : decode cX10_hourOf 4 = .ok (.getfield 20, 3) := dAX10_hourOf (4, (.getfield 20, 3)) (List.mem_of_getElem? (i := 4) rfl)
theorem dX10_hourOf_7 : decode cX10_hourOf 7 = .ok (.iconst 3, 1) := dAX10_hourOf (7, (.iconst 3, 1)) (List.mem_of_getElem? (i := 5) rfl)
theorem dX10_hourOf_8 : decode cX10_hourOf 8 = .ok (.iaload, 1) := dAX10_hourOf (8, (.iaload, 1)) (List.mem_of_getElem? (i := 6) rfl)
theorem dX10_hourOf_9 : decode cX10_hourOf 9 = .ok (.if_icmp .ge 33, 3) := dAX10_hourOf (9, (.if_icmp .ge 33, 3)) (List.mem_of_getElem? (i := 7) rfl)
theorem dX10_hourOf_12 : decode cX10_hourOf 12 = .ok (.aload_n 1, 1) := dAX10_hourOf (12, (.aload_n 1, 1)) (List.mem_of_getElem? (i := 8) rfl)
theorem dX10_hourOf_13 : decode cX10_hourOf 13 = .ok (.iload_n 2, 1) := dAX10_hourOf (13, (.iload_n 2, 1)) (List.mem_of_getElem? (i := 9) rfl)
theorem dX10_hourOf_14 : decode cX10_hourOf 14 = .ok (.dup2, 1) := dAX10_hourOf (14, (.dup2, 1)) (List.mem_of_getElem? (i := 10) rfl)
theorem dX10_hourOf_15 : decode cX10_hourOf 15 = .ok (.iaload, 1) := dAX10_hourOf (15, (.iaload, 1)) (List.mem_of_getElem? (i := 11) rfl)
theorem dX10_hourOf_16 : decode cX10_hourOf 16 = .ok (.aload_n 0, 1) := dAX10_hourOf (16, (.aload_n 0, 1)) (List.mem_of_getElem? (i := 12) rfl)
theorem dX10_hourOf_17 : decode cX10_hourOf 17 = .ok (.aload_n 1, 1) := dAX10_hourOf (17, (.aload_n 1, 1)) (List.mem_of_getElem? (i := 13) rfl)
theorem dX10_hourOf_18 : decode cX10_hourOf 18 = .ok (.iload_n 2, 1) := dAX10_hourOf (18, (.iload_n 2, 1)) (List.mem_of_getElem? (i := 14) rfl)
theorem dX10_hourOf_19 : decode cX10_hourOf 19 = .ok (.invokevirtual 274, 3) := dAX10_hourOf (19, (.invokevirtual 274, 3)) (List.mem_of_getElem? (i := 15) rfl)
theorem dX10_hourOf_22 : decode cX10_hourOf 22 = .ok (.ifCond .eq 11, 3) := dAX10_hourOf (22, (.ifCond .eq 11, 3)) (List.mem_of_getElem? (i := 16) rfl)
theorem dX10_hourOf_25 : decode cX10_hourOf 25 = .ok (.aload_n 0, 1) := dAX10_hourOf (25, (.aload_n 0, 1)) (List.mem_of_getElem? (i := 17) rfl)
theorem dX10_hourOf_26 : decode cX10_hourOf 26 = .ok (.iload_n 2, 1) := dAX10_hourOf (26, (.iload_n 2, 1)) (List.mem_of_getElem? (i := 18) rfl)
theorem dX10_hourOf_27 : decode cX10_hourOf 27 = .ok (.invokevirtual 277, 3) := dAX10_hourOf (27, (.invokevirtual 277, 3)) (List.mem_of_getElem? (i := 19) rfl)
theorem dX10_hourOf_30 : decode cX10_hourOf 30 = .ok (.goto 4, 3) := dAX10_hourOf (30, (.goto 4, 3)) (List.mem_of_getElem? (i := 20) rfl)
theorem dX10_hourOf_33 : decode cX10_hourOf 33 = .ok (.iconst 0, 1) := dAX10_hourOf (33, (.iconst 0, 1)) (List.mem_of_getElem? (i := 21) rfl)
theorem dX10_hourOf_34 : decode cX10_hourOf 34 = .ok (.isub, 1) := dAX10_hourOf (34, (.isub, 1)) (List.mem_of_getElem? (i := 22) rfl)
theorem dX10_hourOf_35 : decode cX10_hourOf 35 = .ok (.iastore, 1) := dAX10_hourOf (35, (.iastore, 1)) (List.mem_of_getElem? (i := 23) rfl)
theorem dX10_hourOf_36 : decode cX10_hourOf 36 = .ok (.iinc 2 1, 3) := dAX10_hourOf (36, (.iinc 2 1, 3)) (List.mem_of_getElem? (i := 24) rfl)
theorem dX10_hourOf_39 : decode cX10_hourOf 39 = .ok (.goto (-37), 3) := dAX10_hourOf (39, (.goto (-37), 3)) (List.mem_of_getElem? (i := 25) rfl)
theorem dX10_hourOf_42 : decode cX10_hourOf 42 = .ok (.aload_n 1, 1) := dAX10_hourOf (42, (.aload_n 1, 1)) (List.mem_of_getElem? (i := 26) rfl)
theorem dX10_hourOf_43 : decode cX10_hourOf 43 = .ok (.bipush 14, 2) := dAX10_hourOf (43, (.bipush 14, 2)) (List.mem_of_getElem? (i := 27) rfl)
theorem dX10_hourOf_45 : decode cX10_hourOf 45 = .ok (.dup2, 1) := dAX10_hourOf (45, (.dup2, 1)) (List.mem_of_getElem? (i := 28) rfl)
theorem dX10_hourOf_46 : decode cX10_hourOf 46 = .ok (.iaload, 1) := dAX10_hourOf (46, (.iaload, 1)) (List.mem_of_getElem? (i := 29) rfl)
theorem dX10_hourOf_47 : decode cX10_hourOf 47 = .ok (.iconst 1, 1) := dAX10_hourOf (47, (.iconst 1, 1)) (List.mem_of_getElem? (i := 30) rfl)
theorem dX10_hourOf_48 : decode cX10_hourOf 48 = .ok (.iadd, 1) := dAX10_hourOf (48, (.iadd, 1)) (List.mem_of_getElem? (i := 31) rfl)
theorem dX10_hourOf_49 : decode cX10_hourOf 49 = .ok (.iastore, 1) := dAX10_hourOf (49, (.iastore, 1)) (List.mem_of_getElem? (i := 32) rfl)
theorem dX10_hourOf_50 : decode cX10_hourOf 50 = .ok (.aload_n 0, 1) := dAX10_hourOf (50, (.aload_n 0, 1)) (List.mem_of_getElem? (i := 33) rfl)
theorem dX10_hourOf_51 : decode cX10_hourOf 51 = .ok (.aload_n 1, 1) := dAX10_hourOf (51, (.aload_n 1, 1)) (List.mem_of_getElem? (i := 34) rfl)
theorem dX10_hourOf_52 : decode cX10_hourOf 52 = .ok (.invokevirtual 280, 3) := dAX10_hourOf (52, (.invokevirtual 280, 3)) (List.mem_of_getElem? (i := 35) rfl)
theorem dX10_hourOf_55 : decode cX10_hourOf 55 = .ok (.ireturn, 1) := dAX10_hourOf (55, (.ireturn, 1)) (List.mem_of_getElem? (i := 36) rfl)
set_option maxRecDepth 20000 in
theorem ggX10_hourOf_X10_doesSink : GoodIn wsX10_hourOf wsX10_doesSink := goodIn_r _ [6, 7, 8, 5, 9, 10, 11, 12, 13, 1, 38, 39, 40, 41, 42, 43, 44, 45, 46, 47, 48, 49, 50, 51, 52, 53, 54, 55, 56, 57, 58, 59, 60, 61, 62, 63, 64, 65, 66, 67, 68, 69, 70, 71, 72] rfl (by decide +kernel)
set_option maxRecDepth 20000 in
theorem gX10_hourOf_X10_doesSink : GoodIn wsX10_hourOf (wsV RX10 274 RX10 yX10_doesSink wsX10_doesSink) := goodIn_app (goodIn_of _ (by decide +kernel)) ggX10_hourOf_X10_doesSink
set_option maxRecDepth 20000 in
theorem ggX10_hourOf_X10_sinksOf : GoodIn wsX10_hourOf wsX10_sinksOf := goodIn_r _ [17, 1, 38, 39, 40, 41, 42, 43, 44, 45, 46, 47, 48, 49, 50, 51, 52, 53, 54, 55, 56, 57, 58, 59, 60, 61, 62, 63, 64, 65, 66, 67, 68, 69, 70, 71, 72] rfl (by decide +kernel)
set_option maxRecDepth 20000 in
theorem gX10_hourOf_X10_sinksOf : GoodIn wsX10_hourOf (wsV RX10 277 RX10 yX10_sinksOf wsX10_sinksOf) := goodIn_app (goodIn_of _ (by decide +kernel)) ggX10_hourOf_X10_sinksOf
set_option maxRecDepth 20000 in
theorem ggX10_hourOf_X10_leaves : GoodIn wsX10_hourOf wsX10_leaves := goodIn_r _ [21, 22, 1, 23, 24, 25, 5, 26, 7, 8, 9, 27, 28, 29, 30, 10, 11, 12, 13, 31, 32, 33, 34, 35, 36, 37, 38, 39, 40, 41, 42, 43, 44, 45, 46, 47, 48, 49, 50, 51, 52, 53, 54, 55, 56, 57, 58, 59, 60, 61, 62, 63, 64, 65, 66, 67, 68, 69, 70, 71, 72] rfl (by decide +kernel)
set_option maxRecDepth 20000 in
theorem gX10_hourOf_X10_leaves : GoodIn wsX10_hourOf (wsV RX10 280 RX10 yX10_leaves wsX10_leaves) := goodIn_app (goodIn_of _ (by decide +kernel)) ggX10_hourOf_X10_leaves
theorem kX10_hourOf_20 : Cond.fieldLink RX10 20 "EveningVowModel" "\x72" "[I" ∈ wsX10_hourOf := List.mem_of_getElem? (i := 1) rfl
theorem iX10_hourOf_X10 : ∀ w ∈ u_ws RX10 TX10 35, w ∈ wsX10_hourOf := fun w h => (List.mem_cons_of_mem _ (List.mem_append_right _ h))
set_option maxHeartbeats 4000000 in
set_option maxRecDepth 100000 in
theorem wX10_hourOf_L2 {p : Program} {l : Launch} {e : Env} {s : State} {m : MethodId} {args : Array Value} {below : List Frame} {meth : Method} {c : Code} {g : GG} {A : Nat → Prop} (C0 : Cx p s m args meth c cX10_hourOf 3 (some .int) RX10 wsX10_hourOf g A) (a_t : Nat) (a_r1 : Nat) (p_t : Nat → Nat) (n : Nat) (o_t : Nat → Int32) (f_t_15 : Nat → Int32)  (r : Int32) (o_t' : Nat → Int32) (f_r1' : Nat → Int32) (K : (Nat → Int32) → Option (Int32 × (Nat → Int32) × (Nat → Int32))) (hKx : ∀ (f_r1 : Nat → Int32) (H : Heap) (locs : List Loc) (ls : Array Slot), K f_r1 = some (r, o_t', f_r1') → va_P g.1 vwCl [oX10 a_t p_t o_t, aI g (p_t 15) 266 f_t_15, aI g a_r1 17 f_r1] H → va_D A [oX10 a_t p_t o_t, aI g (p_t 15) 266 f_t_15, aI g a_r1 17 f_r1] → va_S A s.heap H locs → lv_has ls 3 [(0, .ref a_t), (1, .ref a_r1)] → W p l e ({ frames := 3, cells := 0, slots := 0, locals := 71 } : Room) s m args below meth c H locs 0 0 (MQ below (EndI g r [oX10 a_t p_t o_t', aI g (p_t 15) 266 f_t_15, aI g a_r1 17 f_r1'] A) args s 0 0 A) (F0 m 42 ls [])) : ∀ (k : Nat) (x2 : Int32) (f_r1 : Nat → Int32), fX10_hourOf_L2 n o_t f_t_15 K k x2 f_r1 = some (r, o_t', f_r1') → ∀ (H : Heap) (locs : List Loc) (ls : Array Slot), va_P g.1 vwCl [oX10 a_t p_t o_t, aI g (p_t 15) 266 f_t_15, aI g a_r1 17 f_r1] H → va_D A [oX10 a_t p_t o_t, aI g (p_t 15) 266 f_t_15, aI g a_r1 17 f_r1] → va_S A s.heap H locs → lv_has ls 3 [(0, .ref a_t), (1, .ref a_r1), (2, .int x2)] → W p l e ({ frames := 3, cells := 0, slots := 0, locals := 71 } : Room) s m args below meth c H locs 0 0 (MQ below (EndI g r [oX10 a_t p_t o_t', aI g (p_t 15) 266 f_t_15, aI g a_r1 17 f_r1'] A) args s 0 0 A) (F0 m 2 ls []) := by
  obtain ⟨hx, hb, hml, hown, hts, hr, hlk, hK, hA, hSW⟩ := id C0
  intro k
  induction k with
  | zero =>
    intro x2 f_r1 hF
    exact absurd hF (by simp [fX10_hourOf_L2])
  | succ k ih =>
    intro x2 f_r1 hF H locs ls hP hD hS hl
    rw [fX10_hourOf_L2] at hF
    refine lv_iload_n hx hb dX10_hourOf_2 rfl (lv_at hl 2 rfl) ?_
    refine lv_aload_n hx hb dX10_hourOf_3 rfl (lv_at hl 0 rfl) ?_
    refine va_get (D := g.1) (ci := 10) (v := .ref (p_t 15)) (C := RX10) (T := TX10) (N := 35) hx hb hts iX10_hourOf_X10 hown hK.1 hP 0 rfl rfl 15 (by decide) (hts _ kX10_hourOf_20) (fun _ h9 => h9) rfl dX10_hourOf_4 ?_
    refine lv_iconst (v := (3 : Int32)) hx hb dX10_hourOf_7 (by decide) ?_
    refine va_iald_k (j := 3) hx hb hK.1 hP 1 0 rfl rfl (by unfold vp_in; decide) rfl dX10_hourOf_8 ?_
    refine lv_icmp_ge (tgt := 42) hx hb dX10_hourOf_9 (by decide) (fun c_1 => ?_) (fun c_1 => ?_)
    · have hF := it_p c_1 hF
      exact hKx f_r1 _ _ _ hF (hP.sub [0, 1, 2] rfl) (hD.sub [0, 1, 2] rfl rfl) hS (lv_sub hl [0, 1] rfl)
    · have hF := it_n c_1 hF
      refine lv_aload_n hx hb dX10_hourOf_12 rfl (lv_at hl 1 rfl) ?_
      refine lv_iload_n hx hb dX10_hourOf_13 rfl (lv_at hl 2 rfl) ?_
      refine lv_dup2_11 hx hb dX10_hourOf_14 rfl rfl ?_
      obtain ⟨h_2, hF⟩ := it_ck hF
      refine va_iald hx hb hK.1 hP 2 0 rfl rfl h_2 dX10_hourOf_15 ?_
      refine lv_aload_n hx hb dX10_hourOf_16 rfl (lv_at hl 0 rfl) ?_
      refine lv_aload_n hx hb dX10_hourOf_17 rfl (lv_at hl 1 rfl) ?_
      refine lv_iload_n hx hb dX10_hourOf_18 rfl (lv_at hl 2 rfl) ?_
      obtain ⟨u_3, hu_4, hF⟩ := ob1_some hF
      refine call_i (wr := []) (As := [.ref a_r1, .int x2]) (rest := [.int (f_r1 (x2).toNatClampNeg), .int x2, .ref a_r1]) (ci := 10) (q0 := 0) C0 (mX10_doesSink l g a_t a_r1 p_t n x2 o_t f_t_15 f_r1 u_3 hu_4) (cwV 2 hts gX10_hourOf_X10_doesSink rfl rfl rfl (by decide +kernel) ⟨Nat.le_of_ble_eq_true rfl, Nat.le_of_ble_eq_true rfl⟩) hP hD hS [0, 1, 2] [] rfl rfl rfl rfl rfl (by decide) rfl rfl hl.1 rfl rfl (Nat.le_of_ble_eq_true rfl) ⟨Nat.zero_le _, Nat.zero_le _⟩ dX10_hourOf_19 ?_
      intro H locs hP hD hS
      refine lv_if_eq (tgt := 33) hx hb dX10_hourOf_22 (by decide) (fun c_5 => ?_) (fun c_5 => ?_)
      · have hF := it_p c_5 hF
        refine lv_iconst (v := (0 : Int32)) hx hb dX10_hourOf_33 (by decide) ?_
        refine lv_isub hx hb dX10_hourOf_34 ?_
        obtain ⟨h_6, hF⟩ := it_ck hF
        refine va_iast hx hb hK.1 hP hD hS 2 0 rfl rfl h_6 dX10_hourOf_35 (fun H locs hP hD hS => ?_)
        have hP : va_P g.1 vwCl [oX10 a_t p_t o_t, aI g (p_t 15) 266 f_t_15, aI g a_r1 17 (upd f_r1 (x2).toNatClampNeg ((f_r1 (x2).toNatClampNeg) - (0 : Int32)))] H := hP
        have hD : va_D A [oX10 a_t p_t o_t, aI g (p_t 15) 266 f_t_15, aI g a_r1 17 (upd f_r1 (x2).toNatClampNeg ((f_r1 (x2).toNatClampNeg) - (0 : Int32)))] := hD
        refine lv_iinc (v := (x2 + (1 : Int32))) (lv' := [(2, .int (x2 + (1 : Int32))), (0, .ref a_t), (1, .ref a_r1)]) hx hb dX10_hourOf_36 hl (k := 2) rfl rfl (by decide) rfl (fun ls hl => ?_)
        refine lv_goto (tgt := 2) hx hb dX10_hourOf_39 (by decide) ?_
        exact ih (x2 + (1 : Int32)) (upd f_r1 (x2).toNatClampNeg ((f_r1 (x2).toNatClampNeg) - (0 : Int32))) hF _ _ _ (hP.sub [0, 1, 2] rfl) (hD.sub [0, 1, 2] rfl rfl) hS (lv_sub hl [1, 2, 0] rfl)
      · have hF := it_n c_5 hF
        refine lv_aload_n hx hb dX10_hourOf_25 rfl (lv_at hl 0 rfl) ?_
        refine lv_iload_n hx hb dX10_hourOf_26 rfl (lv_at hl 2 rfl) ?_
        obtain ⟨u_7, hu_8, hF⟩ := ob1_some hF
        refine call_i (wr := [aI g a_r1 17 f_r1]) (As := [.int x2]) (rest := [.int (f_r1 (x2).toNatClampNeg), .int x2, .ref a_r1]) (ci := 10) (q0 := 0) C0 (mX10_sinksOf l g a_t p_t n x2 o_t f_t_15 u_7 hu_8) (cwV 1 hts gX10_hourOf_X10_sinksOf rfl rfl rfl (by decide +kernel) ⟨Nat.le_of_ble_eq_true rfl, Nat.le_of_ble_eq_true rfl⟩) hP hD hS [0, 1] [2] rfl rfl rfl rfl rfl (by decide) rfl rfl hl.1 rfl rfl (Nat.le_of_ble_eq_true rfl) ⟨Nat.zero_le _, Nat.zero_le _⟩ dX10_hourOf_27 ?_
        intro H locs hP hD hS
        refine lv_goto (tgt := 34) hx hb dX10_hourOf_30 (by decide) ?_
        refine lv_isub hx hb dX10_hourOf_34 ?_
        obtain ⟨h_9, hF⟩ := it_ck hF
        refine va_iast hx hb hK.1 hP hD hS 0 0 rfl rfl h_9 dX10_hourOf_35 (fun H locs hP hD hS => ?_)
        have hP : va_P g.1 vwCl [aI g a_r1 17 (upd f_r1 (x2).toNatClampNeg ((f_r1 (x2).toNatClampNeg) - u_7)), oX10 a_t p_t o_t, aI g (p_t 15) 266 f_t_15] H := hP
        have hD : va_D A [aI g a_r1 17 (upd f_r1 (x2).toNatClampNeg ((f_r1 (x2).toNatClampNeg) - u_7)), oX10 a_t p_t o_t, aI g (p_t 15) 266 f_t_15] := hD
        refine lv_iinc (v := (x2 + (1 : Int32))) (lv' := [(2, .int (x2 + (1 : Int32))), (0, .ref a_t), (1, .ref a_r1)]) hx hb dX10_hourOf_36 hl (k := 2) rfl rfl (by decide) rfl (fun ls hl => ?_)
        refine lv_goto (tgt := 2) hx hb dX10_hourOf_39 (by decide) ?_
        exact ih (x2 + (1 : Int32)) (upd f_r1 (x2).toNatClampNeg ((f_r1 (x2).toNatClampNeg) - u_7)) hF _ _ _ (hP.sub [1, 2, 0] rfl) (hD.sub [1, 2, 0] rfl rfl) hS (lv_sub hl [1, 2, 0] rfl)
set_option maxHeartbeats 4000000 in
set_option maxRecDepth 100000 in
theorem mX10_hourOf (l : Launch) (g : GG) (a_t : Nat) (a_r1 : Nat) (p_t : Nat → Nat) (n : Nat) (o_t : Nat → Int32) (f_t_15 : Nat → Int32) (f_r1 : Nat → Int32) (r : Int32) (o_t' : Nat → Int32) (f_r1' : Nat → Int32) (hF : fX10_hourOf n o_t f_t_15 f_r1 = some (r, o_t', f_r1')) : MI l g yX10_hourOf wsX10_hourOf ({ frames := 3, cells := 0, slots := 0, locals := 71 } : Room) [.ref a_t, .ref a_r1] [oX10 a_t p_t o_t, aI g (p_t 15) 266 f_t_15, aI g a_r1 17 f_r1] r [oX10 a_t p_t o_t', aI g (p_t 15) 266 f_t_15, aI g a_r1 17 f_r1'] := by
  refine MI.of (cc := cX10_hourOf) (maxL := 3) (rt := .int) (own := RX10) rfl rfl (by decide) (Nat.le_of_ble_eq_true rfl) ?_
  intro p e s m args below meth c A C0 hP hD hS ls hl
  obtain ⟨hx, hb, hml, hown, hts, hr, hlk, hK, hA, hSW⟩ := id C0
  have hl : lv_has ls 3 [(0, .ref a_t), (1, .ref a_r1)] := hl
  rw [fX10_hourOf] at hF
  refine lv_iconst (v := (0 : Int32)) hx hb dX10_hourOf_0 (by decide) ?_
  refine lv_istore_n (lv' := [(2, .int (0 : Int32)), (0, .ref a_t), (1, .ref a_r1)]) hx hb dX10_hourOf_1 rfl hl (by decide) rfl (fun ls hl => ?_)
  refine wX10_hourOf_L2 C0 a_t a_r1 p_t n o_t f_t_15 r o_t' f_r1' _ ?_ n (0 : Int32) f_r1 hF _ _ _ (hP.sub [0, 1, 2] rfl) (hD.sub [0, 1, 2] rfl rfl) hS (lv_sub hl [1, 2, 0] rfl)
  · intro f_r1_x2 H locs ls hF hP hD hS hl
    refine lv_aload_n hx hb dX10_hourOf_42 rfl (lv_at hl 1 rfl) ?_
    refine lv_bipush (v := (14 : Int32)) hx hb dX10_hourOf_43 (by decide) ?_
    refine lv_dup2_11 hx hb dX10_hourOf_45 rfl rfl ?_
    refine va_iald_k (j := 14) hx hb hK.1 hP 2 0 rfl rfl (by unfold vp_in; decide) rfl dX10_hourOf_46 ?_
    refine lv_iconst (v := (1 : Int32)) hx hb dX10_hourOf_47 (by decide) ?_
    refine lv_iadd hx hb dX10_hourOf_48 ?_
    refine va_iast hx hb hK.1 hP hD hS 2 0 rfl rfl (by unfold vp_in; decide) dX10_hourOf_49 (fun H locs hP hD hS => ?_)
    have hP : va_P g.1 vwCl [oX10 a_t p_t o_t, aI g (p_t 15) 266 f_t_15, aI g a_r1 17 (upd f_r1_x2 14 ((f_r1_x2 14) + (1 : Int32)))] H := hP
    have hD : va_D A [oX10 a_t p_t o_t, aI g (p_t 15) 266 f_t_15, aI g a_r1 17 (upd f_r1_x2 14 ((f_r1_x2 14) + (1 : Int32)))] := hD
    refine lv_aload_n hx hb dX10_hourOf_50 rfl (lv_at hl 0 rfl) ?_
    refine lv_aload_n hx hb dX10_hourOf_51 rfl (lv_at hl 1 rfl) ?_
    obtain ⟨u_10, u_11, u_12, hu_13, hF⟩ := ob3_some hF
    refine call_i (wr := []) (As := [.ref a_r1]) (rest := []) (ci := 10) (q0 := 0) C0 (mX10_leaves l g a_t a_r1 p_t n o_t f_t_15 (upd f_r1_x2 14 ((f_r1_x2 14) + (1 : Int32))) u_10 u_11 u_12 hu_13) (cwV 1 hts gX10_hourOf_X10_leaves rfl rfl rfl (by decide +kernel) ⟨Nat.le_of_ble_eq_true rfl, Nat.le_of_ble_eq_true rfl⟩) hP hD hS [0, 1, 2] [] rfl rfl rfl rfl rfl (by decide) rfl rfl hl.1 rfl rfl (Nat.le_of_ble_eq_true rfl) ⟨Nat.zero_le _, Nat.zero_le _⟩ dX10_hourOf_52 ?_
    intro H locs hP hD hS
    cases hF
    exact ret_i C0 hP hD hS [0, 1, 2] rfl rfl rfl dX10_hourOf_55 rfl

