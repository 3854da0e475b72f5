theorem dAX10_thrown : ∀ q ∈ ([(0, (.aload_n 0, 1)), (1, (.getfield 53, 3)), (4, (.ireturn, 1))] : List (Nat × (Instr × Nat))), decode cX10_thrown q.1 = .ok q.2 := by decide +kernel
theorem dX10_thrown_0 : decode cX10_thrown 0 = .ok (.aload_n 0, 1) := dAX10_thrown (0, (.aload_n 0, 1)) (List.mem_of_getElem? (i := 0) rfl)
theorem dX10_thrown_1 : decode cX10_thrown 1 = .ok (.getfield 53, 3) := dAX10_thrown (1, (.getfield 53, 3)) (List.mem_of_getElem? (i := 1) rfl)
theorem dX10_thrown_4 : decode cX10_thrown 4 = .ok (.ireturn, 1) := dAX10_thrown (4, (.ireturn, 1)) (List.mem_of_getElem? (i := 2) rfl)
theorem kX10_thrown_53 : Cond.fieldLink RX10 53 "EveningVowModel" "thrown" "I" ∈ wsX10_thrown := List.mem_of_getElem? (i := 1) rfl
theorem iX10_thrown_X10 : ∀ w ∈ u_ws RX10 TX10 35, w ∈ wsX10_thrown := fun w h => (List.mem_cons_of_mem _ (List.mem_append_right _ h))
set_option maxHeartbeats 4000000 in
set_option maxRecDepth 100000 in
theorem mX10_thrown (l : Launch) (g : GG) (a_t : Nat) (p_t : Nat → Nat) (n : Nat) (o_t : Nat → Int32) (r : Int32) (hF : fX10_thrown n o_t = some (r)) : MI l g yX10_thrown wsX10_thrown ({ frames := 0, cells := 0, slots := 0, locals := 0 } : Room) [.ref a_t] [oX10 a_t p_t o_t] r [oX10 a_t p_t o_t] := by
  refine MI.of (cc := cX10_thrown) (maxL := 1) (rt := .int) (own := RX10) rfl rfl (by decide) (Nat.le_of_ble_eq_true rfl) ?_
  intro p e s m args below meth c A C0 hP hD hS ls hl
  obtain ⟨hx, hb, hml, hown, hts, hr, hlk, hK, hA, hSW⟩ := id C0
  have hl : lv_has ls 1 [(0, .ref a_t)] := hl
  rw [fX10_thrown] at hF
  refine lv_aload_n hx hb dX10_thrown_0 rfl (lv_at hl 0 rfl) ?_
  refine va_get (D := g.1) (ci := 10) (v := .int (o_t 0)) (C := RX10) (T := TX10) (N := 35) hx hb hts iX10_thrown_X10 hown hK.1 hP 0 rfl rfl 0 (by decide) (hts _ kX10_thrown_53) (fun _ h9 => h9) rfl dX10_thrown_1 ?_
  cases hF
  exact ret_i C0 hP hD hS [0] rfl rfl rfl dX10_thrown_4 rfl

theorem dAX10_good : ∀ q ∈ ([(0, (.aload_n 0, 1)), (1, (.iconst 0, 1)), (2, (.putfield 53, 3)), (5, (.aload_n 0, 1)), (6, (.iconst 0, 1)), (7, (.putfield 56, 3)), (10, (.return_, 1))] : List (Nat × (Instr × Nat))), decode cX10_good q.1 = .ok q.2 := by decide +kernel
theorem dX10_good_0 : decode cX10_good 0 = .ok (.aload_n 0, 1) := dAX10_good (0, (.aload_n 0, 1)) (List.mem_of_getElem? (i := 0) rfl)
theorem dX10_good_1 : decode cX10_good 1 = .ok (.iconst 0, 1) := dAX10_good (1, (.iconst 0, 1)) (List.mem_of_getElem? (i := 1) rfl)
theorem dX10_good_2 : decode cX10_good 2 = .ok (.putfield 53, 3) := dAX10_good (2, (.putfield 53, 3)) (List.mem_of_getElem? (i := 2) rfl)
theorem dX10_good_5 : decode cX10_good 5 = .ok (.aload_n 0, 1) := dAX10_good (5, (.aload_n 0, 1)) (List.mem_of_getElem? (i := 3) rfl)
theorem dX10_good_6 : decode cX10_good 6 = .ok (.iconst 0, 1) := dAX10_good (6, (.iconst 0, 1)) (List.mem_of_getElem? (i := 4) rfl)
theorem dX10_good_7 : decode cX10_good 7 = .ok (.putfield 56, 3) := dAX10_good (7, (.putfield 56, 3)) (List.mem_of_getElem? (i := 5) rfl)
theorem dX10_good_10 : decode cX10_good 10 = .ok (.return_, 1) := dAX10_good (10, (.return_, 1)) (List.mem_of_getElem? (i := 6) rfl)
theorem kX10_good_53 : Cond.fieldLink RX10 53 "EveningVowModel" "thrown" "I" ∈ wsX10_good := List.mem_of_getElem? (i := 1) rfl
theorem iX10_good_X10 : ∀ w ∈ u_ws RX10 TX10 35, w ∈ wsX10_good := fun w h => (List.mem_cons_of_mem _ (List.mem_append_right _ h))
theorem kX10_good_56 : Cond.fieldLink RX10 56 "EveningVowModel" "trouble" "I" ∈ wsX10_good := List.mem_of_getElem? (i := 2) rfl
set_option maxHeartbeats 4000000 in
set_option maxRecDepth 100000 in
theorem mX10_good (l : Launch) (g : GG) (a_t : Nat) (p_t : Nat → Nat) (n : Nat) (o_t : Nat → Int32) (o_t' : Nat → Int32) (hF : fX10_good n o_t = some (o_t')) : MV l g yX10_good wsX10_good ({ frames := 0, cells := 0, slots := 0, locals := 0 } : Room) [.ref a_t] [oX10 a_t p_t o_t] [oX10 a_t p_t o_t'] := by
  refine MV.of (cc := cX10_good) (maxL := 1) (own := RX10) rfl rfl (by decide) (Nat.le_of_ble_eq_true rfl) ?_
  intro p e s m args below meth c A C0 hP hD hS ls hl
  obtain ⟨hx, hb, hml, hown, hts, hr, hlk, hK, hA, hSW⟩ := id C0
  have hl : lv_has ls 1 [(0, .ref a_t)] := hl
  rw [fX10_good] at hF
  refine lv_aload_n hx hb dX10_good_0 rfl (lv_at hl 0 rfl) ?_
  refine lv_iconst (v := (0 : Int32)) hx hb dX10_good_1 (by decide) ?_
  refine va_put (D := g.1) (ci := 10) (v := .int (0 : Int32)) (ty := .int) (C := RX10) (T := TX10) (N := 35) hx hb hts iX10_good_X10 tyX10 tyX10_ok nmX10 hown hK.1 hP hD hS 0 rfl rfl 0 (by decide) (hts _ kX10_good_53) (fun _ h9 => h9) rfl (by decide +kernel) rfl rfl (Nat.le_of_ble_eq_true rfl) dX10_good_2 (fun H locs hP hD hS => ?_)
  have hP : va_P g.1 vwCl [oX10 a_t p_t (upd o_t 0 (0 : Int32))] H := hP
  have hD : va_D A [oX10 a_t p_t (upd o_t 0 (0 : Int32))] := hD
  refine lv_aload_n hx hb dX10_good_5 rfl (lv_at hl 0 rfl) ?_
  refine lv_iconst (v := (0 : Int32)) hx hb dX10_good_6 (by decide) ?_
  refine va_put (D := g.1) (ci := 10) (v := .int (0 : Int32)) (ty := .int) (C := RX10) (T := TX10) (N := 35) hx hb hts iX10_good_X10 tyX10 tyX10_ok nmX10 hown hK.1 hP hD hS 0 rfl rfl 11 (by decide) (hts _ kX10_good_56) (fun _ h9 => h9) rfl (by decide +kernel) rfl rfl (Nat.le_of_ble_eq_true rfl) dX10_good_7 (fun H locs hP hD hS => ?_)
  have hP : va_P g.1 vwCl [oX10 a_t p_t (upd (upd o_t 0 (0 : Int32)) 11 (0 : Int32))] H := hP
  have hD : va_D A [oX10 a_t p_t (upd (upd o_t 0 (0 : Int32)) 11 (0 : Int32))] := hD
  cases hF
  exact ret_v C0 hP hD hS [0] rfl rfl rfl dX10_good_10

theorem dAX10_no : ∀ q ∈ ([(0, (.aload_n 0, 1)), (1, (.iload_n 1, 1)), (2, (.putfield 56, 3)), (5, (.iconst (-1), 1)), (6, (.ireturn, 1))] : List (Nat × (Instr × Nat))), decode cX10_no q.1 = .ok q.2 := by decide +kernel
theorem dX10_no_0 : decode cX10_no 0 = .ok (.aload_n 0, 1) := dAX10_no (0, (.aload_n 0, 1)) (List.mem_of_getElem? (i := 0) rfl)
theorem dX10_no_1 : decode cX10_no 1 = .ok (.iload_n 1, 1) := dAX10_no (1, (.iload_n 1, 1)) (List.mem_of_getElem? (i := 1) rfl)
theorem dX10_no_2 : decode cX10_no 2 = .ok (.putfield 56, 3) := dAX10_no (2, (.putfield 56, 3)) (List.mem_of_getElem? (i := 2) rfl)
theorem dX10_no_5 : decode cX10_no 5 = .ok (.iconst (-1), 1) := dAX10_no (5, (.iconst (-1), 1)) (List.mem_of_getElem? (i := 3) rfl)
theorem dX10_no_6 : decode cX10_no 6 = .ok (.ireturn, 1) := dAX10_no (6, (.ireturn, 1)) (List.mem_of_getElem? (i := 4) rfl)
theorem kX10_no_56 : Cond.fieldLink RX10 56 "EveningVowModel" "trouble" "I" ∈ wsX10_no := List.mem_of_getElem? (i := 1) rfl
theorem iX10_no_X10 : ∀ w ∈ u_ws RX10 TX10 35, w ∈ wsX10_no := fun w h => (List.mem_cons_of_mem _ (List.mem_append_right _ h))
set_option maxHeartbeats 4000000 in
set_option maxRecDepth 100000 in
theorem mX10_no (l : Launch) (g : GG) (a_t : Nat) (p_t : Nat → Nat) (n : Nat) (x1 : Int32) (o_t : Nat → Int32) (r : Int32) (o_t' : Nat → Int32) (hF : fX10_no n x1 o_t = some (r, o_t')) : MI l g yX10_no wsX10_no ({ frames := 0, cells := 0, slots := 0, locals := 0 } : Room) [.ref a_t, .int x1] [oX10 a_t p_t o_t] r [oX10 a_t p_t o_t'] := by
  refine MI.of (cc := cX10_no) (maxL := 2) (rt := .int) (own := RX10) rfl rfl (by decide) (Nat.le_of_ble_eq_true rfl) ?_
  intro p e s m args below meth c A C0 hP hD hS ls hl
  obtain ⟨hx, hb, hml, hown, hts, hr, hlk, hK, hA, hSW⟩ := id C0
  have hl : lv_has ls 2 [(0, .ref a_t), (1, .int x1)] := hl
  rw [fX10_no] at hF
  refine lv_aload_n hx hb dX10_no_0 rfl (lv_at hl 0 rfl) ?_
  refine lv_iload_n hx hb dX10_no_1 rfl (lv_at hl 1 rfl) ?_
  refine va_put (D := g.1) (ci := 10) (v := .int x1) (ty := .int) (C := RX10) (T := TX10) (N := 35) hx hb hts iX10_no_X10 tyX10 tyX10_ok nmX10 hown hK.1 hP hD hS 0 rfl rfl 11 (by decide) (hts _ kX10_no_56) (fun _ h9 => h9) rfl (by decide +kernel) rfl rfl (Nat.le_of_ble_eq_true rfl) dX10_no_2 (fun H locs hP hD hS => ?_)
  have hP : va_P g.1 vwCl [oX10 a_t p_t (upd o_t 11 x1)] H := hP
  have hD : va_D A [oX10 a_t p_t (upd o_t 11 x1)] := hD
  refine lv_iconst (v := (-1 : Int32)) hx hb dX10_no_5 (by decide) ?_
  cases hF
  exact ret_i C0 hP hD hS [0] rfl rfl rfl dX10_no_6 rfl

theorem dAX10_less : ∀ q ∈ ([(0, (.aload_n 0, 1)), (1, (.iload_n 1, 1)), (2, (.putfield 56, 3)), (5, (.sipush (-1000), 3)), (8, (.ireturn, 1))] : List (Nat × (Instr × Nat))), decode cX10_less q.1 = .ok q.2 := by decide +kernel
theorem dX10_less_0 : decode cX10_less 0 = .ok (.aload_n 0, 1) := dAX10_less (0, (.aload_n 0, 1)) (List.mem_of_getElem? (i := 0) rfl)
theorem dX10_less_1 : decode cX10_less 1 = .ok (.iload_n 1, 1) := dAX10_less (1, (.iload_n 1, 1)) (List.mem_of_getElem? (i := 1) rfl)
theorem dX10_less_2 : decode cX10_less 2 = .ok (.putfield 56, 3) := dAX10_less (2, (.putfield 56, 3)) (List.mem_of_getElem? (i := 2) rfl)
theorem dX10_less_5 : decode cX10_less 5 = .ok (.sipush (-1000), 3) := dAX10_less (5, (.sipush (-1000), 3)) (List.mem_of_getElem? (i := 3) rfl)
theorem dX10_less_8 : decode cX10_less 8 = .ok (.ireturn, 1) := dAX10_less (8, (.ireturn, 1)) (List.mem_of_getElem? (i := 4) rfl)
theorem kX10_less_56 : Cond.fieldLink RX10 56 "EveningVowModel" "trouble" "I" ∈ wsX10_less := List.mem_of_getElem? (i := 1) rfl
theorem iX10_less_X10 : ∀ w ∈ u_ws RX10 TX10 35, w ∈ wsX10_less := fun w h => (List.mem_cons_of_mem _ (List.mem_append_right _ h))
set_option maxHeartbeats 4000000 in
set_option maxRecDepth 100000 in
theorem mX10_less (l : Launch) (g : GG) (a_t : Nat) (p_t : Nat → Nat) (n : Nat) (x1 : Int32) (o_t : Nat → Int32) (r : Int32) (o_t' : Nat → Int32) (hF : fX10_less n x1 o_t = some (r, o_t')) : MI l g yX10_less wsX10_less ({ frames := 0, cells := 0, slots := 0, locals := 0 } : Room) [.ref a_t, .int x1] [oX10 a_t p_t o_t] r [oX10 a_t p_t o_t'] := by
  refine MI.of (cc := cX10_less) (maxL := 2) (rt := .int) (own := RX10) rfl rfl (by decide) (Nat.le_of_ble_eq_true rfl) ?_
  intro p e s m args below meth c A C0 hP hD hS ls hl
  obtain ⟨hx, hb, hml, hown, hts, hr, hlk, hK, hA, hSW⟩ := id C0
  have hl : lv_has ls 2 [(0, .ref a_t), (1, .int x1)] := hl
  rw [fX10_less] at hF
  refine lv_aload_n hx hb dX10_less_0 rfl (lv_at hl 0 rfl) ?_
  refine lv_iload_n hx hb dX10_less_1 rfl (lv_at hl 1 rfl) ?_
  refine va_put (D := g.1) (ci := 10) (v := .int x1) (ty := .int) (C := RX10) (T := TX10) (N := 35) hx hb hts iX10_less_X10 tyX10 tyX10_ok nmX10 hown hK.1 hP hD hS 0 rfl rfl 11 (by decide) (hts _ kX10_less_56) (fun _ h9 => h9) rfl (by decide +kernel) rfl rfl (Nat.le_of_ble_eq_true rfl) dX10_less_2 (fun H locs hP hD hS => ?_)
  have hP : va_P g.1 vwCl [oX10 a_t p_t (upd o_t 11 x1)] H := hP
  have hD : va_D A [oX10 a_t p_t (upd o_t 11 x1)] := hD
  refine lv_sipush (v := (-1000 : Int32)) hx hb dX10_less_5 (by decide) ?_
  cases hF
  exact ret_i C0 hP hD hS [0] rfl rfl rfl dX10_less_8 rfl

theorem dAX10_isNot : ∀ q ∈ ([(0, (.aload_n 0, 1)), (1, (.iload_n 1, 1)), (2, (.putfield 56, 3)), (5, (.iconst 0, 1)), (6, (.ireturn, 1))] : List (Nat × (Instr × Nat))), decode cX10_isNot q.1 = .ok q.2 := by decide +kernel
theorem dX10_isNot_0 : decode cX10_isNot 0 = .ok (.aload_n 0, 1) := dAX10_isNot (0, (.aload_n 0, 1)) (List.mem_of_getElem? (i := 0) rfl)
theorem dX10_isNot_1 : decode cX10_isNot 1 = .ok (.iload_n 1, 1) := dAX10_isNot (1, (.iload_n 1, 1)) (List.mem_of_getElem? (i := 1) rfl)
theorem dX10_isNot_2 : decode cX10_isNot 2 = .ok (.putfield 56, 3) := dAX10_isNot (2, (.putfield 56, 3)) (List.mem_of_getElem? (i := 2) rfl)
theorem dX10_isNot_5 : decode cX10_isNot 5 = .ok (.iconst 0, 1) := dAX10_isNot (5, (.iconst 0, 1)) (List.mem_of_getElem? (i := 3) rfl)
theorem dX10_isNot_6 : decode cX10_isNot 6 = .ok (.ireturn, 1) := dAX10_isNot (6, (.ireturn, 1)) (List.mem_of_getElem? (i := 4) rfl)
theorem kX10_isNot_56 : Cond.fieldLink RX10 56 "EveningVowModel" "trouble" "I" ∈ wsX10_isNot := List.mem_of_getElem? (i := 1) rfl
theorem iX10_isNot_X10 : ∀ w ∈ u_ws RX10 TX10 35, w ∈ wsX10_isNot := fun w h => (List.mem_cons_of_mem _ (List.mem_append_right _ h))
set_option maxHeartbeats 4000000 in
set_option maxRecDepth 100000 in
theorem mX10_isNot (l : Launch) (g : GG) (a_t : Nat) (p_t : Nat → Nat) (n : Nat) (x1 : Int32) (o_t : Nat → Int32) (r : Int32) (o_t' : Nat → Int32) (hF : fX10_isNot n x1 o_t = some (r, o_t')) : MI l g yX10_isNot wsX10_isNot ({ frames := 0, cells := 0, slots := 0, locals := 0 } : Room) [.ref a_t, .int x1] [oX10 a_t p_t o_t] r [oX10 a_t p_t o_t'] := by
  refine MI.of (cc := cX10_isNot) (maxL := 2) (rt := .boolean) (own := RX10) rfl rfl (by decide) (Nat.le_of_ble_eq_true rfl) ?_
  intro p e s m args below meth c A C0 hP hD hS ls hl
  obtain ⟨hx, hb, hml, hown, hts, hr, hlk, hK, hA, hSW⟩ := id C0
  have hl : lv_has ls 2 [(0, .ref a_t), (1, .int x1)] := hl
  rw [fX10_isNot] at hF
  refine lv_aload_n hx hb dX10_isNot_0 rfl (lv_at hl 0 rfl) ?_
  refine lv_iload_n hx hb dX10_isNot_1 rfl (lv_at hl 1 rfl) ?_
  refine va_put (D := g.1) (ci := 10) (v := .int x1) (ty := .int) (C := RX10) (T := TX10) (N := 35) hx hb hts iX10_isNot_X10 tyX10 tyX10_ok nmX10 hown hK.1 hP hD hS 0 rfl rfl 11 (by decide) (hts _ kX10_isNot_56) (fun _ h9 => h9) rfl (by decide +kernel) rfl rfl (Nat.le_of_ble_eq_true rfl) dX10_isNot_2 (fun H locs hP hD hS => ?_)
  have hP : va_P g.1 vwCl [oX10 a_t p_t (upd o_t 11 x1)] H := hP
  have hD : va_D A [oX10 a_t p_t (upd o_t 11 x1)] := hD
  refine lv_iconst (v := (0 : Int32)) hx hb dX10_isNot_5 (by decide) ?_
  cases hF
  exact ret_z C0 hP hD hS [0] rfl rfl rfl dX10_isNot_6 rfl rfl

theorem dAX10_in : ∀ q ∈ ([(0, (.iload_n 0, 1)), (1, (.iload_n 1, 1)), (2, (.if_icmp .lt 12, 3)), (5, (.iload_n 0, 1)), (6, (.iload_n 2, 1)), (7, (.if_icmp .gt 7, 3)), (10, (.iconst 1, 1)), (11, (.goto 4, 3)), (14, (.iconst 0, 1)), (15, (.ireturn, 1))] : List (Nat × (Instr × Nat))), decode cX10_in q.1 = .ok q.2 := by decide +kernel
theorem dX10_in_0 : decode cX10_in 0 = .ok (.iload_n 0, 1) := dAX10_in (0, (.iload_n 0, 1)) (List.mem_of_getElem? (i := 0) rfl)
theorem dX10_in_1 : decode cX10_in 1 = .ok (.iload_n 1, 1) := dAX10_in (1, (.iload_n 1, 1)) (List.mem_of_getElem? (i := 1) rfl)
theorem dX10_in_2 : decode cX10_in 2 = .ok (.if_icmp .lt 12, 3) := dAX10_in (2, (.if_icmp .lt 12, 3)) (List.mem_of_getElem? (i := 2) rfl)
theorem dX10_in_5 : decode cX10_in 5 = .ok (.iload_n 0, 1) := dAX10_in (5, (.iload_n 0, 1)) (List.mem_of_getElem? (i := 3) rfl)
theorem dX10_in_6 : decode cX10_in 6 = .ok (.iload_n 2, 1) := dAX10_in (6, (.iload_n 2, 1)) (List.mem_of_getElem? (i := 4) rfl)
theorem dX10_in_7 : decode cX10_in 7 = .ok (.if_icmp .gt 7, 3) := dAX10_in (7, (.if_icmp .gt 7, 3)) (List.mem_of_getElem? (i := 5) rfl)
theorem dX10_in_10 : decode cX10_in 10 = .ok (.iconst 1, 1) := dAX10_in (10, (.iconst 1, 1)) (List.mem_of_getElem? (i := 6) rfl)
theorem dX10_in_11 : decode cX10_in 11 = .ok (.goto 4, 3) := dAX10_in (11, (.goto 4, 3)) (List.mem_of_getElem? (i := 7) rfl)
theorem dX10_in_14 : decode cX10_in 14 = .ok (.iconst 0, 1) := dAX10_in (14, (.iconst 0, 1)) (List.mem_of_getElem? (i := 8) rfl)
theorem dX10_in_15 : decode cX10_in 15 = .ok (.ireturn, 1) := dAX10_in (15, (.ireturn, 1)) (List.mem_of_getElem? (i := 9) rfl)
set_option maxHeartbeats 4000000 in
set_option maxRecDepth 100000 in
theorem mX10_in (l : Launch) (g : GG)   (n : Nat) (x0 : Int32) (x1 : Int32) (x2 : Int32) (r : Int32) (hF : fX10_in n x0 x1 x2 = some (r)) : MI l g yX10_in wsX10_in ({ frames := 0, cells := 0, slots := 0, locals := 0 } : Room) [.int x0, .int x1, .int x2] [] r [] := by
  refine MI.of (cc := cX10_in) (maxL := 3) (rt := .boolean) (own := RX10) rfl rfl (by decide) (Nat.le_of_ble_eq_true rfl) ?_
  intro p e s m args below meth c A C0 hP hD hS ls hl
  obtain ⟨hx, hb, hml, hown, hts, hr, hlk, hK, hA, hSW⟩ := id C0
  have hl : lv_has ls 3 [(0, .int x0), (1, .int x1), (2, .int x2)] := hl
  rw [fX10_in] at hF
  refine lv_iload_n hx hb dX10_in_0 rfl (lv_at hl 0 rfl) ?_
  refine lv_iload_n hx hb dX10_in_1 rfl (lv_at hl 1 rfl) ?_
  refine lv_icmp_lt (tgt := 14) hx hb dX10_in_2 (by decide) (fun c_1 => ?_) (fun c_1 => ?_)
  · have hF := it_p c_1 hF
    refine lv_iconst (v := (0 : Int32)) hx hb dX10_in_14 (by decide) ?_
    cases hF
    exact ret_z C0 hP hD hS [] rfl rfl rfl dX10_in_15 rfl rfl
  · have hF := it_n c_1 hF
    refine lv_iload_n hx hb dX10_in_5 rfl (lv_at hl 0 rfl) ?_
    refine lv_iload_n hx hb dX10_in_6 rfl (lv_at hl 2 rfl) ?_
    refine lv_icmp_gt (tgt := 14) hx hb dX10_in_7 (by decide) (fun c_2 => ?_) (fun c_2 => ?_)
    · have hF := it_p c_2 hF
      refine lv_iconst (v := (0 : Int32)) hx hb dX10_in_14 (by decide) ?_
      cases hF
      exact ret_z C0 hP hD hS [] rfl rfl rfl dX10_in_15 rfl rfl
    · have hF := it_n c_2 hF
      refine lv_iconst (v := (1 : Int32)) hx hb dX10_in_10 (by decide) ?_
      refine lv_goto (tgt := 15) hx hb dX10_in_11 (by decide) ?_
      cases hF
      exact ret_z C0 hP hD hS [] rfl rfl rfl dX10_in_15 rfl rfl

theorem dAX10_hasBit : ∀ q ∈ ([(0, (.iload_n 0, 1)), (1, (.iload_n 1, 1)), (2, (.ishr, 1)), (3, (.iconst 1, 1)), (4, (.iand, 1)), (5, (.iconst 1, 1)), (6, (.if_icmp .ne 7, 3)), (9, (.iconst 1, 1)), (10, (.goto 4, 3)), (13, (.iconst 0, 1)), (14, (.ireturn, 1))] : List (Nat × (Instr × Nat))), decode cX10_hasBit q.1 = .ok q.2 := by decide +kernel
theorem dX10_hasBit_0 : decode cX10_hasBit 0 = .ok (.iload_n 0, 1) := dAX10_hasBit (0, (.iload_n 0, 1)) (List.mem_of_getElem? (i := 0) rfl)
theorem dX10_hasBit_1 : decode cX10_hasBit 1 = .ok (.iload_n 1, 1) := dAX10_hasBit (1, (.iload_n 1, 1)) (List.mem_of_getElem? (i := 1) rfl)
theorem dX10_hasBit_2 : decode cX10_hasBit 2 = .ok (.ishr, 1) := dAX10_hasBit (2, (.ishr, 1)) (List.mem_of_getElem? (i := 2) rfl)
theorem dX10_hasBit_3 : decode cX10_hasBit 3 = .ok (.iconst 1, 1) := dAX10_hasBit (3, (.iconst 1, 1)) (List.mem_of_getElem? (i := 3) rfl)
theorem dX10_hasBit_4 : decode cX10_hasBit 4 = .ok (.iand, 1) := dAX10_hasBit (4, (.iand, 1)) (List.mem_of_getElem? (i := 4) rfl)
theorem dX10_hasBit_5 : decode cX10_hasBit 5 = .ok (.iconst 1, 1) := dAX10_hasBit (5, (.iconst 1, 1)) (List.mem_of_getElem? (i := 5) rfl)
theorem dX10_hasBit_6 : decode cX10_hasBit 6 = .ok (.if_icmp .ne 7, 3) := dAX10_hasBit (6, (.if_icmp .ne 7, 3)) (List.mem_of_getElem? (i := 6) rfl)
theorem dX10_hasBit_9 : decode cX10_hasBit 9 = .ok (.iconst 1, 1) := dAX10_hasBit (9, (.iconst 1, 1)) (List.mem_of_getElem? (i := 7) rfl)
theorem dX10_hasBit_10 : decode cX10_hasBit 10 = .ok (.goto 4, 3) := dAX10_hasBit (10, (.goto 4, 3)) (List.mem_of_getElem? (i := 8) rfl)
theorem dX10_hasBit_13 : decode cX10_hasBit 13 = .ok (.iconst 0, 1) := dAX10_hasBit (13, (.iconst 0, 1)) (List.mem_of_getElem? (i := 9) rfl)
theorem dX10_hasBit_14 : decode cX10_hasBit 14 = .ok (.ireturn, 1) := dAX10_hasBit (14, (.ireturn, 1)) (List.mem_of_getElem? (i := 10) rfl)
set_option maxHeartbeats 4000000 in
set_option maxRecDepth 100000 in
theorem mX10_hasBit (l : Launch) (g : GG)   (n : Nat) (x0 : Int32) (x1 : Int32) (r : Int32) (hF : fX10_hasBit n x0 x1 = some (r)) : MI l g yX10_hasBit wsX10_hasBit ({ frames := 0, cells := 0, slots := 0, locals := 0 } : Room) [.int x0, .int x1] [] r [] := by
  refine MI.of (cc := cX10_hasBit) (maxL := 2) (rt := .boolean) (own := RX10) rfl rfl (by decide) (Nat.le_of_ble_eq_true rfl) ?_
  intro p e s m args below meth c A C0 hP hD hS ls hl
  obtain ⟨hx, hb, hml, hown, hts, hr, hlk, hK, hA, hSW⟩ := id C0
  have hl : lv_has ls 2 [(0, .int x0), (1, .int x1)] := hl
  rw [fX10_hasBit] at hF
  refine lv_iload_n hx hb dX10_hasBit_0 rfl (lv_at hl 0 rfl) ?_
  refine lv_iload_n hx hb dX10_hasBit_1 rfl (lv_at hl 1 rfl) ?_
  refine lv_ishr hx hb dX10_hasBit_2 ?_
  refine lv_iconst (v := (1 : Int32)) hx hb dX10_hasBit_3 (by decide) ?_
  refine lv_iand hx hb dX10_hasBit_4 ?_
  refine lv_iconst (v := (1 : Int32)) hx hb dX10_hasBit_5 (by decide) ?_
  refine lv_icmp_ne (tgt := 13) hx hb dX10_hasBit_6 (by decide) (fun c_1 => ?_) (fun c_1 => ?_)
  · have hF := it_n c_1 hF
    refine lv_iconst (v := (0 : Int32)) hx hb dX10_hasBit_13 (by decide) ?_
    cases hF
    exact ret_z C0 hP hD hS [] rfl rfl rfl dX10_hasBit_14 rfl rfl
  · have hF := it_p c_1 hF
    refine lv_iconst (v := (1 : Int32)) hx hb dX10_hasBit_9 (by decide) ?_
    refine lv_goto (tgt := 14) hx hb dX10_hasBit_10 (by decide) ?_
    cases hF
    exact ret_z C0 hP hD hS [] rfl rfl rfl dX10_hasBit_14 rfl rfl

theorem dAX10_ones : ∀ q ∈ ([(0, (.iconst 0, 1)), (1, (.istore_n 1, 1)), (2, (.iconst 0, 1)), (3, (.istore_n 2, 1)), (4, (.iload_n 2, 1)), (5, (.bipush 8, 2)), (7, (.if_icmp .ge 17, 3)), (10, (.iload_n 1, 1)), (11, (.iload_n 0, 1)), (12, (.iload_n 2, 1)), (13, (.ishr, 1)), (14, (.iconst 1, 1)), (15, (.iand, 1)), (16, (.iadd, 1)), (17, (.istore_n 1, 1)), (18, (.iinc 2 1, 3)), (21, (.goto (-17), 3)), (24, (.iload_n 1, 1)), (25, (.ireturn, 1))] : List (Nat × (Instr × Nat))), decode cX10_ones q.1 = .ok q.2 := by decide +kernel
theorem dX10_ones_0 : decode cX10_ones 0 = .ok (.iconst 0, 1) := dAX10_ones (0, (.iconst 0, 1)) (List.mem_of_getElem? (i := 0) rfl)
theorem dX10_ones_1 : decode cX10_ones 1 = .ok (.istore_n 1, 1) := dAX10_ones (1, (.istore_n 1, 1)) (List.mem_of_getElem? (i := 1) rfl)
theorem dX10_ones_2 : decode cX10_ones 2 = .ok (.iconst 0, 1) := dAX10_ones (2, (.iconst 0, 1)) (List.mem_of_getElem? (i := 2) rfl)
theorem dX10_ones_3 : decode cX10_ones 3 = .ok (.istore_n 2, 1) := dAX10_ones (3, (.istore_n 2, 1)) (List.mem_of_getElem? (i := 3) rfl)
theorem dX10_ones_4 : decode cX10_ones 4 = .ok (.iload_n 2, 1) := dAX10_ones (4, (.iload_n 2, 1)) (List.mem_of_getElem? (i := 4) rfl)
theorem dX10_ones_5 : decode cX10_ones 5 = .ok (.bipush 8, 2) := dAX10_ones (5, (.bipush 8, 2)) (List.mem_of_getElem? (i := 5) rfl)
theorem dX10_ones_7 : decode cX10_ones 7 = .ok (.if_icmp .ge 17, 3) := dAX10_ones (7, (.if_icmp .ge 17, 3)) (List.mem_of_getElem? (i := 6) rfl)
theorem dX10_ones_10 : decode cX10_ones 10 = .ok (.iload_n 1, 1) := dAX10_ones (10, (.iload_n 1, 1)) (List.mem_of_getElem? (i := 7) rfl)
theorem dX10_ones_11 : decode cX10_ones 11 = .ok (.iload_n 0, 1) := dAX10_ones (11, (.iload_n 0, 1)) (List.mem_of_getElem? (i := 8) rfl)
theorem dX10_ones_12 : decode cX10_ones 12 = .ok (.iload_n 2, 1) := dAX10_ones (12, (.iload_n 2, 1)) (List.mem_of_getElem? (i := 9) rfl)
theorem dX10_ones_13 : decode cX10_ones 13 = .ok (.ishr, 1) := dAX10_ones (13, (.ishr, 1)) (List.mem_of_getElem? (i := 10) rfl)
theorem dX10_ones_14 : decode cX10_ones 14 = .ok (.iconst 1, 1) := dAX10_ones (14, (.iconst 1, 1)) (List.mem_of_getElem? (i := 11) rfl)
theorem dX10_ones_15 : decode cX10_ones 15 = .ok (.iand, 1) := dAX10_ones (15, (.iand, 1)) (List.mem_of_getElem? (i := 12) rfl)
theorem dX10_ones_16 : decode cX10_ones 16 = .ok (.iadd, 1) := dAX10_ones (16, (.iadd, 1)) (List.mem_of_getElem? (i := 13) rfl)
theorem dX10_ones_17 : decode cX10_ones 17 = .ok (.istore_n 1, 1) := dAX10_ones (17, (.istore_n 1, 1)) (List.mem_of_getElem? (i := 14) rfl)
theorem dX10_ones_18 : decode cX10_ones 18 = .ok (.iinc 2 1, 3) := dAX10_ones (18, (.iinc 2 1, 3)) (List.mem_of_getElem? (i := 15) rfl)
theorem dX10_ones_21 : decode cX10_ones 21 = .ok (.goto (-17), 3) := dAX10_ones (21, (.goto (-17), 3)) (List.mem_of_getElem? (i := 16) rfl)
theorem dX10_ones_24 : decode cX10_ones 24 = .ok (.iload_n 1, 1) := dAX10_ones (24, (.iload_n 1, 1)) (List.mem_of_getElem? (i := 17) rfl)
theorem dX10_ones_25 : decode cX10_ones 25 = .ok (.ireturn, 1) := dAX10_ones (25, (.ireturn, 1)) (List.mem_of_getElem? (i := 18) rfl)
set_option maxHeartbeats 4000000 in
set_option maxRecDepth 100000 in
theorem wX10_ones_L4 {p : Program} {l : Launch} {e : Env} {s : State} {m : MethodId} {args : Array Value} {below : List Frame} {meth : Method} {c : Code} {g : GG} {A : Nat → Prop} (C0 : Cx p s m args meth c cX10_ones 3 (some .int) RX10 wsX10_ones g A)   (n : Nat) (x0 : Int32)  (r : Int32) (K : Int32 → Option (Int32)) (hKx : ∀ (x1 : Int32) (H : Heap) (locs : List Loc) (ls : Array Slot), K x1 = some (r) → va_P g.1 vwCl [] H → va_D A [] → va_S A s.heap H locs → lv_has ls 3 [(1, .int x1)] → W p l e ({ frames := 0, cells := 0, slots := 0, locals := 0 } : Room) s m args below meth c H locs 0 0 (MQ below (EndI g r [] A) args s 0 0 A) (F0 m 24 ls [])) : ∀ (k : Nat) (x1 : Int32) (x2 : Int32), fX10_ones_L4 n x0 K k x1 x2 = some (r) → ∀ (H : Heap) (locs : List Loc) (ls : Array Slot), va_P g.1 vwCl [] H → va_D A [] → va_S A s.heap H locs → lv_has ls 3 [(0, .int x0), (1, .int x1), (2, .int x2)] → W p l e ({ frames := 0, cells := 0, slots := 0, locals := 0 } : Room) s m args below meth c H locs 0 0 (MQ below (EndI g r [] A) args s 0 0 A) (F0 m 4 ls []) := by
  obtain ⟨hx, hb, hml, hown, hts, hr, hlk, hK, hA, hSW⟩ := id C0
  intro k
  induction k with
  | zero =>
    intro x1 x2 hF
    exact absurd hF (by simp [fX10_ones_L4])
  | succ k ih =>
    intro x1 x2 hF H locs ls hP hD hS hl
    rw [fX10_ones_L4] at hF
    refine lv_iload_n hx hb dX10_ones_4 rfl (lv_at hl 2 rfl) ?_
    refine lv_bipush (v := (8 : Int32)) hx hb dX10_ones_5 (by decide) ?_
    refine lv_icmp_ge (tgt := 24) hx hb dX10_ones_7 (by decide) (fun c_1 => ?_) (fun c_1 => ?_)
    · have hF := it_p c_1 hF
      exact hKx x1 _ _ _ hF (hP.sub [] rfl) (hD.sub [] rfl rfl) hS (lv_sub hl [1] rfl)
    · have hF := it_n c_1 hF
      refine lv_iload_n hx hb dX10_ones_10 rfl (lv_at hl 1 rfl) ?_
      refine lv_iload_n hx hb dX10_ones_11 rfl (lv_at hl 0 rfl) ?_
      refine lv_iload_n hx hb dX10_ones_12 rfl (lv_at hl 2 rfl) ?_
      refine lv_ishr hx hb dX10_ones_13 ?_
      refine lv_iconst (v := (1 : Int32)) hx hb dX10_ones_14 (by decide) ?_
      refine lv_iand hx hb dX10_ones_15 ?_
      refine lv_iadd hx hb dX10_ones_16 ?_
      refine lv_istore_n (lv' := [(1, .int (x1 + ((x0 >>> (x2 &&& 31)) &&& (1 : Int32)))), (0, .int x0), (2, .int x2)]) hx hb dX10_ones_17 rfl hl (by decide) rfl (fun ls hl => ?_)
      refine lv_iinc (v := (x2 + (1 : Int32))) (lv' := [(2, .int (x2 + (1 : Int32))), (1, .int (x1 + ((x0 >>> (x2 &&& 31)) &&& (1 : Int32)))), (0, .int x0)]) hx hb dX10_ones_18 hl (k := 2) rfl rfl (by decide) rfl (fun ls hl => ?_)
      refine lv_goto (tgt := 4) hx hb dX10_ones_21 (by decide) ?_
      exact ih (x1 + ((x0 >>> (x2 &&& 31)) &&& (1 : Int32))) (x2 + (1 : Int32)) hF _ _ _ (hP.sub [] rfl) (hD.sub [] rfl rfl) hS (lv_sub hl [2, 1, 0] rfl)
set_option maxHeartbeats 4000000 in
set_option maxRecDepth 100000 in
theorem mX10_ones (l : Launch) (g : GG)   (n : Nat) (x0 : Int32) (r : Int32) (hF : fX10_ones n x0 = some (r)) : MI l g yX10_ones wsX10_ones ({ frames := 0, cells := 0, slots := 0, locals := 0 } : Room) [.int x0] [] r [] := by
  refine MI.of (cc := cX10_ones) (maxL := 3) (rt := .int) (own := RX10) rfl rfl (by decide) (Nat.le_of_ble_eq_true rfl) ?_
  intro p e s m args below meth c A C0 hP hD hS ls hl
  obtain ⟨hx, hb, hml, hown, hts, hr, hlk, hK, hA, hSW⟩ := id C0
  have hl : lv_has ls 3 [(0, .int x0)] := hl
  rw [fX10_ones] at hF
  refine lv_iconst (v := (0 : Int32)) hx hb dX10_ones_0 (by decide) ?_
  refine lv_istore_n (lv' := [(1, .int (0 : Int32)), (0, .int x0)]) hx hb dX10_ones_1 rfl hl (by decide) rfl (fun ls hl => ?_)
  refine lv_iconst (v := (0 : Int32)) hx hb dX10_ones_2 (by decide) ?_
  refine lv_istore_n (lv' := [(2, .int (0 : Int32)), (1, .int (0 : Int32)), (0, .int x0)]) hx hb dX10_ones_3 rfl hl (by decide) rfl (fun ls hl => ?_)
  refine wX10_ones_L4 C0 n x0 r _ ?_ n (0 : Int32) (0 : Int32) hF _ _ _ (hP.sub [] rfl) (hD.sub [] rfl rfl) hS (lv_sub hl [2, 1, 0] rfl)
  · intro x1_x4 H locs ls hF hP hD hS hl
    refine lv_iload_n hx hb dX10_ones_24 rfl (lv_at hl 0 rfl) ?_
    cases hF
    exact ret_i C0 hP hD hS [] rfl rfl rfl dX10_ones_25 rfl

theorem dAX10_copy : ∀ q ∈ ([(0, (.iconst 0, 1)), (1, (.istore 5, 2)), (3, (.iload 5, 2)), (5, (.iload 4, 2)), (7, (.if_icmp .ge 21, 3)), (10, (.aload_n 2, 1)), (11, (.iload_n 3, 1)), (12, (.iload 5, 2)), (14, (.iadd, 1)), (15, (.aload_n 0, 1)), (16, (.iload_n 1, 1)), (17, (.iload 5, 2)), (19, (.iadd, 1)), (20, (.iaload, 1)), (21, (.iastore, 1)), (22, (.iinc 5 1, 3)), (25, (.goto (-22), 3)), (28, (.return_, 1))] : List (Nat × (Instr × Nat))), decode cX10_copy q.1 = .ok q.2 := by decide +kernel
theorem dX10_copy_0 : decode cX10_copy 0 = .ok (.iconst 0, 1) := dAX10_copy (0, (.iconst 0, 1)) (List.mem_of_getElem? (i := 0) rfl)
theorem dX10_copy_1 : decode cX10_copy 1 = .ok (.istore 5, 2) := dAX10_copy (1, (.istore 5, 2)) (List.mem_of_getElem? (i := 1) rfl)
theorem dX10_copy_3 : decode cX10_copy 3 = .ok (.iload 5, 2) := dAX10_copy (3, (.iload 5, 2)) (List.mem_of_getElem? (i := 2) rfl)
theorem dX10_copy_5 : decode cX10_copy 5 = .ok (.iload 4, 2) := dAX10_copy (5, (.iload 4, 2)) (List.mem_of_getElem? (i := 3) rfl)
theorem dX10_copy_7 : decode cX10_copy 7 = .ok (.if_icmp .ge 21, 3) := dAX10_copy (7, (.if_icmp .ge 21, 3)) (List.mem_of_getElem? (i := 4) rfl)
theorem dX10_copy_10 : decode cX10_copy 10 = .ok (.aload_n 2, 1) := dAX10_copy (10, (.aload_n 2, 1)) (List.mem_of_getElem? (i := 5) rfl)
theorem dX10_copy_11 : decode cX10_copy 11 = .ok (.iload_n 3, 1) := dAX10_copy (11, (.iload_n 3, 1)) (List.mem_of_getElem? (i := 6) rfl)
theorem dX10_copy_12 : decode cX10_copy 12 = .ok (.iload 5, 2) := dAX10_copy (12, (.iload 5, 2)) (List.mem_of_getElem? (i := 7) rfl)
theorem dX10_copy_14 : decode cX10_copy 14 = .ok (.iadd, 1) := dAX10_copy (14, (.iadd, 1)) (List.mem_of_getElem? (i := 8) rfl)
theorem dX10_copy_15 : decode cX10_copy 15 = .ok (.aload_n 0, 1) := dAX10_copy (15, (.aload_n 0, 1)) (List.mem_of_getElem? (i := 9) rfl)
theorem dX10_copy_16 : decode cX10_copy 16 = .ok (.iload_n 1, 1) := dAX10_copy (16, (.iload_n 1, 1)) (List.mem_of_getElem? (i := 10) rfl)
theorem dX10_copy_17 : decode cX10_copy 17 = .ok (.iload 5, 2) := dAX10_copy (17, (.iload 5, 2)) (List.mem_of_getElem? (i := 11) rfl)
theorem dX10_copy_19 : decode cX10_copy 19 = .ok (.iadd, 1) := dAX10_copy (19, (.iadd, 1)) (List.mem_of_getElem? (i := 12) rfl)
theorem dX10_copy_20 : decode cX10_copy 20 = .ok (.iaload, 1) := dAX10_copy (20, (.iaload, 1)) (List.mem_of_getElem? (i := 13) rfl)
theorem dX10_copy_21 : decode cX10_copy 21 = .ok (.iastore, 1) := dAX10_copy (21, (.iastore, 1)) (List.mem_of_getElem? (i := 14) rfl)
theorem dX10_copy_22 : decode cX10_copy 22 = .ok (.iinc 5 1, 3) := dAX10_copy (22, (.iinc 5 1, 3)) (List.mem_of_getElem? (i := 15) rfl)
theorem dX10_copy_25 : decode cX10_copy 25 = .ok (.goto (-22), 3) := dAX10_copy (25, (.goto (-22), 3)) (List.mem_of_getElem? (i := 16) rfl)
theorem dX10_copy_28 : decode cX10_copy 28 = .ok (.return_, 1) := dAX10_copy (28, (.return_, 1)) (List.mem_of_getElem? (i := 17) rfl)
set_option maxHeartbeats 4000000 in
set_option maxRecDepth 100000 in
theorem wX10_copy_L3 {p : Program} {l : Launch} {e : Env} {s : State} {m : MethodId} {args : Array Value} {below : List Frame} {meth : Method} {c : Code} {g : GG} {A : Nat → Prop} (C0 : Cx p s m args meth c cX10_copy 6 none RX10 wsX10_copy g A) (a_r0 : Nat) (a_r2 : Nat)  (n : Nat) (n_r0 : Nat) (n_r2 : Nat) (x1 : Int32) (x3 : Int32) (x4 : Int32) (f_r0 : Nat → Int32)  (f_r2' : Nat → Int32) (K : (Nat → Int32) → Option ((Nat → Int32))) (hKx : ∀ (f_r2 : Nat → Int32) (H : Heap) (locs : List Loc) (ls : Array Slot), K f_r2 = some (f_r2') → va_P g.1 vwCl [aI g a_r0 n_r0 f_r0, aI g a_r2 n_r2 f_r2] H → va_D A [aI g a_r0 n_r0 f_r0, aI g a_r2 n_r2 f_r2] → va_S A s.heap H locs → lv_has ls 6 [] → W p l e ({ frames := 0, cells := 0, slots := 0, locals := 0 } : Room) s m args below meth c H locs 0 0 (MQ below (EndV g [aI g a_r0 n_r0 f_r0, aI g a_r2 n_r2 f_r2'] A) args s 0 0 A) (F0 m 28 ls [])) : ∀ (k : Nat) (x5 : Int32) (f_r2 : Nat → Int32), fX10_copy_L3 n n_r0 n_r2 x1 x3 x4 f_r0 K k x5 f_r2 = some (f_r2') → ∀ (H : Heap) (locs : List Loc) (ls : Array Slot), va_P g.1 vwCl [aI g a_r0 n_r0 f_r0, aI g a_r2 n_r2 f_r2] H → va_D A [aI g a_r0 n_r0 f_r0, aI g a_r2 n_r2 f_r2] → va_S A s.heap H locs → lv_has ls 6 [(0, .ref a_r0), (1, .int x1), (2, .ref a_r2), (3, .int x3), (4, .int x4), (5, .int x5)] → W p l e ({ frames := 0, cells := 0, slots := 0, locals := 0 } : Room) s m args below meth c H locs 0 0 (MQ below (EndV g [aI g a_r0 n_r0 f_r0, aI g a_r2 n_r2 f_r2'] A) args s 0 0 A) (F0 m 3 ls []) := by
  obtain ⟨hx, hb, hml, hown, hts, hr, hlk, hK, hA, hSW⟩ := id C0
  intro k
  induction k with
  | zero =>
    intro x5 f_r2 hF
    exact absurd hF (by simp [fX10_copy_L3])
  | succ k ih =>
    intro x5 f_r2 hF H locs ls hP hD hS hl
    rw [fX10_copy_L3] at hF
    refine lv_iload hx hb dX10_copy_3 (lv_at hl 5 rfl) ?_
    refine lv_iload hx hb dX10_copy_5 (lv_at hl 4 rfl) ?_
    refine lv_icmp_ge (tgt := 28) hx hb dX10_copy_7 (by decide) (fun c_1 => ?_) (fun c_1 => ?_)
    · have hF := it_p c_1 hF
      exact hKx f_r2 _ _ _ hF (hP.sub [0, 1] rfl) (hD.sub [0, 1] rfl rfl) hS (lv_sub hl [] rfl)
    · have hF := it_n c_1 hF
      refine lv_aload_n hx hb dX10_copy_10 rfl (lv_at hl 2 rfl) ?_
      refine lv_iload_n hx hb dX10_copy_11 rfl (lv_at hl 3 rfl) ?_
      refine lv_iload hx hb dX10_copy_12 (lv_at hl 5 rfl) ?_
      refine lv_iadd hx hb dX10_copy_14 ?_
      refine lv_aload_n hx hb dX10_copy_15 rfl (lv_at hl 0 rfl) ?_
      refine lv_iload_n hx hb dX10_copy_16 rfl (lv_at hl 1 rfl) ?_
      refine lv_iload hx hb dX10_copy_17 (lv_at hl 5 rfl) ?_
      refine lv_iadd hx hb dX10_copy_19 ?_
      obtain ⟨h_2, hF⟩ := it_ck hF
      refine va_iald hx hb hK.1 hP 0 0 rfl rfl h_2 dX10_copy_20 ?_
      obtain ⟨h_3, hF⟩ := it_ck hF
      refine va_iast hx hb hK.1 hP hD hS 1 0 rfl rfl h_3 dX10_copy_21 (fun H locs hP hD hS => ?_)
      have hP : va_P g.1 vwCl [aI g a_r0 n_r0 f_r0, aI g a_r2 n_r2 (upd f_r2 ((x3 + x5)).toNatClampNeg (f_r0 ((x1 + x5)).toNatClampNeg))] H := hP
      have hD : va_D A [aI g a_r0 n_r0 f_r0, aI g a_r2 n_r2 (upd f_r2 ((x3 + x5)).toNatClampNeg (f_r0 ((x1 + x5)).toNatClampNeg))] := hD
      refine lv_iinc (v := (x5 + (1 : Int32))) (lv' := [(5, .int (x5 + (1 : Int32))), (0, .ref a_r0), (1, .int x1), (2, .ref a_r2), (3, .int x3), (4, .int x4)]) hx hb dX10_copy_22 hl (k := 5) rfl rfl (by decide) rfl (fun ls hl => ?_)
      refine lv_goto (tgt := 3) hx hb dX10_copy_25 (by decide) ?_
      exact ih (x5 + (1 : Int32)) (upd f_r2 ((x3 + x5)).toNatClampNeg (f_r0 ((x1 + x5)).toNatClampNeg)) hF _ _ _ (hP.sub [0, 1] rfl) (hD.sub [0, 1] rfl rfl) hS (lv_sub hl [1, 2, 3, 4, 5, 0] rfl)
set_option maxHeartbeats 4000000 in
set_option maxRecDepth 100000 in
theorem mX10_copy (l : Launch) (g : GG) (a_r0 : Nat) (a_r2 : Nat)  (n : Nat) (x1 : Int32) (x3 : Int32) (x4 : Int32) (n_r0 : Nat) (n_r2 : Nat) (f_r0 : Nat → Int32) (f_r2 : Nat → Int32) (f_r2' : Nat → Int32) (hF : fX10_copy n x1 x3 x4 n_r0 n_r2 f_r0 f_r2 = some (f_r2')) : MV l g yX10_copy wsX10_copy ({ frames := 0, cells := 0, slots := 0, locals := 0 } : Room) [.ref a_r0, .int x1, .ref a_r2, .int x3, .int x4] [aI g a_r0 n_r0 f_r0, aI g a_r2 n_r2 f_r2] [aI g a_r0 n_r0 f_r0, aI g a_r2 n_r2 f_r2'] := by
  refine MV.of (cc := cX10_copy) (maxL := 6) (own := RX10) rfl rfl (by decide) (Nat.le_of_ble_eq_true rfl) ?_
  intro p e s m args below meth c A C0 hP hD hS ls hl
  obtain ⟨hx, hb, hml, hown, hts, hr, hlk, hK, hA, hSW⟩ := id C0
  have hl : lv_has ls 6 [(0, .ref a_r0), (1, .int x1), (2, .ref a_r2), (3, .int x3), (4, .int x4)] := hl
  rw [fX10_copy] at hF
  refine lv_iconst (v := (0 : Int32)) hx hb dX10_copy_0 (by decide) ?_
  refine lv_istore (lv' := [(5, .int (0 : Int32)), (0, .ref a_r0), (1, .int x1), (2, .ref a_r2), (3, .int x3), (4, .int x4)]) hx hb dX10_copy_1 hl (by decide) rfl (fun ls hl => ?_)
  refine wX10_copy_L3 C0 a_r0 a_r2 n n_r0 n_r2 x1 x3 x4 f_r0 f_r2' _ ?_ n (0 : Int32) f_r2 hF _ _ _ (hP.sub [0, 1] rfl) (hD.sub [0, 1] rfl rfl) hS (lv_sub hl [1, 2, 3, 4, 5, 0] rfl)
  · intro f_r2_x3 H locs ls hF hP hD hS hl
    cases hF
    exact ret_v C0 hP hD hS [0, 1] rfl rfl rfl dX10_copy_28

theorem dAX10_feed : ∀ q ∈ ([(0, (.aload_n 0, 1)), (1, (.iconst 0, 1)), (2, (.putfield 53, 3)), (5, (.aload_n 0, 1)), (6, (.getfield 59, 3)), (9, (.bipush 20, 2)), (11, (.iadd, 1)), (12, (.sipush 800, 3)), (15, (.if_icmp .le 5, 3)), (18, (.iconst (-1), 1)), (19, (.ireturn, 1)), (20, (.iconst 0, 1)), (21, (.istore 6, 2)), (23, (.iload 6, 2)), (25, (.bipush 20, 2)), (27, (.if_icmp .ge 93, 3)), (30, (.iload 6, 2)), (32, (.iconst 4, 1)), (33, (.if_icmp .ge 7, 3)), (36, (.iload_n 1, 1)), (37, (.goto 39, 3)), (40, (.iload 6, 2)), (42, (.bipush 8, 2)), (44, (.if_icmp .ge 7, 3)), (47, (.iload_n 2, 1)), (48, (.goto 28, 3)), (51, (.iload 6, 2)), (53, (.bipush 12, 2)), (55, (.if_icmp .ge 7, 3)), (58, (.iload_n 3, 1)), (59, (.goto 17, 3)), (62, (.iload 6, 2)), (64, (.bipush 16, 2)), (66, (.if_icmp .ge 8, 3)), (69, (.iload 4, 2)), (71, (.goto 5, 3)), (74, (.iload 5, 2)), (76, (.istore 7, 2)), (78, (.aload_n 0, 1)), (79, (.getfield 7, 3)), (82, (.aload_n 0, 1)), (83, (.getfield 59, 3)), (86, (.iload 7, 2)), (88, (.bipush 24, 2)), (90, (.bipush 8, 2)), (92, (.iload 6, 2)), (94, (.iconst 4, 1)), (95, (.irem, 1)), (96, (.imul, 1)), (97, (.isub, 1)), (98, (.ishr, 1)), (99, (.sipush 255, 3)), (102, (.iand, 1)), (103, (.iastore, 1)), (104, (.aload_n 0, 1)), (105, (.dup, 1)), (106, (.getfield 59, 3)), (109, (.iconst 1, 1)), (110, (.iadd, 1)), (111, (.putfield 59, 3)), (114, (.iinc 6 1, 3)), (117, (.goto (-94), 3)), (120, (.aload_n 0, 1)), (121, (.getfield 59, 3)), (124, (.ireturn, 1))] : List (Nat × (Instr × Nat))), decode cX10_feed q.1 = .ok q.2 := by decide +kernel
theorem dX10_feed_0 : decode cX10_feed 0 = .ok (.aload_n 0, 1) := dAX10_feed (0, (.aload_n 0, 1)) (List.mem_of_getElem? (i := 0) rfl)
theorem dX10_feed_1 : decode cX10_feed 1 = .ok (.iconst 0, 1) := dAX10_feed (1, (.iconst 0, 1)) (List.mem_of_getElem? (i := 1) rfl)
theorem dX10_feed_2 : decode cX10_feed 2 = .ok (.putfield 53, 3) := dAX10_feed (2, (.putfield 53, 3)) (List.mem_of_getElem? (i := 2) rfl)
theorem dX10_feed_5 : decode cX10_feed 5 = .ok (.aload_n 0, 1) := dAX10_feed (5, (.aload_n 0, 1)) (List.mem_of_getElem? (i := 3) rfl)
theorem dX10_feed_6 : decode cX10_feed 6 = .ok (.getfield 59, 3) := dAX10_feed (6, (.getfield 59, 3)) (List.mem_of_getElem? (i := 4) rfl)
theorem dX10_feed_9 : decode cX10_feed 9 = .ok (.bipush 20, 2) := dAX10_feed (9, (.bipush 20, 2)) (List.mem_of_getElem? (i := 5) rfl)
theorem dX10_feed_11 : decode cX10_feed 11 = .ok (.iadd, 1) := dAX10_feed (11, (.iadd, 1)) (List.mem_of_getElem? (i := 6) rfl)
theorem dX10_feed_12 : decode cX10_feed 12 = .ok (.sipush 800, 3) := dAX10_feed (12, (.sipush 800, 3)) (List.mem_of_getElem? (i := 7) rfl)
theorem dX10_feed_15 : decode cX10_feed 15 = .ok (.if_icmp .le 5, 3) := dAX10_feed (15, (.if_icmp .le 5, 3)) (List.mem_of_getElem? (i := 8) rfl)
theorem dX10_feed_18 : decode cX10_feed 18 = .ok (.iconst (-1), 1) := dAX10_feed (18, (.iconst (-1), 1)) (List.mem_of_getElem? (i := 9) rfl)
theorem dX10_feed_19 : decode cX10_feed 19 = .ok (.ireturn, 1) := dAX10_feed (19, (.ireturn, 1)) (List.mem_of_getElem? (i := 10) rfl)
theorem dX10_feed_20 : decode cX10_feed 20 = .ok (.iconst 0, 1) := dAX10_feed (20, (.iconst 0, 1)) (List.mem_of_getElem? (i := 11) rfl)
theorem dX10_feed_21 : decode cX10_feed 21 = .ok (.istore 6, 2) := dAX10_feed (21, (.istore 6, 2)) (List.mem_of_getElem? (i := 12) rfl)
theorem dX10_feed_23 : decode cX10_feed 23 = .ok (.iload 6, 2) := dAX10_feed (23, (.iload 6, 2)) (List.mem_of_getElem? (i := 13) rfl)
theorem dX10_feed_25 : decode cX10_feed 25 = .ok (.bipush 20, 2) := dAX10_feed (25, (.bipush 20, 2)) (List.mem_of_getElem? (i := 14) rfl)
theorem dX10_feed_27 : decode cX10_feed 27 = .ok (.if_icmp .ge 93, 3) := dAX10_feed (27, (.if_icmp .ge 93, 3)) (List.mem_of_getElem? (i := 15) rfl)
theorem dX10_feed_30 : decode cX10_feed 30 = .ok (.iload 6, 2) := dAX10_feed (30, (.iload 6, 2)) (List.mem_of_getElem? (i := 16) rfl)
theorem dX10_feed_32 : decode cX10_feed 32 = .ok (.iconst 4, 1) := dAX10_feed (32, (.iconst 4, 1)) (List.mem_of_getElem? (i := 17) rfl)
theorem dX10_feed_33 : decode cX10_feed 33 = .ok (.if_icmp .ge 7, 3) := dAX10_feed (33, (.if_icmp .ge 7, 3)) (List.mem_of_getElem? (i := 18) rfl)
theorem dX10_feed_36 : decode cX10_feed 36 = .ok (.iload_n 1, 1) := dAX10_feed (36, (.iload_n 1, 1)) (List.mem_of_getElem? (i := 19) rfl)
theorem dX10_feed_37 : decode cX10_feed 37 = .ok (.goto 39, 3) := dAX10_feed (37, (.goto 39, 3)) (List.mem_of_getElem? (i := 20) rfl)
theorem dX10_feed_40 : decode cX10_feed 40 = .ok (.iload 6, 2) := dAX10_feed (40, (.iload 6, 2)) (List.mem_of_getElem? (i := 21) rfl)
theorem dX10_feed_42 : decode cX10_feed 42 = .ok (.bipush 8, 2) := dAX10_feed (42, (.bipush 8, 2)) (List.mem_of_getElem? (i := 22) rfl)
theorem dX10_feed_44 : decode cX10_feed 44 = .ok (.if_icmp .ge 7, 3) := dAX10_feed (44, (.if_icmp .ge 7, 3)) (List.mem_of_getElem? (i := 23) rfl)
theorem dX10_feed_47 : decode cX10_feed 47 = .ok (.iload_n 2, 1) := dAX10_feed (47, (.iload_n 2, 1)) (List.mem_of_getElem? (i := 24) rfl)
theorem dX10_feed_48 : decode cX10_feed 48 = .ok (.goto 28, 3) := dAX10_feed (48, (.goto 28, 3)) (List.mem_of_getElem? (i := 25) rfl)
theorem dX10_feed_51 : decode cX10_feed 51 = .ok (.iload 6, 2) := dAX10_feed (51, (.iload 6, 2)) (List.mem_of_getElem? (i := 26) rfl)
theorem dX10_feed_53 : decode cX10_feed 53 = .ok (.bipush 12, 2) := dAX10_feed (53, (.bipush 12, 2)) (List.mem_of_getElem? (i := 27) rfl)
theorem dX10_feed_55 : decode cX10_feed 55 = .ok (.if_icmp .ge 7, 3) := dAX10_feed (55, (.if_icmp .ge 7, 3)) (List.mem_of_getElem? (i := 28) rfl)
theorem dX10_feed_58 : decode cX10_feed 58 = .ok (.iload_n 3, 1) := dAX10_feed (58, (.iload_n 3, 1)) (List.mem_of_getElem? (i := 29) rfl)
theorem dX10_feed_59 : decode cX10_feed 59 = .ok (.goto 17, 3) := dAX10_feed (59, (.goto 17, 3)) (List.mem_of_getElem? (i := 30) rfl)
theorem dX10_feed_62 : decode cX10_feed 62 = .ok (.iload 6, 2) := dAX10_feed (62, (.iload 6, 2)) (List.mem_of_getElem? (i := 31) rfl)
theorem dX10_feed_64 : decode cX10_feed 64 = .ok (.bipush 16, 2) := dAX10_feed (64, (.bipush 16, 2)) (List.mem_of_getElem? (i := 32) rfl)
theorem dX10_feed_66 : decode cX10_feed 66 = .ok (.if_icmp .ge 8, 3) := dAX10_feed (66, (.if_icmp .ge 8, 3)) (List.mem_of_getElem? (i := 33) rfl)
theorem dX10_feed_69 : decode cX10_feed 69 = .ok (.iload 4, 2) := dAX10_feed (69, (.iload 4, 2)) (List.mem_of_getElem? (i := 34) rfl)
theorem dX10_feed_71 : decode cX10_feed 71 = .ok (.goto 5, 3) := dAX10_feed (71, (.goto 5, 3)) (List.mem_of_getElem? (i := 35) rfl)
theorem dX10_feed_74 : decode cX10_feed 74 = .ok (.iload 5, 2) := dAX10_feed (74, (.iload 5, 2)) (List.mem_of_getElem? (i := 36) rfl)
theorem dX10_feed_76 : decode cX10_feed 76 = .ok (.istore 7, 2) := dAX10_feed (76, (.istore 7, 2)) (List.mem_of_getElem? (i := 37) rfl)
theorem dX10_feed_78 : decode cX10_feed 78 = .ok (.aload_n 0, 1) := dAX10_feed (78, (.aload_n 0, 1)) (List.mem_of_getElem? (i := 38) rfl)
theorem dX10_feed_79 : decode cX10_feed 79 = .ok (.getfield 7, 3) := dAX10_feed (79, (.getfield 7, 3)) (List.mem_of_getElem? (i := 39) rfl)
theorem dX10_feed_82 : decode cX10_feed 82 = .ok (.aload_n 0, 1) := dAX10_feed (82, (.aload_n 0, 1)) (List.mem_of_getElem? (i := 40) rfl)
theorem dX10_feed_83 : decode cX10_feed 83 = .ok (.getfield 59, 3) := dAX10_feed (83, (.getfield 59, 3)) (List.mem_of_getElem? (i := 41) rfl)
theorem dX10_feed_86 : decode cX10_feed 86 = .ok (.iload 7, 2) := dAX10_feed (86, (.iload 7, 2)) (List.mem_of_getElem? (i := 42) rfl)
theorem dX10_feed_88 : decode cX10_feed 88 = .ok (.bipush 24, 2) := dAX10_feed (88, (.bipush 24, 2)) (List.mem_of_getElem? (i := 43) rfl)
theorem dX10_feed_90 : decode cX10_feed 90 = .ok (.bipush 8, 2) := dAX10_feed (90, (.bipush 8, 2)) (List.mem_of_getElem? (i := 44) rfl)
theorem dX10_feed_92 : decode cX10_feed 92 = .ok (.iload 6, 2) := dAX10_feed (92, (.iload 6, 2)) (List.mem_of_getElem? (i := 45) rfl)
theorem dX10_feed_94 : decode cX10_feed 94 = .ok (.iconst 4, 1) := dAX10_feed (94, (.iconst 4, 1)) (List.mem_of_getElem? (i := 46) rfl)
theorem dX10_feed_95 : decode cX10_feed 95 = .ok (.irem, 1) := dAX10_feed (95, (.irem, 1)) (List.mem_of_getElem? (i := 47) rfl)
theorem dX10_feed_96 : decode cX10_feed 96 = .ok (.imul, 1) := dAX10_feed (96, (.imul, 1)) (List.mem_of_getElem? (i := 48) rfl)
theorem dX10_feed_97 : decode cX10_feed 97 = .ok (.isub, 1) := dAX10_feed (97, (.isub, 1)) (List.mem_of_getElem? (i := 49) rfl)
theorem dX10_feed_98 : decode cX10_feed 98 = .ok (.ishr, 1) := dAX10_feed (98, (.ishr, 1)) (List.mem_of_getElem? (i := 50) rfl)
theorem dX10_feed_99 : decode cX10_feed 99 = .ok (.sipush 255, 3) := dAX10_feed (99, (.sipush 255, 3)) (List.mem_of_getElem? (i := 51) rfl)
theorem dX10_feed_102 : decode cX10_feed 102 = .ok (.iand, 1) := dAX10_feed (102, (.iand, 1)) (List.mem_of_getElem? (i := 52) rfl)
theorem dX10_feed_103 : decode cX10_feed 103 = .ok (.iastore, 1) := dAX10_feed (103, (.iastore, 1)) (List.mem_of_getElem? (i := 53) rfl)
theorem dX10_feed_104 : decode cX10_feed 104 = .ok (.aload_n 0, 1) := dAX10_feed (104, (.aload_n 0, 1)) (List.mem_of_getElem? (i := 54) rfl)
theorem dX10_feed_105 : decode cX10_feed 105 = .ok (.dup, 1) := dAX10_feed (105, (.dup, 1)) (List.mem_of_getElem? (i := 55) rfl)
theorem dX10_feed_106 : decode cX10_feed 106 = .ok (.getfield 59, 3) := dAX10_feed (106, (.getfield 59, 3)) (List.mem_of_getElem? (i := 56) rfl)
theorem dX10_feed_109 : decode cX10_feed 109 = .ok (.iconst 1, 1) := dAX10_feed (109, (.iconst 1, 1)) (List.mem_of_getElem? (i := 57) rfl)
theorem dX10_feed_110 : decode cX10_feed 110 = .ok (.iadd, 1) := dAX10_feed (110, (.iadd, 1)) (List.mem_of_getElem? (i := 58) rfl)
theorem dX10_feed_111 : decode cX10_feed 111 = .ok (.putfield 59, 3) := dAX10_feed (111, (.putfield 59, 3)) (List.mem_of_getElem? (i := 59) rfl)
theorem dX10_feed_114 : decode cX10_feed 114 = .ok (.iinc 6 1, 3) := dAX10_feed (114, (.iinc 6 1, 3)) (List.mem_of_getElem? (i := 60) rfl)
theorem dX10_feed_117 : decode cX10_feed 117 = .ok (.goto (-94), 3) := dAX10_feed (117, (.goto (-94), 3)) (List.mem_of_getElem? (i := 61) rfl)
theorem dX10_feed_120 : decode cX10_feed 120 = .ok (.aload_n 0, 1) := dAX10_feed (120, (.aload_n 0, 1)) (List.mem_of_getElem? (i := 62) rfl)
theorem dX10_feed_121 : decode cX10_feed 121 = .ok (.getfield 59, 3) := dAX10_feed (121, (.getfield 59, 3)) (List.mem_of_getElem? (i := 63) rfl)
theorem dX10_feed_124 : decode cX10_feed 124 = .ok (.ireturn, 1) := dAX10_feed (124, (.ireturn, 1)) (List.mem_of_getElem? (i := 64) rfl)
theorem kX10_feed_53 : Cond.fieldLink RX10 53 "EveningVowModel" "thrown" "I" ∈ wsX10_feed := List.mem_of_getElem? (i := 1) rfl
theorem iX10_feed_X10 : ∀ w ∈ u_ws RX10 TX10 35, w ∈ wsX10_feed := fun w h => (List.mem_cons_of_mem _ (List.mem_append_right _ h))
theorem kX10_feed_59 : Cond.fieldLink RX10 59 "EveningVowModel" "taped" "I" ∈ wsX10_feed := List.mem_of_getElem? (i := 2) rfl
theorem kX10_feed_7 : Cond.fieldLink RX10 7 "EveningVowModel" "tape" "[I" ∈ wsX10_feed := List.mem_of_getElem? (i := 3) rfl
set_option maxHeartbeats 4000000 in
set_option maxRecDepth 100000 in
theorem wX10_feed_L23 {p : Program} {l : Launch} {e : Env} {s : State} {m : MethodId} {args : Array Value} {below : List Frame} {meth : Method} {c : Code} {g : GG} {A : Nat → Prop} (C0 : Cx p s m args meth c cX10_feed 8 (some .int) RX10 wsX10_feed g A) (a_t : Nat) (p_t : Nat → Nat) (n : Nat) (x1 : Int32) (x2 : Int32) (x3 : Int32) (x4 : Int32) (x5 : Int32)  (r : Int32) (o_t' : Nat → Int32) (f_t_1' : Nat → Int32) (K : (Nat → Int32) → (Nat → Int32) → Option (Int32 × (Nat → Int32) × (Nat → Int32))) (hKx : ∀ (o_t : Nat → Int32) (f_t_1 : Nat → Int32) (H : Heap) (locs : List Loc) (ls : Array Slot), K o_t f_t_1 = some (r, o_t', f_t_1') → va_P g.1 vwCl [oX10 a_t p_t o_t, aI g (p_t 1) 800 f_t_1] H → va_D A [oX10 a_t p_t o_t, aI g (p_t 1) 800 f_t_1] → va_S A s.heap H locs → lv_has ls 8 [(0, .ref a_t)] → W p l e ({ frames := 0, cells := 0, slots := 0, locals := 0 } : Room) s m args below meth c H locs 0 0 (MQ below (EndI g r [oX10 a_t p_t o_t', aI g (p_t 1) 800 f_t_1'] A) args s 0 0 A) (F0 m 120 ls [])) : ∀ (k : Nat) (x6 : Int32) (o_t : Nat → Int32) (f_t_1 : Nat → Int32), fX10_feed_L23 n x1 x2 x3 x4 x5 K k x6 o_t f_t_1 = some (r, o_t', f_t_1') → ∀ (H : Heap) (locs : List Loc) (ls : Array Slot), va_P g.1 vwCl [oX10 a_t p_t o_t, aI g (p_t 1) 800 f_t_1] H → va_D A [oX10 a_t p_t o_t, aI g (p_t 1) 800 f_t_1] → va_S A s.heap H locs → lv_has ls 8 [(0, .ref a_t), (1, .int x1), (2, .int x2), (3, .int x3), (4, .int x4), (5, .int x5), (6, .int x6)] → W p l e ({ frames := 0, cells := 0, slots := 0, locals := 0 } : Room) s m args below meth c H locs 0 0 (MQ below (EndI g r [oX10 a_t p_t o_t', aI g (p_t 1) 800 f_t_1'] A) args s 0 0 A) (F0 m 23 ls []) := by
  obtain ⟨hx, hb, hml, hown, hts, hr, hlk, hK, hA, hSW⟩ := id C0
  intro k
  induction k with
  | zero =>
    intro x6 o_t f_t_1 hF
    exact absurd hF (by simp [fX10_feed_L23])
  | succ k ih =>
    intro x6 o_t f_t_1 hF H locs ls hP hD hS hl
    rw [fX10_feed_L23] at hF
    refine lv_iload hx hb dX10_feed_23 (lv_at hl 6 rfl) ?_
    refine lv_bipush (v := (20 : Int32)) hx hb dX10_feed_25 (by decide) ?_
    refine lv_icmp_ge (tgt := 120) hx hb dX10_feed_27 (by decide) (fun c_2 => ?_) (fun c_2 => ?_)
    · have hF := it_p c_2 hF
      exact hKx o_t f_t_1 _ _ _ hF (hP.sub [0, 1] rfl) (hD.sub [0, 1] rfl rfl) hS (lv_sub hl [0] rfl)
    · have hF := it_n c_2 hF
      refine lv_iload hx hb dX10_feed_30 (lv_at hl 6 rfl) ?_
      refine lv_iconst (v := (4 : Int32)) hx hb dX10_feed_32 (by decide) ?_
      obtain ⟨J76, eJ76, hF⟩ := jn_some hF
      have hJ76 : ∀ (s0_76 : Int32) (H : Heap) (locs : List Loc) (ls : Array Slot), J76 s0_76 = some (r, o_t', f_t_1') → va_P g.1 vwCl [oX10 a_t p_t o_t, aI g (p_t 1) 800 f_t_1] H → va_D A [oX10 a_t p_t o_t, aI g (p_t 1) 800 f_t_1] → va_S A s.heap H locs → lv_has ls 8 [(0, .ref a_t), (1, .int x1), (2, .int x2), (3, .int x3), (4, .int x4), (5, .int x5), (6, .int x6)] → W p l e ({ frames := 0, cells := 0, slots := 0, locals := 0 } : Room) s m args below meth c H locs 0 0 (MQ below (EndI g r [oX10 a_t p_t o_t', aI g (p_t 1) 800 f_t_1'] A) args s 0 0 A) (F0 m 76 ls [.int s0_76]) := by
        intro s0_76 H locs ls hF hP hD hS hl
        have hF := jj1 eJ76 hF
        refine lv_istore (lv' := [(7, .int s0_76), (0, .ref a_t), (1, .int x1), (2, .int x2), (3, .int x3), (4, .int x4), (5, .int x5), (6, .int x6)]) hx hb dX10_feed_76 hl (by decide) rfl (fun ls hl => ?_)
        refine lv_aload_n hx hb dX10_feed_78 rfl (lv_at hl 1 rfl) ?_
        refine va_get (D := g.1) (ci := 10) (v := .ref (p_t 1)) (C := RX10) (T := TX10) (N := 35) hx hb hts iX10_feed_X10 hown hK.1 hP 0 rfl rfl 1 (by decide) (hts _ kX10_feed_7) (fun _ h9 => h9) rfl dX10_feed_79 ?_
        refine lv_aload_n hx hb dX10_feed_82 rfl (lv_at hl 1 rfl) ?_
        refine va_get (D := g.1) (ci := 10) (v := .int (o_t 2)) (C := RX10) (T := TX10) (N := 35) hx hb hts iX10_feed_X10 hown hK.1 hP 0 rfl rfl 2 (by decide) (hts _ kX10_feed_59) (fun _ h9 => h9) rfl dX10_feed_83 ?_
        refine lv_iload hx hb dX10_feed_86 (lv_at hl 0 rfl) ?_
        refine lv_bipush (v := (24 : Int32)) hx hb dX10_feed_88 (by decide) ?_
        refine lv_bipush (v := (8 : Int32)) hx hb dX10_feed_90 (by decide) ?_
        refine lv_iload hx hb dX10_feed_92 (lv_at hl 7 rfl) ?_
        refine lv_iconst (v := (4 : Int32)) hx hb dX10_feed_94 (by decide) ?_
        refine lv_irem hx hb dX10_feed_95 (by decide) ?_
        refine lv_imul hx hb dX10_feed_96 ?_
        refine lv_isub hx hb dX10_feed_97 ?_
        refine lv_ishr hx hb dX10_feed_98 ?_
        refine lv_sipush (v := (255 : Int32)) hx hb dX10_feed_99 (by decide) ?_
        refine lv_iand hx hb dX10_feed_102 ?_
        obtain ⟨h_3, hF⟩ := it_ck hF
        refine va_iast hx hb hK.1 hP hD hS 1 0 rfl rfl h_3 dX10_feed_103 (fun H locs hP hD hS => ?_)
        have hP : va_P g.1 vwCl [oX10 a_t p_t o_t, aI g (p_t 1) 800 (upd f_t_1 ((o_t 2)).toNatClampNeg ((s0_76 >>> (((24 : Int32) - ((8 : Int32) * (x6 - x6 / (4 : Int32) * (4 : Int32)))) &&& 31)) &&& (255 : Int32)))] H := hP
        have hD : va_D A [oX10 a_t p_t o_t, aI g (p_t 1) 800 (upd f_t_1 ((o_t 2)).toNatClampNeg ((s0_76 >>> (((24 : Int32) - ((8 : Int32) * (x6 - x6 / (4 : Int32) * (4 : Int32)))) &&& 31)) &&& (255 : Int32)))] := hD
        refine lv_aload_n hx hb dX10_feed_104 rfl (lv_at hl 1 rfl) ?_
        refine lv_dup hx hb dX10_feed_105 rfl ?_
        refine va_get (D := g.1) (ci := 10) (v := .int (o_t 2)) (C := RX10) (T := TX10) (N := 35) hx hb hts iX10_feed_X10 hown hK.1 hP 0 rfl rfl 2 (by decide) (hts _ kX10_feed_59) (fun _ h9 => h9) rfl dX10_feed_106 ?_
        refine lv_iconst (v := (1 : Int32)) hx hb dX10_feed_109 (by decide) ?_
        refine lv_iadd hx hb dX10_feed_110 ?_
        refine va_put (D := g.1) (ci := 10) (v := .int ((o_t 2) + (1 : Int32))) (ty := .int) (C := RX10) (T := TX10) (N := 35) hx hb hts iX10_feed_X10 tyX10 tyX10_ok nmX10 hown hK.1 hP hD hS 0 rfl rfl 2 (by decide) (hts _ kX10_feed_59) (fun _ h9 => h9) rfl (by decide +kernel) rfl rfl (Nat.le_of_ble_eq_true rfl) dX10_feed_111 (fun H locs hP hD hS => ?_)
        have hP : va_P g.1 vwCl [oX10 a_t p_t (upd o_t 2 ((o_t 2) + (1 : Int32))), aI g (p_t 1) 800 (upd f_t_1 ((o_t 2)).toNatClampNeg ((s0_76 >>> (((24 : Int32) - ((8 : Int32) * (x6 - x6 / (4 : Int32) * (4 : Int32)))) &&& 31)) &&& (255 : Int32)))] H := hP
        have hD : va_D A [oX10 a_t p_t (upd o_t 2 ((o_t 2) + (1 : Int32))), aI g (p_t 1) 800 (upd f_t_1 ((o_t 2)).toNatClampNeg ((s0_76 >>> (((24 : Int32) - ((8 : Int32) * (x6 - x6 / (4 : Int32) * (4 : Int32)))) &&& 31)) &&& (255 : Int32)))] := hD
        refine lv_iinc (v := (x6 + (1 : Int32))) (lv' := [(6, .int (x6 + (1 : Int32))), (7, .int s0_76), (0, .ref a_t), (1, .int x1), (2, .int x2), (3, .int x3), (4, .int x4), (5, .int x5)]) hx hb dX10_feed_114 hl (k := 7) rfl rfl (by decide) rfl (fun ls hl => ?_)
        refine lv_goto (tgt := 23) hx hb dX10_feed_117 (by decide) ?_
        exact ih (x6 + (1 : Int32)) (upd o_t 2 ((o_t 2) + (1 : Int32))) (upd f_t_1 ((o_t 2)).toNatClampNeg ((s0_76 >>> (((24 : Int32) - ((8 : Int32) * (x6 - x6 / (4 : Int32) * (4 : Int32)))) &&& 31)) &&& (255 : Int32))) hF _ _ _ (hP.sub [0, 1] rfl) (hD.sub [0, 1] rfl rfl) hS (lv_sub hl [2, 3, 4, 5, 6, 7, 0] rfl)
      refine lv_icmp_ge (tgt := 40) hx hb dX10_feed_33 (by decide) (fun c_4 => ?_) (fun c_4 => ?_)
      · have hF := it_p c_4 hF
        refine lv_iload hx hb dX10_feed_40 (lv_at hl 6 rfl) ?_
        refine lv_bipush (v := (8 : Int32)) hx hb dX10_feed_42 (by decide) ?_
        refine lv_icmp_ge (tgt := 51) hx hb dX10_feed_44 (by decide) (fun c_5 => ?_) (fun c_5 => ?_)
        · have hF := it_p c_5 hF
          refine lv_iload hx hb dX10_feed_51 (lv_at hl 6 rfl) ?_
          refine lv_bipush (v := (12 : Int32)) hx hb dX10_feed_53 (by decide) ?_
          refine lv_icmp_ge (tgt := 62) hx hb dX10_feed_55 (by decide) (fun c_6 => ?_) (fun c_6 => ?_)
          · have hF := it_p c_6 hF
            refine lv_iload hx hb dX10_feed_62 (lv_at hl 6 rfl) ?_
            refine lv_bipush (v := (16 : Int32)) hx hb dX10_feed_64 (by decide) ?_
            refine lv_icmp_ge (tgt := 74) hx hb dX10_feed_66 (by decide) (fun c_7 => ?_) (fun c_7 => ?_)
            · have hF := it_p c_7 hF
              refine lv_iload hx hb dX10_feed_74 (lv_at hl 5 rfl) ?_
              exact hJ76 x5 _ _ _ hF (hP.sub [0, 1] rfl) (hD.sub [0, 1] rfl rfl) hS (lv_sub hl [0, 1, 2, 3, 4, 5, 6] rfl)
            · have hF := it_n c_7 hF
              refine lv_iload hx hb dX10_feed_69 (lv_at hl 4 rfl) ?_
              refine lv_goto (tgt := 76) hx hb dX10_feed_71 (by decide) ?_
              exact hJ76 x4 _ _ _ hF (hP.sub [0, 1] rfl) (hD.sub [0, 1] rfl rfl) hS (lv_sub hl [0, 1, 2, 3, 4, 5, 6] rfl)
          · have hF := it_n c_6 hF
            refine lv_iload_n hx hb dX10_feed_58 rfl (lv_at hl 3 rfl) ?_
            refine lv_goto (tgt := 76) hx hb dX10_feed_59 (by decide) ?_
            exact hJ76 x3 _ _ _ hF (hP.sub [0, 1] rfl) (hD.sub [0, 1] rfl rfl) hS (lv_sub hl [0, 1, 2, 3, 4, 5, 6] rfl)
        · have hF := it_n c_5 hF
          refine lv_iload_n hx hb dX10_feed_47 rfl (lv_at hl 2 rfl) ?_
          refine lv_goto (tgt := 76) hx hb dX10_feed_48 (by decide) ?_
          exact hJ76 x2 _ _ _ hF (hP.sub [0, 1] rfl) (hD.sub [0, 1] rfl rfl) hS (lv_sub hl [0, 1, 2, 3, 4, 5, 6] rfl)
      · have hF := it_n c_4 hF
        refine lv_iload_n hx hb dX10_feed_36 rfl (lv_at hl 1 rfl) ?_
        refine lv_goto (tgt := 76) hx hb dX10_feed_37 (by decide) ?_
        exact hJ76 x1 _ _ _ hF (hP.sub [0, 1] rfl) (hD.sub [0, 1] rfl rfl) hS (lv_sub hl [0, 1, 2, 3, 4, 5, 6] rfl)
set_option maxHeartbeats 4000000 in
set_option maxRecDepth 100000 in
theorem mX10_feed (l : Launch) (g : GG) (a_t : Nat) (p_t : Nat → Nat) (n : Nat) (x1 : Int32) (x2 : Int32) (x3 : Int32) (x4 : Int32) (x5 : Int32) (o_t : Nat → Int32) (f_t_1 : Nat → Int32) (r : Int32) (o_t' : Nat → Int32) (f_t_1' : Nat → Int32) (hF : fX10_feed n x1 x2 x3 x4 x5 o_t f_t_1 = some (r, o_t', f_t_1')) : MI l g yX10_feed wsX10_feed ({ frames := 0, cells := 0, slots := 0, locals := 0 } : Room) [.ref a_t, .int x1, .int x2, .int x3, .int x4, .int x5] [oX10 a_t p_t o_t, aI g (p_t 1) 800 f_t_1] r [oX10 a_t p_t o_t', aI g (p_t 1) 800 f_t_1'] := by
  refine MI.of (cc := cX10_feed) (maxL := 8) (rt := .int) (own := RX10) rfl rfl (by decide) (Nat.le_of_ble_eq_true rfl) ?_
  intro p e s m args below meth c A C0 hP hD hS ls hl
  obtain ⟨hx, hb, hml, hown, hts, hr, hlk, hK, hA, hSW⟩ := id C0
  have hl : lv_has ls 8 [(0, .ref a_t), (1, .int x1), (2, .int x2), (3, .int x3), (4, .int x4), (5, .int x5)] := hl
  rw [fX10_feed] at hF
  refine lv_aload_n hx hb dX10_feed_0 rfl (lv_at hl 0 rfl) ?_
  refine lv_iconst (v := (0 : Int32)) hx hb dX10_feed_1 (by decide) ?_
  refine va_put (D := g.1) (ci := 10) (v := .int (0 : Int32)) (ty := .int) (C := RX10) (T := TX10) (N := 35) hx hb hts iX10_feed_X10 tyX10 tyX10_ok nmX10 hown hK.1 hP hD hS 0 rfl rfl 0 (by decide) (hts _ kX10_feed_53) (fun _ h9 => h9) rfl (by decide +kernel) rfl rfl (Nat.le_of_ble_eq_true rfl) dX10_feed_2 (fun H locs hP hD hS => ?_)
  have hP : va_P g.1 vwCl [oX10 a_t p_t (upd o_t 0 (0 : Int32)), aI g (p_t 1) 800 f_t_1] H := hP
  have hD : va_D A [oX10 a_t p_t (upd o_t 0 (0 : Int32)), aI g (p_t 1) 800 f_t_1] := hD
  refine lv_aload_n hx hb dX10_feed_5 rfl (lv_at hl 0 rfl) ?_
  refine va_get (D := g.1) (ci := 10) (v := .int (o_t 2)) (C := RX10) (T := TX10) (N := 35) hx hb hts iX10_feed_X10 hown hK.1 hP 0 rfl rfl 2 (by decide) (hts _ kX10_feed_59) (fun _ h9 => h9) rfl dX10_feed_6 ?_
  refine lv_bipush (v := (20 : Int32)) hx hb dX10_feed_9 (by decide) ?_
  refine lv_iadd hx hb dX10_feed_11 ?_
  refine lv_sipush (v := (800 : Int32)) hx hb dX10_feed_12 (by decide) ?_
  refine lv_icmp_le (tgt := 20) hx hb dX10_feed_15 (by decide) (fun c_1 => ?_) (fun c_1 => ?_)
  · have hF := it_p c_1 hF
    refine lv_iconst (v := (0 : Int32)) hx hb dX10_feed_20 (by decide) ?_
    refine lv_istore (lv' := [(6, .int (0 : Int32)), (0, .ref a_t), (1, .int x1), (2, .int x2), (3, .int x3), (4, .int x4), (5, .int x5)]) hx hb dX10_feed_21 hl (by decide) rfl (fun ls hl => ?_)
    refine wX10_feed_L23 C0 a_t p_t n x1 x2 x3 x4 x5 r o_t' f_t_1' _ ?_ n (0 : Int32) (upd o_t 0 (0 : Int32)) f_t_1 hF _ _ _ (hP.sub [0, 1] rfl) (hD.sub [0, 1] rfl rfl) hS (lv_sub hl [1, 2, 3, 4, 5, 6, 0] rfl)
    · intro o_t_x23 f_t_1_x23 H locs ls hF hP hD hS hl
      refine lv_aload_n hx hb dX10_feed_120 rfl (lv_at hl 0 rfl) ?_
      refine va_get (D := g.1) (ci := 10) (v := .int (o_t_x23 2)) (C := RX10) (T := TX10) (N := 35) hx hb hts iX10_feed_X10 hown hK.1 hP 0 rfl rfl 2 (by decide) (hts _ kX10_feed_59) (fun _ h9 => h9) rfl dX10_feed_121 ?_
      cases hF
      exact ret_i C0 hP hD hS [0, 1] rfl rfl rfl dX10_feed_124 rfl
  · have hF := it_n c_1 hF
    refine lv_iconst (v := (-1 : Int32)) hx hb dX10_feed_18 (by decide) ?_
    cases hF
    exact ret_i C0 hP hD hS [0, 1] rfl rfl rfl dX10_feed_19 rfl

theorem dAX10_look : ∀ q ∈ ([(0, (.iload_n 1, 1)), (1, (.aload_n 0, 1)), (2, (.getfield 62, 3)), (5, (.if_icmp .ge 12, 3)), (8, (.aload_n 0, 1)), (9, (.getfield 7, 3)), (12, (.iload_n 1, 1)), (13, (.iaload, 1)), (14, (.goto 4, 3)), (17, (.iconst (-1), 1)), (18, (.ireturn, 1))] : List (Nat × (Instr × Nat))), decode cX10_look q.1 = .ok q.2 := by decide +kernel
theorem dX10_look_0 : decode cX10_look 0 = .ok (.iload_n 1, 1) := dAX10_look (0, (.iload_n 1, 1)) (List.mem_of_getElem? (i := 0) rfl)
theorem dX10_look_1 : decode cX10_look 1 = .ok (.aload_n 0, 1) := dAX10_look (1, (.aload_n 0, 1)) (List.mem_of_getElem? (i := 1) rfl)
theorem dX10_look_2 : decode cX10_look 2 = .ok (.getfield 62, 3) := dAX10_look (2, (.getfield 62, 3)) (List.mem_of_getElem? (i := 2) rfl)
theorem dX10_look_5 : decode cX10_look 5 = .ok (.if_icmp .ge 12, 3) := dAX10_look (5, (.if_icmp .ge 12, 3)) (List.mem_of_getElem? (i := 3) rfl)
theorem dX10_look_8 : decode cX10_look 8 = .ok (.aload_n 0, 1) := dAX10_look (8, (.aload_n 0, 1)) (List.mem_of_getElem? (i := 4) rfl)
theorem dX10_look_9 : decode cX10_look 9 = .ok (.getfield 7, 3) := dAX10_look (9, (.getfield 7, 3)) (List.mem_of_getElem? (i := 5) rfl)
theorem dX10_look_12 : decode cX10_look 12 = .ok (.iload_n 1, 1) := dAX10_look (12, (.iload_n 1, 1)) (List.mem_of_getElem? (i := 6) rfl)
theorem dX10_look_13 : decode cX10_look 13 = .ok (.iaload, 1) := dAX10_look (13, (.iaload, 1)) (List.mem_of_getElem? (i := 7) rfl)
theorem dX10_look_14 : decode cX10_look 14 = .ok (.goto 4, 3) := dAX10_look (14, (.goto 4, 3)) (List.mem_of_getElem? (i := 8) rfl)
theorem dX10_look_17 : decode cX10_look 17 = .ok (.iconst (-1), 1) := dAX10_look (17, (.iconst (-1), 1)) (List.mem_of_getElem? (i := 9) rfl)
theorem dX10_look_18 : decode cX10_look 18 = .ok (.ireturn, 1) := dAX10_look (18, (.ireturn, 1)) (List.mem_of_getElem? (i := 10) rfl)
theorem kX10_look_62 : Cond.fieldLink RX10 62 "EveningVowModel" "size" "I" ∈ wsX10_look := List.mem_of_getElem? (i := 1) rfl
theorem iX10_look_X10 : ∀ w ∈ u_ws RX10 TX10 35, w ∈ wsX10_look := fun w h => (List.mem_cons_of_mem _ (List.mem_append_right _ h))
theorem kX10_look_7 : Cond.fieldLink RX10 7 "EveningVowModel" "tape" "[I" ∈ wsX10_look := List.mem_of_getElem? (i := 2) rfl
set_option maxHeartbeats 4000000 in
set_option maxRecDepth 100000 in
theorem mX10_look (l : Launch) (g : GG) (a_t : Nat) (p_t : Nat → Nat) (n : Nat) (x1 : Int32) (o_t : Nat → Int32) (f_t_1 : Nat → Int32) (r : Int32) (hF : fX10_look n x1 o_t f_t_1 = some (r)) : MI l g yX10_look wsX10_look ({ frames := 0, cells := 0, slots := 0, locals := 0 } : Room) [.ref a_t, .int x1] [oX10 a_t p_t o_t, aI g (p_t 1) 800 f_t_1] r [oX10 a_t p_t o_t, aI g (p_t 1) 800 f_t_1] := by
  refine MI.of (cc := cX10_look) (maxL := 2) (rt := .int) (own := RX10) rfl rfl (by decide) (Nat.le_of_ble_eq_true rfl) ?_
  intro p e s m args below meth c A C0 hP hD hS ls hl
  obtain ⟨hx, hb, hml, hown, hts, hr, hlk, hK, hA, hSW⟩ := id C0
  have hl : lv_has ls 2 [(0, .ref a_t), (1, .int x1)] := hl
  rw [fX10_look] at hF
  refine lv_iload_n hx hb dX10_look_0 rfl (lv_at hl 1 rfl) ?_
  refine lv_aload_n hx hb dX10_look_1 rfl (lv_at hl 0 rfl) ?_
  refine va_get (D := g.1) (ci := 10) (v := .int (o_t 3)) (C := RX10) (T := TX10) (N := 35) hx hb hts iX10_look_X10 hown hK.1 hP 0 rfl rfl 3 (by decide) (hts _ kX10_look_62) (fun _ h9 => h9) rfl dX10_look_2 ?_
  refine lv_icmp_ge (tgt := 17) hx hb dX10_look_5 (by decide) (fun c_1 => ?_) (fun c_1 => ?_)
  · have hF := it_p c_1 hF
    refine lv_iconst (v := (-1 : Int32)) hx hb dX10_look_17 (by decide) ?_
    cases hF
    exact ret_i C0 hP hD hS [0, 1] rfl rfl rfl dX10_look_18 rfl
  · have hF := it_n c_1 hF
    refine lv_aload_n hx hb dX10_look_8 rfl (lv_at hl 0 rfl) ?_
    refine va_get (D := g.1) (ci := 10) (v := .ref (p_t 1)) (C := RX10) (T := TX10) (N := 35) hx hb hts iX10_look_X10 hown hK.1 hP 0 rfl rfl 1 (by decide) (hts _ kX10_look_7) (fun _ h9 => h9) rfl dX10_look_9 ?_
    refine lv_iload_n hx hb dX10_look_12 rfl (lv_at hl 1 rfl) ?_
    obtain ⟨h_2, hF⟩ := it_ck hF
    refine va_iald hx hb hK.1 hP 1 0 rfl rfl h_2 dX10_look_13 ?_
    refine lv_goto (tgt := 18) hx hb dX10_look_14 (by decide) ?_
    cases hF
    exact ret_i C0 hP hD hS [0, 1] rfl rfl rfl dX10_look_18 rfl

theorem dAX10_isSmall : ∀ q ∈ ([(0, (.iload_n 0, 1)), (1, (.bipush 97, 2)), (3, (.if_icmp .lt 13, 3)), (6, (.iload_n 0, 1)), (7, (.bipush 122, 2)), (9, (.if_icmp .gt 7, 3)), (12, (.iconst 1, 1)), (13, (.goto 4, 3)), (16, (.iconst 0, 1)), (17, (.ireturn, 1))] : List (Nat × (Instr × Nat))), decode cX10_isSmall q.1 = .ok q.2 := by decide +kernel
theorem dX10_isSmall_0 : decode cX10_isSmall 0 = .ok (.iload_n 0, 1) := dAX10_isSmall (0, (.iload_n 0, 1)) (List.mem_of_getElem? (i := 0) rfl)
theorem dX10_isSmall_1 : decode cX10_isSmall 1 = .ok (.bipush 97, 2) := dAX10_isSmall (1, (.bipush 97, 2)) (List.mem_of_getElem? (i := 1) rfl)
theorem dX10_isSmall_3 : decode cX10_isSmall 3 = .ok (.if_icmp .lt 13, 3) := dAX10_isSmall (3, (.if_icmp .lt 13, 3)) (List.mem_of_getElem? (i := 2) rfl)
theorem dX10_isSmall_6 : decode cX10_isSmall 6 = .ok (.iload_n 0, 1) := dAX10_isSmall (6, (.iload_n 0, 1)) (List.mem_of_getElem? (i := 3) rfl)
theorem dX10_isSmall_7 : decode cX10_isSmall 7 = .ok (.bipush 122, 2) := dAX10_isSmall (7, (.bipush 122, 2)) (List.mem_of_getElem? (i := 4) rfl)
theorem dX10_isSmall_9 : decode cX10_isSmall 9 = .ok (.if_icmp .gt 7, 3) := dAX10_isSmall (9, (.if_icmp .gt 7, 3)) (List.mem_of_getElem? (i := 5) rfl)
theorem dX10_isSmall_12 : decode cX10_isSmall 12 = .ok (.iconst 1, 1) := dAX10_isSmall (12, (.iconst 1, 1)) (List.mem_of_getElem? (i := 6) rfl)
theorem dX10_isSmall_13 : decode cX10_isSmall 13 = .ok (.goto 4, 3) := dAX10_isSmall (13, (.goto 4, 3)) (List.mem_of_getElem? (i := 7) rfl)
theorem dX10_isSmall_16 : decode cX10_isSmall 16 = .ok (.iconst 0, 1) := dAX10_isSmall (16, (.iconst 0, 1)) (List.mem_of_getElem? (i := 8) rfl)
theorem dX10_isSmall_17 : decode cX10_isSmall 17 = .ok (.ireturn, 1) := dAX10_isSmall (17, (.ireturn, 1)) (List.mem_of_getElem? (i := 9) rfl)
set_option maxHeartbeats 4000000 in
set_option maxRecDepth 100000 in
theorem mX10_isSmall (l : Launch) (g : GG)   (n : Nat) (x0 : Int32) (r : Int32) (hF : fX10_isSmall n x0 = some (r)) : MI l g yX10_isSmall wsX10_isSmall ({ frames := 0, cells := 0, slots := 0, locals := 0 } : Room) [.int x0] [] r [] := by
  refine MI.of (cc := cX10_isSmall) (maxL := 1) (rt := .boolean) (own := RX10) rfl rfl (by decide) (Nat.le_of_ble_eq_true rfl) ?_
  intro p e s m args below meth c A C0 hP hD hS ls hl
  obtain ⟨hx, hb, hml, hown, hts, hr, hlk, hK, hA, hSW⟩ := id C0
  have hl : lv_has ls 1 [(0, .int x0)] := hl
  rw [fX10_isSmall] at hF
  refine lv_iload_n hx hb dX10_isSmall_0 rfl (lv_at hl 0 rfl) ?_
  refine lv_bipush (v := (97 : Int32)) hx hb dX10_isSmall_1 (by decide) ?_
  refine lv_icmp_lt (tgt := 16) hx hb dX10_isSmall_3 (by decide) (fun c_1 => ?_) (fun c_1 => ?_)
  · have hF := it_p c_1 hF
    refine lv_iconst (v := (0 : Int32)) hx hb dX10_isSmall_16 (by decide) ?_
    cases hF
    exact ret_z C0 hP hD hS [] rfl rfl rfl dX10_isSmall_17 rfl rfl
  · have hF := it_n c_1 hF
    refine lv_iload_n hx hb dX10_isSmall_6 rfl (lv_at hl 0 rfl) ?_
    refine lv_bipush (v := (122 : Int32)) hx hb dX10_isSmall_7 (by decide) ?_
    refine lv_icmp_gt (tgt := 16) hx hb dX10_isSmall_9 (by decide) (fun c_2 => ?_) (fun c_2 => ?_)
    · have hF := it_p c_2 hF
      refine lv_iconst (v := (0 : Int32)) hx hb dX10_isSmall_16 (by decide) ?_
      cases hF
      exact ret_z C0 hP hD hS [] rfl rfl rfl dX10_isSmall_17 rfl rfl
    · have hF := it_n c_2 hF
      refine lv_iconst (v := (1 : Int32)) hx hb dX10_isSmall_12 (by decide) ?_
      refine lv_goto (tgt := 17) hx hb dX10_isSmall_13 (by decide) ?_
      cases hF
      exact ret_z C0 hP hD hS [] rfl rfl rfl dX10_isSmall_17 rfl rfl

theorem dAX10_isDigit : ∀ q ∈ ([(0, (.iload_n 0, 1)), (1, (.bipush 48, 2)), (3, (.if_icmp .lt 13, 3)), (6, (.iload_n 0, 1)), (7, (.bipush 57, 2)), (9, (.if_icmp .gt 7, 3)), (12, (.iconst 1, 1)), (13, (.goto 4, 3)), (16, (.iconst 0, 1)), (17, (.ireturn, 1))] : List (Nat × (Instr × Nat))), decode cX10_isDigit q.1 = .ok q.2 := by decide +kernel
theorem dX10_isDigit_0 : decode cX10_isDigit 0 = .ok (.iload_n 0, 1) := dAX10_isDigit (0, (.iload_n 0, 1)) (List.mem_of_getElem? (i := 0) rfl)
theorem dX10_isDigit_1 : decode cX10_isDigit 1 = .ok (.bipush 48, 2) := dAX10_isDigit (1, (.bipush 48, 2)) (List.mem_of_getElem? (i := 1) rfl)
theorem dX10_isDigit_3 : decode cX10_isDigit 3 = .ok (.if_icmp .lt 13, 3) := dAX10_isDigit (3, (.if_icmp .lt 13, 3)) (List.mem_of_getElem? (i := 2) rfl)
theorem dX10_isDigit_6 : decode cX10_isDigit 6 = .ok (.iload_n 0, 1) := dAX10_isDigit (6, (.iload_n 0, 1)) (List.mem_of_getElem? (i := 3) rfl)
theorem dX10_isDigit_7 : decode cX10_isDigit 7 = .ok (.bipush 57, 2) := dAX10_isDigit (7, (.bipush 57, 2)) (List.mem_of_getElem? (i := 4) rfl)
theorem dX10_isDigit_9 : decode cX10_isDigit 9 = .ok (.if_icmp .gt 7, 3) := dAX10_isDigit (9, (.if_icmp .gt 7, 3)) (List.mem_of_getElem? (i := 5) rfl)
theorem dX10_isDigit_12 : decode cX10_isDigit 12 = .ok (.iconst 1, 1) := dAX10_isDigit (12, (.iconst 1, 1)) (List.mem_of_getElem? (i := 6) rfl)
theorem dX10_isDigit_13 : decode cX10_isDigit 13 = .ok (.goto 4, 3) := dAX10_isDigit (13, (.goto 4, 3)) (List.mem_of_getElem? (i := 7) rfl)
theorem dX10_isDigit_16 : decode cX10_isDigit 16 = .ok (.iconst 0, 1) := dAX10_isDigit (16, (.iconst 0, 1)) (List.mem_of_getElem? (i := 8) rfl)
theorem dX10_isDigit_17 : decode cX10_isDigit 17 = .ok (.ireturn, 1) := dAX10_isDigit (17, (.ireturn, 1)) (List.mem_of_getElem? (i := 9) rfl)
set_option maxHeartbeats 4000000 in
set_option maxRecDepth 100000 in
theorem mX10_isDigit (l : Launch) (g : GG)   (n : Nat) (x0 : Int32) (r : Int32) (hF : fX10_isDigit n x0 = some (r)) : MI l g yX10_isDigit wsX10_isDigit ({ frames := 0, cells := 0, slots := 0, locals := 0 } : Room) [.int x0] [] r [] := by
  refine MI.of (cc := cX10_isDigit) (maxL := 1) (rt := .boolean) (own := RX10) rfl rfl (by decide) (Nat.le_of_ble_eq_true rfl) ?_
  intro p e s m args below meth c A C0 hP hD hS ls hl
  obtain ⟨hx, hb, hml, hown, hts, hr, hlk, hK, hA, hSW⟩ := id C0
  have hl : lv_has ls 1 [(0, .int x0)] := hl
  rw [fX10_isDigit] at hF
  refine lv_iload_n hx hb dX10_isDigit_0 rfl (lv_at hl 0 rfl) ?_
  refine lv_bipush (v := (48 : Int32)) hx hb dX10_isDigit_1 (by decide) ?_
  refine lv_icmp_lt (tgt := 16) hx hb dX10_isDigit_3 (by decide) (fun c_1 => ?_) (fun c_1 => ?_)
  · have hF := it_p c_1 hF
    refine lv_iconst (v := (0 : Int32)) hx hb dX10_isDigit_16 (by decide) ?_
    cases hF
    exact ret_z C0 hP hD hS [] rfl rfl rfl dX10_isDigit_17 rfl rfl
  · have hF := it_n c_1 hF
    refine lv_iload_n hx hb dX10_isDigit_6 rfl (lv_at hl 0 rfl) ?_
    refine lv_bipush (v := (57 : Int32)) hx hb dX10_isDigit_7 (by decide) ?_
    refine lv_icmp_gt (tgt := 16) hx hb dX10_isDigit_9 (by decide) (fun c_2 => ?_) (fun c_2 => ?_)
    · have hF := it_p c_2 hF
      refine lv_iconst (v := (0 : Int32)) hx hb dX10_isDigit_16 (by decide) ?_
      cases hF
      exact ret_z C0 hP hD hS [] rfl rfl rfl dX10_isDigit_17 rfl rfl
    · have hF := it_n c_2 hF
      refine lv_iconst (v := (1 : Int32)) hx hb dX10_isDigit_12 (by decide) ?_
      refine lv_goto (tgt := 17) hx hb dX10_isDigit_13 (by decide) ?_
      cases hF
      exact ret_z C0 hP hD hS [] rfl rfl rfl dX10_isDigit_17 rfl rfl

theorem dAX10_next : ∀ q ∈ ([(0, (.aload_n 0, 1)), (1, (.getfield 65, 3)), (4, (.istore_n 1, 1)), (5, (.aload_n 0, 1)), (6, (.iload_n 1, 1)), (7, (.invokevirtual 68, 3)), (10, (.bipush 32, 2)), (12, (.if_icmp .ne 9, 3)), (15, (.iinc 1 1, 3)), (18, (.goto (-13), 3)), (21, (.aload_n 0, 1)), (22, (.iload_n 1, 1)), (23, (.putfield 72, 3)), (26, (.aload_n 0, 1)), (27, (.iload_n 1, 1)), (28, (.invokevirtual 68, 3)), (31, (.istore_n 2, 1)), (32, (.aload_n 0, 1)), (33, (.iconst 0, 1)), (34, (.putfield 75, 3)), (37, (.aload_n 0, 1)), (38, (.iconst 0, 1)), (39, (.putfield 78, 3)), (42, (.iload_n 2, 1)), (43, (.iconst (-1), 1)), (44, (.if_icmp .ne 16, 3)), (47, (.aload_n 0, 1)), (48, (.iconst 0, 1)), (49, (.putfield 81, 3)), (52, (.aload_n 0, 1)), (53, (.iload_n 1, 1)), (54, (.putfield 65, 3)), (57, (.goto 184, 3)), (60, (.iload_n 2, 1)), (61, (.invokestatic 84, 3)), (64, (.ifCond .eq 79, 3)), (67, (.aload_n 0, 1)), (68, (.iload_n 1, 1)), (69, (.invokevirtual 68, 3)), (72, (.invokestatic 84, 3)), (75, (.ifCond .eq 42, 3)), (78, (.aload_n 0, 1)), (79, (.getfield 75, 3)), (82, (.bipush 8, 2)), (84, (.if_icmp .ge 17, 3)), (87, (.aload_n 0, 1)), (88, (.getfield 17, 3)), (91, (.aload_n 0, 1)), (92, (.getfield 75, 3)), (95, (.aload_n 0, 1)), (96, (.iload_n 1, 1)), (97, (.invokevirtual 68, 3)), (100, (.iastore, 1)), (101, (.aload_n 0, 1)), (102, (.dup, 1)), (103, (.getfield 75, 3)), (106, (.iconst 1, 1)), (107, (.iadd, 1)), (108, (.putfield 75, 3)), (111, (.iinc 1 1, 3)), (114, (.goto (-47), 3)), (117, (.aload_n 0, 1)), (118, (.iload_n 1, 1)), (119, (.putfield 65, 3)), (122, (.aload_n 0, 1)), (123, (.aload_n 0, 1)), (124, (.getfield 75, 3)), (127, (.bipush 8, 2)), (129, (.if_icmp .le 7, 3)), (132, (.iconst 1, 1)), (133, (.goto 4, 3)), (136, (.iconst 2, 1)), (137, (.putfield 81, 3)), (140, (.goto 101, 3)), (143, (.iload_n 2, 1)), (144, (.invokestatic 88, 3)), (147, (.ifCond .eq 72, 3)), (150, (.iconst 0, 1)), (151, (.istore_n 3, 1)), (152, (.aload_n 0, 1)), (153, (.iload_n 1, 1)), (154, (.invokevirtual 68, 3)), (157, (.invokestatic 88, 3)), (160, (.ifCond .eq 37, 3)), (163, (.iload_n 3, 1)), (164, (.iconst 3, 1)), (165, (.if_icmp .ge 23, 3)), (168, (.aload_n 0, 1)), (169, (.bipush 10, 2)), (171, (.aload_n 0, 1)), (172, (.getfield 78, 3)), (175, (.imul, 1)), (176, (.aload_n 0, 1)), (177, (.iload_n 1, 1)), (178, (.invokevirtual 68, 3)), (181, (.iadd, 1)), (182, (.bipush 48, 2)), (184, (.isub, 1)), (185, (.putfield 78, 3)), (188, (.iinc 3 1, 3)), (191, (.iinc 1 1, 3)), (194, (.goto (-42), 3)), (197, (.aload_n 0, 1)), (198, (.iload_n 1, 1)), (199, (.putfield 65, 3)), (202, (.aload_n 0, 1)), (203, (.iload_n 3, 1)), (204, (.iconst 3, 1)), (205, (.if_icmp .le 7, 3)), (208, (.iconst 1, 1)), (209, (.goto 4, 3)), (212, (.iconst 3, 1)), (213, (.putfield 81, 3)), (216, (.goto 25, 3)), (219, (.aload_n 0, 1)), (220, (.iload_n 1, 1)), (221, (.iconst 1, 1)), (222, (.iadd, 1)), (223, (.putfield 65, 3)), (226, (.aload_n 0, 1)), (227, (.iload_n 2, 1)), (228, (.bipush 59, 2)), (230, (.if_icmp .ne 7, 3)), (233, (.iload_n 2, 1)), (234, (.goto 4, 3)), (237, (.iconst 1, 1)), (238, (.putfield 81, 3)), (241, (.return_, 1))] : List (Nat × (Instr × Nat))), decode cX10_next q.1 = .ok q.2 := by decide +kernel
theorem dX10_next_0 : decode cX10_next 0 = .ok (.aload_n 0, 1) := dAX10_next (0, (.aload_n 0, 1)) (List.mem_of_getElem? (i := 0) rfl)
theorem dX10_next_1 : decode cX10_next 1 = .ok (.getfield 65, 3) := dAX10_next (1, (.getfield 65, 3)) (List.mem_of_getElem? (i := 1) rfl)
theorem dX10_next_4 : decode cX10_next 4 = .ok (.istore_n 1, 1) := dAX10_next (4, (.istore_n 1, 1)) (List.mem_of_getElem? (i := 2) rfl)
theorem dX10_next_5 : decode cX10_next 5 = .ok (.aload_n 0, 1) := dAX10_next (5, (.aload_n 0, 1)) (List.mem_of_getElem? (i := 3) rfl)
theorem dX10_next_6 : decode cX10_next 6 = .ok (.iload_n 1, 1) := dAX10_next (6, (.iload_n 1, 1)) (List.mem_of_getElem? (i := 4) rfl)
theorem dX10_next_7 : decode cX10_next 7 = .ok (.invokevirtual 68, 3) := dAX10_next (7, (.invokevirtual 68, 3)) (List.mem_of_getElem? (i := 5) rfl)
theorem dX10_next_10 : decode cX10_next 10 = .ok (.bipush 32, 2) := dAX10_next (10, (.bipush 32, 2)) (List.mem_of_getElem? (i := 6) rfl)
theorem dX10_next_12 : decode cX10_next 12 = .ok (.if_icmp .ne 9, 3) := dAX10_next (12, (.if_icmp .ne 9, 3)) (List.mem_of_getElem? (i := 7) rfl)
theorem dX10_next_15 : decode cX10_next 15 = .ok (.iinc 1 1, 3) := dAX10_next (15, (.iinc 1 1, 3)) (List.mem_of_getElem? (i := 8) rfl)
theorem dX10_next_18 : decode cX10_next 18 = .ok (.goto (-13), 3) := dAX10_next (18, (.goto (-13), 3)) (List.mem_of_getElem? (i := 9) rfl)
theorem dX10_next_21 : decode cX10_next 21 = .ok (.aload_n 0, 1) := dAX10_next (21, (.aload_n 0, 1)) (List.mem_of_getElem? (i := 10) rfl)
theorem dX10_next_22 : decode cX10_next 22 = .ok (.iload_n 1, 1) := dAX10_next (22, (.iload_n 1, 1)) (List.mem_of_getElem? (i := 11) rfl)
theorem dX10_next_23 : decode cX10_next 23 = .ok (.putfield 72, 3) := dAX10_next (23, (.putfield 72, 3)) (List.mem_of_getElem? (i := 12) rfl)
theorem dX10_next_26 : decode cX10_next 26 = .ok (.aload_n 0, 1) := dAX10_next (26, (.aload_n 0, 1)) (List.mem_of_getElem? (i := 13) rfl)
theorem dX10_next_27 : decode cX10_next 27 = .ok (.iload_n 1, 1) := dAX10_next (27, (.iload_n 1, 1)) (List.mem_of_getElem? (i := 14) rfl)
theorem dX10_next_28 : decode cX10_next 28 = .ok (.invokevirtual 68, 3) := dAX10_next (28, (.invokevirtual 68, 3)) (List.mem_of_getElem? (i := 15) rfl)
theorem dX10_next_31 : decode cX10_next 31 = .ok (.istore_n 2, 1) := dAX10_next (31, (.istore_n 2, 1)) (List.mem_of_getElem? (i := 16) rfl)
theorem dX10_next_32 : decode cX10_next 32 = .ok (.aload_n 0, 1) := dAX10_next (32, (.aload_n 0, 1)) (List.mem_of_getElem? (i := 17) rfl)
theorem dX10_next_33 : decode cX10_next 33 = .ok (.iconst 0, 1) := dAX10_next (33, (.iconst 0, 1)) (List.mem_of_getElem? (i := 18) rfl)
theorem dX10_next_34 : decode cX10_next 34 = .ok (.putfield 75, 3) := dAX10_next (34, (.putfield 75, 3)) (List.mem_of_getElem? (i := 19) rfl)
theorem dX10_next_37 : decode cX10_next 37 = .ok (.aload_n 0, 1) := dAX10_next (37, (.aload_n 0, 1)) (List.mem_of_getElem? (i := 20) rfl)
theorem dX10_next_38 : decode cX10_next 38 = .ok (.iconst 0, 1) := dAX10_next (38, (.iconst 0, 1)) (List.mem_of_getElem? (i := 21) rfl)
theorem dX10_next_39 : decode cX10_next 39 = .ok (.putfield 78, 3) := dAX10_next (39, (.putfield 78, 3)) (List.mem_of_getElem? (i := 22) rfl)
theorem dX10_next_42 : decode cX10_next 42 = .ok (.iload_n 2, 1) := dAX10_next (42, (.iload_n 2, 1)) (List.mem_of_getElem? (i := 23) rfl)
theorem dX10_next_43 : decode cX10_next 43 = .ok (.iconst (-1), 1) := dAX10_next (43, (.iconst (-1), 1)) (List.mem_of_getElem? (i := 24) rfl)
theorem dX10_next_44 : decode cX10_next 44 = .ok (.if_icmp .ne 16, 3) := dAX10_next (44, (.if_icmp .ne 16, 3)) (List.mem_of_getElem? (i := 25) rfl)
theorem dX10_next_47 : decode cX10_next 47 = .ok (.aload_n 0, 1) := dAX10_next (47, (.aload_n 0, 1)) (List.mem_of_getElem? (i := 26) rfl)
theorem dX10_next_48 : decode cX10_next 48 = .ok (.iconst 0, 1) := dAX10_next (48, (.iconst 0, 1)) (List.mem_of_getElem? (i := 27) rfl)
theorem dX10_next_49 : decode cX10_next 49 = .ok (.putfield 81, 3) := dAX10_next (49, (.putfield 81, 3)) (List.mem_of_getElem? (i := 28) rfl)
theorem dX10_next_52 : decode cX10_next 52 = .ok (.aload_n 0, 1) := dAX10_next (52, (.aload_n 0, 1)) (List.mem_of_getElem? (i := 29) rfl)
theorem dX10_next_53 : decode cX10_next 53 = .ok (.iload_n 1, 1) := dAX10_next (53, (.iload_n 1, 1)) (List.mem_of_getElem? (i := 30) rfl)
theorem dX10_next_54 : decode cX10_next 54 = .ok (.putfield 65, 3) := dAX10_next (54, (.putfield 65, 3)) (List.mem_of_getElem? (i := 31) rfl)
theorem dX10_next_57 : decode cX10_next 57 = .ok (.goto 184, 3) := dAX10_next (57, (.goto 184, 3)) (List.mem_of_getElem? (i := 32) rfl)
theorem dX10_next_60 : decode cX10_next 60 = .ok (.iload_n 2, 1) := dAX10_next (60, (.iload_n 2, 1)) (List.mem_of_getElem? (i := 33) rfl)
theorem dX10_next_61 : decode cX10_next 61 = .ok (.invokestatic 84, 3) := dAX10_next (61, (.invokestatic 84, 3)) (List.mem_of_getElem? (i := 34) rfl)
theorem dX10_next_64 : decode cX10_next 64 = .ok (.ifCond .eq 79, 3) := dAX10_next (64, (.ifCond .eq 79, 3)) (List.mem_of_getElem? (i := 35) rfl)
theorem dX10_next_67 : decode cX10_next 67 = .ok (.aload_n 0, 1) := dAX10_next (67, (.aload_n 0, 1)) (List.mem_of_getElem? (i := 36) rfl)
theorem dX10_next_68 : decode cX10_next 68 = .ok (.iload_n 1, 1) := dAX10_next (68, (.iload_n 1, 1)) (List.mem_of_getElem? (i := 37) rfl)
theorem dX10_next_69 : decode cX10_next 69 = .ok (.invokevirtual 68, 3) := dAX10_next (69, (.invokevirtual 68, 3)) (List.mem_of_getElem? (i := 38) rfl)
theorem dX10_next_72 : decode cX10_next 72 = .ok (.invokestatic 84, 3) := dAX10_next (72, (.invokestatic 84, 3)) (List.mem_of_getElem? (i := 39) rfl)
theorem dX10_next_75 : decode cX10_next 75 = .ok (.ifCond .eq 42, 3) := dAX10_next (75, (.ifCond .eq 42, 3)) (List.mem_of_getElem? (i := 40) rfl)
theorem dX10_next_78 : decode cX10_next 78 = .ok (.aload_n 0, 1) := dAX10_next (78, (.aload_n 0, 1)) (List.mem_of_getElem? (i := 41) rfl)
theorem dX10_next_79 : decode cX10_next 79 = .ok (.getfield 75, 3) := dAX10_next (79, (.getfield 75, 3)) (List.mem_of_getElem? (i := 42) rfl)
theorem dX10_next_82 : decode cX10_next 82 = .ok (.bipush 8, 2) := dAX10_next (82, (.bipush 8, 2)) (List.mem_of_getElem? (i := 43) rfl)
theorem dX10_next_84 : decode cX10_next 84 = .ok (.if_icmp .ge 17, 3) := dAX10_next (84, (.if_icmp .ge 17, 3)) (List.mem_of_getElem? (i := 44) rfl)
theorem dX10_next_87 : decode cX10_next 87 = .ok (.aload_n 0, 1) := dAX10_next (87, (.aload_n 0, 1)) (List.mem_of_getElem? (i := 45) rfl)
theorem dX10_next_88 : decode cX10_next 88 = .ok (.getfield 17, 3) := dAX10_next (88, (.getfield 17, 3)) (List.mem_of_getElem? (i := 46) rfl)
theorem dX10_next_91 : decode cX10_next 91 = .ok (.aload_n 0, 1) := dAX10_next (91, (.aload_n 0, 1)) (List.mem_of_getElem? (i := 47) rfl)
theorem dX10_next_92 : decode cX10_next 92 = .ok (.getfield 75, 3) := dAX10_next (92, (.getfield 75, 3)) (List.mem_of_getElem? (i := 48) rfl)
theorem dX10_next_95 : decode cX10_next 95 = .ok (.aload_n 0, 1) := dAX10_next (95, (.aload_n 0, 1)) (List.mem_of_getElem? (i := 49) rfl)
theorem dX10_next_96 : decode cX10_next 96 = .ok (.iload_n 1, 1) := dAX10_next (96, (.iload_n 1, 1)) (List.mem_of_getElem? (i := 50) rfl)
theorem dX10_next_97 : decode cX10_next 97 = .ok (.invokevirtual 68, 3) := dAX10_next (97, (.invokevirtual 68, 3)) (List.mem_of_getElem? (i := 51) rfl)
theorem dX10_next_100 : decode cX10_next 100 = .ok (.iastore, 1) := dAX10_next (100, (.iastore, 1)) (List.mem_of_getElem? (i := 52) rfl)
theorem dX10_next_101 : decode cX10_next 101 = .ok (.aload_n 0, 1) := dAX10_next (101, (.aload_n 0, 1)) (List.mem_of_getElem? (i := 53) rfl)
theorem dX10_next_102 : decode cX10_next 102 = .ok (.dup, 1) := dAX10_next (102, (.dup, 1)) (List.mem_of_getElem? (i := 54) rfl)
theorem dX10_next_103 : decode cX10_next 103 = .ok (.getfield 75, 3) := dAX10_next (103, (.getfield 75, 3)) (List.mem_of_getElem? (i := 55) rfl)
theorem dX10_next_106 : decode cX10_next 106 = .ok (.iconst 1, 1) := dAX10_next (106, (.iconst 1, 1)) (List.mem_of_getElem? (i := 56) rfl)
theorem dX10_next_107 : decode cX10_next 107 = .ok (.iadd, 1) := dAX10_next (107, (.iadd, 1)) (List.mem_of_getElem? (i := 57) rfl)
theorem dX10_next_108 : decode cX10_next 108 = .ok (.putfield 75, 3) := dAX10_next (108, (.putfield 75, 3)) (List.mem_of_getElem? (i := 58) rfl)
theorem dX10_next_111 : decode cX10_next 111 = .ok (.iinc 1 1, 3) := dAX10_next (111, (.iinc 1 1, 3)) (List.mem_of_getElem? (i := 59) rfl)
theorem dX10_next_114 : decode cX10_next 114 = .ok (.goto (-47), 3) := dAX10_next (114, (.goto (-47), 3)) (List.mem_of_getElem? (i := 60) rfl)
theorem dX10_next_117 : decode cX10_next 117 = .ok (.aload_n 0, 1) := dAX10_next (117, (.aload_n 0, 1)) (List.mem_of_getElem? (i := 61) rfl)
theorem dX10_next_118 : decode cX10_next 118 = .ok (.iload_n 1, 1) := dAX10_next (118, (.iload_n 1, 1)) (List.mem_of_getElem? (i := 62) rfl)
theorem dX10_next_119 : decode cX10_next 119 = .ok (.putfield 65, 3) := dAX10_next (119, (.putfield 65, 3)) (List.mem_of_getElem? (i := 63) rfl)
theorem dX10_next_122 : decode cX10_next 122 = .ok (.aload_n 0, 1) := dAX10_next (122, (.aload_n 0, 1)) (List.mem_of_getElem? (i := 64) rfl)
theorem dX10_next_123 : decode cX10_next 123 = .ok (.aload_n 0, 1) := dAX10_next (123, (.aload_n 0, 1)) (List.mem_of_getElem? (i := 65) rfl)
theorem dX10_next_124 : decode cX10_next 124 = .ok (.getfield 75, 3) := dAX10_next (124, (.getfield 75, 3)) (List.mem_of_getElem? (i := 66) rfl)
theorem dX10_next_127 : decode cX10_next 127 = .ok (.bipush 8, 2) := dAX10_next (127, (.bipush 8, 2)) (List.mem_of_getElem? (i := 67) rfl)
theorem dX10_next_129 : decode cX10_next 129 = .ok (.if_icmp .le 7, 3) := dAX10_next (129, (.if_icmp .le 7, 3)) (List.mem_of_getElem? (i := 68) rfl)
theorem dX10_next_132 : decode cX10_next 132 = .ok (.iconst 1, 1) := dAX10_next (132, (.iconst 1, 1)) (List.mem_of_getElem? (i := 69) rfl)
theorem dX10_next_133 : decode cX10_next 133 = .ok (.goto 4, 3) := dAX10_next (133, (.goto 4, 3)) (List.mem_of_getElem? (i := 70) rfl)
theorem dX10_next_136 : decode cX10_next 136 = .ok (.iconst 2, 1) := dAX10_next (136, (.iconst 2, 1)) (List.mem_of_getElem? (i := 71) rfl)
theorem dX10_next_137 : decode cX10_next 137 = .ok (.putfield 81, 3) := dAX10_next (137, (.putfield 81, 3)) (List.mem_of_getElem? (i := 72) rfl)
theorem dX10_next_140 : decode cX10_next 140 = .ok (.goto 101, 3) := dAX10_next (140, (.goto 101, 3)) (List.mem_of_getElem? (i := 73) rfl)
theorem dX10_next_143 : decode cX10_next 143 = .ok (.iload_n 2, 1) := dAX10_next (143, (.iload_n 2, 1)) (List.mem_of_getElem? (i := 74) rfl)
theorem dX10_next_144 : decode cX10_next 144 = .ok (.invokestatic 88, 3) := dAX10_next (144, (.invokestatic 88, 3)) (List.mem_of_getElem? (i := 75) rfl)
theorem dX10_next_147 : decode cX10_next 147 = .ok (.ifCond .eq 72, 3) := dAX10_next (147, (.ifCond .eq 72, 3)) (List.mem_of_getElem? (i := 76) rfl)
theorem dX10_next_150 : decode cX10_next 150 = .ok (.iconst 0, 1) := dAX10_next (150, (.iconst 0, 1)) (List.mem_of_getElem? (i := 77) rfl)
theorem dX10_next_151 : decode cX10_next 151 = .ok (.istore_n 3, 1) := dAX10_next (151, (.istore_n 3, 1)) (List.mem_of_getElem? (i := 78) rfl)
theorem dX10_next_152 : decode cX10_next 152 = .ok (.aload_n 0, 1) := dAX10_next (152, (.aload_n 0, 1)) (List.mem_of_getElem? (i := 79) rfl)
theorem dX10_next_153 : decode cX10_next 153 = .ok (.iload_n 1, 1) := dAX10_next (153, (.iload_n 1, 1)) (List.mem_of_getElem? (i := 80) rfl)
theorem dX10_next_154 : decode cX10_next 154 = .ok (.invokevirtual 68, 3) := dAX10_next (154, (.invokevirtual 68, 3)) (List.mem_of_getElem? (i := 81) rfl)
theorem dX10_next_157 : decode cX10_next 157 = .ok (.invokestatic 88, 3) := dAX10_next (157, (.invokestatic 88, 3)) (List.mem_of_getElem? (i := 82) rfl)
theorem dX10_next_160 : decode cX10_next 160 = .ok (.ifCond .eq 37, 3) := dAX10_next (160, (.ifCond .eq 37, 3)) (List.mem_of_getElem? (i := 83) rfl)
theorem dX10_next_163 : decode cX10_next 163 = .ok (.iload_n 3, 1) := dAX10_next (163, (.iload_n 3, 1)) (List.mem_of_getElem? (i := 84) rfl)
theorem dX10_next_164 : decode cX10_next 164 = .ok (.iconst 3, 1) := dAX10_next (164, (.iconst 3, 1)) (List.mem_of_getElem? (i := 85) rfl)
theorem dX10_next_165 : decode cX10_next 165 = .ok (.if_icmp .ge 23, 3) := dAX10_next (165, (.if_icmp .ge 23, 3)) (List.mem_of_getElem? (i := 86) rfl)
theorem dX10_next_168 : decode cX10_next 168 = .ok (.aload_n 0, 1) := dAX10_next (168, (.aload_n 0, 1)) (List.mem_of_getElem? (i := 87) rfl)
theorem dX10_next_169 : decode cX10_next 169 = .ok (.bipush 10, 2) := dAX10_next (169, (.bipush 10, 2)) (List.mem_of_getElem? (i := 88) rfl)
theorem dX10_next_171 : decode cX10_next 171 = .ok (.aload_n 0, 1) := dAX10_next (171, (.aload_n 0, 1)) (List.mem_of_getElem? (i := 89) rfl)
theorem dX10_next_172 : decode cX10_next 172 = .ok (.getfield 78, 3) := dAX10_next (172, (.getfield 78, 3)) (List.mem_of_getElem? (i := 90) rfl)
theorem dX10_next_175 : decode cX10_next 175 = .ok (.imul, 1) := dAX10_next (175, (.imul, 1)) (List.mem_of_getElem? (i := 91) rfl)
theorem dX10_next_176 : decode cX10_next 176 = .ok (.aload_n 0, 1) := dAX10_next (176, (.aload_n 0, 1)) (List.mem_of_getElem? (i := 92) rfl)
theorem dX10_next_177 : decode cX10_next 177 = .ok (.iload_n 1, 1) := dAX10_next (177, (.iload_n 1, 1)) (List.mem_of_getElem? (i := 93) rfl)
theorem dX10_next_178 : decode cX10_next 178 = .ok (.invokevirtual 68, 3) := dAX10_next (178, (.invokevirtual 68, 3)) (List.mem_of_getElem? (i := 94) rfl)
theorem dX10_next_181 : decode cX10_next 181 = .ok (.iadd, 1) := dAX10_next (181, (.iadd, 1)) (List.mem_of_getElem? (i := 95) rfl)
theorem dX10_next_182 : decode cX10_next 182 = .ok (.bipush 48, 2) := dAX10_next (182, (.bipush 48, 2)) (List.mem_of_getElem? (i := 96) rfl)
theorem dX10_next_184 : decode cX10_next 184 = .ok (.isub, 1) := dAX10_next (184, (.isub, 1)) (List.mem_of_getElem? (i := 97) rfl)
theorem dX10_next_185 : decode cX10_next 185 = .ok (.putfield 78, 3) := dAX10_next (185, (.putfield 78, 3)) (List.mem_of_getElem? (i := 98) rfl)
theorem dX10_next_188 : decode cX10_next 188 = .ok (.iinc 3 1, 3) := dAX10_next (188, (.iinc 3 1, 3)) (List.mem_of_getElem? (i := 99) rfl)
theorem dX10_next_191 : decode cX10_next 191 = .ok (.iinc 1 1, 3) := dAX10_next (191, (.iinc 1 1, 3)) (List.mem_of_getElem? (i := 100) rfl)
theorem dX10_next_194 : decode cX10_next 194 = .ok (.goto (-42), 3) := dAX10_next (194, (.goto (-42), 3)) (List.mem_of_getElem? (i := 101) rfl)
theorem dX10_next_197 : decode cX10_next 197 = .ok (.aload_n 0, 1) := dAX10_next (197, (.aload_n 0, 1)) (List.mem_of_getElem? (i := 102) rfl)
theorem dX10_next_198 : decode cX10_next 198 = .ok (.iload_n 1, 1) := dAX10_next (198, (.iload_n 1, 1)) (List.mem_of_getElem? (i := 103) rfl)
theorem dX10_next_199 : decode cX10_next 199 = .ok (.putfield 65, 3) := dAX10_next (199, (.putfield 65, 3)) (List.mem_of_getElem? (i := 104) rfl)
theorem dX10_next_202 : decode cX10_next 202 = .ok (.aload_n 0, 1) := dAX10_next (202, (.aload_n 0, 1)) (List.mem_of_getElem? (i := 105) rfl)
theorem dX10_next_203 : decode cX10_next 203 = .ok (.iload_n 3, 1) := dAX10_next (203, (.iload_n 3, 1)) (List.mem_of_getElem? (i := 106) rfl)
theorem dX10_next_204 : decode cX10_next 204 = .ok (.iconst 3, 1) := dAX10_next (204, (.iconst 3, 1)) (List.mem_of_getElem? (i := 107) rfl)
theorem dX10_next_205 : decode cX10_next 205 = .ok (.if_icmp .le 7, 3) := dAX10_next (205, (.if_icmp .le 7, 3)) (List.mem_of_getElem? (i := 108) rfl)
theorem dX10_next_208 : decode cX10_next 208 = .ok (.iconst 1, 1) := dAX10_next (208, (.iconst 1, 1)) (List.mem_of_getElem? (i := 109) rfl)
theorem dX10_next_209 : decode cX10_next 209 = .ok (.goto 4, 3) := dAX10_next (209, (.goto 4, 3)) (List.mem_of_getElem? (i := 110) rfl)
theorem dX10_next_212 : decode cX10_next 212 = .ok (.iconst 3, 1) := dAX10_next (212, (.iconst 3, 1)) (List.mem_of_getElem? (i := 111) rfl)
theorem dX10_next_213 : decode cX10_next 213 = .ok (.putfield 81, 3) := dAX10_next (213, (.putfield 81, 3)) (List.mem_of_getElem? (i := 112) rfl)
theorem dX10_next_216 : decode cX10_next 216 = .ok (.goto 25, 3) := dAX10_next (216, (.goto 25, 3)) (List.mem_of_getElem? (i := 113) rfl)
theorem dX10_next_219 : decode cX10_next 219 = .ok (.aload_n 0, 1) := dAX10_next (219, (.aload_n 0, 1)) (List.mem_of_getElem? (i := 114) rfl)
theorem dX10_next_220 : decode cX10_next 220 = .ok (.iload_n 1, 1) := dAX10_next (220, (.iload_n 1, 1)) (List.mem_of_getElem? (i := 115) rfl)
theorem dX10_next_221 : decode cX10_next 221 = .ok (.iconst 1, 1) := dAX10_next (221, (.iconst 1, 1)) (List.mem_of_getElem? (i := 116) rfl)
theorem dX10_next_222 : decode cX10_next 222 = .ok (.iadd, 1) := dAX10_next (222, (.iadd, 1)) (List.mem_of_getElem? (i := 117) rfl)
theorem dX10_next_223 : decode cX10_next 223 = .ok (.putfield 65, 3) := dAX10_next (223, (.putfield 65, 3)) (List.mem_of_getElem? (i := 118) rfl)
theorem dX10_next_226 : decode cX10_next 226 = .ok (.aload_n 0, 1) := dAX10_next (226, (.aload_n 0, 1)) (List.mem_of_getElem? (i := 119) rfl)
theorem dX10_next_227 : decode cX10_next 227 = .ok (.iload_n 2, 1) := dAX10_next (227, (.iload_n 2, 1)) (List.mem_of_getElem? (i := 120) rfl)
theorem dX10_next_228 : decode cX10_next 228 = .ok (.bipush 59, 2) := dAX10_next (228, (.bipush 59, 2)) (List.mem_of_getElem? (i := 121) rfl)
theorem dX10_next_230 : decode cX10_next 230 = .ok (.if_icmp .ne 7, 3) := dAX10_next (230, (.if_icmp .ne 7, 3)) (List.mem_of_getElem? (i := 122) rfl)
theorem dX10_next_233 : decode cX10_next 233 = .ok (.iload_n 2, 1) := dAX10_next (233, (.iload_n 2, 1)) (List.mem_of_getElem? (i := 123) rfl)
theorem dX10_next_234 : decode cX10_next 234 = .ok (.goto 4, 3) := dAX10_next (234, (.goto 4, 3)) (List.mem_of_getElem? (i := 124) rfl)
theorem dX10_next_237 : decode cX10_next 237 = .ok (.iconst 1, 1) := dAX10_next (237, (.iconst 1, 1)) (List.mem_of_getElem? (i := 125) rfl)
theorem dX10_next_238 : decode cX10_next 238 = .ok (.putfield 81, 3) := dAX10_next (238, (.putfield 81, 3)) (List.mem_of_getElem? (i := 126) rfl)
theorem dX10_next_241 : decode cX10_next 241 = .ok (.return_, 1) := dAX10_next (241, (.return_, 1)) (List.mem_of_getElem? (i := 127) rfl)
set_option maxRecDepth 20000 in
theorem ggX10_next_X10_look : GoodIn wsX10_next wsX10_look := goodIn_r _ [11, 12, 13, 20, 21, 22, 23, 24, 25, 26, 27, 28, 29, 30, 31, 32, 33, 34, 35, 36, 37, 38, 39, 40, 41, 42, 43, 44, 45, 46, 47, 48, 49, 50, 51, 52, 53, 54] rfl (by decide +kernel)
set_option maxRecDepth 20000 in
theorem gX10_next_X10_look : GoodIn wsX10_next (wsV RX10 68 RX10 yX10_look wsX10_look) := goodIn_app (goodIn_of _ (by decide +kernel)) ggX10_next_X10_look
set_option maxRecDepth 20000 in
theorem ggX10_next_X10_isSmall : GoodIn wsX10_next wsX10_isSmall := goodIn_r _ [16] rfl (by decide +kernel)
set_option maxRecDepth 20000 in
theorem gX10_next_X10_isSmall : GoodIn wsX10_next (va_wsS RX10 84 yX10_isSmall wsX10_isSmall) := goodIn_app (goodIn_of _ (by decide +kernel)) ggX10_next_X10_isSmall
set_option maxRecDepth 20000 in
theorem ggX10_next_X10_isDigit : GoodIn wsX10_next wsX10_isDigit := goodIn_r _ [19] rfl (by decide +kernel)
set_option maxRecDepth 20000 in
theorem gX10_next_X10_isDigit : GoodIn wsX10_next (va_wsS RX10 88 yX10_isDigit wsX10_isDigit) := goodIn_app (goodIn_of _ (by decide +kernel)) ggX10_next_X10_isDigit
theorem kX10_next_65 : Cond.fieldLink RX10 65 "EveningVowModel" "end" "I" ∈ wsX10_next := List.mem_of_getElem? (i := 1) rfl
theorem iX10_next_X10 : ∀ w ∈ u_ws RX10 TX10 35, w ∈ wsX10_next := fun w h => (List.mem_cons_of_mem _ (List.mem_append_right _ h))
theorem kX10_next_72 : Cond.fieldLink RX10 72 "EveningVowModel" "at" "I" ∈ wsX10_next := List.mem_of_getElem? (i := 2) rfl
theorem kX10_next_75 : Cond.fieldLink RX10 75 "EveningVowModel" "nameSize" "I" ∈ wsX10_next := List.mem_of_getElem? (i := 3) rfl
theorem kX10_next_78 : Cond.fieldLink RX10 78 "EveningVowModel" "whole" "I" ∈ wsX10_next := List.mem_of_getElem? (i := 4) rfl
theorem kX10_next_81 : Cond.fieldLink RX10 81 "EveningVowModel" "token" "I" ∈ wsX10_next := List.mem_of_getElem? (i := 5) rfl
theorem kX10_next_17 : Cond.fieldLink RX10 17 "EveningVowModel" "letters" "[I" ∈ wsX10_next := List.mem_of_getElem? (i := 6) rfl
set_option maxHeartbeats 4000000 in
set_option maxRecDepth 100000 in
theorem wX10_next_L5 {p : Program} {l : Launch} {e : Env} {s : State} {m : MethodId} {args : Array Value} {below : List Frame} {meth : Method} {c : Code} {g : GG} {A : Nat → Prop} (C0 : Cx p s m args meth c cX10_next 4 none RX10 wsX10_next g A) (a_t : Nat) (p_t : Nat → Nat) (n : Nat) (o_t : Nat → Int32) (f_t_1 : Nat → Int32) (f_t_12 : Nat → Int32) (o_t' : Nat → Int32) (f_t_12' : Nat → Int32) (K : Int32 → Option ((Nat → Int32) × (Nat → Int32))) (hKx : ∀ (x1 : Int32) (H : Heap) (locs : List Loc) (ls : Array Slot), K x1 = some (o_t', f_t_12') → va_P g.1 vwCl [oX10 a_t p_t o_t, aI g (p_t 1) 800 f_t_1, aI g (p_t 12) 8 f_t_12] H → va_D A [oX10 a_t p_t o_t, aI g (p_t 1) 800 f_t_1, aI g (p_t 12) 8 f_t_12] → va_S A s.heap H locs → lv_has ls 4 [(0, .ref a_t), (1, .int x1)] → W p l e ({ frames := 1, cells := 0, slots := 0, locals := 21 } : Room) s m args below meth c H locs 0 0 (MQ below (EndV g [oX10 a_t p_t o_t', aI g (p_t 1) 800 f_t_1, aI g (p_t 12) 8 f_t_12'] A) args s 0 0 A) (F0 m 21 ls [])) : ∀ (k : Nat) (x1 : Int32), fX10_next_L5 n o_t f_t_1 K k x1 = some (o_t', f_t_12') → ∀ (H : Heap) (locs : List Loc) (ls : Array Slot), va_P g.1 vwCl [oX10 a_t p_t o_t, aI g (p_t 1) 800 f_t_1, aI g (p_t 12) 8 f_t_12] H → va_D A [oX10 a_t p_t o_t, aI g (p_t 1) 800 f_t_1, aI g (p_t 12) 8 f_t_12] → va_S A s.heap H locs → lv_has ls 4 [(0, .ref a_t), (1, .int x1)] → W p l e ({ frames := 1, cells := 0, slots := 0, locals := 21 } : Room) s m args below meth c H locs 0 0 (MQ below (EndV g [oX10 a_t p_t o_t', aI g (p_t 1) 800 f_t_1, aI g (p_t 12) 8 f_t_12'] A) args s 0 0 A) (F0 m 5 ls []) := by
  obtain ⟨hx, hb, hml, hown, hts, hr, hlk, hK, hA, hSW⟩ := id C0
  intro k
  induction k with
  | zero =>
    intro x1 hF
    exact absurd hF (by simp [fX10_next_L5])
  | succ k ih =>
    intro x1 hF H locs ls hP hD hS hl
    rw [fX10_next_L5] at hF
    refine lv_aload_n hx hb dX10_next_5 rfl (lv_at hl 0 rfl) ?_
    refine lv_iload_n hx hb dX10_next_6 rfl (lv_at hl 1 rfl) ?_
    obtain ⟨u_1, hu_2, hF⟩ := ob1_some hF
    refine call_i (wr := [aI g (p_t 12) 8 f_t_12]) (As := [.int x1]) (rest := []) (ci := 10) (q0 := 0) C0 (mX10_look l g a_t p_t n x1 o_t f_t_1 u_1 hu_2) (cwV 1 hts gX10_next_X10_look rfl rfl rfl (by decide +kernel) ⟨Nat.le_of_ble_eq_true rfl, Nat.le_of_ble_eq_true rfl⟩) hP hD hS [0, 1] [2] rfl rfl rfl rfl rfl (by decide) rfl rfl hl.1 rfl rfl (Nat.le_of_ble_eq_true rfl) ⟨Nat.zero_le _, Nat.zero_le _⟩ dX10_next_7 ?_
    intro H locs hP hD hS
    refine lv_bipush (v := (32 : Int32)) hx hb dX10_next_10 (by decide) ?_
    refine lv_icmp_ne (tgt := 21) hx hb dX10_next_12 (by decide) (fun c_3 => ?_) (fun c_3 => ?_)
    · have hF := it_n c_3 hF
      exact hKx x1 _ _ _ hF (hP.sub [1, 2, 0] rfl) (hD.sub [1, 2, 0] rfl rfl) hS (lv_sub hl [0, 1] rfl)
    · have hF := it_p c_3 hF
      refine lv_iinc (v := (x1 + (1 : Int32))) (lv' := [(1, .int (x1 + (1 : Int32))), (0, .ref a_t)]) hx hb dX10_next_15 hl (k := 1) rfl rfl (by decide) rfl (fun ls hl => ?_)
      refine lv_goto (tgt := 5) hx hb dX10_next_18 (by decide) ?_
      exact ih (x1 + (1 : Int32)) hF _ _ _ (hP.sub [1, 2, 0] rfl) (hD.sub [1, 2, 0] rfl rfl) hS (lv_sub hl [1, 0] rfl)
set_option maxHeartbeats 4000000 in
set_option maxRecDepth 100000 in
theorem wX10_next_L152 {p : Program} {l : Launch} {e : Env} {s : State} {m : MethodId} {args : Array Value} {below : List Frame} {meth : Method} {c : Code} {g : GG} {A : Nat → Prop} (C0 : Cx p s m args meth c cX10_next 4 none RX10 wsX10_next g A) (a_t : Nat) (p_t : Nat → Nat) (n : Nat) (f_t_1 : Nat → Int32) (f_t_12 : Nat → Int32) (o_t' : Nat → Int32) (f_t_12' : Nat → Int32) (K : Int32 → Int32 → (Nat → Int32) → Option ((Nat → Int32) × (Nat → Int32))) (hKx : ∀ (x1 : Int32) (x3 : Int32) (o_t : Nat → Int32) (H : Heap) (locs : List Loc) (ls : Array Slot), K x1 x3 o_t = some (o_t', f_t_12') → va_P g.1 vwCl [oX10 a_t p_t o_t, aI g (p_t 1) 800 f_t_1, aI g (p_t 12) 8 f_t_12] H → va_D A [oX10 a_t p_t o_t, aI g (p_t 1) 800 f_t_1, aI g (p_t 12) 8 f_t_12] → va_S A s.heap H locs → lv_has ls 4 [(0, .ref a_t), (1, .int x1), (3, .int x3)] → W p l e ({ frames := 1, cells := 0, slots := 0, locals := 21 } : Room) s m args below meth c H locs 0 0 (MQ below (EndV g [oX10 a_t p_t o_t', aI g (p_t 1) 800 f_t_1, aI g (p_t 12) 8 f_t_12'] A) args s 0 0 A) (F0 m 197 ls [])) : ∀ (k : Nat) (x1 : Int32) (x3 : Int32) (o_t : Nat → Int32), fX10_next_L152 n f_t_1 K k x1 x3 o_t = some (o_t', f_t_12') → ∀ (H : Heap) (locs : List Loc) (ls : Array Slot), va_P g.1 vwCl [oX10 a_t p_t o_t, aI g (p_t 1) 800 f_t_1, aI g (p_t 12) 8 f_t_12] H → va_D A [oX10 a_t p_t o_t, aI g (p_t 1) 800 f_t_1, aI g (p_t 12) 8 f_t_12] → va_S A s.heap H locs → lv_has ls 4 [(0, .ref a_t), (1, .int x1), (3, .int x3)] → W p l e ({ frames := 1, cells := 0, slots := 0, locals := 21 } : Room) s m args below meth c H locs 0 0 (MQ below (EndV g [oX10 a_t p_t o_t', aI g (p_t 1) 800 f_t_1, aI g (p_t 12) 8 f_t_12'] A) args s 0 0 A) (F0 m 152 ls []) := by
  obtain ⟨hx, hb, hml, hown, hts, hr, hlk, hK, hA, hSW⟩ := id C0
  intro k
  induction k with
  | zero =>
    intro x1 x3 o_t hF
    exact absurd hF (by simp [fX10_next_L152])
  | succ k ih =>
    intro x1 x3 o_t hF H locs ls hP hD hS hl
    rw [fX10_next_L152] at hF
    refine lv_aload_n hx hb dX10_next_152 rfl (lv_at hl 0 rfl) ?_
    refine lv_iload_n hx hb dX10_next_153 rfl (lv_at hl 1 rfl) ?_
    obtain ⟨u_14, hu_15, hF⟩ := ob1_some hF
    refine call_i (wr := [aI g (p_t 12) 8 f_t_12]) (As := [.int x1]) (rest := []) (ci := 10) (q0 := 0) C0 (mX10_look l g a_t p_t n x1 o_t f_t_1 u_14 hu_15) (cwV 1 hts gX10_next_X10_look rfl rfl rfl (by decide +kernel) ⟨Nat.le_of_ble_eq_true rfl, Nat.le_of_ble_eq_true rfl⟩) hP hD hS [0, 1] [2] rfl rfl rfl rfl rfl (by decide) rfl rfl hl.1 rfl rfl (Nat.le_of_ble_eq_true rfl) ⟨Nat.zero_le _, Nat.zero_le _⟩ dX10_next_154 ?_
    intro H locs hP hD hS
    obtain ⟨u_16, hu_17, hF⟩ := ob1_some hF
    refine call_si (wr := [aI g (p_t 12) 8 f_t_12, oX10 a_t p_t o_t, aI g (p_t 1) 800 f_t_1]) (As := [.int u_14]) (rest := []) C0 (mX10_isDigit l g n u_14 u_16 hu_17) (va_cwS 1 hts gX10_next_X10_isDigit rfl rfl rfl (by decide +kernel) ⟨Nat.le_of_ble_eq_true rfl, Nat.le_of_ble_eq_true rfl⟩) hP hD hS [] [0, 1, 2] rfl rfl rfl rfl rfl (by decide) hl.1 rfl rfl (Nat.le_of_ble_eq_true rfl) ⟨Nat.zero_le _, Nat.zero_le _⟩ dX10_next_157 ?_
    intro H locs hP hD hS
    refine lv_if_eq (tgt := 197) hx hb dX10_next_160 (by decide) (fun c_18 => ?_) (fun c_18 => ?_)
    · have hF := it_p c_18 hF
      exact hKx x1 x3 o_t _ _ _ hF (hP.sub [1, 2, 0] rfl) (hD.sub [1, 2, 0] rfl rfl) hS (lv_sub hl [0, 1, 2] rfl)
    · have hF := it_n c_18 hF
      refine lv_iload_n hx hb dX10_next_163 rfl (lv_at hl 2 rfl) ?_
      refine lv_iconst (v := (3 : Int32)) hx hb dX10_next_164 (by decide) ?_
      refine lv_icmp_ge (tgt := 188) hx hb dX10_next_165 (by decide) (fun c_19 => ?_) (fun c_19 => ?_)
      · have hF := it_p c_19 hF
        refine lv_iinc (v := (x3 + (1 : Int32))) (lv' := [(3, .int (x3 + (1 : Int32))), (0, .ref a_t), (1, .int x1)]) hx hb dX10_next_188 hl (k := 2) rfl rfl (by decide) rfl (fun ls hl => ?_)
        refine lv_iinc (v := (x1 + (1 : Int32))) (lv' := [(1, .int (x1 + (1 : Int32))), (3, .int (x3 + (1 : Int32))), (0, .ref a_t)]) hx hb dX10_next_191 hl (k := 2) rfl rfl (by decide) rfl (fun ls hl => ?_)
        refine lv_goto (tgt := 152) hx hb dX10_next_194 (by decide) ?_
        exact ih (x1 + (1 : Int32)) (x3 + (1 : Int32)) o_t hF _ _ _ (hP.sub [1, 2, 0] rfl) (hD.sub [1, 2, 0] rfl rfl) hS (lv_sub hl [2, 0, 1] rfl)
      · have hF := it_n c_19 hF
        refine lv_aload_n hx hb dX10_next_168 rfl (lv_at hl 0 rfl) ?_
        refine lv_bipush (v := (10 : Int32)) hx hb dX10_next_169 (by decide) ?_
        refine lv_aload_n hx hb dX10_next_171 rfl (lv_at hl 0 rfl) ?_
        refine va_get (D := g.1) (ci := 10) (v := .int (o_t 7)) (C := RX10) (T := TX10) (N := 35) hx hb hts iX10_next_X10 hown hK.1 hP 1 rfl rfl 7 (by decide) (hts _ kX10_next_78) (fun _ h9 => h9) rfl dX10_next_172 ?_
        refine lv_imul hx hb dX10_next_175 ?_
        refine lv_aload_n hx hb dX10_next_176 rfl (lv_at hl 0 rfl) ?_
        refine lv_iload_n hx hb dX10_next_177 rfl (lv_at hl 1 rfl) ?_
        obtain ⟨u_20, hu_21, hF⟩ := ob1_some hF
        refine call_i (wr := [aI g (p_t 12) 8 f_t_12]) (As := [.int x1]) (rest := [.int ((10 : Int32) * (o_t 7)), .ref a_t]) (ci := 10) (q0 := 0) C0 (mX10_look l g a_t p_t n x1 o_t f_t_1 u_20 hu_21) (cwV 1 hts gX10_next_X10_look rfl rfl rfl (by decide +kernel) ⟨Nat.le_of_ble_eq_true rfl, Nat.le_of_ble_eq_true rfl⟩) hP hD hS [1, 2] [0] rfl rfl rfl rfl rfl (by decide) rfl rfl hl.1 rfl rfl (Nat.le_of_ble_eq_true rfl) ⟨Nat.zero_le _, Nat.zero_le _⟩ dX10_next_178 ?_
        intro H locs hP hD hS
        refine lv_iadd hx hb dX10_next_181 ?_
        refine lv_bipush (v := (48 : Int32)) hx hb dX10_next_182 (by decide) ?_
        refine lv_isub hx hb dX10_next_184 ?_
        refine va_put (D := g.1) (ci := 10) (v := .int ((((10 : Int32) * (o_t 7)) + u_20) - (48 : Int32))) (ty := .int) (C := RX10) (T := TX10) (N := 35) hx hb hts iX10_next_X10 tyX10 tyX10_ok nmX10 hown hK.1 hP hD hS 1 rfl rfl 7 (by decide) (hts _ kX10_next_78) (fun _ h9 => h9) rfl (by decide +kernel) rfl rfl (Nat.le_of_ble_eq_true rfl) dX10_next_185 (fun H locs hP hD hS => ?_)
        have hP : va_P g.1 vwCl [aI g (p_t 12) 8 f_t_12, oX10 a_t p_t (upd o_t 7 ((((10 : Int32) * (o_t 7)) + u_20) - (48 : Int32))), aI g (p_t 1) 800 f_t_1] H := hP
        have hD : va_D A [aI g (p_t 12) 8 f_t_12, oX10 a_t p_t (upd o_t 7 ((((10 : Int32) * (o_t 7)) + u_20) - (48 : Int32))), aI g (p_t 1) 800 f_t_1] := hD
        refine lv_iinc (v := (x3 + (1 : Int32))) (lv' := [(3, .int (x3 + (1 : Int32))), (0, .ref a_t), (1, .int x1)]) hx hb dX10_next_188 hl (k := 2) rfl rfl (by decide) rfl (fun ls hl => ?_)
        refine lv_iinc (v := (x1 + (1 : Int32))) (lv' := [(1, .int (x1 + (1 : Int32))), (3, .int (x3 + (1 : Int32))), (0, .ref a_t)]) hx hb dX10_next_191 hl (k := 2) rfl rfl (by decide) rfl (fun ls hl => ?_)
        refine lv_goto (tgt := 152) hx hb dX10_next_194 (by decide) ?_
        exact ih (x1 + (1 : Int32)) (x3 + (1 : Int32)) (upd o_t 7 ((((10 : Int32) * (o_t 7)) + u_20) - (48 : Int32))) hF _ _ _ (hP.sub [1, 2, 0] rfl) (hD.sub [1, 2, 0] rfl rfl) hS (lv_sub hl [2, 0, 1] rfl)
set_option maxHeartbeats 4000000 in
set_option maxRecDepth 100000 in
theorem wX10_next_L67 {p : Program} {l : Launch} {e : Env} {s : State} {m : MethodId} {args : Array Value} {below : List Frame} {meth : Method} {c : Code} {g : GG} {A : Nat → Prop} (C0 : Cx p s m args meth c cX10_next 4 none RX10 wsX10_next g A) (a_t : Nat) (p_t : Nat → Nat) (n : Nat) (f_t_1 : Nat → Int32)  (o_t' : Nat → Int32) (f_t_12' : Nat → Int32) (K : Int32 → (Nat → Int32) → (Nat → Int32) → Option ((Nat → Int32) × (Nat → Int32))) (hKx : ∀ (x1 : Int32) (o_t : Nat → Int32) (f_t_12 : Nat → Int32) (H : Heap) (locs : List Loc) (ls : Array Slot), K x1 o_t f_t_12 = some (o_t', f_t_12') → va_P g.1 vwCl [oX10 a_t p_t o_t, aI g (p_t 1) 800 f_t_1, aI g (p_t 12) 8 f_t_12] H → va_D A [oX10 a_t p_t o_t, aI g (p_t 1) 800 f_t_1, aI g (p_t 12) 8 f_t_12] → va_S A s.heap H locs → lv_has ls 4 [(0, .ref a_t), (1, .int x1)] → W p l e ({ frames := 1, cells := 0, slots := 0, locals := 21 } : Room) s m args below meth c H locs 0 0 (MQ below (EndV g [oX10 a_t p_t o_t', aI g (p_t 1) 800 f_t_1, aI g (p_t 12) 8 f_t_12'] A) args s 0 0 A) (F0 m 117 ls [])) : ∀ (k : Nat) (x1 : Int32) (o_t : Nat → Int32) (f_t_12 : Nat → Int32), fX10_next_L67 n f_t_1 K k x1 o_t f_t_12 = some (o_t', f_t_12') → ∀ (H : Heap) (locs : List Loc) (ls : Array Slot), va_P g.1 vwCl [oX10 a_t p_t o_t, aI g (p_t 1) 800 f_t_1, aI g (p_t 12) 8 f_t_12] H → va_D A [oX10 a_t p_t o_t, aI g (p_t 1) 800 f_t_1, aI g (p_t 12) 8 f_t_12] → va_S A s.heap H locs → lv_has ls 4 [(0, .ref a_t), (1, .int x1)] → W p l e ({ frames := 1, cells := 0, slots := 0, locals := 21 } : Room) s m args below meth c H locs 0 0 (MQ below (EndV g [oX10 a_t p_t o_t', aI g (p_t 1) 800 f_t_1, aI g (p_t 12) 8 f_t_12'] A) args s 0 0 A) (F0 m 67 ls []) := by
  obtain ⟨hx, hb, hml, hown, hts, hr, hlk, hK, hA, hSW⟩ := id C0
  intro k
  induction k with
  | zero =>
    intro x1 o_t f_t_12 hF
    exact absurd hF (by simp [fX10_next_L67])
  | succ k ih =>
    intro x1 o_t f_t_12 hF H locs ls hP hD hS hl
    rw [fX10_next_L67] at hF
    refine lv_aload_n hx hb dX10_next_67 rfl (lv_at hl 0 rfl) ?_
    refine lv_iload_n hx hb dX10_next_68 rfl (lv_at hl 1 rfl) ?_
    obtain ⟨u_23, hu_24, hF⟩ := ob1_some hF
    refine call_i (wr := [aI g (p_t 12) 8 f_t_12]) (As := [.int x1]) (rest := []) (ci := 10) (q0 := 0) C0 (mX10_look l g a_t p_t n x1 o_t f_t_1 u_23 hu_24) (cwV 1 hts gX10_next_X10_look rfl rfl rfl (by decide +kernel) ⟨Nat.le_of_ble_eq_true rfl, Nat.le_of_ble_eq_true rfl⟩) hP hD hS [0, 1] [2] rfl rfl rfl rfl rfl (by decide) rfl rfl hl.1 rfl rfl (Nat.le_of_ble_eq_true rfl) ⟨Nat.zero_le _, Nat.zero_le _⟩ dX10_next_69 ?_
    intro H locs hP hD hS
    obtain ⟨u_25, hu_26, hF⟩ := ob1_some hF
    refine call_si (wr := [aI g (p_t 12) 8 f_t_12, oX10 a_t p_t o_t, aI g (p_t 1) 800 f_t_1]) (As := [.int u_23]) (rest := []) C0 (mX10_isSmall l g n u_23 u_25 hu_26) (va_cwS 1 hts gX10_next_X10_isSmall rfl rfl rfl (by decide +kernel) ⟨Nat.le_of_ble_eq_true rfl, Nat.le_of_ble_eq_true rfl⟩) hP hD hS [] [0, 1, 2] rfl rfl rfl rfl rfl (by decide) hl.1 rfl rfl (Nat.le_of_ble_eq_true rfl) ⟨Nat.zero_le _, Nat.zero_le _⟩ dX10_next_72 ?_
    intro H locs hP hD hS
    refine lv_if_eq (tgt := 117) hx hb dX10_next_75 (by decide) (fun c_27 => ?_) (fun c_27 => ?_)
    · have hF := it_p c_27 hF
      exact hKx x1 o_t f_t_12 _ _ _ hF (hP.sub [1, 2, 0] rfl) (hD.sub [1, 2, 0] rfl rfl) hS (lv_sub hl [0, 1] rfl)
    · have hF := it_n c_27 hF
      refine lv_aload_n hx hb dX10_next_78 rfl (lv_at hl 0 rfl) ?_
      refine va_get (D := g.1) (ci := 10) (v := .int (o_t 8)) (C := RX10) (T := TX10) (N := 35) hx hb hts iX10_next_X10 hown hK.1 hP 1 rfl rfl 8 (by decide) (hts _ kX10_next_75) (fun _ h9 => h9) rfl dX10_next_79 ?_
      refine lv_bipush (v := (8 : Int32)) hx hb dX10_next_82 (by decide) ?_
      refine lv_icmp_ge (tgt := 101) hx hb dX10_next_84 (by decide) (fun c_28 => ?_) (fun c_28 => ?_)
      · have hF := it_p c_28 hF
        refine lv_aload_n hx hb dX10_next_101 rfl (lv_at hl 0 rfl) ?_
        refine lv_dup hx hb dX10_next_102 rfl ?_
        refine va_get (D := g.1) (ci := 10) (v := .int (o_t 8)) (C := RX10) (T := TX10) (N := 35) hx hb hts iX10_next_X10 hown hK.1 hP 1 rfl rfl 8 (by decide) (hts _ kX10_next_75) (fun _ h9 => h9) rfl dX10_next_103 ?_
        refine lv_iconst (v := (1 : Int32)) hx hb dX10_next_106 (by decide) ?_
        refine lv_iadd hx hb dX10_next_107 ?_
        refine va_put (D := g.1) (ci := 10) (v := .int ((o_t 8) + (1 : Int32))) (ty := .int) (C := RX10) (T := TX10) (N := 35) hx hb hts iX10_next_X10 tyX10 tyX10_ok nmX10 hown hK.1 hP hD hS 1 rfl rfl 8 (by decide) (hts _ kX10_next_75) (fun _ h9 => h9) rfl (by decide +kernel) rfl rfl (Nat.le_of_ble_eq_true rfl) dX10_next_108 (fun H locs hP hD hS => ?_)
        have hP : va_P g.1 vwCl [aI g (p_t 12) 8 f_t_12, oX10 a_t p_t (upd o_t 8 ((o_t 8) + (1 : Int32))), aI g (p_t 1) 800 f_t_1] H := hP
        have hD : va_D A [aI g (p_t 12) 8 f_t_12, oX10 a_t p_t (upd o_t 8 ((o_t 8) + (1 : Int32))), aI g (p_t 1) 800 f_t_1] := hD
        refine lv_iinc (v := (x1 + (1 : Int32))) (lv' := [(1, .int (x1 + (1 : Int32))), (0, .ref a_t)]) hx hb dX10_next_111 hl (k := 1) rfl rfl (by decide) rfl (fun ls hl => ?_)
        refine lv_goto (tgt := 67) hx hb dX10_next_114 (by decide) ?_
        exact ih (x1 + (1 : Int32)) (upd o_t 8 ((o_t 8) + (1 : Int32))) f_t_12 hF _ _ _ (hP.sub [1, 2, 0] rfl) (hD.sub [1, 2, 0] rfl rfl) hS (lv_sub hl [1, 0] rfl)
      · have hF := it_n c_28 hF
        refine lv_aload_n hx hb dX10_next_87 rfl (lv_at hl 0 rfl) ?_
        refine va_get (D := g.1) (ci := 10) (v := .ref (p_t 12)) (C := RX10) (T := TX10) (N := 35) hx hb hts iX10_next_X10 hown hK.1 hP 1 rfl rfl 12 (by decide) (hts _ kX10_next_17) (fun _ h9 => h9) rfl dX10_next_88 ?_
        refine lv_aload_n hx hb dX10_next_91 rfl (lv_at hl 0 rfl) ?_
        refine va_get (D := g.1) (ci := 10) (v := .int (o_t 8)) (C := RX10) (T := TX10) (N := 35) hx hb hts iX10_next_X10 hown hK.1 hP 1 rfl rfl 8 (by decide) (hts _ kX10_next_75) (fun _ h9 => h9) rfl dX10_next_92 ?_
        refine lv_aload_n hx hb dX10_next_95 rfl (lv_at hl 0 rfl) ?_
        refine lv_iload_n hx hb dX10_next_96 rfl (lv_at hl 1 rfl) ?_
        obtain ⟨u_29, hu_30, hF⟩ := ob1_some hF
        refine call_i (wr := [aI g (p_t 12) 8 f_t_12]) (As := [.int x1]) (rest := [.int (o_t 8), .ref (p_t 12)]) (ci := 10) (q0 := 0) C0 (mX10_look l g a_t p_t n x1 o_t f_t_1 u_29 hu_30) (cwV 1 hts gX10_next_X10_look rfl rfl rfl (by decide +kernel) ⟨Nat.le_of_ble_eq_true rfl, Nat.le_of_ble_eq_true rfl⟩) hP hD hS [1, 2] [0] rfl rfl rfl rfl rfl (by decide) rfl rfl hl.1 rfl rfl (Nat.le_of_ble_eq_true rfl) ⟨Nat.zero_le _, Nat.zero_le _⟩ dX10_next_97 ?_
        intro H locs hP hD hS
        obtain ⟨h_31, hF⟩ := it_ck hF
        refine va_iast hx hb hK.1 hP hD hS 0 0 rfl rfl h_31 dX10_next_100 (fun H locs hP hD hS => ?_)
        have hP : va_P g.1 vwCl [aI g (p_t 12) 8 (upd f_t_12 ((o_t 8)).toNatClampNeg u_29), oX10 a_t p_t o_t, aI g (p_t 1) 800 f_t_1] H := hP
        have hD : va_D A [aI g (p_t 12) 8 (upd f_t_12 ((o_t 8)).toNatClampNeg u_29), oX10 a_t p_t o_t, aI g (p_t 1) 800 f_t_1] := hD
        refine lv_aload_n hx hb dX10_next_101 rfl (lv_at hl 0 rfl) ?_
        refine lv_dup hx hb dX10_next_102 rfl ?_
        refine va_get (D := g.1) (ci := 10) (v := .int (o_t 8)) (C := RX10) (T := TX10) (N := 35) hx hb hts iX10_next_X10 hown hK.1 hP 1 rfl rfl 8 (by decide) (hts _ kX10_next_75) (fun _ h9 => h9) rfl dX10_next_103 ?_
        refine lv_iconst (v := (1 : Int32)) hx hb dX10_next_106 (by decide) ?_
        refine lv_iadd hx hb dX10_next_107 ?_
        refine va_put (D := g.1) (ci := 10) (v := .int ((o_t 8) + (1 : Int32))) (ty := .int) (C := RX10) (T := TX10) (N := 35) hx hb hts iX10_next_X10 tyX10 tyX10_ok nmX10 hown hK.1 hP hD hS 1 rfl rfl 8 (by decide) (hts _ kX10_next_75) (fun _ h9 => h9) rfl (by decide +kernel) rfl rfl (Nat.le_of_ble_eq_true rfl) dX10_next_108 (fun H locs hP hD hS => ?_)
        have hP : va_P g.1 vwCl [aI g (p_t 12) 8 (upd f_t_12 ((o_t 8)).toNatClampNeg u_29), oX10 a_t p_t (upd o_t 8 ((o_t 8) + (1 : Int32))), aI g (p_t 1) 800 f_t_1] H := hP
        have hD : va_D A [aI g (p_t 12) 8 (upd f_t_12 ((o_t 8)).toNatClampNeg u_29), oX10 a_t p_t (upd o_t 8 ((o_t 8) + (1 : Int32))), aI g (p_t 1) 800 f_t_1] := hD
        refine lv_iinc (v := (x1 + (1 : Int32))) (lv' := [(1, .int (x1 + (1 : Int32))), (0, .ref a_t)]) hx hb dX10_next_111 hl (k := 1) rfl rfl (by decide) rfl (fun ls hl => ?_)
        refine lv_goto (tgt := 67) hx hb dX10_next_114 (by decide) ?_
        exact ih (x1 + (1 : Int32)) (upd o_t 8 ((o_t 8) + (1 : Int32))) (upd f_t_12 ((o_t 8)).toNatClampNeg u_29) hF _ _ _ (hP.sub [1, 2, 0] rfl) (hD.sub [1, 2, 0] rfl rfl) hS (lv_sub hl [1, 0] rfl)
set_option maxHeartbeats 4000000 in
set_option maxRecDepth 100000 in
theorem mX10_next (l : Launch) (g : GG) (a_t : Nat) (p_t : Nat → Nat) (n : Nat) (o_t : Nat → Int32) (f_t_1 : Nat → Int32) (f_t_12 : Nat → Int32) (o_t' : Nat → Int32) (f_t_12' : Nat → Int32) (hF : fX10_next n o_t f_t_1 f_t_12 = some (o_t', f_t_12')) : MV l g yX10_next wsX10_next ({ frames := 1, cells := 0, slots := 0, locals := 21 } : Room) [.ref a_t] [oX10 a_t p_t o_t, aI g (p_t 1) 800 f_t_1, aI g (p_t 12) 8 f_t_12] [oX10 a_t p_t o_t', aI g (p_t 1) 800 f_t_1, aI g (p_t 12) 8 f_t_12'] := by
  refine MV.of (cc := cX10_next) (maxL := 4) (own := RX10) rfl rfl (by decide) (Nat.le_of_ble_eq_true rfl) ?_
  intro p e s m args below meth c A C0 hP hD hS ls hl
  obtain ⟨hx, hb, hml, hown, hts, hr, hlk, hK, hA, hSW⟩ := id C0
  have hl : lv_has ls 4 [(0, .ref a_t)] := hl
  rw [fX10_next] at hF
  refine lv_aload_n hx hb dX10_next_0 rfl (lv_at hl 0 rfl) ?_
  refine va_get (D := g.1) (ci := 10) (v := .int (o_t 5)) (C := RX10) (T := TX10) (N := 35) hx hb hts iX10_next_X10 hown hK.1 hP 0 rfl rfl 5 (by decide) (hts _ kX10_next_65) (fun _ h9 => h9) rfl dX10_next_1 ?_
  refine lv_istore_n (lv' := [(1, .int (o_t 5)), (0, .ref a_t)]) hx hb dX10_next_4 rfl hl (by decide) rfl (fun ls hl => ?_)
  refine wX10_next_L5 C0 a_t p_t n o_t f_t_1 f_t_12 o_t' f_t_12' _ ?_ n (o_t 5) hF _ _ _ (hP.sub [0, 1, 2] rfl) (hD.sub [0, 1, 2] rfl rfl) hS (lv_sub hl [1, 0] rfl)
  · intro x1_x5 H locs ls hF hP hD hS hl
    refine lv_aload_n hx hb dX10_next_21 rfl (lv_at hl 0 rfl) ?_
    refine lv_iload_n hx hb dX10_next_22 rfl (lv_at hl 1 rfl) ?_
    refine va_put (D := g.1) (ci := 10) (v := .int x1_x5) (ty := .int) (C := RX10) (T := TX10) (N := 35) hx hb hts iX10_next_X10 tyX10 tyX10_ok nmX10 hown hK.1 hP hD hS 0 rfl rfl 4 (by decide) (hts _ kX10_next_72) (fun _ h9 => h9) rfl (by decide +kernel) rfl rfl (Nat.le_of_ble_eq_true rfl) dX10_next_23 (fun H locs hP hD hS => ?_)
    have hP : va_P g.1 vwCl [oX10 a_t p_t (upd o_t 4 x1_x5), aI g (p_t 1) 800 f_t_1, aI g (p_t 12) 8 f_t_12] H := hP
    have hD : va_D A [oX10 a_t p_t (upd o_t 4 x1_x5), aI g (p_t 1) 800 f_t_1, aI g (p_t 12) 8 f_t_12] := hD
    refine lv_aload_n hx hb dX10_next_26 rfl (lv_at hl 0 rfl) ?_
    refine lv_iload_n hx hb dX10_next_27 rfl (lv_at hl 1 rfl) ?_
    obtain ⟨u_4, hu_5, hF⟩ := ob1_some hF
    refine call_i (wr := [aI g (p_t 12) 8 f_t_12]) (As := [.int x1_x5]) (rest := []) (ci := 10) (q0 := 0) C0 (mX10_look l g a_t p_t n x1_x5 (upd o_t 4 x1_x5) f_t_1 u_4 hu_5) (cwV 1 hts gX10_next_X10_look rfl rfl rfl (by decide +kernel) ⟨Nat.le_of_ble_eq_true rfl, Nat.le_of_ble_eq_true rfl⟩) hP hD hS [0, 1] [2] rfl rfl rfl rfl rfl (by decide) rfl rfl hl.1 rfl rfl (Nat.le_of_ble_eq_true rfl) ⟨Nat.zero_le _, Nat.zero_le _⟩ dX10_next_28 ?_
    intro H locs hP hD hS
    refine lv_istore_n (lv' := [(2, .int u_4), (0, .ref a_t), (1, .int x1_x5)]) hx hb dX10_next_31 rfl hl (by decide) rfl (fun ls hl => ?_)
    refine lv_aload_n hx hb dX10_next_32 rfl (lv_at hl 1 rfl) ?_
    refine lv_iconst (v := (0 : Int32)) hx hb dX10_next_33 (by decide) ?_
    refine va_put (D := g.1) (ci := 10) (v := .int (0 : Int32)) (ty := .int) (C := RX10) (T := TX10) (N := 35) hx hb hts iX10_next_X10 tyX10 tyX10_ok nmX10 hown hK.1 hP hD hS 1 rfl rfl 8 (by decide) (hts _ kX10_next_75) (fun _ h9 => h9) rfl (by decide +kernel) rfl rfl (Nat.le_of_ble_eq_true rfl) dX10_next_34 (fun H locs hP hD hS => ?_)
    have hP : va_P g.1 vwCl [aI g (p_t 12) 8 f_t_12, oX10 a_t p_t (upd (upd o_t 4 x1_x5) 8 (0 : Int32)), aI g (p_t 1) 800 f_t_1] H := hP
    have hD : va_D A [aI g (p_t 12) 8 f_t_12, oX10 a_t p_t (upd (upd o_t 4 x1_x5) 8 (0 : Int32)), aI g (p_t 1) 800 f_t_1] := hD
    refine lv_aload_n hx hb dX10_next_37 rfl (lv_at hl 1 rfl) ?_
    refine lv_iconst (v := (0 : Int32)) hx hb dX10_next_38 (by decide) ?_
    refine va_put (D := g.1) (ci := 10) (v := .int (0 : Int32)) (ty := .int) (C := RX10) (T := TX10) (N := 35) hx hb hts iX10_next_X10 tyX10 tyX10_ok nmX10 hown hK.1 hP hD hS 1 rfl rfl 7 (by decide) (hts _ kX10_next_78) (fun _ h9 => h9) rfl (by decide +kernel) rfl rfl (Nat.le_of_ble_eq_true rfl) dX10_next_39 (fun H locs hP hD hS => ?_)
    have hP : va_P g.1 vwCl [aI g (p_t 12) 8 f_t_12, oX10 a_t p_t (upd (upd (upd o_t 4 x1_x5) 8 (0 : Int32)) 7 (0 : Int32)), aI g (p_t 1) 800 f_t_1] H := hP
    have hD : va_D A [aI g (p_t 12) 8 f_t_12, oX10 a_t p_t (upd (upd (upd o_t 4 x1_x5) 8 (0 : Int32)) 7 (0 : Int32)), aI g (p_t 1) 800 f_t_1] := hD
    refine lv_iload_n hx hb dX10_next_42 rfl (lv_at hl 0 rfl) ?_
    refine lv_iconst (v := (-1 : Int32)) hx hb dX10_next_43 (by decide) ?_
    refine lv_icmp_ne (tgt := 60) hx hb dX10_next_44 (by decide) (fun c_6 => ?_) (fun c_6 => ?_)
    · have hF := it_n c_6 hF
      refine lv_iload_n hx hb dX10_next_60 rfl (lv_at hl 0 rfl) ?_
      obtain ⟨u_7, hu_8, hF⟩ := ob1_some hF
      refine call_si (wr := [aI g (p_t 12) 8 f_t_12, oX10 a_t p_t (upd (upd (upd o_t 4 x1_x5) 8 (0 : Int32)) 7 (0 : Int32)), aI g (p_t 1) 800 f_t_1]) (As := [.int u_4]) (rest := []) C0 (mX10_isSmall l g n u_4 u_7 hu_8) (va_cwS 1 hts gX10_next_X10_isSmall rfl rfl rfl (by decide +kernel) ⟨Nat.le_of_ble_eq_true rfl, Nat.le_of_ble_eq_true rfl⟩) hP hD hS [] [0, 1, 2] rfl rfl rfl rfl rfl (by decide) hl.1 rfl rfl (Nat.le_of_ble_eq_true rfl) ⟨Nat.zero_le _, Nat.zero_le _⟩ dX10_next_61 ?_
      intro H locs hP hD hS
      refine lv_if_eq (tgt := 143) hx hb dX10_next_64 (by decide) (fun c_9 => ?_) (fun c_9 => ?_)
      · have hF := it_p c_9 hF
        refine lv_iload_n hx hb dX10_next_143 rfl (lv_at hl 0 rfl) ?_
        obtain ⟨u_10, hu_11, hF⟩ := ob1_some hF
        refine call_si (wr := [aI g (p_t 12) 8 f_t_12, oX10 a_t p_t (upd (upd (upd o_t 4 x1_x5) 8 (0 : Int32)) 7 (0 : Int32)), aI g (p_t 1) 800 f_t_1]) (As := [.int u_4]) (rest := []) C0 (mX10_isDigit l g n u_4 u_10 hu_11) (va_cwS 1 hts gX10_next_X10_isDigit rfl rfl rfl (by decide +kernel) ⟨Nat.le_of_ble_eq_true rfl, Nat.le_of_ble_eq_true rfl⟩) hP hD hS [] [0, 1, 2] rfl rfl rfl rfl rfl (by decide) hl.1 rfl rfl (Nat.le_of_ble_eq_true rfl) ⟨Nat.zero_le _, Nat.zero_le _⟩ dX10_next_144 ?_
        intro H locs hP hD hS
        refine lv_if_eq (tgt := 219) hx hb dX10_next_147 (by decide) (fun c_12 => ?_) (fun c_12 => ?_)
        · have hF := it_p c_12 hF
          refine lv_aload_n hx hb dX10_next_219 rfl (lv_at hl 1 rfl) ?_
          refine lv_iload_n hx hb dX10_next_220 rfl (lv_at hl 2 rfl) ?_
          refine lv_iconst (v := (1 : Int32)) hx hb dX10_next_221 (by decide) ?_
          refine lv_iadd hx hb dX10_next_222 ?_
          refine va_put (D := g.1) (ci := 10) (v := .int (x1_x5 + (1 : Int32))) (ty := .int) (C := RX10) (T := TX10) (N := 35) hx hb hts iX10_next_X10 tyX10 tyX10_ok nmX10 hown hK.1 hP hD hS 1 rfl rfl 5 (by decide) (hts _ kX10_next_65) (fun _ h9 => h9) rfl (by decide +kernel) rfl rfl (Nat.le_of_ble_eq_true rfl) dX10_next_223 (fun H locs hP hD hS => ?_)
          have hP : va_P g.1 vwCl [aI g (p_t 12) 8 f_t_12, oX10 a_t p_t (upd (upd (upd (upd o_t 4 x1_x5) 8 (0 : Int32)) 7 (0 : Int32)) 5 (x1_x5 + (1 : Int32))), aI g (p_t 1) 800 f_t_1] H := hP
          have hD : va_D A [aI g (p_t 12) 8 f_t_12, oX10 a_t p_t (upd (upd (upd (upd o_t 4 x1_x5) 8 (0 : Int32)) 7 (0 : Int32)) 5 (x1_x5 + (1 : Int32))), aI g (p_t 1) 800 f_t_1] := hD
          refine lv_aload_n hx hb dX10_next_226 rfl (lv_at hl 1 rfl) ?_
          refine lv_iload_n hx hb dX10_next_227 rfl (lv_at hl 0 rfl) ?_
          refine lv_bipush (v := (59 : Int32)) hx hb dX10_next_228 (by decide) ?_
          refine lv_icmp_ne (tgt := 237) hx hb dX10_next_230 (by decide) (fun c_13 => ?_) (fun c_13 => ?_)
          · have hF := it_n c_13 hF
            refine lv_iconst (v := (1 : Int32)) hx hb dX10_next_237 (by decide) ?_
            refine va_put (D := g.1) (ci := 10) (v := .int (1 : Int32)) (ty := .int) (C := RX10) (T := TX10) (N := 35) hx hb hts iX10_next_X10 tyX10 tyX10_ok nmX10 hown hK.1 hP hD hS 1 rfl rfl 6 (by decide) (hts _ kX10_next_81) (fun _ h9 => h9) rfl (by decide +kernel) rfl rfl (Nat.le_of_ble_eq_true rfl) dX10_next_238 (fun H locs hP hD hS => ?_)
            have hP : va_P g.1 vwCl [aI g (p_t 12) 8 f_t_12, oX10 a_t p_t (upd (upd (upd (upd (upd o_t 4 x1_x5) 8 (0 : Int32)) 7 (0 : Int32)) 5 (x1_x5 + (1 : Int32))) 6 (1 : Int32)), aI g (p_t 1) 800 f_t_1] H := hP
            have hD : va_D A [aI g (p_t 12) 8 f_t_12, oX10 a_t p_t (upd (upd (upd (upd (upd o_t 4 x1_x5) 8 (0 : Int32)) 7 (0 : Int32)) 5 (x1_x5 + (1 : Int32))) 6 (1 : Int32)), aI g (p_t 1) 800 f_t_1] := hD
            cases hF
            exact ret_v C0 hP hD hS [1, 2, 0] rfl rfl rfl dX10_next_241
          · have hF := it_p c_13 hF
            refine lv_iload_n hx hb dX10_next_233 rfl (lv_at hl 0 rfl) ?_
            refine lv_goto (tgt := 238) hx hb dX10_next_234 (by decide) ?_
            refine va_put (D := g.1) (ci := 10) (v := .int u_4) (ty := .int) (C := RX10) (T := TX10) (N := 35) hx hb hts iX10_next_X10 tyX10 tyX10_ok nmX10 hown hK.1 hP hD hS 1 rfl rfl 6 (by decide) (hts _ kX10_next_81) (fun _ h9 => h9) rfl (by decide +kernel) rfl rfl (Nat.le_of_ble_eq_true rfl) dX10_next_238 (fun H locs hP hD hS => ?_)
            have hP : va_P g.1 vwCl [aI g (p_t 12) 8 f_t_12, oX10 a_t p_t (upd (upd (upd (upd (upd o_t 4 x1_x5) 8 (0 : Int32)) 7 (0 : Int32)) 5 (x1_x5 + (1 : Int32))) 6 u_4), aI g (p_t 1) 800 f_t_1] H := hP
            have hD : va_D A [aI g (p_t 12) 8 f_t_12, oX10 a_t p_t (upd (upd (upd (upd (upd o_t 4 x1_x5) 8 (0 : Int32)) 7 (0 : Int32)) 5 (x1_x5 + (1 : Int32))) 6 u_4), aI g (p_t 1) 800 f_t_1] := hD
            cases hF
            exact ret_v C0 hP hD hS [1, 2, 0] rfl rfl rfl dX10_next_241
        · have hF := it_n c_12 hF
          refine lv_iconst (v := (0 : Int32)) hx hb dX10_next_150 (by decide) ?_
          refine lv_istore_n (lv' := [(3, .int (0 : Int32)), (2, .int u_4), (0, .ref a_t), (1, .int x1_x5)]) hx hb dX10_next_151 rfl hl (by decide) rfl (fun ls hl => ?_)
          refine wX10_next_L152 C0 a_t p_t n f_t_1 f_t_12 o_t' f_t_12' _ ?_ n x1_x5 (0 : Int32) (upd (upd (upd o_t 4 x1_x5) 8 (0 : Int32)) 7 (0 : Int32)) hF _ _ _ (hP.sub [1, 2, 0] rfl) (hD.sub [1, 2, 0] rfl rfl) hS (lv_sub hl [2, 3, 0] rfl)
          · intro x1_x152 x3_x152 o_t_x152 H locs ls hF hP hD hS hl
            refine lv_aload_n hx hb dX10_next_197 rfl (lv_at hl 0 rfl) ?_
            refine lv_iload_n hx hb dX10_next_198 rfl (lv_at hl 1 rfl) ?_
            refine va_put (D := g.1) (ci := 10) (v := .int x1_x152) (ty := .int) (C := RX10) (T := TX10) (N := 35) hx hb hts iX10_next_X10 tyX10 tyX10_ok nmX10 hown hK.1 hP hD hS 0 rfl rfl 5 (by decide) (hts _ kX10_next_65) (fun _ h9 => h9) rfl (by decide +kernel) rfl rfl (Nat.le_of_ble_eq_true rfl) dX10_next_199 (fun H locs hP hD hS => ?_)
            have hP : va_P g.1 vwCl [oX10 a_t p_t (upd o_t_x152 5 x1_x152), aI g (p_t 1) 800 f_t_1, aI g (p_t 12) 8 f_t_12] H := hP
            have hD : va_D A [oX10 a_t p_t (upd o_t_x152 5 x1_x152), aI g (p_t 1) 800 f_t_1, aI g (p_t 12) 8 f_t_12] := hD
            refine lv_aload_n hx hb dX10_next_202 rfl (lv_at hl 0 rfl) ?_
            refine lv_iload_n hx hb dX10_next_203 rfl (lv_at hl 2 rfl) ?_
            refine lv_iconst (v := (3 : Int32)) hx hb dX10_next_204 (by decide) ?_
            refine lv_icmp_le (tgt := 212) hx hb dX10_next_205 (by decide) (fun c_22 => ?_) (fun c_22 => ?_)
            · have hF := it_p c_22 hF
              refine lv_iconst (v := (3 : Int32)) hx hb dX10_next_212 (by decide) ?_
              refine va_put (D := g.1) (ci := 10) (v := .int (3 : Int32)) (ty := .int) (C := RX10) (T := TX10) (N := 35) hx hb hts iX10_next_X10 tyX10 tyX10_ok nmX10 hown hK.1 hP hD hS 0 rfl rfl 6 (by decide) (hts _ kX10_next_81) (fun _ h9 => h9) rfl (by decide +kernel) rfl rfl (Nat.le_of_ble_eq_true rfl) dX10_next_213 (fun H locs hP hD hS => ?_)
              have hP : va_P g.1 vwCl [oX10 a_t p_t (upd (upd o_t_x152 5 x1_x152) 6 (3 : Int32)), aI g (p_t 1) 800 f_t_1, aI g (p_t 12) 8 f_t_12] H := hP
              have hD : va_D A [oX10 a_t p_t (upd (upd o_t_x152 5 x1_x152) 6 (3 : Int32)), aI g (p_t 1) 800 f_t_1, aI g (p_t 12) 8 f_t_12] := hD
              refine lv_goto (tgt := 241) hx hb dX10_next_216 (by decide) ?_
              cases hF
              exact ret_v C0 hP hD hS [0, 1, 2] rfl rfl rfl dX10_next_241
            · have hF := it_n c_22 hF
              refine lv_iconst (v := (1 : Int32)) hx hb dX10_next_208 (by decide) ?_
              refine lv_goto (tgt := 213) hx hb dX10_next_209 (by decide) ?_
              refine va_put (D := g.1) (ci := 10) (v := .int (1 : Int32)) (ty := .int) (C := RX10) (T := TX10) (N := 35) hx hb hts iX10_next_X10 tyX10 tyX10_ok nmX10 hown hK.1 hP hD hS 0 rfl rfl 6 (by decide) (hts _ kX10_next_81) (fun _ h9 => h9) rfl (by decide +kernel) rfl rfl (Nat.le_of_ble_eq_true rfl) dX10_next_213 (fun H locs hP hD hS => ?_)
              have hP : va_P g.1 vwCl [oX10 a_t p_t (upd (upd o_t_x152 5 x1_x152) 6 (1 : Int32)), aI g (p_t 1) 800 f_t_1, aI g (p_t 12) 8 f_t_12] H := hP
              have hD : va_D A [oX10 a_t p_t (upd (upd o_t_x152 5 x1_x152) 6 (1 : Int32)), aI g (p_t 1) 800 f_t_1, aI g (p_t 12) 8 f_t_12] := hD
              refine lv_goto (tgt := 241) hx hb dX10_next_216 (by decide) ?_
              cases hF
              exact ret_v C0 hP hD hS [0, 1, 2] rfl rfl rfl dX10_next_241
      · have hF := it_n c_9 hF
        refine wX10_next_L67 C0 a_t p_t n f_t_1 o_t' f_t_12' _ ?_ n x1_x5 (upd (upd (upd o_t 4 x1_x5) 8 (0 : Int32)) 7 (0 : Int32)) f_t_12 hF _ _ _ (hP.sub [1, 2, 0] rfl) (hD.sub [1, 2, 0] rfl rfl) hS (lv_sub hl [1, 2] rfl)
        · intro x1_x67 o_t_x67 f_t_12_x67 H locs ls hF hP hD hS hl
          refine lv_aload_n hx hb dX10_next_117 rfl (lv_at hl 0 rfl) ?_
          refine lv_iload_n hx hb dX10_next_118 rfl (lv_at hl 1 rfl) ?_
          refine va_put (D := g.1) (ci := 10) (v := .int x1_x67) (ty := .int) (C := RX10) (T := TX10) (N := 35) hx hb hts iX10_next_X10 tyX10 tyX10_ok nmX10 hown hK.1 hP hD hS 0 rfl rfl 5 (by decide) (hts _ kX10_next_65) (fun _ h9 => h9) rfl (by decide +kernel) rfl rfl (Nat.le_of_ble_eq_true rfl) dX10_next_119 (fun H locs hP hD hS => ?_)
          have hP : va_P g.1 vwCl [oX10 a_t p_t (upd o_t_x67 5 x1_x67), aI g (p_t 1) 800 f_t_1, aI g (p_t 12) 8 f_t_12_x67] H := hP
          have hD : va_D A [oX10 a_t p_t (upd o_t_x67 5 x1_x67), aI g (p_t 1) 800 f_t_1, aI g (p_t 12) 8 f_t_12_x67] := hD
          refine lv_aload_n hx hb dX10_next_122 rfl (lv_at hl 0 rfl) ?_
          refine lv_aload_n hx hb dX10_next_123 rfl (lv_at hl 0 rfl) ?_
          refine va_get (D := g.1) (ci := 10) (v := .int (o_t_x67 8)) (C := RX10) (T := TX10) (N := 35) hx hb hts iX10_next_X10 hown hK.1 hP 0 rfl rfl 8 (by decide) (hts _ kX10_next_75) (fun _ h9 => h9) rfl dX10_next_124 ?_
          refine lv_bipush (v := (8 : Int32)) hx hb dX10_next_127 (by decide) ?_
          refine lv_icmp_le (tgt := 136) hx hb dX10_next_129 (by decide) (fun c_32 => ?_) (fun c_32 => ?_)
          · have hF := it_p c_32 hF
            refine lv_iconst (v := (2 : Int32)) hx hb dX10_next_136 (by decide) ?_
            refine va_put (D := g.1) (ci := 10) (v := .int (2 : Int32)) (ty := .int) (C := RX10) (T := TX10) (N := 35) hx hb hts iX10_next_X10 tyX10 tyX10_ok nmX10 hown hK.1 hP hD hS 0 rfl rfl 6 (by decide) (hts _ kX10_next_81) (fun _ h9 => h9) rfl (by decide +kernel) rfl rfl (Nat.le_of_ble_eq_true rfl) dX10_next_137 (fun H locs hP hD hS => ?_)
            have hP : va_P g.1 vwCl [oX10 a_t p_t (upd (upd o_t_x67 5 x1_x67) 6 (2 : Int32)), aI g (p_t 1) 800 f_t_1, aI g (p_t 12) 8 f_t_12_x67] H := hP
            have hD : va_D A [oX10 a_t p_t (upd (upd o_t_x67 5 x1_x67) 6 (2 : Int32)), aI g (p_t 1) 800 f_t_1, aI g (p_t 12) 8 f_t_12_x67] := hD
            refine lv_goto (tgt := 241) hx hb dX10_next_140 (by decide) ?_
            cases hF
            exact ret_v C0 hP hD hS [0, 1, 2] rfl rfl rfl dX10_next_241
          · have hF := it_n c_32 hF
            refine lv_iconst (v := (1 : Int32)) hx hb dX10_next_132 (by decide) ?_
            refine lv_goto (tgt := 137) hx hb dX10_next_133 (by decide) ?_
            refine va_put (D := g.1) (ci := 10) (v := .int (1 : Int32)) (ty := .int) (C := RX10) (T := TX10) (N := 35) hx hb hts iX10_next_X10 tyX10 tyX10_ok nmX10 hown hK.1 hP hD hS 0 rfl rfl 6 (by decide) (hts _ kX10_next_81) (fun _ h9 => h9) rfl (by decide +kernel) rfl rfl (Nat.le_of_ble_eq_true rfl) dX10_next_137 (fun H locs hP hD hS => ?_)
            have hP : va_P g.1 vwCl [oX10 a_t p_t (upd (upd o_t_x67 5 x1_x67) 6 (1 : Int32)), aI g (p_t 1) 800 f_t_1, aI g (p_t 12) 8 f_t_12_x67] H := hP
            have hD : va_D A [oX10 a_t p_t (upd (upd o_t_x67 5 x1_x67) 6 (1 : Int32)), aI g (p_t 1) 800 f_t_1, aI g (p_t 12) 8 f_t_12_x67] := hD
            refine lv_goto (tgt := 241) hx hb dX10_next_140 (by decide) ?_
            cases hF
            exact ret_v C0 hP hD hS [0, 1, 2] rfl rfl rfl dX10_next_241
    · have hF := it_p c_6 hF
      refine lv_aload_n hx hb dX10_next_47 rfl (lv_at hl 1 rfl) ?_
      refine lv_iconst (v := (0 : Int32)) hx hb dX10_next_48 (by decide) ?_
      refine va_put (D := g.1) (ci := 10) (v := .int (0 : Int32)) (ty := .int) (C := RX10) (T := TX10) (N := 35) hx hb hts iX10_next_X10 tyX10 tyX10_ok nmX10 hown hK.1 hP hD hS 1 rfl rfl 6 (by decide) (hts _ kX10_next_81) (fun _ h9 => h9) rfl (by decide +kernel) rfl rfl (Nat.le_of_ble_eq_true rfl) dX10_next_49 (fun H locs hP hD hS => ?_)
      have hP : va_P g.1 vwCl [aI g (p_t 12) 8 f_t_12, oX10 a_t p_t (upd (upd (upd (upd o_t 4 x1_x5) 8 (0 : Int32)) 7 (0 : Int32)) 6 (0 : Int32)), aI g (p_t 1) 800 f_t_1] H := hP
      have hD : va_D A [aI g (p_t 12) 8 f_t_12, oX10 a_t p_t (upd (upd (upd (upd o_t 4 x1_x5) 8 (0 : Int32)) 7 (0 : Int32)) 6 (0 : Int32)), aI g (p_t 1) 800 f_t_1] := hD
      refine lv_aload_n hx hb dX10_next_52 rfl (lv_at hl 1 rfl) ?_
      refine lv_iload_n hx hb dX10_next_53 rfl (lv_at hl 2 rfl) ?_
      refine va_put (D := g.1) (ci := 10) (v := .int x1_x5) (ty := .int) (C := RX10) (T := TX10) (N := 35) hx hb hts iX10_next_X10 tyX10 tyX10_ok nmX10 hown hK.1 hP hD hS 1 rfl rfl 5 (by decide) (hts _ kX10_next_65) (fun _ h9 => h9) rfl (by decide +kernel) rfl rfl (Nat.le_of_ble_eq_true rfl) dX10_next_54 (fun H locs hP hD hS => ?_)
      have hP : va_P g.1 vwCl [aI g (p_t 12) 8 f_t_12, oX10 a_t p_t (upd (upd (upd (upd (upd o_t 4 x1_x5) 8 (0 : Int32)) 7 (0 : Int32)) 6 (0 : Int32)) 5 x1_x5), aI g (p_t 1) 800 f_t_1] H := hP
      have hD : va_D A [aI g (p_t 12) 8 f_t_12, oX10 a_t p_t (upd (upd (upd (upd (upd o_t 4 x1_x5) 8 (0 : Int32)) 7 (0 : Int32)) 6 (0 : Int32)) 5 x1_x5), aI g (p_t 1) 800 f_t_1] := hD
      refine lv_goto (tgt := 241) hx hb dX10_next_57 (by decide) ?_
      cases hF
      exact ret_v C0 hP hD hS [1, 2, 0] rfl rfl rfl dX10_next_241

theorem dAX10_wrong : ∀ q ∈ ([(0, (.aload_n 0, 1)), (1, (.getfield 91, 3)), (4, (.ifCond .eq 4, 3)), (7, (.return_, 1)), (8, (.aload_n 0, 1)), (9, (.iconst 1, 1)), (10, (.putfield 91, 3)), (13, (.aload_n 0, 1)), (14, (.iload_n 1, 1)), (15, (.putfield 95, 3)), (18, (.aload_n 0, 1)), (19, (.iload_n 2, 1)), (20, (.putfield 13, 3)), (23, (.return_, 1))] : List (Nat × (Instr × Nat))), decode cX10_wrong q.1 = .ok q.2 := by decide +kernel
theorem dX10_wrong_0 : decode cX10_wrong 0 = .ok (.aload_n 0, 1) := dAX10_wrong (0, (.aload_n 0, 1)) (List.mem_of_getElem? (i := 0) rfl)
theorem dX10_wrong_1 : decode cX10_wrong 1 = .ok (.getfield 91, 3) := dAX10_wrong (1, (.getfield 91, 3)) (List.mem_of_getElem? (i := 1) rfl)
theorem dX10_wrong_4 : decode cX10_wrong 4 = .ok (.ifCond .eq 4, 3) := dAX10_wrong (4, (.ifCond .eq 4, 3)) (List.mem_of_getElem? (i := 2) rfl)
theorem dX10_wrong_7 : decode cX10_wrong 7 = .ok (.return_, 1) := dAX10_wrong (7, (.return_, 1)) (List.mem_of_getElem? (i := 3) rfl)
theorem dX10_wrong_8 : decode cX10_wrong 8 = .ok (.aload_n 0, 1) := dAX10_wrong (8, (.aload_n 0, 1)) (List.mem_of_getElem? (i := 4) rfl)
theorem dX10_wrong_9 : decode cX10_wrong 9 = .ok (.iconst 1, 1) := dAX10_wrong (9, (.iconst 1, 1)) (List.mem_of_getElem? (i := 5) rfl)
theorem dX10_wrong_10 : decode cX10_wrong 10 = .ok (.putfield 91, 3) := dAX10_wrong (10, (.putfield 91, 3)) (List.mem_of_getElem? (i := 6) rfl)
theorem dX10_wrong_13 : decode cX10_wrong 13 = .ok (.aload_n 0, 1) := dAX10_wrong (13, (.aload_n 0, 1)) (List.mem_of_getElem? (i := 7) rfl)
theorem dX10_wrong_14 : decode cX10_wrong 14 = .ok (.iload_n 1, 1) := dAX10_wrong (14, (.iload_n 1, 1)) (List.mem_of_getElem? (i := 8) rfl)
theorem dX10_wrong_15 : decode cX10_wrong 15 = .ok (.putfield 95, 3) := dAX10_wrong (15, (.putfield 95, 3)) (List.mem_of_getElem? (i := 9) rfl)
theorem dX10_wrong_18 : decode cX10_wrong 18 = .ok (.aload_n 0, 1) := dAX10_wrong (18, (.aload_n 0, 1)) (List.mem_of_getElem? (i := 10) rfl)
theorem dX10_wrong_19 : decode cX10_wrong 19 = .ok (.iload_n 2, 1) := dAX10_wrong (19, (.iload_n 2, 1)) (List.mem_of_getElem? (i := 11) rfl)
theorem dX10_wrong_20 : decode cX10_wrong 20 = .ok (.putfield 13, 3) := dAX10_wrong (20, (.putfield 13, 3)) (List.mem_of_getElem? (i := 12) rfl)
theorem dX10_wrong_23 : decode cX10_wrong 23 = .ok (.return_, 1) := dAX10_wrong (23, (.return_, 1)) (List.mem_of_getElem? (i := 13) rfl)
theorem kX10_wrong_91 : Cond.fieldLink RX10 91 "EveningVowModel" "failed" "Z" ∈ wsX10_wrong := List.mem_of_getElem? (i := 1) rfl
theorem iX10_wrong_X10 : ∀ w ∈ u_ws RX10 TX10 35, w ∈ wsX10_wrong := fun w h => (List.mem_cons_of_mem _ (List.mem_append_right _ h))
theorem kX10_wrong_95 : Cond.fieldLink RX10 95 "EveningVowModel" "fault" "I" ∈ wsX10_wrong := List.mem_of_getElem? (i := 2) rfl
theorem kX10_wrong_13 : Cond.fieldLink RX10 13 "EveningVowModel" "place" "I" ∈ wsX10_wrong := List.mem_of_getElem? (i := 3) rfl
set_option maxHeartbeats 4000000 in
set_option maxRecDepth 100000 in
theorem mX10_wrong (l : Launch) (g : GG) (a_t : Nat) (p_t : Nat → Nat) (n : Nat) (x1 : Int32) (x2 : Int32) (o_t : Nat → Int32) (o_t' : Nat → Int32) (hF : fX10_wrong n x1 x2 o_t = some (o_t')) : MV l g yX10_wrong wsX10_wrong ({ frames := 0, cells := 0, slots := 0, locals := 0 } : Room) [.ref a_t, .int x1, .int x2] [oX10 a_t p_t o_t] [oX10 a_t p_t o_t'] := by
  refine MV.of (cc := cX10_wrong) (maxL := 3) (own := RX10) rfl rfl (by decide) (Nat.le_of_ble_eq_true rfl) ?_
  intro p e s m args below meth c A C0 hP hD hS ls hl
  obtain ⟨hx, hb, hml, hown, hts, hr, hlk, hK, hA, hSW⟩ := id C0
  have hl : lv_has ls 3 [(0, .ref a_t), (1, .int x1), (2, .int x2)] := hl
  rw [fX10_wrong] at hF
  refine lv_aload_n hx hb dX10_wrong_0 rfl (lv_at hl 0 rfl) ?_
  refine va_get (D := g.1) (ci := 10) (v := .int (o_t 13)) (C := RX10) (T := TX10) (N := 35) hx hb hts iX10_wrong_X10 hown hK.1 hP 0 rfl rfl 13 (by decide) (hts _ kX10_wrong_91) (fun _ h9 => h9) rfl dX10_wrong_1 ?_
  refine lv_if_eq (tgt := 8) hx hb dX10_wrong_4 (by decide) (fun c_1 => ?_) (fun c_1 => ?_)
  · have hF := it_p c_1 hF
    refine lv_aload_n hx hb dX10_wrong_8 rfl (lv_at hl 0 rfl) ?_
    refine lv_iconst (v := (1 : Int32)) hx hb dX10_wrong_9 (by decide) ?_
    refine va_put (D := g.1) (ci := 10) (v := .int (1 : Int32)) (ty := .boolean) (C := RX10) (T := TX10) (N := 35) hx hb hts iX10_wrong_X10 tyX10 tyX10_ok nmX10 hown hK.1 hP hD hS 0 rfl rfl 13 (by decide) (hts _ kX10_wrong_91) (fun _ h9 => h9) rfl (by decide +kernel) rfl rfl (Nat.le_of_ble_eq_true rfl) dX10_wrong_10 (fun H locs hP hD hS => ?_)
    have hP : va_P g.1 vwCl [oX10 a_t p_t (upd o_t 13 (1 : Int32))] H := hP
    have hD : va_D A [oX10 a_t p_t (upd o_t 13 (1 : Int32))] := hD
    refine lv_aload_n hx hb dX10_wrong_13 rfl (lv_at hl 0 rfl) ?_
    refine lv_iload_n hx hb dX10_wrong_14 rfl (lv_at hl 1 rfl) ?_
    refine va_put (D := g.1) (ci := 10) (v := .int x1) (ty := .int) (C := RX10) (T := TX10) (N := 35) hx hb hts iX10_wrong_X10 tyX10 tyX10_ok nmX10 hown hK.1 hP hD hS 0 rfl rfl 9 (by decide) (hts _ kX10_wrong_95) (fun _ h9 => h9) rfl (by decide +kernel) rfl rfl (Nat.le_of_ble_eq_true rfl) dX10_wrong_15 (fun H locs hP hD hS => ?_)
    have hP : va_P g.1 vwCl [oX10 a_t p_t (upd (upd o_t 13 (1 : Int32)) 9 x1)] H := hP
    have hD : va_D A [oX10 a_t p_t (upd (upd o_t 13 (1 : Int32)) 9 x1)] := hD
    refine lv_aload_n hx hb dX10_wrong_18 rfl (lv_at hl 0 rfl) ?_
    refine lv_iload_n hx hb dX10_wrong_19 rfl (lv_at hl 2 rfl) ?_
    refine va_put (D := g.1) (ci := 10) (v := .int x2) (ty := .int) (C := RX10) (T := TX10) (N := 35) hx hb hts iX10_wrong_X10 tyX10 tyX10_ok nmX10 hown hK.1 hP hD hS 0 rfl rfl 10 (by decide) (hts _ kX10_wrong_13) (fun _ h9 => h9) rfl (by decide +kernel) rfl rfl (Nat.le_of_ble_eq_true rfl) dX10_wrong_20 (fun H locs hP hD hS => ?_)
    have hP : va_P g.1 vwCl [oX10 a_t p_t (upd (upd (upd o_t 13 (1 : Int32)) 9 x1) 10 x2)] H := hP
    have hD : va_D A [oX10 a_t p_t (upd (upd (upd o_t 13 (1 : Int32)) 9 x1) 10 x2)] := hD
    cases hF
    exact ret_v C0 hP hD hS [0] rfl rfl rfl dX10_wrong_23
  · have hF := it_n c_1 hF
    cases hF
    exact ret_v C0 hP hD hS [0] rfl rfl rfl dX10_wrong_7

theorem dAX10_isWord : ∀ q ∈ ([(0, (.aload_n 0, 1)), (1, (.getfield 91, 3)), (4, (.ifCond .ne 22, 3)), (7, (.aload_n 0, 1)), (8, (.getfield 81, 3)), (11, (.iconst 2, 1)), (12, (.if_icmp .ne 14, 3)), (15, (.aload_n 0, 1)), (16, (.getfield 75, 3)), (19, (.aload_n 1, 1)), (20, (.invokevirtual 98, 3)), (23, (.if_icmp .eq 5, 3)), (26, (.iconst 0, 1)), (27, (.ireturn, 1)), (28, (.iconst 1, 1)), (29, (.istore_n 2, 1)), (30, (.iconst 0, 1)), (31, (.istore_n 3, 1)), (32, (.iload_n 3, 1)), (33, (.aload_n 0, 1)), (34, (.getfield 75, 3)), (37, (.if_icmp .ge 33, 3)), (40, (.iload_n 2, 1)), (41, (.ifCond .eq 21, 3)), (44, (.aload_n 0, 1)), (45, (.getfield 17, 3)), (48, (.iload_n 3, 1)), (49, (.iaload, 1)), (50, (.aload_n 1, 1)), (51, (.iload_n 3, 1)), (52, (.invokevirtual 104, 3)), (55, (.if_icmp .ne 7, 3)), (58, (.iconst 1, 1)), (59, (.goto 4, 3)), (62, (.iconst 0, 1)), (63, (.istore_n 2, 1)), (64, (.iinc 3 1, 3)), (67, (.goto (-35), 3)), (70, (.iload_n 2, 1)), (71, (.ireturn, 1))] : List (Nat × (Instr × Nat))), decode cX10_isWord q.1 = .ok q.2 := by decide +kernel
theorem dX10_isWord_0 : decode cX10_isWord 0 = .ok (.aload_n 0, 1) := dAX10_isWord (0, (.aload_n 0, 1)) (List.mem_of_getElem? (i := 0) rfl)
theorem dX10_isWord_1 : decode cX10_isWord 1 = .ok (.getfield 91, 3) := dAX10_isWord (1, (.getfield 91, 3)) (List.mem_of_getElem? (i := 1) rfl)
theorem dX10_isWord_4 : decode cX10_isWord 4 = .ok (.ifCond .ne 22, 3) := dAX10_isWord (4, (.ifCond .ne 22, 3)) (List.mem_of_getElem? (i := 2) rfl)
theorem dX10_isWord_7 : decode cX10_isWord 7 = .ok (.aload_n 0, 1) := dAX10_isWord (7, (.aload_n 0, 1)) (List.mem_of_getElem? (i := 3) rfl)
theorem dX10_isWord_8 : decode cX10_isWord 8 = .ok (.getfield 81, 3) := dAX10_isWord (8, (.getfield 81, 3)) (List.mem_of_getElem? (i := 4) rfl)
theorem dX10_isWord_11 : decode cX10_isWord 11 = .ok (.iconst 2, 1) := dAX10_isWord (11, (.iconst 2, 1)) (List.mem_of_getElem? (i := 5) rfl)
theorem dX10_isWord_12 : decode cX10_isWord 12 = .ok (.if_icmp .ne 14, 3) := dAX10_isWord (12, (.if_icmp .ne 14, 3)) (List.mem_of_getElem? (i := 6) rfl)
theorem dX10_isWord_15 : decode cX10_isWord 15 = .ok (.aload_n 0, 1) := dAX10_isWord (15, (.aload_n 0, 1)) (List.mem_of_getElem? (i := 7) rfl)
theorem dX10_isWord_16 : decode cX10_isWord 16 = .ok (.getfield 75, 3) := dAX10_isWord (16, (.getfield 75, 3)) (List.mem_of_getElem? (i := 8) rfl)
theorem dX10_isWord_19 : decode cX10_isWord 19 = .ok (.aload_n 1, 1) := dAX10_isWord (19, (.aload_n 1, 1)) (List.mem_of_getElem? (i := 9) rfl)
theorem dX10_isWord_20 : decode cX10_isWord 20 = .ok (.invokevirtual 98, 3) := dAX10_isWord (20, (.invokevirtual 98, 3)) (List.mem_of_getElem? (i := 10) rfl)
theorem dX10_isWord_23 : decode cX10_isWord 23 = .ok (.if_icmp .eq 5, 3) := dAX10_isWord (23, (.if_icmp .eq 5, 3)) (List.mem_of_getElem? (i := 11) rfl)
theorem dX10_isWord_26 : decode cX10_isWord 26 = .ok (.iconst 0, 1) := dAX10_isWord (26, (.iconst 0, 1)) (List.mem_of_getElem? (i := 12) rfl)
theorem dX10_isWord_27 : decode cX10_isWord 27 = .ok (.ireturn, 1) := dAX10_isWord (27, (.ireturn, 1)) (List.mem_of_getElem? (i := 13) rfl)
theorem dX10_isWord_28 : decode cX10_isWord 28 = .ok (.iconst 1, 1) := dAX10_isWord (28, (.iconst 1, 1)) (List.mem_of_getElem? (i := 14) rfl)
theorem dX10_isWord_29 : decode cX10_isWord 29 = .ok (.istore_n 2, 1) := dAX10_isWord (29, (.istore_n 2, 1)) (List.mem_of_getElem? (i := 15) rfl)
theorem dX10_isWord_30 : decode cX10_isWord 30 = .ok (.iconst 0, 1) := dAX10_isWord (30, (.iconst 0, 1)) (List.mem_of_getElem? (i := 16) rfl)
theorem dX10_isWord_31 : decode cX10_isWord 31 = .ok (.istore_n 3, 1) := dAX10_isWord (31, (.istore_n 3, 1)) (List.mem_of_getElem? (i := 17) rfl)
theorem dX10_isWord_32 : decode cX10_isWord 32 = .ok (.iload_n 3, 1) := dAX10_isWord (32, (.iload_n 3, 1)) (List.mem_of_getElem? (i := 18) rfl)
theorem dX10_isWord_33 : decode cX10_isWord 33 = .ok (.aload_n 0, 1) := dAX10_isWord (33, (.aload_n 0, 1)) (List.mem_of_getElem? (i := 19) rfl)
theorem dX10_isWord_34 : decode cX10_isWord 34 = .ok (.getfield 75, 3) := dAX10_isWord (34, (.getfield 75, 3)) (List.mem_of_getElem? (i := 20) rfl)
theorem dX10_isWord_37 : decode cX10_isWord 37 = .ok (.if_icmp .ge 33, 3) := dAX10_isWord (37, (.if_icmp .ge 33, 3)) (List.mem_of_getElem? (i := 21) rfl)
theorem dX10_isWord_40 : decode cX10_isWord 40 = .ok (.iload_n 2, 1) := dAX10_isWord (40, (.iload_n 2, 1)) (List.mem_of_getElem? (i := 22) rfl)
theorem dX10_isWord_41 : decode cX10_isWord 41 = .ok (.ifCond .eq 21, 3) := dAX10_isWord (41, (.ifCond .eq 21, 3)) (List.mem_of_getElem? (i := 23) rfl)
theorem dX10_isWord_44 : decode cX10_isWord 44 = .ok (.aload_n 0, 1) := dAX10_isWord (44, (.aload_n 0, 1)) (List.mem_of_getElem? (i := 24) rfl)
theorem dX10_isWord_45 : decode cX10_isWord 45 = .ok (.getfield 17, 3) := dAX10_isWord (45, (.getfield 17, 3)) (List.mem_of_getElem? (i := 25) rfl)
theorem dX10_isWord_48 : decode cX10_isWord 48 = .ok (.iload_n 3, 1) := dAX10_isWord (48, (.iload_n 3, 1)) (List.mem_of_getElem? (i := 26) rfl)
theorem dX10_isWord_49 : decode cX10_isWord 49 = .ok (.iaload, 1) := dAX10_isWord (49, (.iaload, 1)) (List.mem_of_getElem? (i := 27) rfl)
theorem dX10_isWord_50 : decode cX10_isWord 50 = .ok (.aload_n 1, 1) := dAX10_isWord (50, (.aload_n 1, 1)) (List.mem_of_getElem? (i := 28) rfl)
theorem dX10_isWord_51 : decode cX10_isWord 51 = .ok (.iload_n 3, 1) := dAX10_isWord (51, (.iload_n 3, 1)) (List.mem_of_getElem? (i := 29) rfl)
theorem dX10_isWord_52 : decode cX10_isWord 52 = .ok (.invokevirtual 104, 3) := dAX10_isWord (52, (.invokevirtual 104, 3)) (List.mem_of_getElem? (i := 30) rfl)
theorem dX10_isWord_55 : decode cX10_isWord 55 = .ok (.if_icmp .ne 7, 3) := dAX10_isWord (55, (.if_icmp .ne 7, 3)) (List.mem_of_getElem? (i := 31) rfl)
theorem dX10_isWord_58 : decode cX10_isWord 58 = .ok (.iconst 1, 1) := dAX10_isWord (58, (.iconst 1, 1)) (List.mem_of_getElem? (i := 32) rfl)
theorem dX10_isWord_59 : decode cX10_isWord 59 = .ok (.goto 4, 3) := dAX10_isWord (59, (.goto 4, 3)) (List.mem_of_getElem? (i := 33) rfl)
theorem dX10_isWord_62 : decode cX10_isWord 62 = .ok (.iconst 0, 1) := dAX10_isWord (62, (.iconst 0, 1)) (List.mem_of_getElem? (i := 34) rfl)
theorem dX10_isWord_63 : decode cX10_isWord 63 = .ok (.istore_n 2, 1) := dAX10_isWord (63, (.istore_n 2, 1)) (List.mem_of_getElem? (i := 35) rfl)
theorem dX10_isWord_64 : decode cX10_isWord 64 = .ok (.iinc 3 1, 3) := dAX10_isWord (64, (.iinc 3 1, 3)) (List.mem_of_getElem? (i := 36) rfl)
theorem dX10_isWord_67 : decode cX10_isWord 67 = .ok (.goto (-35), 3) := dAX10_isWord (67, (.goto (-35), 3)) (List.mem_of_getElem? (i := 37) rfl)
theorem dX10_isWord_70 : decode cX10_isWord 70 = .ok (.iload_n 2, 1) := dAX10_isWord (70, (.iload_n 2, 1)) (List.mem_of_getElem? (i := 38) rfl)
theorem dX10_isWord_71 : decode cX10_isWord 71 = .ok (.ireturn, 1) := dAX10_isWord (71, (.ireturn, 1)) (List.mem_of_getElem? (i := 39) rfl)
set_option maxRecDepth 20000 in
theorem ggX10_isWord_J0_length_8abf5 : GoodIn wsX10_isWord wsJ0_length_8abf5 := goodIn_r _ [9, 10, 11, 12, 13, 8, 14, 15, 16] rfl (by decide +kernel)
set_option maxRecDepth 20000 in
theorem gX10_isWord_J0_length_8abf5 : GoodIn wsX10_isWord (wsV RX10 98 RJ0 yJ0_length_8abf5 wsJ0_length_8abf5) := goodIn_app (goodIn_of _ (by decide +kernel)) ggX10_isWord_J0_length_8abf5
set_option maxRecDepth 20000 in
theorem ggX10_isWord_J0_charAt_5068e : GoodIn wsX10_isWord wsJ0_charAt_5068e := goodIn_r _ [20, 10, 21, 22, 23, 8, 24, 15, 16, 25, 26, 27, 28, 29, 30, 31, 32, 33, 34, 35, 36, 37, 38, 39, 40, 41, 42, 43, 44, 45, 46, 47, 48, 49, 50, 51, 52, 53] rfl (by decide +kernel)
set_option maxRecDepth 20000 in
theorem gX10_isWord_J0_charAt_5068e : GoodIn wsX10_isWord (wsV RX10 104 RJ0 yJ0_charAt_5068e wsJ0_charAt_5068e) := goodIn_app (goodIn_of _ (by decide +kernel)) ggX10_isWord_J0_charAt_5068e
theorem kX10_isWord_91 : Cond.fieldLink RX10 91 "EveningVowModel" "failed" "Z" ∈ wsX10_isWord := List.mem_of_getElem? (i := 1) rfl
theorem iX10_isWord_X10 : ∀ w ∈ u_ws RX10 TX10 35, w ∈ wsX10_isWord := fun w h => (List.mem_cons_of_mem _ (List.mem_append_right _ h))
theorem kX10_isWord_81 : Cond.fieldLink RX10 81 "EveningVowModel" "token" "I" ∈ wsX10_isWord := List.mem_of_getElem? (i := 2) rfl
theorem kX10_isWord_75 : Cond.fieldLink RX10 75 "EveningVowModel" "nameSize" "I" ∈ wsX10_isWord := List.mem_of_getElem? (i := 3) rfl
theorem kX10_isWord_17 : Cond.fieldLink RX10 17 "EveningVowModel" "letters" "[I" ∈ wsX10_isWord := List.mem_of_getElem? (i := 4) rfl
set_option maxHeartbeats 4000000 in
set_option maxRecDepth 100000 in
theorem wX10_isWord_L32 {p : Program} {l : Launch} {e : Env} {s : State} {m : MethodId} {args : Array Value} {below : List Frame} {meth : Method} {c : Code} {g : GG} {A : Nat → Prop} (C0 : Cx p s m args meth c cX10_isWord 4 (some .boolean) RX10 wsX10_isWord g A) (a_t : Nat) (p_t : Nat → Nat) (n : Nat) (i1 : Nat) (o_t : Nat → Int32) (f_t_12 : Nat → Int32)  (r : Int32) (K : Int32 → Option (Int32)) (hi1 : i1 < 22) (hKx : ∀ (x2 : Int32) (H : Heap) (locs : List Loc) (ls : Array Slot), K x2 = some (r) → va_P g.1 vwCl [oX10 a_t p_t o_t, aI g (p_t 12) 8 f_t_12] H → va_D A [oX10 a_t p_t o_t, aI g (p_t 12) 8 f_t_12] → va_S A s.heap H locs → lv_has ls 4 [(2, .int x2)] → W p l e ({ frames := 4, cells := 0, slots := 0, locals := 90 } : Room) s m args below meth c H locs 0 0 (MQ below (EndI g r [oX10 a_t p_t o_t, aI g (p_t 12) 8 f_t_12] A) args s 0 0 A) (F0 m 70 ls [])) : ∀ (k : Nat) (x2 : Int32) (x3 : Int32), fX10_isWord_L32 n i1 o_t f_t_12 K k x2 x3 = some (r) → ∀ (H : Heap) (locs : List Loc) (ls : Array Slot), va_P g.1 vwCl [oX10 a_t p_t o_t, aI g (p_t 12) 8 f_t_12] H → va_D A [oX10 a_t p_t o_t, aI g (p_t 12) 8 f_t_12] → va_S A s.heap H locs → lv_has ls 4 [(0, .ref a_t), (1, .ref (gK g i1)), (2, .int x2), (3, .int x3)] → W p l e ({ frames := 4, cells := 0, slots := 0, locals := 90 } : Room) s m args below meth c H locs 0 0 (MQ below (EndI g r [oX10 a_t p_t o_t, aI g (p_t 12) 8 f_t_12] A) args s 0 0 A) (F0 m 32 ls []) := by
  obtain ⟨hx, hb, hml, hown, hts, hr, hlk, hK, hA, hSW⟩ := id C0
  intro k
  induction k with
  | zero =>
    intro x2 x3 hF
    exact absurd hF (by simp [fX10_isWord_L32])
  | succ k ih =>
    intro x2 x3 hF H locs ls hP hD hS hl
    rw [fX10_isWord_L32] at hF
    refine lv_iload_n hx hb dX10_isWord_32 rfl (lv_at hl 3 rfl) ?_
    refine lv_aload_n hx hb dX10_isWord_33 rfl (lv_at hl 0 rfl) ?_
    refine va_get (D := g.1) (ci := 10) (v := .int (o_t 8)) (C := RX10) (T := TX10) (N := 35) hx hb hts iX10_isWord_X10 hown hK.1 hP 0 rfl rfl 8 (by decide) (hts _ kX10_isWord_75) (fun _ h9 => h9) rfl dX10_isWord_34 ?_
    refine lv_icmp_ge (tgt := 70) hx hb dX10_isWord_37 (by decide) (fun c_4 => ?_) (fun c_4 => ?_)
    · have hF := it_p c_4 hF
      exact hKx x2 _ _ _ hF (hP.sub [0, 1] rfl) (hD.sub [0, 1] rfl rfl) hS (lv_sub hl [2] rfl)
    · have hF := it_n c_4 hF
      refine lv_iload_n hx hb dX10_isWord_40 rfl (lv_at hl 2 rfl) ?_
      refine lv_if_eq (tgt := 62) hx hb dX10_isWord_41 (by decide) (fun c_5 => ?_) (fun c_5 => ?_)
      · have hF := it_p c_5 hF
        refine lv_iconst (v := (0 : Int32)) hx hb dX10_isWord_62 (by decide) ?_
        refine lv_istore_n (lv' := [(2, .int (0 : Int32)), (0, .ref a_t), (1, .ref (gK g i1)), (3, .int x3)]) hx hb dX10_isWord_63 rfl hl (by decide) rfl (fun ls hl => ?_)
        refine lv_iinc (v := (x3 + (1 : Int32))) (lv' := [(3, .int (x3 + (1 : Int32))), (2, .int (0 : Int32)), (0, .ref a_t), (1, .ref (gK g i1))]) hx hb dX10_isWord_64 hl (k := 3) rfl rfl (by decide) rfl (fun ls hl => ?_)
        refine lv_goto (tgt := 32) hx hb dX10_isWord_67 (by decide) ?_
        exact ih (0 : Int32) (x3 + (1 : Int32)) hF _ _ _ (hP.sub [0, 1] rfl) (hD.sub [0, 1] rfl rfl) hS (lv_sub hl [2, 3, 1, 0] rfl)
      · have hF := it_n c_5 hF
        refine lv_aload_n hx hb dX10_isWord_44 rfl (lv_at hl 0 rfl) ?_
        refine va_get (D := g.1) (ci := 10) (v := .ref (p_t 12)) (C := RX10) (T := TX10) (N := 35) hx hb hts iX10_isWord_X10 hown hK.1 hP 0 rfl rfl 12 (by decide) (hts _ kX10_isWord_17) (fun _ h9 => h9) rfl dX10_isWord_45 ?_
        refine lv_iload_n hx hb dX10_isWord_48 rfl (lv_at hl 3 rfl) ?_
        obtain ⟨h_6, hF⟩ := it_ck hF
        refine va_iald hx hb hK.1 hP 1 0 rfl rfl h_6 dX10_isWord_49 ?_
        refine lv_aload_n hx hb dX10_isWord_50 rfl (lv_at hl 1 rfl) ?_
        refine lv_iload_n hx hb dX10_isWord_51 rfl (lv_at hl 3 rfl) ?_
        obtain ⟨h_7, hF⟩ := it_ck hF
        refine call_str (As := [.int x3]) (rest := [.int (f_t_12 (x3).toNatClampNeg)]) hi1 C0 (mJ0_charAt_5068e l g i1 hi1 x3 h_7) (cwV 1 hts gX10_isWord_J0_charAt_5068e rfl rfl rfl (by decide +kernel) ⟨Nat.le_of_ble_eq_true rfl, Nat.le_of_ble_eq_true rfl⟩) hP hD hS hl.1 rfl rfl (Nat.le_of_ble_eq_true rfl) ⟨Nat.zero_le _, Nat.zero_le _⟩ dX10_isWord_52 ?_
        intro H locs hP hD hS
        refine lv_icmp_ne (tgt := 62) hx hb dX10_isWord_55 (by decide) (fun c_8 => ?_) (fun c_8 => ?_)
        · have hF := it_n c_8 hF
          refine lv_iconst (v := (0 : Int32)) hx hb dX10_isWord_62 (by decide) ?_
          refine lv_istore_n (lv' := [(2, .int (0 : Int32)), (0, .ref a_t), (1, .ref (gK g i1)), (3, .int x3)]) hx hb dX10_isWord_63 rfl hl (by decide) rfl (fun ls hl => ?_)
          refine lv_iinc (v := (x3 + (1 : Int32))) (lv' := [(3, .int (x3 + (1 : Int32))), (2, .int (0 : Int32)), (0, .ref a_t), (1, .ref (gK g i1))]) hx hb dX10_isWord_64 hl (k := 3) rfl rfl (by decide) rfl (fun ls hl => ?_)
          refine lv_goto (tgt := 32) hx hb dX10_isWord_67 (by decide) ?_
          exact ih (0 : Int32) (x3 + (1 : Int32)) hF _ _ _ (hP.sub [0, 1] rfl) (hD.sub [0, 1] rfl rfl) hS (lv_sub hl [2, 3, 1, 0] rfl)
        · have hF := it_p c_8 hF
          refine lv_iconst (v := (1 : Int32)) hx hb dX10_isWord_58 (by decide) ?_
          refine lv_goto (tgt := 63) hx hb dX10_isWord_59 (by decide) ?_
          refine lv_istore_n (lv' := [(2, .int (1 : Int32)), (0, .ref a_t), (1, .ref (gK g i1)), (3, .int x3)]) hx hb dX10_isWord_63 rfl hl (by decide) rfl (fun ls hl => ?_)
          refine lv_iinc (v := (x3 + (1 : Int32))) (lv' := [(3, .int (x3 + (1 : Int32))), (2, .int (1 : Int32)), (0, .ref a_t), (1, .ref (gK g i1))]) hx hb dX10_isWord_64 hl (k := 3) rfl rfl (by decide) rfl (fun ls hl => ?_)
          refine lv_goto (tgt := 32) hx hb dX10_isWord_67 (by decide) ?_
          exact ih (1 : Int32) (x3 + (1 : Int32)) hF _ _ _ (hP.sub [0, 1] rfl) (hD.sub [0, 1] rfl rfl) hS (lv_sub hl [2, 3, 1, 0] rfl)
set_option maxHeartbeats 4000000 in
set_option maxRecDepth 100000 in
theorem mX10_isWord (l : Launch) (g : GG) (a_t : Nat) (p_t : Nat → Nat) (n : Nat) (i1 : Nat) (o_t : Nat → Int32) (f_t_12 : Nat → Int32) (r : Int32) (hi1 : i1 < 22) (hF : fX10_isWord n i1 o_t f_t_12 = some (r)) : MI l g yX10_isWord wsX10_isWord ({ frames := 4, cells := 0, slots := 0, locals := 90 } : Room) [.ref a_t, .ref (gK g i1)] [oX10 a_t p_t o_t, aI g (p_t 12) 8 f_t_12] r [oX10 a_t p_t o_t, aI g (p_t 12) 8 f_t_12] := by
  refine MI.of (cc := cX10_isWord) (maxL := 4) (rt := .boolean) (own := RX10) rfl rfl (by decide) (Nat.le_of_ble_eq_true rfl) ?_
  intro p e s m args below meth c A C0 hP hD hS ls hl
  obtain ⟨hx, hb, hml, hown, hts, hr, hlk, hK, hA, hSW⟩ := id C0
  have hl : lv_has ls 4 [(0, .ref a_t), (1, .ref (gK g i1))] := hl
  rw [fX10_isWord] at hF
  refine lv_aload_n hx hb dX10_isWord_0 rfl (lv_at hl 0 rfl) ?_
  refine va_get (D := g.1) (ci := 10) (v := .int (o_t 13)) (C := RX10) (T := TX10) (N := 35) hx hb hts iX10_isWord_X10 hown hK.1 hP 0 rfl rfl 13 (by decide) (hts _ kX10_isWord_91) (fun _ h9 => h9) rfl dX10_isWord_1 ?_
  refine lv_if_ne (tgt := 26) hx hb dX10_isWord_4 (by decide) (fun c_1 => ?_) (fun c_1 => ?_)
  · have hF := it_n c_1 hF
    refine lv_iconst (v := (0 : Int32)) hx hb dX10_isWord_26 (by decide) ?_
    cases hF
    exact ret_z C0 hP hD hS [0, 1] rfl rfl rfl dX10_isWord_27 rfl rfl
  · have hF := it_p c_1 hF
    refine lv_aload_n hx hb dX10_isWord_7 rfl (lv_at hl 0 rfl) ?_
    refine va_get (D := g.1) (ci := 10) (v := .int (o_t 6)) (C := RX10) (T := TX10) (N := 35) hx hb hts iX10_isWord_X10 hown hK.1 hP 0 rfl rfl 6 (by decide) (hts _ kX10_isWord_81) (fun _ h9 => h9) rfl dX10_isWord_8 ?_
    refine lv_iconst (v := (2 : Int32)) hx hb dX10_isWord_11 (by decide) ?_
    refine lv_icmp_ne (tgt := 26) hx hb dX10_isWord_12 (by decide) (fun c_2 => ?_) (fun c_2 => ?_)
    · have hF := it_n c_2 hF
      refine lv_iconst (v := (0 : Int32)) hx hb dX10_isWord_26 (by decide) ?_
      cases hF
      exact ret_z C0 hP hD hS [0, 1] rfl rfl rfl dX10_isWord_27 rfl rfl
    · have hF := it_p c_2 hF
      refine lv_aload_n hx hb dX10_isWord_15 rfl (lv_at hl 0 rfl) ?_
      refine va_get (D := g.1) (ci := 10) (v := .int (o_t 8)) (C := RX10) (T := TX10) (N := 35) hx hb hts iX10_isWord_X10 hown hK.1 hP 0 rfl rfl 8 (by decide) (hts _ kX10_isWord_75) (fun _ h9 => h9) rfl dX10_isWord_16 ?_
      refine lv_aload_n hx hb dX10_isWord_19 rfl (lv_at hl 1 rfl) ?_
      refine call_str (As := []) (rest := [.int (o_t 8)]) hi1 C0 (mJ0_length_8abf5 l g i1 hi1) (cwV 0 hts gX10_isWord_J0_length_8abf5 rfl rfl rfl (by decide +kernel) ⟨Nat.le_of_ble_eq_true rfl, Nat.le_of_ble_eq_true rfl⟩) hP hD hS hl.1 rfl rfl (Nat.le_of_ble_eq_true rfl) ⟨Nat.zero_le _, Nat.zero_le _⟩ dX10_isWord_20 ?_
      intro H locs hP hD hS
      refine lv_icmp_eq (tgt := 28) hx hb dX10_isWord_23 (by decide) (fun c_3 => ?_) (fun c_3 => ?_)
      · have hF := it_p c_3 hF
        refine lv_iconst (v := (1 : Int32)) hx hb dX10_isWord_28 (by decide) ?_
        refine lv_istore_n (lv' := [(2, .int (1 : Int32)), (0, .ref a_t), (1, .ref (gK g i1))]) hx hb dX10_isWord_29 rfl hl (by decide) rfl (fun ls hl => ?_)
        refine lv_iconst (v := (0 : Int32)) hx hb dX10_isWord_30 (by decide) ?_
        refine lv_istore_n (lv' := [(3, .int (0 : Int32)), (2, .int (1 : Int32)), (0, .ref a_t), (1, .ref (gK g i1))]) hx hb dX10_isWord_31 rfl hl (by decide) rfl (fun ls hl => ?_)
        refine wX10_isWord_L32 C0 a_t p_t n i1 o_t f_t_12 r _ hi1 ?_ n (1 : Int32) (0 : Int32) hF _ _ _ (hP.sub [0, 1] rfl) (hD.sub [0, 1] rfl rfl) hS (lv_sub hl [2, 3, 1, 0] rfl)
        · intro x2_x32 H locs ls hF hP hD hS hl
          refine lv_iload_n hx hb dX10_isWord_70 rfl (lv_at hl 0 rfl) ?_
          obtain ⟨h_9, hF⟩ := it_ck hF
          cases hF
          exact ret_z C0 hP hD hS [0, 1] rfl rfl rfl dX10_isWord_71 (nar01 h_9) rfl
      · have hF := it_n c_3 hF
        refine lv_iconst (v := (0 : Int32)) hx hb dX10_isWord_26 (by decide) ?_
        cases hF
        exact ret_z C0 hP hD hS [0, 1] rfl rfl rfl dX10_isWord_27 rfl rfl

theorem dAX10_takesWord : ∀ q ∈ ([(0, (.aload_n 0, 1)), (1, (.aload_n 1, 1)), (2, (.invokevirtual 108, 3)), (5, (.ifCond .ne 5, 3)), (8, (.iconst 0, 1)), (9, (.ireturn, 1)), (10, (.aload_n 0, 1)), (11, (.invokevirtual 112, 3)), (14, (.iconst 1, 1)), (15, (.ireturn, 1))] : List (Nat × (Instr × Nat))), decode cX10_takesWord q.1 = .ok q.2 := by decide +kernel
theorem dX10_takesWord_0 : decode cX10_takesWord 0 = .ok (.aload_n 0, 1) := dAX10_takesWord (0, (.aload_n 0, 1)) (List.mem_of_getElem? (i := 0) rfl)
theorem dX10_takesWord_1 : decode cX10_takesWord 1 = .ok (.aload_n 1, 1) := dAX10_takesWord (1, (.aload_n 1, 1)) (List.mem_of_getElem? (i := 1) rfl)
theorem dX10_takesWord_2 : decode cX10_takesWord 2 = .ok (.invokevirtual 108, 3) := dAX10_takesWord (2, (.invokevirtual 108, 3)) (List.mem_of_getElem? (i := 2) rfl)
theorem dX10_takesWord_5 : decode cX10_takesWord 5 = .ok (.ifCond .ne 5, 3) := dAX10_takesWord (5, (.ifCond .ne 5, 3)) (List.mem_of_getElem? (i := 3) rfl)
theorem dX10_takesWord_8 : decode cX10_takesWord 8 = .ok (.iconst 0, 1) := dAX10_takesWord (8, (.iconst 0, 1)) (List.mem_of_getElem? (i := 4) rfl)
theorem dX10_takesWord_9 : decode cX10_takesWord 9 = .ok (.ireturn, 1) := dAX10_takesWord (9, (.ireturn, 1)) (List.mem_of_getElem? (i := 5) rfl)
theorem dX10_takesWord_10 : decode cX10_takesWord 10 = .ok (.aload_n 0, 1) := dAX10_takesWord (10, (.aload_n 0, 1)) (List.mem_of_getElem? (i := 6) rfl)
theorem dX10_takesWord_11 : decode cX10_takesWord 11 = .ok (.invokevirtual 112, 3) := dAX10_takesWord (11, (.invokevirtual 112, 3)) (List.mem_of_getElem? (i := 7) rfl)
theorem dX10_takesWord_14 : decode cX10_takesWord 14 = .ok (.iconst 1, 1) := dAX10_takesWord (14, (.iconst 1, 1)) (List.mem_of_getElem? (i := 8) rfl)
theorem dX10_takesWord_15 : decode cX10_takesWord 15 = .ok (.ireturn, 1) := dAX10_takesWord (15, (.ireturn, 1)) (List.mem_of_getElem? (i := 9) rfl)
set_option maxRecDepth 20000 in
theorem ggX10_takesWord_X10_isWord : GoodIn wsX10_takesWord wsX10_isWord := goodIn_r _ [5, 6, 7, 8, 9, 10, 11, 12, 13, 14, 15, 16, 17, 18, 19, 20, 21, 22, 23, 24, 25, 26, 27, 28, 29, 30, 31, 32, 33, 34, 35, 36, 37, 38, 39, 40, 41, 42, 43, 44, 45, 46, 47, 48, 49, 50, 51, 52, 53, 54, 55, 56, 57, 58, 78, 79, 80, 81, 82, 83, 84, 85, 86, 87, 88, 89, 90, 91, 92, 93, 94, 95, 96, 97, 98, 99, 100, 101, 102, 103, 104, 105, 106, 107, 108, 109, 110, 111, 112] rfl (by decide +kernel)
set_option maxRecDepth 20000 in
theorem gX10_takesWord_X10_isWord : GoodIn wsX10_takesWord (wsV RX10 108 RX10 yX10_isWord wsX10_isWord) := goodIn_app (goodIn_of _ (by decide +kernel)) ggX10_takesWord_X10_isWord
set_option maxRecDepth 20000 in
theorem ggX10_takesWord_X10_next : GoodIn wsX10_takesWord wsX10_next := goodIn_r _ [62, 63, 64, 8, 65, 7, 9, 66, 67, 68, 4, 69, 70, 71, 72, 73, 74, 75, 76, 77, 78, 79, 80, 81, 82, 83, 84, 85, 86, 87, 88, 89, 90, 91, 92, 93, 94, 95, 96, 97, 98, 99, 100, 101, 102, 103, 104, 105, 106, 107, 108, 109, 110, 111, 112] rfl (by decide +kernel)
set_option maxRecDepth 20000 in
theorem gX10_takesWord_X10_next : GoodIn wsX10_takesWord (wsV RX10 112 RX10 yX10_next wsX10_next) := goodIn_app (goodIn_of _ (by decide +kernel)) ggX10_takesWord_X10_next
set_option maxHeartbeats 4000000 in
set_option maxRecDepth 100000 in
theorem mX10_takesWord (l : Launch) (g : GG) (a_t : Nat) (p_t : Nat → Nat) (n : Nat) (i1 : Nat) (o_t : Nat → Int32) (f_t_1 : Nat → Int32) (f_t_12 : Nat → Int32) (r : Int32) (o_t' : Nat → Int32) (f_t_12' : Nat → Int32) (hi1 : i1 < 22) (hF : fX10_takesWord n i1 o_t f_t_1 f_t_12 = some (r, o_t', f_t_12')) : MI l g yX10_takesWord wsX10_takesWord ({ frames := 5, cells := 0, slots := 0, locals := 113 } : Room) [.ref a_t, .ref (gK g i1)] [oX10 a_t p_t o_t, aI g (p_t 1) 800 f_t_1, aI g (p_t 12) 8 f_t_12] r [oX10 a_t p_t o_t', aI g (p_t 1) 800 f_t_1, aI g (p_t 12) 8 f_t_12'] := by
  refine MI.of (cc := cX10_takesWord) (maxL := 2) (rt := .boolean) (own := RX10) rfl rfl (by decide) (Nat.le_of_ble_eq_true rfl) ?_
  intro p e s m args below meth c A C0 hP hD hS ls hl
  obtain ⟨hx, hb, hml, hown, hts, hr, hlk, hK, hA, hSW⟩ := id C0
  have hl : lv_has ls 2 [(0, .ref a_t), (1, .ref (gK g i1))] := hl
  rw [fX10_takesWord] at hF
  refine lv_aload_n hx hb dX10_takesWord_0 rfl (lv_at hl 0 rfl) ?_
  refine lv_aload_n hx hb dX10_takesWord_1 rfl (lv_at hl 1 rfl) ?_
  obtain ⟨u_1, hu_2, hF⟩ := ob1_some hF
  refine call_i (wr := [aI g (p_t 1) 800 f_t_1]) (As := [.ref (gK g i1)]) (rest := []) (ci := 10) (q0 := 0) C0 (mX10_isWord l g a_t p_t n i1 o_t f_t_12 u_1 hi1 hu_2) (cwV 1 hts gX10_takesWord_X10_isWord rfl rfl rfl (by decide +kernel) ⟨Nat.le_of_ble_eq_true rfl, Nat.le_of_ble_eq_true rfl⟩) hP hD hS [0, 2] [1] rfl rfl rfl rfl rfl (by decide) rfl rfl hl.1 rfl rfl (Nat.le_of_ble_eq_true rfl) ⟨Nat.zero_le _, Nat.zero_le _⟩ dX10_takesWord_2 ?_
  intro H locs hP hD hS
  refine lv_if_ne (tgt := 10) hx hb dX10_takesWord_5 (by decide) (fun c_3 => ?_) (fun c_3 => ?_)
  · have hF := it_n c_3 hF
    refine lv_aload_n hx hb dX10_takesWord_10 rfl (lv_at hl 0 rfl) ?_
    obtain ⟨u_4, u_5, hu_6, hF⟩ := ob2_some hF
    refine call_v (wr := []) (As := []) (rest := []) (ci := 10) (q0 := 0) C0 (mX10_next l g a_t p_t n o_t f_t_1 f_t_12 u_4 u_5 hu_6) (cwV 0 hts gX10_takesWord_X10_next rfl rfl rfl (by decide +kernel) ⟨Nat.le_of_ble_eq_true rfl, Nat.le_of_ble_eq_true rfl⟩) hP hD hS [1, 0, 2] [] rfl rfl rfl rfl rfl (by decide) rfl rfl hl.1 rfl rfl (Nat.le_of_ble_eq_true rfl) ⟨Nat.zero_le _, Nat.zero_le _⟩ dX10_takesWord_11 ?_
    intro H locs hP hD hS
    refine lv_iconst (v := (1 : Int32)) hx hb dX10_takesWord_14 (by decide) ?_
    cases hF
    exact ret_z C0 hP hD hS [0, 1, 2] rfl rfl rfl dX10_takesWord_15 rfl rfl
  · have hF := it_p c_3 hF
    refine lv_iconst (v := (0 : Int32)) hx hb dX10_takesWord_8 (by decide) ?_
    cases hF
    exact ret_z C0 hP hD hS [1, 0, 2] rfl rfl rfl dX10_takesWord_9 rfl rfl

theorem dAX10_must : ∀ q ∈ ([(0, (.aload_n 0, 1)), (1, (.getfield 91, 3)), (4, (.ifCond .ne 20, 3)), (7, (.aload_n 0, 1)), (8, (.aload_n 1, 1)), (9, (.invokevirtual 115, 3)), (12, (.ifCond .ne 12, 3)), (15, (.aload_n 0, 1)), (16, (.iconst 1, 1)), (17, (.aload_n 0, 1)), (18, (.getfield 72, 3)), (21, (.invokevirtual 118, 3)), (24, (.return_, 1))] : List (Nat × (Instr × Nat))), decode cX10_must q.1 = .ok q.2 := by decide +kernel
theorem dX10_must_0 : decode cX10_must 0 = .ok (.aload_n 0, 1) := dAX10_must (0, (.aload_n 0, 1)) (List.mem_of_getElem? (i := 0) rfl)
theorem dX10_must_1 : decode cX10_must 1 = .ok (.getfield 91, 3) := dAX10_must (1, (.getfield 91, 3)) (List.mem_of_getElem? (i := 1) rfl)
theorem dX10_must_4 : decode cX10_must 4 = .ok (.ifCond .ne 20, 3) := dAX10_must (4, (.ifCond .ne 20, 3)) (List.mem_of_getElem? (i := 2) rfl)
theorem dX10_must_7 : decode cX10_must 7 = .ok (.aload_n 0, 1) := dAX10_must (7, (.aload_n 0, 1)) (List.mem_of_getElem? (i := 3) rfl)
theorem dX10_must_8 : decode cX10_must 8 = .ok (.aload_n 1, 1) := dAX10_must (8, (.aload_n 1, 1)) (List.mem_of_getElem? (i := 4) rfl)
theorem dX10_must_9 : decode cX10_must 9 = .ok (.invokevirtual 115, 3) := dAX10_must (9, (.invokevirtual 115, 3)) (List.mem_of_getElem? (i := 5) rfl)
theorem dX10_must_12 : decode cX10_must 12 = .ok (.ifCond .ne 12, 3) := dAX10_must (12, (.ifCond .ne 12, 3)) (List.mem_of_getElem? (i := 6) rfl)
theorem dX10_must_15 : decode cX10_must 15 = .ok (.aload_n 0, 1) := dAX10_must (15, (.aload_n 0, 1)) (List.mem_of_getElem? (i := 7) rfl)
theorem dX10_must_16 : decode cX10_must 16 = .ok (.iconst 1, 1) := dAX10_must (16, (.iconst 1, 1)) (List.mem_of_getElem? (i := 8) rfl)
theorem dX10_must_17 : decode cX10_must 17 = .ok (.aload_n 0, 1) := dAX10_must (17, (.aload_n 0, 1)) (List.mem_of_getElem? (i := 9) rfl)
theorem dX10_must_18 : decode cX10_must 18 = .ok (.getfield 72, 3) := dAX10_must (18, (.getfield 72, 3)) (List.mem_of_getElem? (i := 10) rfl)
theorem dX10_must_21 : decode cX10_must 21 = .ok (.invokevirtual 118, 3) := dAX10_must (21, (.invokevirtual 118, 3)) (List.mem_of_getElem? (i := 11) rfl)
theorem dX10_must_24 : decode cX10_must 24 = .ok (.return_, 1) := dAX10_must (24, (.return_, 1)) (List.mem_of_getElem? (i := 12) rfl)
set_option maxRecDepth 20000 in
theorem ggX10_must_X10_takesWord : GoodIn wsX10_must wsX10_takesWord := goodIn_r _ [7, 8, 9, 10, 6, 11, 1, 12, 13, 14, 15, 16, 17, 18, 19, 20, 21, 22, 23, 24, 25, 26, 27, 28, 29, 30, 31, 32, 33, 34, 35, 36, 37, 38, 39, 40, 41, 42, 43, 44, 45, 46, 47, 48, 49, 50, 51, 52, 53, 54, 55, 56, 57, 58, 59, 60, 61, 62, 63, 64, 65, 66, 67, 68, 2, 69, 70, 71, 72, 73, 74, 75, 76, 77, 78, 79, 80, 81, 88, 89, 90, 91, 92, 93, 94, 95, 96, 97, 98, 99, 100, 101, 102, 103, 104, 105, 106, 107, 108, 109, 110, 111, 112, 113, 114, 115, 116, 117, 118, 119, 120, 121, 122] rfl (by decide +kernel)
set_option maxRecDepth 20000 in
theorem gX10_must_X10_takesWord : GoodIn wsX10_must (wsV RX10 115 RX10 yX10_takesWord wsX10_takesWord) := goodIn_app (goodIn_of _ (by decide +kernel)) ggX10_must_X10_takesWord
set_option maxRecDepth 20000 in
theorem ggX10_must_X10_wrong : GoodIn wsX10_must wsX10_wrong := goodIn_r _ [85, 1, 86, 87, 88, 89, 90, 91, 92, 93, 94, 95, 96, 97, 98, 99, 100, 101, 102, 103, 104, 105, 106, 107, 108, 109, 110, 111, 112, 113, 114, 115, 116, 117, 118, 119, 120, 121, 122] rfl (by decide +kernel)
set_option maxRecDepth 20000 in
theorem gX10_must_X10_wrong : GoodIn wsX10_must (wsV RX10 118 RX10 yX10_wrong wsX10_wrong) := goodIn_app (goodIn_of _ (by decide +kernel)) ggX10_must_X10_wrong
theorem kX10_must_91 : Cond.fieldLink RX10 91 "EveningVowModel" "failed" "Z" ∈ wsX10_must := List.mem_of_getElem? (i := 1) rfl
theorem iX10_must_X10 : ∀ w ∈ u_ws RX10 TX10 35, w ∈ wsX10_must := fun w h => (List.mem_cons_of_mem _ (List.mem_append_right _ h))
theorem kX10_must_72 : Cond.fieldLink RX10 72 "EveningVowModel" "at" "I" ∈ wsX10_must := List.mem_of_getElem? (i := 2) rfl
set_option maxHeartbeats 4000000 in
set_option maxRecDepth 100000 in
theorem mX10_must (l : Launch) (g : GG) (a_t : Nat) (p_t : Nat → Nat) (n : Nat) (i1 : Nat) (o_t : Nat → Int32) (f_t_1 : Nat → Int32) (f_t_12 : Nat → Int32) (o_t' : Nat → Int32) (f_t_12' : Nat → Int32) (hi1 : i1 < 22) (hF : fX10_must n i1 o_t f_t_1 f_t_12 = some (o_t', f_t_12')) : MV l g yX10_must wsX10_must ({ frames := 6, cells := 0, slots := 0, locals := 134 } : Room) [.ref a_t, .ref (gK g i1)] [oX10 a_t p_t o_t, aI g (p_t 1) 800 f_t_1, aI g (p_t 12) 8 f_t_12] [oX10 a_t p_t o_t', aI g (p_t 1) 800 f_t_1, aI g (p_t 12) 8 f_t_12'] := by
  refine MV.of (cc := cX10_must) (maxL := 2) (own := RX10) rfl rfl (by decide) (Nat.le_of_ble_eq_true rfl) ?_
  intro p e s m args below meth c A C0 hP hD hS ls hl
  obtain ⟨hx, hb, hml, hown, hts, hr, hlk, hK, hA, hSW⟩ := id C0
  have hl : lv_has ls 2 [(0, .ref a_t), (1, .ref (gK g i1))] := hl
  rw [fX10_must] at hF
  refine lv_aload_n hx hb dX10_must_0 rfl (lv_at hl 0 rfl) ?_
  refine va_get (D := g.1) (ci := 10) (v := .int (o_t 13)) (C := RX10) (T := TX10) (N := 35) hx hb hts iX10_must_X10 hown hK.1 hP 0 rfl rfl 13 (by decide) (hts _ kX10_must_91) (fun _ h9 => h9) rfl dX10_must_1 ?_
  refine lv_if_ne (tgt := 24) hx hb dX10_must_4 (by decide) (fun c_1 => ?_) (fun c_1 => ?_)
  · have hF := it_n c_1 hF
    cases hF
    exact ret_v C0 hP hD hS [0, 1, 2] rfl rfl rfl dX10_must_24
  · have hF := it_p c_1 hF
    refine lv_aload_n hx hb dX10_must_7 rfl (lv_at hl 0 rfl) ?_
    refine lv_aload_n hx hb dX10_must_8 rfl (lv_at hl 1 rfl) ?_
    obtain ⟨u_2, u_3, u_4, hu_5, hF⟩ := ob3_some hF
    refine call_i (wr := []) (As := [.ref (gK g i1)]) (rest := []) (ci := 10) (q0 := 0) C0 (mX10_takesWord l g a_t p_t n i1 o_t f_t_1 f_t_12 u_2 u_3 u_4 hi1 hu_5) (cwV 1 hts gX10_must_X10_takesWord rfl rfl rfl (by decide +kernel) ⟨Nat.le_of_ble_eq_true rfl, Nat.le_of_ble_eq_true rfl⟩) hP hD hS [0, 1, 2] [] rfl rfl rfl rfl rfl (by decide) rfl rfl hl.1 rfl rfl (Nat.le_of_ble_eq_true rfl) ⟨Nat.zero_le _, Nat.zero_le _⟩ dX10_must_9 ?_
    intro H locs hP hD hS
    refine lv_if_ne (tgt := 24) hx hb dX10_must_12 (by decide) (fun c_6 => ?_) (fun c_6 => ?_)
    · have hF := it_n c_6 hF
      cases hF
      exact ret_v C0 hP hD hS [0, 1, 2] rfl rfl rfl dX10_must_24
    · have hF := it_p c_6 hF
      refine lv_aload_n hx hb dX10_must_15 rfl (lv_at hl 0 rfl) ?_
      refine lv_iconst (v := (1 : Int32)) hx hb dX10_must_16 (by decide) ?_
      refine lv_aload_n hx hb dX10_must_17 rfl (lv_at hl 0 rfl) ?_
      refine va_get (D := g.1) (ci := 10) (v := .int (u_3 4)) (C := RX10) (T := TX10) (N := 35) hx hb hts iX10_must_X10 hown hK.1 hP 0 rfl rfl 4 (by decide) (hts _ kX10_must_72) (fun _ h9 => h9) rfl dX10_must_18 ?_
      obtain ⟨u_7, hu_8, hF⟩ := ob1_some hF
      refine call_v (wr := [aI g (p_t 1) 800 f_t_1, aI g (p_t 12) 8 u_4]) (As := [.int (1 : Int32), .int (u_3 4)]) (rest := []) (ci := 10) (q0 := 0) C0 (mX10_wrong l g a_t p_t n (1 : Int32) (u_3 4) u_3 u_7 hu_8) (cwV 2 hts gX10_must_X10_wrong rfl rfl rfl (by decide +kernel) ⟨Nat.le_of_ble_eq_true rfl, Nat.le_of_ble_eq_true rfl⟩) hP hD hS [0] [1, 2] rfl rfl rfl rfl rfl (by decide) rfl rfl hl.1 rfl rfl (Nat.le_of_ble_eq_true rfl) ⟨Nat.zero_le _, Nat.zero_le _⟩ dX10_must_21 ?_
      intro H locs hP hD hS
      cases hF
      exact ret_v C0 hP hD hS [2, 0, 1] rfl rfl rfl dX10_must_24

theorem dAX10_mustName : ∀ q ∈ ([(0, (.aload_n 0, 1)), (1, (.getfield 81, 3)), (4, (.iconst 2, 1)), (5, (.if_icmp .ne 75, 3)), (8, (.aload_n 0, 1)), (9, (.ldc 122, 2)), (11, (.invokevirtual 108, 3)), (14, (.ifCond .ne 66, 3)), (17, (.aload_n 0, 1)), (18, (.ldc 124, 2)), (20, (.invokevirtual 108, 3)), (23, (.ifCond .ne 57, 3)), (26, (.aload_n 0, 1)), (27, (.ldc 126, 2)), (29, (.invokevirtual 108, 3)), (32, (.ifCond .ne 48, 3)), (35, (.aload_n 0, 1)), (36, (.ldc 128, 2)), (38, (.invokevirtual 108, 3)), (41, (.ifCond .ne 39, 3)), (44, (.aload_n 0, 1)), (45, (.ldc 130, 2)), (47, (.invokevirtual 108, 3)), (50, (.ifCond .ne 30, 3)), (53, (.aload_n 0, 1)), (54, (.ldc 132, 2)), (56, (.invokevirtual 108, 3)), (59, (.ifCond .ne 21, 3)), (62, (.aload_n 0, 1)), (63, (.ldc 134, 2)), (65, (.invokevirtual 108, 3)), (68, (.ifCond .ne 12, 3)), (71, (.aload_n 0, 1)), (72, (.ldc 136, 2)), (74, (.invokevirtual 108, 3)), (77, (.ifCond .eq 12, 3)), (80, (.aload_n 0, 1)), (81, (.iconst 1, 1)), (82, (.aload_n 0, 1)), (83, (.getfield 72, 3)), (86, (.invokevirtual 118, 3)), (89, (.return_, 1))] : List (Nat × (Instr × Nat))), decode cX10_mustName q.1 = .ok q.2 := by decide +kernel
theorem dX10_mustName_0 : decode cX10_mustName 0 = .ok (.aload_n 0, 1) := dAX10_mustName (0, (.aload_n 0, 1)) (List.mem_of_getElem? (i := 0) rfl)
theorem dX10_mustName_1 : decode cX10_mustName 1 = .ok (.getfield 81, 3) := dAX10_mustName (1, (.getfield 81, 3)) (List.mem_of_getElem? (i := 1) rfl)
theorem dX10_mustName_4 : decode cX10_mustName 4 = .ok (.iconst 2, 1) := dAX10_mustName (4, (.iconst 2, 1)) (List.mem_of_getElem? (i := 2) rfl)
theorem dX10_mustName_5 : decode cX10_mustName 5 = .ok (.if_icmp .ne 75, 3) := dAX10_mustName (5, (.if_icmp .ne 75, 3)) (List.mem_of_getElem? (i := 3) rfl)
theorem dX10_mustName_8 : decode cX10_mustName 8 = .ok (.aload_n 0, 1) := dAX10_mustName (8, (.aload_n 0, 1)) (List.mem_of_getElem? (i := 4) rfl)
theorem dX10_mustName_9 : decode cX10_mustName 9 = .ok (.ldc 122, 2) := dAX10_mustName (9, (.ldc 122, 2)) (List.mem_of_getElem? (i := 5) rfl)
theorem dX10_mustName_11 : decode cX10_mustName 11 = .ok (.invokevirtual 108, 3) := dAX10_mustName (11, (.invokevirtual 108, 3)) (List.mem_of_getElem? (i := 6) rfl)
theorem dX10_mustName_14 : decode cX10_mustName 14 = .ok (.ifCond .ne 66, 3) := dAX10_mustName (14, (.ifCond .ne 66, 3)) (List.mem_of_getElem? (i := 7) rfl)
theorem dX10_mustName_17 : decode cX10_mustName 17 = .ok (.aload_n 0, 1) := dAX10_mustName (17, (.aload_n 0, 1)) (List.mem_of_getElem? (i := 8) rfl)
theorem dX10_mustName_18 : decode cX10_mustName 18 = .ok (.ldc 124, 2) := dAX10_mustName (18, (.ldc 124, 2)) (List.mem_of_getElem? (i := 9) rfl)
theorem dX10_mustName_20 : decode cX10_mustName 20 = .ok (.invokevirtual 108, 3) := dAX10_mustName (20, (.invokevirtual 108, 3)) (List.mem_of_getElem? (i := 10) rfl)
theorem dX10_mustName_23 : decode cX10_mustName 23 = .ok (.ifCond .ne 57, 3) := dAX10_mustName (23, (.ifCond .ne 57, 3)) (List.mem_of_getElem? (i := 11) rfl)
theorem dX10_mustName_26 : decode cX10_mustName 26 = .ok (.aload_n 0, 1) := dAX10_mustName (26, (.aload_n 0, 1)) (List.mem_of_getElem? (i := 12) rfl)
theorem dX10_mustName_27 : decode cX10_mustName 27 = .ok (.ldc 126, 2) := dAX10_mustName (27, (.ldc 126, 2)) (List.mem_of_getElem? (i := 13) rfl)
theorem dX10_mustName_29 : decode cX10_mustName 29 = .ok (.invokevirtual 108, 3) := dAX10_mustName (29, (.invokevirtual 108, 3)) (List.mem_of_getElem? (i := 14) rfl)
theorem dX10_mustName_32 : decode cX10_mustName 32 = .ok (.ifCond .ne 48, 3) := dAX10_mustName (32, (.ifCond .ne 48, 3)) (List.mem_of_getElem? (i := 15) rfl)
theorem dX10_mustName_35 : decode cX10_mustName 35 = .ok (.aload_n 0, 1) := dAX10_mustName (35, (.aload_n 0, 1)) (List.mem_of_getElem? (i := 16) rfl)
theorem dX10_mustName_36 : decode cX10_mustName 36 = .ok (.ldc 128, 2) := dAX10_mustName (36, (.ldc 128, 2)) (List.mem_of_getElem? (i := 17) rfl)
theorem dX10_mustName_38 : decode cX10_mustName 38 = .ok (.invokevirtual 108, 3) := dAX10_mustName (38, (.invokevirtual 108, 3)) (List.mem_of_getElem? (i := 18) rfl)
theorem dX10_mustName_41 : decode cX10_mustName 41 = .ok (.ifCond .ne 39, 3) := dAX10_mustName (41, (.ifCond .ne 39, 3)) (List.mem_of_getElem? (i := 19) rfl)
theorem dX10_mustName_44 : decode cX10_mustName 44 = .ok (.aload_n 0, 1) := dAX10_mustName (44, (.aload_n 0, 1)) (List.mem_of_getElem? (i := 20) rfl)
theorem dX10_mustName_45 : decode cX10_mustName 45 = .ok (.ldc 130, 2) := dAX10_mustName (45, (.ldc 130, 2)) (List.mem_of_getElem? (i := 21) rfl)
theorem dX10_mustName_47 : decode cX10_mustName 47 = .ok (.invokevirtual 108, 3) := dAX10_mustName (47, (.invokevirtual 108, 3)) (List.mem_of_getElem? (i := 22) rfl)
theorem dX10_mustName_50 : decode cX10_mustName 50 = .ok (.ifCond .ne 30, 3) := dAX10_mustName (50, (.ifCond .ne 30, 3)) (List.mem_of_getElem? (i := 23) rfl)
theorem dX10_mustName_53 : decode cX10_mustName 53 = .ok (.aload_n 0, 1) := dAX10_mustName (53, (.aload_n 0, 1)) (List.mem_of_getElem? (i := 24) rfl)
theorem dX10_mustName_54 : decode cX10_mustName 54 = .ok (.ldc 132, 2) := dAX10_mustName (54, (.ldc 132, 2)) (List.mem_of_getElem? (i := 25) rfl)
theorem dX10_mustName_56 : decode cX10_mustName 56 = .ok (.invokevirtual 108, 3) := dAX10_mustName (56, (.invokevirtual 108, 3)) (List.mem_of_getElem? (i := 26) rfl)
theorem dX10_mustName_59 : decode cX10_mustName 59 = .ok (.ifCond .ne 21, 3) := dAX10_mustName (59, (.ifCond .ne 21, 3)) (List.mem_of_getElem? (i := 27) rfl)
theorem dX10_mustName_62 : decode cX10_mustName 62 = .ok (.aload_n 0, 1) := dAX10_mustName (62, (.aload_n 0, 1)) (List.mem_of_getElem? (i := 28) rfl)
theorem dX10_mustName_63 : decode cX10_mustName 63 = .ok (.ldc 134, 2) := dAX10_mustName (63, (.ldc 134, 2)) (List.mem_of_getElem? (i := 29) rfl)
theorem dX10_mustName_65 : decode cX10_mustName 65 = .ok (.invokevirtual 108, 3) := dAX10_mustName (65, (.invokevirtual 108, 3)) (List.mem_of_getElem? (i := 30) rfl)
theorem dX10_mustName_68 : decode cX10_mustName 68 = .ok (.ifCond .ne 12, 3) := dAX10_mustName (68, (.ifCond .ne 12, 3)) (List.mem_of_getElem? (i := 31) rfl)
theorem dX10_mustName_71 : decode cX10_mustName 71 = .ok (.aload_n 0, 1) := dAX10_mustName (71, (.aload_n 0, 1)) (List.mem_of_getElem? (i := 32) rfl)
theorem dX10_mustName_72 : decode cX10_mustName 72 = .ok (.ldc 136, 2) := dAX10_mustName (72, (.ldc 136, 2)) (List.mem_of_getElem? (i := 33) rfl)
theorem dX10_mustName_74 : decode cX10_mustName 74 = .ok (.invokevirtual 108, 3) := dAX10_mustName (74, (.invokevirtual 108, 3)) (List.mem_of_getElem? (i := 34) rfl)
theorem dX10_mustName_77 : decode cX10_mustName 77 = .ok (.ifCond .eq 12, 3) := dAX10_mustName (77, (.ifCond .eq 12, 3)) (List.mem_of_getElem? (i := 35) rfl)
theorem dX10_mustName_80 : decode cX10_mustName 80 = .ok (.aload_n 0, 1) := dAX10_mustName (80, (.aload_n 0, 1)) (List.mem_of_getElem? (i := 36) rfl)
theorem dX10_mustName_81 : decode cX10_mustName 81 = .ok (.iconst 1, 1) := dAX10_mustName (81, (.iconst 1, 1)) (List.mem_of_getElem? (i := 37) rfl)
theorem dX10_mustName_82 : decode cX10_mustName 82 = .ok (.aload_n 0, 1) := dAX10_mustName (82, (.aload_n 0, 1)) (List.mem_of_getElem? (i := 38) rfl)
theorem dX10_mustName_83 : decode cX10_mustName 83 = .ok (.getfield 72, 3) := dAX10_mustName (83, (.getfield 72, 3)) (List.mem_of_getElem? (i := 39) rfl)
theorem dX10_mustName_86 : decode cX10_mustName 86 = .ok (.invokevirtual 118, 3) := dAX10_mustName (86, (.invokevirtual 118, 3)) (List.mem_of_getElem? (i := 40) rfl)
theorem dX10_mustName_89 : decode cX10_mustName 89 = .ok (.return_, 1) := dAX10_mustName (89, (.return_, 1)) (List.mem_of_getElem? (i := 41) rfl)
set_option maxRecDepth 20000 in
theorem ggX10_mustName_X10_isWord : GoodIn wsX10_mustName wsX10_isWord := goodIn_r _ [7, 8, 1, 9, 10, 11, 12, 13, 14, 15, 16, 17, 18, 19, 20, 21, 22, 23, 24, 25, 26, 27, 28, 29, 30, 31, 32, 33, 34, 35, 36, 37, 38, 39, 40, 41, 42, 43, 44, 45, 46, 47, 48, 49, 50, 51, 52, 53, 54, 55, 56, 57, 58, 59, 66, 67, 68, 69, 70, 71, 72, 73, 74, 75, 76, 77, 78, 79, 80, 81, 82, 83, 84, 85, 86, 87, 88, 89, 90, 91, 92, 93, 94, 95, 96, 97, 98, 99, 100] rfl (by decide +kernel)
set_option maxRecDepth 20000 in
theorem gX10_mustName_X10_isWord : GoodIn wsX10_mustName (wsV RX10 108 RX10 yX10_isWord wsX10_isWord) := goodIn_app (goodIn_of _ (by decide +kernel)) ggX10_mustName_X10_isWord
set_option maxRecDepth 20000 in
theorem ggX10_mustName_X10_wrong : GoodIn wsX10_mustName wsX10_wrong := goodIn_r _ [63, 8, 64, 65, 66, 67, 68, 69, 70, 71, 72, 73, 74, 75, 76, 77, 78, 79, 80, 81, 82, 83, 84, 85, 86, 87, 88, 89, 90, 91, 92, 93, 94, 95, 96, 97, 98, 99, 100] rfl (by decide +kernel)
set_option maxRecDepth 20000 in
theorem gX10_mustName_X10_wrong : GoodIn wsX10_mustName (wsV RX10 118 RX10 yX10_wrong wsX10_wrong) := goodIn_app (goodIn_of _ (by decide +kernel)) ggX10_mustName_X10_wrong
theorem kX10_mustName_81 : Cond.fieldLink RX10 81 "EveningVowModel" "token" "I" ∈ wsX10_mustName := List.mem_of_getElem? (i := 1) rfl
theorem iX10_mustName_X10 : ∀ w ∈ u_ws RX10 TX10 35, w ∈ wsX10_mustName := fun w h => (List.mem_cons_of_mem _ (List.mem_append_right _ h))
theorem kX10_mustName_72 : Cond.fieldLink RX10 72 "EveningVowModel" "at" "I" ∈ wsX10_mustName := List.mem_of_getElem? (i := 2) rfl
set_option maxHeartbeats 4000000 in
set_option maxRecDepth 100000 in
theorem mX10_mustName (l : Launch) (g : GG) (a_t : Nat) (p_t : Nat → Nat) (n : Nat) (o_t : Nat → Int32) (f_t_12 : Nat → Int32) (o_t' : Nat → Int32) (hF : fX10_mustName n o_t f_t_12 = some (o_t')) : MV l g yX10_mustName wsX10_mustName ({ frames := 5, cells := 0, slots := 0, locals := 113 } : Room) [.ref a_t] [oX10 a_t p_t o_t, aI g (p_t 12) 8 f_t_12] [oX10 a_t p_t o_t', aI g (p_t 12) 8 f_t_12] := by
  refine MV.of (cc := cX10_mustName) (maxL := 1) (own := RX10) rfl rfl (by decide) (Nat.le_of_ble_eq_true rfl) ?_
  intro p e s m args below meth c A C0 hP hD hS ls hl
  obtain ⟨hx, hb, hml, hown, hts, hr, hlk, hK, hA, hSW⟩ := id C0
  have hl : lv_has ls 1 [(0, .ref a_t)] := hl
  rw [fX10_mustName] at hF
  refine lv_aload_n hx hb dX10_mustName_0 rfl (lv_at hl 0 rfl) ?_
  refine va_get (D := g.1) (ci := 10) (v := .int (o_t 6)) (C := RX10) (T := TX10) (N := 35) hx hb hts iX10_mustName_X10 hown hK.1 hP 0 rfl rfl 6 (by decide) (hts _ kX10_mustName_81) (fun _ h9 => h9) rfl dX10_mustName_1 ?_
  refine lv_iconst (v := (2 : Int32)) hx hb dX10_mustName_4 (by decide) ?_
  refine lv_icmp_ne (tgt := 80) hx hb dX10_mustName_5 (by decide) (fun c_1 => ?_) (fun c_1 => ?_)
  · have hF := it_n c_1 hF
    refine lv_aload_n hx hb dX10_mustName_80 rfl (lv_at hl 0 rfl) ?_
    refine lv_iconst (v := (1 : Int32)) hx hb dX10_mustName_81 (by decide) ?_
    refine lv_aload_n hx hb dX10_mustName_82 rfl (lv_at hl 0 rfl) ?_
    refine va_get (D := g.1) (ci := 10) (v := .int (o_t 4)) (C := RX10) (T := TX10) (N := 35) hx hb hts iX10_mustName_X10 hown hK.1 hP 0 rfl rfl 4 (by decide) (hts _ kX10_mustName_72) (fun _ h9 => h9) rfl dX10_mustName_83 ?_
    obtain ⟨u_2, hu_3, hF⟩ := ob1_some hF
    refine call_v (wr := [aI g (p_t 12) 8 f_t_12]) (As := [.int (1 : Int32), .int (o_t 4)]) (rest := []) (ci := 10) (q0 := 0) C0 (mX10_wrong l g a_t p_t n (1 : Int32) (o_t 4) o_t u_2 hu_3) (cwV 2 hts gX10_mustName_X10_wrong rfl rfl rfl (by decide +kernel) ⟨Nat.le_of_ble_eq_true rfl, Nat.le_of_ble_eq_true rfl⟩) hP hD hS [0] [1] rfl rfl rfl rfl rfl (by decide) rfl rfl hl.1 rfl rfl (Nat.le_of_ble_eq_true rfl) ⟨Nat.zero_le _, Nat.zero_le _⟩ dX10_mustName_86 ?_
    intro H locs hP hD hS
    cases hF
    exact ret_v C0 hP hD hS [1, 0] rfl rfl rfl dX10_mustName_89
  · have hF := it_p c_1 hF
    refine lv_aload_n hx hb dX10_mustName_8 rfl (lv_at hl 0 rfl) ?_
    refine va_ldcS (own := RX10) (index := 122) (q := gK g 0) hx hb hown (hK.2.2 0 (by decide)) dX10_mustName_9 ?_
    obtain ⟨u_4, hu_5, hF⟩ := ob1_some hF
    refine call_i (wr := []) (As := [.ref (gK g 0)]) (rest := []) (ci := 10) (q0 := 0) C0 (mX10_isWord l g a_t p_t n 0 o_t f_t_12 u_4 (by decide) hu_5) (cwV 1 hts gX10_mustName_X10_isWord rfl rfl rfl (by decide +kernel) ⟨Nat.le_of_ble_eq_true rfl, Nat.le_of_ble_eq_true rfl⟩) hP hD hS [0, 1] [] rfl rfl rfl rfl rfl (by decide) rfl rfl hl.1 rfl rfl (Nat.le_of_ble_eq_true rfl) ⟨Nat.zero_le _, Nat.zero_le _⟩ dX10_mustName_11 ?_
    intro H locs hP hD hS
    refine lv_if_ne (tgt := 80) hx hb dX10_mustName_14 (by decide) (fun c_6 => ?_) (fun c_6 => ?_)
    · have hF := it_n c_6 hF
      refine lv_aload_n hx hb dX10_mustName_80 rfl (lv_at hl 0 rfl) ?_
      refine lv_iconst (v := (1 : Int32)) hx hb dX10_mustName_81 (by decide) ?_
      refine lv_aload_n hx hb dX10_mustName_82 rfl (lv_at hl 0 rfl) ?_
      refine va_get (D := g.1) (ci := 10) (v := .int (o_t 4)) (C := RX10) (T := TX10) (N := 35) hx hb hts iX10_mustName_X10 hown hK.1 hP 0 rfl rfl 4 (by decide) (hts _ kX10_mustName_72) (fun _ h9 => h9) rfl dX10_mustName_83 ?_
      obtain ⟨u_7, hu_8, hF⟩ := ob1_some hF
      refine call_v (wr := [aI g (p_t 12) 8 f_t_12]) (As := [.int (1 : Int32), .int (o_t 4)]) (rest := []) (ci := 10) (q0 := 0) C0 (mX10_wrong l g a_t p_t n (1 : Int32) (o_t 4) o_t u_7 hu_8) (cwV 2 hts gX10_mustName_X10_wrong rfl rfl rfl (by decide +kernel) ⟨Nat.le_of_ble_eq_true rfl, Nat.le_of_ble_eq_true rfl⟩) hP hD hS [0] [1] rfl rfl rfl rfl rfl (by decide) rfl rfl hl.1 rfl rfl (Nat.le_of_ble_eq_true rfl) ⟨Nat.zero_le _, Nat.zero_le _⟩ dX10_mustName_86 ?_
      intro H locs hP hD hS
      cases hF
      exact ret_v C0 hP hD hS [1, 0] rfl rfl rfl dX10_mustName_89
    · have hF := it_p c_6 hF
      refine lv_aload_n hx hb dX10_mustName_17 rfl (lv_at hl 0 rfl) ?_
      refine va_ldcS (own := RX10) (index := 124) (q := gK g 1) hx hb hown (hK.2.2 1 (by decide)) dX10_mustName_18 ?_
      obtain ⟨u_9, hu_10, hF⟩ := ob1_some hF
      refine call_i (wr := []) (As := [.ref (gK g 1)]) (rest := []) (ci := 10) (q0 := 0) C0 (mX10_isWord l g a_t p_t n 1 o_t f_t_12 u_9 (by decide) hu_10) (cwV 1 hts gX10_mustName_X10_isWord rfl rfl rfl (by decide +kernel) ⟨Nat.le_of_ble_eq_true rfl, Nat.le_of_ble_eq_true rfl⟩) hP hD hS [0, 1] [] rfl rfl rfl rfl rfl (by decide) rfl rfl hl.1 rfl rfl (Nat.le_of_ble_eq_true rfl) ⟨Nat.zero_le _, Nat.zero_le _⟩ dX10_mustName_20 ?_
      intro H locs hP hD hS
      refine lv_if_ne (tgt := 80) hx hb dX10_mustName_23 (by decide) (fun c_11 => ?_) (fun c_11 => ?_)
      · have hF := it_n c_11 hF
        refine lv_aload_n hx hb dX10_mustName_80 rfl (lv_at hl 0 rfl) ?_
        refine lv_iconst (v := (1 : Int32)) hx hb dX10_mustName_81 (by decide) ?_
        refine lv_aload_n hx hb dX10_mustName_82 rfl (lv_at hl 0 rfl) ?_
        refine va_get (D := g.1) (ci := 10) (v := .int (o_t 4)) (C := RX10) (T := TX10) (N := 35) hx hb hts iX10_mustName_X10 hown hK.1 hP 0 rfl rfl 4 (by decide) (hts _ kX10_mustName_72) (fun _ h9 => h9) rfl dX10_mustName_83 ?_
        obtain ⟨u_12, hu_13, hF⟩ := ob1_some hF
        refine call_v (wr := [aI g (p_t 12) 8 f_t_12]) (As := [.int (1 : Int32), .int (o_t 4)]) (rest := []) (ci := 10) (q0 := 0) C0 (mX10_wrong l g a_t p_t n (1 : Int32) (o_t 4) o_t u_12 hu_13) (cwV 2 hts gX10_mustName_X10_wrong rfl rfl rfl (by decide +kernel) ⟨Nat.le_of_ble_eq_true rfl, Nat.le_of_ble_eq_true rfl⟩) hP hD hS [0] [1] rfl rfl rfl rfl rfl (by decide) rfl rfl hl.1 rfl rfl (Nat.le_of_ble_eq_true rfl) ⟨Nat.zero_le _, Nat.zero_le _⟩ dX10_mustName_86 ?_
        intro H locs hP hD hS
        cases hF
        exact ret_v C0 hP hD hS [1, 0] rfl rfl rfl dX10_mustName_89
      · have hF := it_p c_11 hF
        refine lv_aload_n hx hb dX10_mustName_26 rfl (lv_at hl 0 rfl) ?_
        refine va_ldcS (own := RX10) (index := 126) (q := gK g 2) hx hb hown (hK.2.2 2 (by decide)) dX10_mustName_27 ?_
        obtain ⟨u_14, hu_15, hF⟩ := ob1_some hF
        refine call_i (wr := []) (As := [.ref (gK g 2)]) (rest := []) (ci := 10) (q0 := 0) C0 (mX10_isWord l g a_t p_t n 2 o_t f_t_12 u_14 (by decide) hu_15) (cwV 1 hts gX10_mustName_X10_isWord rfl rfl rfl (by decide +kernel) ⟨Nat.le_of_ble_eq_true rfl, Nat.le_of_ble_eq_true rfl⟩) hP hD hS [0, 1] [] rfl rfl rfl rfl rfl (by decide) rfl rfl hl.1 rfl rfl (Nat.le_of_ble_eq_true rfl) ⟨Nat.zero_le _, Nat.zero_le _⟩ dX10_mustName_29 ?_
        intro H locs hP hD hS
        refine lv_if_ne (tgt := 80) hx hb dX10_mustName_32 (by decide) (fun c_16 => ?_) (fun c_16 => ?_)
        · have hF := it_n c_16 hF
          refine lv_aload_n hx hb dX10_mustName_80 rfl (lv_at hl 0 rfl) ?_
          refine lv_iconst (v := (1 : Int32)) hx hb dX10_mustName_81 (by decide) ?_
          refine lv_aload_n hx hb dX10_mustName_82 rfl (lv_at hl 0 rfl) ?_
          refine va_get (D := g.1) (ci := 10) (v := .int (o_t 4)) (C := RX10) (T := TX10) (N := 35) hx hb hts iX10_mustName_X10 hown hK.1 hP 0 rfl rfl 4 (by decide) (hts _ kX10_mustName_72) (fun _ h9 => h9) rfl dX10_mustName_83 ?_
          obtain ⟨u_17, hu_18, hF⟩ := ob1_some hF
          refine call_v (wr := [aI g (p_t 12) 8 f_t_12]) (As := [.int (1 : Int32), .int (o_t 4)]) (rest := []) (ci := 10) (q0 := 0) C0 (mX10_wrong l g a_t p_t n (1 : Int32) (o_t 4) o_t u_17 hu_18) (cwV 2 hts gX10_mustName_X10_wrong rfl rfl rfl (by decide +kernel) ⟨Nat.le_of_ble_eq_true rfl, Nat.le_of_ble_eq_true rfl⟩) hP hD hS [0] [1] rfl rfl rfl rfl rfl (by decide) rfl rfl hl.1 rfl rfl (Nat.le_of_ble_eq_true rfl) ⟨Nat.zero_le _, Nat.zero_le _⟩ dX10_mustName_86 ?_
          intro H locs hP hD hS
          cases hF
          exact ret_v C0 hP hD hS [1, 0] rfl rfl rfl dX10_mustName_89
        · have hF := it_p c_16 hF
          refine lv_aload_n hx hb dX10_mustName_35 rfl (lv_at hl 0 rfl) ?_
          refine va_ldcS (own := RX10) (index := 128) (q := gK g 3) hx hb hown (hK.2.2 3 (by decide)) dX10_mustName_36 ?_
          obtain ⟨u_19, hu_20, hF⟩ := ob1_some hF
          refine call_i (wr := []) (As := [.ref (gK g 3)]) (rest := []) (ci := 10) (q0 := 0) C0 (mX10_isWord l g a_t p_t n 3 o_t f_t_12 u_19 (by decide) hu_20) (cwV 1 hts gX10_mustName_X10_isWord rfl rfl rfl (by decide +kernel) ⟨Nat.le_of_ble_eq_true rfl, Nat.le_of_ble_eq_true rfl⟩) hP hD hS [0, 1] [] rfl rfl rfl rfl rfl (by decide) rfl rfl hl.1 rfl rfl (Nat.le_of_ble_eq_true rfl) ⟨Nat.zero_le _, Nat.zero_le _⟩ dX10_mustName_38 ?_
          intro H locs hP hD hS
          refine lv_if_ne (tgt := 80) hx hb dX10_mustName_41 (by decide) (fun c_21 => ?_) (fun c_21 => ?_)
          · have hF := it_n c_21 hF
            refine lv_aload_n hx hb dX10_mustName_80 rfl (lv_at hl 0 rfl) ?_
            refine lv_iconst (v := (1 : Int32)) hx hb dX10_mustName_81 (by decide) ?_
            refine lv_aload_n hx hb dX10_mustName_82 rfl (lv_at hl 0 rfl) ?_
            refine va_get (D := g.1) (ci := 10) (v := .int (o_t 4)) (C := RX10) (T := TX10) (N := 35) hx hb hts iX10_mustName_X10 hown hK.1 hP 0 rfl rfl 4 (by decide) (hts _ kX10_mustName_72) (fun _ h9 => h9) rfl dX10_mustName_83 ?_
            obtain ⟨u_22, hu_23, hF⟩ := ob1_some hF
            refine call_v (wr := [aI g (p_t 12) 8 f_t_12]) (As := [.int (1 : Int32), .int (o_t 4)]) (rest := []) (ci := 10) (q0 := 0) C0 (mX10_wrong l g a_t p_t n (1 : Int32) (o_t 4) o_t u_22 hu_23) (cwV 2 hts gX10_mustName_X10_wrong rfl rfl rfl (by decide +kernel) ⟨Nat.le_of_ble_eq_true rfl, Nat.le_of_ble_eq_true rfl⟩) hP hD hS [0] [1] rfl rfl rfl rfl rfl (by decide) rfl rfl hl.1 rfl rfl (Nat.le_of_ble_eq_true rfl) ⟨Nat.zero_le _, Nat.zero_le _⟩ dX10_mustName_86 ?_
            intro H locs hP hD hS
            cases hF
            exact ret_v C0 hP hD hS [1, 0] rfl rfl rfl dX10_mustName_89
          · have hF := it_p c_21 hF
            refine lv_aload_n hx hb dX10_mustName_44 rfl (lv_at hl 0 rfl) ?_
            refine va_ldcS (own := RX10) (index := 130) (q := gK g 4) hx hb hown (hK.2.2 4 (by decide)) dX10_mustName_45 ?_
            obtain ⟨u_24, hu_25, hF⟩ := ob1_some hF
            refine call_i (wr := []) (As := [.ref (gK g 4)]) (rest := []) (ci := 10) (q0 := 0) C0 (mX10_isWord l g a_t p_t n 4 o_t f_t_12 u_24 (by decide) hu_25) (cwV 1 hts gX10_mustName_X10_isWord rfl rfl rfl (by decide +kernel) ⟨Nat.le_of_ble_eq_true rfl, Nat.le_of_ble_eq_true rfl⟩) hP hD hS [0, 1] [] rfl rfl rfl rfl rfl (by decide) rfl rfl hl.1 rfl rfl (Nat.le_of_ble_eq_true rfl) ⟨Nat.zero_le _, Nat.zero_le _⟩ dX10_mustName_47 ?_
            intro H locs hP hD hS
            refine lv_if_ne (tgt := 80) hx hb dX10_mustName_50 (by decide) (fun c_26 => ?_) (fun c_26 => ?_)
            · have hF := it_n c_26 hF
              refine lv_aload_n hx hb dX10_mustName_80 rfl (lv_at hl 0 rfl) ?_
              refine lv_iconst (v := (1 : Int32)) hx hb dX10_mustName_81 (by decide) ?_
              refine lv_aload_n hx hb dX10_mustName_82 rfl (lv_at hl 0 rfl) ?_
              refine va_get (D := g.1) (ci := 10) (v := .int (o_t 4)) (C := RX10) (T := TX10) (N := 35) hx hb hts iX10_mustName_X10 hown hK.1 hP 0 rfl rfl 4 (by decide) (hts _ kX10_mustName_72) (fun _ h9 => h9) rfl dX10_mustName_83 ?_
              obtain ⟨u_27, hu_28, hF⟩ := ob1_some hF
              refine call_v (wr := [aI g (p_t 12) 8 f_t_12]) (As := [.int (1 : Int32), .int (o_t 4)]) (rest := []) (ci := 10) (q0 := 0) C0 (mX10_wrong l g a_t p_t n (1 : Int32) (o_t 4) o_t u_27 hu_28) (cwV 2 hts gX10_mustName_X10_wrong rfl rfl rfl (by decide +kernel) ⟨Nat.le_of_ble_eq_true rfl, Nat.le_of_ble_eq_true rfl⟩) hP hD hS [0] [1] rfl rfl rfl rfl rfl (by decide) rfl rfl hl.1 rfl rfl (Nat.le_of_ble_eq_true rfl) ⟨Nat.zero_le _, Nat.zero_le _⟩ dX10_mustName_86 ?_
              intro H locs hP hD hS
              cases hF
              exact ret_v C0 hP hD hS [1, 0] rfl rfl rfl dX10_mustName_89
            · have hF := it_p c_26 hF
              refine lv_aload_n hx hb dX10_mustName_53 rfl (lv_at hl 0 rfl) ?_
              refine va_ldcS (own := RX10) (index := 132) (q := gK g 5) hx hb hown (hK.2.2 5 (by decide)) dX10_mustName_54 ?_
              obtain ⟨u_29, hu_30, hF⟩ := ob1_some hF
              refine call_i (wr := []) (As := [.ref (gK g 5)]) (rest := []) (ci := 10) (q0 := 0) C0 (mX10_isWord l g a_t p_t n 5 o_t f_t_12 u_29 (by decide) hu_30) (cwV 1 hts gX10_mustName_X10_isWord rfl rfl rfl (by decide +kernel) ⟨Nat.le_of_ble_eq_true rfl, Nat.le_of_ble_eq_true rfl⟩) hP hD hS [0, 1] [] rfl rfl rfl rfl rfl (by decide) rfl rfl hl.1 rfl rfl (Nat.le_of_ble_eq_true rfl) ⟨Nat.zero_le _, Nat.zero_le _⟩ dX10_mustName_56 ?_
              intro H locs hP hD hS
              refine lv_if_ne (tgt := 80) hx hb dX10_mustName_59 (by decide) (fun c_31 => ?_) (fun c_31 => ?_)
              · have hF := it_n c_31 hF
                refine lv_aload_n hx hb dX10_mustName_80 rfl (lv_at hl 0 rfl) ?_
                refine lv_iconst (v := (1 : Int32)) hx hb dX10_mustName_81 (by decide) ?_
                refine lv_aload_n hx hb dX10_mustName_82 rfl (lv_at hl 0 rfl) ?_
                refine va_get (D := g.1) (ci := 10) (v := .int (o_t 4)) (C := RX10) (T := TX10) (N := 35) hx hb hts iX10_mustName_X10 hown hK.1 hP 0 rfl rfl 4 (by decide) (hts _ kX10_mustName_72) (fun _ h9 => h9) rfl dX10_mustName_83 ?_
                obtain ⟨u_32, hu_33, hF⟩ := ob1_some hF
                refine call_v (wr := [aI g (p_t 12) 8 f_t_12]) (As := [.int (1 : Int32), .int (o_t 4)]) (rest := []) (ci := 10) (q0 := 0) C0 (mX10_wrong l g a_t p_t n (1 : Int32) (o_t 4) o_t u_32 hu_33) (cwV 2 hts gX10_mustName_X10_wrong rfl rfl rfl (by decide +kernel) ⟨Nat.le_of_ble_eq_true rfl, Nat.le_of_ble_eq_true rfl⟩) hP hD hS [0] [1] rfl rfl rfl rfl rfl (by decide) rfl rfl hl.1 rfl rfl (Nat.le_of_ble_eq_true rfl) ⟨Nat.zero_le _, Nat.zero_le _⟩ dX10_mustName_86 ?_
                intro H locs hP hD hS
                cases hF
                exact ret_v C0 hP hD hS [1, 0] rfl rfl rfl dX10_mustName_89
              · have hF := it_p c_31 hF
                refine lv_aload_n hx hb dX10_mustName_62 rfl (lv_at hl 0 rfl) ?_
                refine va_ldcS (own := RX10) (index := 134) (q := gK g 6) hx hb hown (hK.2.2 6 (by decide)) dX10_mustName_63 ?_
                obtain ⟨u_34, hu_35, hF⟩ := ob1_some hF
                refine call_i (wr := []) (As := [.ref (gK g 6)]) (rest := []) (ci := 10) (q0 := 0) C0 (mX10_isWord l g a_t p_t n 6 o_t f_t_12 u_34 (by decide) hu_35) (cwV 1 hts gX10_mustName_X10_isWord rfl rfl rfl (by decide +kernel) ⟨Nat.le_of_ble_eq_true rfl, Nat.le_of_ble_eq_true rfl⟩) hP hD hS [0, 1] [] rfl rfl rfl rfl rfl (by decide) rfl rfl hl.1 rfl rfl (Nat.le_of_ble_eq_true rfl) ⟨Nat.zero_le _, Nat.zero_le _⟩ dX10_mustName_65 ?_
                intro H locs hP hD hS
                refine lv_if_ne (tgt := 80) hx hb dX10_mustName_68 (by decide) (fun c_36 => ?_) (fun c_36 => ?_)
                · have hF := it_n c_36 hF
                  refine lv_aload_n hx hb dX10_mustName_80 rfl (lv_at hl 0 rfl) ?_
                  refine lv_iconst (v := (1 : Int32)) hx hb dX10_mustName_81 (by decide) ?_
                  refine lv_aload_n hx hb dX10_mustName_82 rfl (lv_at hl 0 rfl) ?_
                  refine va_get (D := g.1) (ci := 10) (v := .int (o_t 4)) (C := RX10) (T := TX10) (N := 35) hx hb hts iX10_mustName_X10 hown hK.1 hP 0 rfl rfl 4 (by decide) (hts _ kX10_mustName_72) (fun _ h9 => h9) rfl dX10_mustName_83 ?_
                  obtain ⟨u_37, hu_38, hF⟩ := ob1_some hF
                  refine call_v (wr := [aI g (p_t 12) 8 f_t_12]) (As := [.int (1 : Int32), .int (o_t 4)]) (rest := []) (ci := 10) (q0 := 0) C0 (mX10_wrong l g a_t p_t n (1 : Int32) (o_t 4) o_t u_37 hu_38) (cwV 2 hts gX10_mustName_X10_wrong rfl rfl rfl (by decide +kernel) ⟨Nat.le_of_ble_eq_true rfl, Nat.le_of_ble_eq_true rfl⟩) hP hD hS [0] [1] rfl rfl rfl rfl rfl (by decide) rfl rfl hl.1 rfl rfl (Nat.le_of_ble_eq_true rfl) ⟨Nat.zero_le _, Nat.zero_le _⟩ dX10_mustName_86 ?_
                  intro H locs hP hD hS
                  cases hF
                  exact ret_v C0 hP hD hS [1, 0] rfl rfl rfl dX10_mustName_89
                · have hF := it_p c_36 hF
                  refine lv_aload_n hx hb dX10_mustName_71 rfl (lv_at hl 0 rfl) ?_
                  refine va_ldcS (own := RX10) (index := 136) (q := gK g 7) hx hb hown (hK.2.2 7 (by decide)) dX10_mustName_72 ?_
                  obtain ⟨u_39, hu_40, hF⟩ := ob1_some hF
                  refine call_i (wr := []) (As := [.ref (gK g 7)]) (rest := []) (ci := 10) (q0 := 0) C0 (mX10_isWord l g a_t p_t n 7 o_t f_t_12 u_39 (by decide) hu_40) (cwV 1 hts gX10_mustName_X10_isWord rfl rfl rfl (by decide +kernel) ⟨Nat.le_of_ble_eq_true rfl, Nat.le_of_ble_eq_true rfl⟩) hP hD hS [0, 1] [] rfl rfl rfl rfl rfl (by decide) rfl rfl hl.1 rfl rfl (Nat.le_of_ble_eq_true rfl) ⟨Nat.zero_le _, Nat.zero_le _⟩ dX10_mustName_74 ?_
                  intro H locs hP hD hS
                  refine lv_if_eq (tgt := 89) hx hb dX10_mustName_77 (by decide) (fun c_41 => ?_) (fun c_41 => ?_)
                  · have hF := it_p c_41 hF
                    cases hF
                    exact ret_v C0 hP hD hS [0, 1] rfl rfl rfl dX10_mustName_89
                  · have hF := it_n c_41 hF
                    refine lv_aload_n hx hb dX10_mustName_80 rfl (lv_at hl 0 rfl) ?_
                    refine lv_iconst (v := (1 : Int32)) hx hb dX10_mustName_81 (by decide) ?_
                    refine lv_aload_n hx hb dX10_mustName_82 rfl (lv_at hl 0 rfl) ?_
                    refine va_get (D := g.1) (ci := 10) (v := .int (o_t 4)) (C := RX10) (T := TX10) (N := 35) hx hb hts iX10_mustName_X10 hown hK.1 hP 0 rfl rfl 4 (by decide) (hts _ kX10_mustName_72) (fun _ h9 => h9) rfl dX10_mustName_83 ?_
                    obtain ⟨u_42, hu_43, hF⟩ := ob1_some hF
                    refine call_v (wr := [aI g (p_t 12) 8 f_t_12]) (As := [.int (1 : Int32), .int (o_t 4)]) (rest := []) (ci := 10) (q0 := 0) C0 (mX10_wrong l g a_t p_t n (1 : Int32) (o_t 4) o_t u_42 hu_43) (cwV 2 hts gX10_mustName_X10_wrong rfl rfl rfl (by decide +kernel) ⟨Nat.le_of_ble_eq_true rfl, Nat.le_of_ble_eq_true rfl⟩) hP hD hS [0] [1] rfl rfl rfl rfl rfl (by decide) rfl rfl hl.1 rfl rfl (Nat.le_of_ble_eq_true rfl) ⟨Nat.zero_le _, Nat.zero_le _⟩ dX10_mustName_86 ?_
                    intro H locs hP hD hS
                    cases hF
                    exact ret_v C0 hP hD hS [1, 0] rfl rfl rfl dX10_mustName_89

theorem dAX10_find : ∀ q ∈ ([(0, (.iconst 0, 1)), (1, (.istore_n 1, 1)), (2, (.iload_n 1, 1)), (3, (.bipush 16, 2)), (5, (.if_icmp .ge 99, 3)), (8, (.aload_n 0, 1)), (9, (.getfield 23, 3)), (12, (.bipush 122, 2)), (14, (.iload_n 1, 1)), (15, (.iadd, 1)), (16, (.iaload, 1)), (17, (.ifCond .le 23, 3)), (20, (.aload_n 0, 1)), (21, (.getfield 23, 3)), (24, (.bipush 122, 2)), (26, (.iload_n 1, 1)), (27, (.iadd, 1)), (28, (.iaload, 1)), (29, (.aload_n 0, 1)), (30, (.getfield 75, 3)), (33, (.if_icmp .ne 7, 3)), (36, (.iconst 1, 1)), (37, (.goto 4, 3)), (40, (.iconst 0, 1)), (41, (.istore_n 2, 1)), (42, (.iconst 0, 1)), (43, (.istore_n 3, 1)), (44, (.iload_n 3, 1)), (45, (.aload_n 0, 1)), (46, (.getfield 75, 3)), (49, (.if_icmp .ge 43, 3)), (52, (.iload_n 2, 1)), (53, (.ifCond .eq 39, 3)), (56, (.aload_n 0, 1)), (57, (.getfield 23, 3)), (60, (.sipush 138, 3)), (63, (.bipush 8, 2)), (65, (.iload_n 1, 1)), (66, (.imul, 1)), (67, (.iadd, 1)), (68, (.iload_n 3, 1)), (69, (.iadd, 1)), (70, (.iaload, 1)), (71, (.aload_n 0, 1)), (72, (.getfield 17, 3)), (75, (.iload_n 3, 1)), (76, (.iaload, 1)), (77, (.if_icmp .ne 7, 3)), (80, (.iconst 1, 1)), (81, (.goto 4, 3)), (84, (.iconst 0, 1)), (85, (.istore_n 2, 1)), (86, (.iinc 3 1, 3)), (89, (.goto (-45), 3)), (92, (.iload_n 2, 1)), (93, (.ifCond .eq 5, 3)), (96, (.iload_n 1, 1)), (97, (.ireturn, 1)), (98, (.iinc 1 1, 3)), (101, (.goto (-99), 3)), (104, (.iconst (-1), 1)), (105, (.ireturn, 1))] : List (Nat × (Instr × Nat))), decode cX10_find q.1 = .ok q.2 := by decide +kernel
theorem dX10_find_0 : decode cX10_find 0 = .ok (.iconst 0, 1) := dAX10_find (0, (.iconst 0, 1)) (List.mem_of_getElem? (i := 0) rfl)
theorem dX10_find_1 : decode cX10_find 1 = .ok (.istore_n 1, 1) := dAX10_find (1, (.istore_n 1, 1)) (List.mem_of_getElem? (i := 1) rfl)
theorem dX10_find_2 : decode cX10_find 2 = .ok (.iload_n 1, 1) := dAX10_find (2, (.iload_n 1, 1)) (List.mem_of_getElem? (i := 2) rfl)
theorem dX10_find_3 : decode cX10_find 3 = .ok (.bipush 16, 2) := dAX10_find (3, (.bipush 16, 2)) (List.mem_of_getElem? (i := 3) rfl)
theorem dX10_find_5 : decode cX10_find 5 = .ok (.if_icmp .ge 99, 3) := dAX10_find (5, (.if_icmp .ge 99, 3)) (List.mem_of_getElem? (i := 4) rfl)
theorem dX10_find_8 : decode cX10_find 8 = .ok (.aload_n 0, 1) := dAX10_find (8, (.aload_n 0, 1)) (List.mem_of_getElem? (i := 5) rfl)
theorem dX10_find_9 : decode cX10_find 9 = .ok (.getfield 23, 3) := dAX10_find (9, (.getfield 23, 3)) (List.mem_of_getElem? (i := 6) rfl)
theorem dX10_find_12 : decode cX10_find 12 = .ok (.bipush 122, 2) := dAX10_find (12, (.bipush 122, 2)) (List.mem_of_getElem? (i := 7) rfl)
theorem dX10_find_14 : decode cX10_find 14 = .ok (.iload_n 1, 1) := dAX10_find (14, (.iload_n 1, 1)) (List.mem_of_getElem? (i := 8) rfl)
theorem dX10_find_15 : decode cX10_find 15 = .ok (.iadd, 1) := dAX10_find (15, (.iadd, 1)) (List.mem_of_getElem? (i := 9) rfl)
theorem dX10_find_16 : decode cX10_find 16 = .ok (.iaload, 1) := dAX10_find (16, (.iaload, 1)) (List.mem_of_getElem? (i := 10) rfl)
theorem dX10_find_17 : decode cX10_find 17 = .ok (.ifCond .le 23, 3) := dAX10_find (17, (.ifCond .le 23, 3)) (List.mem_of_getElem? (i := 11) rfl)
theorem dX10_find_20 : decode cX10_find 20 = .ok (.aload_n 0, 1) := dAX10_find (20, (.aload_n 0, 1)) (List.mem_of_getElem? (i := 12) rfl)
theorem dX10_find_21 : decode cX10_find 21 = .ok (.getfield 23, 3) := dAX10_find (21, (.getfield 23, 3)) (List.mem_of_getElem? (i := 13) rfl)
theorem dX10_find_24 : decode cX10_find 24 = .ok (.bipush 122, 2) := dAX10_find (24, (.bipush 122, 2)) (List.mem_of_getElem? (i := 14) rfl)
theorem dX10_find_26 : decode cX10_find 26 = .ok (.iload_n 1, 1) := dAX10_find (26, (.iload_n 1, 1)) (List.mem_of_getElem? (i := 15) rfl)
theorem dX10_find_27 : decode cX10_find 27 = .ok (.iadd, 1) := dAX10_find (27, (.iadd, 1)) (List.mem_of_getElem? (i := 16) rfl)
theorem dX10_find_28 : decode cX10_find 28 = .ok (.iaload, 1) := dAX10_find (28, (.iaload, 1)) (List.mem_of_getElem? (i := 17) rfl)
theorem dX10_find_29 : decode cX10_find 29 = .ok (.aload_n 0, 1) := dAX10_find (29, (.aload_n 0, 1)) (List.mem_of_getElem? (i := 18) rfl)
theorem dX10_find_30 : decode cX10_find 30 = .ok (.getfield 75, 3) := dAX10_find (30, (.getfield 75, 3)) (List.mem_of_getElem? (i := 19) rfl)
theorem dX10_find_33 : decode cX10_find 33 = .ok (.if_icmp .ne 7, 3) := dAX10_find (33, (.if_icmp .ne 7, 3)) (List.mem_of_getElem? (i := 20) rfl)
theorem dX10_find_36 : decode cX10_find 36 = .ok (.iconst 1, 1) := dAX10_find (36, (.iconst 1, 1)) (List.mem_of_getElem? (i := 21) rfl)
theorem dX10_find_37 : decode cX10_find 37 = .ok (.goto 4, 3) := dAX10_find (37, (.goto 4, 3)) (List.mem_of_getElem? (i := 22) rfl)
theorem dX10_find_40 : decode cX10_find 40 = .ok (.iconst 0, 1) := dAX10_find (40, (.iconst 0, 1)) (List.mem_of_getElem? (i := 23) rfl)
theorem dX10_find_41 : decode cX10_find 41 = .ok (.istore_n 2, 1) := dAX10_find (41, (.istore_n 2, 1)) (List.mem_of_getElem? (i := 24) rfl)
theorem dX10_find_42 : decode cX10_find 42 = .ok (.iconst 0, 1) := dAX10_find (42, (.iconst 0, 1)) (List.mem_of_getElem? (i := 25) rfl)
theorem dX10_find_43 : decode cX10_find 43 = .ok (.istore_n 3, 1) := dAX10_find (43, (.istore_n 3, 1)) (List.mem_of_getElem? (i := 26) rfl)
theorem dX10_find_44 : decode cX10_find 44 = .ok (.iload_n 3, 1) := dAX10_find (44, (.iload_n 3, 1)) (List.mem_of_getElem? (i := 27) rfl)
theorem dX10_find_45 : decode cX10_find 45 = .ok (.aload_n 0, 1) := dAX10_find (45, (.aload_n 0, 1)) (List.mem_of_getElem? (i := 28) rfl)
theorem dX10_find_46 : decode cX10_find 46 = .ok (.getfield 75, 3) := dAX10_find (46, (.getfield 75, 3)) (List.mem_of_getElem? (i := 29) rfl)
theorem dX10_find_49 : decode cX10_find 49 = .ok (.if_icmp .ge 43, 3) := dAX10_find (49, (.if_icmp .ge 43, 3)) (List.mem_of_getElem? (i := 30) rfl)
theorem dX10_find_52 : decode cX10_find 52 = .ok (.iload_n 2, 1) := dAX10_find (52, (.iload_n 2, 1)) (List.mem_of_getElem? (i := 31) rfl)
theorem dX10_find_53 : decode cX10_find 53 = .ok (.ifCond .eq 39, 3) := dAX10_find (53, (.ifCond .eq 39, 3)) (List.mem_of_getElem? (i := 32) rfl)
theorem dX10_find_56 : decode cX10_find 56 = .ok (.aload_n 0, 1) := dAX10_find (56, (.aload_n 0, 1)) (List.mem_of_getElem? (i := 33) rfl)
theorem dX10_find_57 : decode cX10_find 57 = .ok (.getfield 23, 3) := dAX10_find (57, (.getfield 23, 3)) (List.mem_of_getElem? (i := 34) rfl)
theorem dX10_find_60 : decode cX10_find 60 = .ok (.sipush 138, 3) := dAX10_find (60, (.sipush 138, 3)) (List.mem_of_getElem? (i := 35) rfl)
theorem dX10_find_63 : decode cX10_find 63 = .ok (.bipush 8, 2) := dAX10_find (63, (.bipush 8, 2)) (List.mem_of_getElem? (i := 36) rfl)
theorem dX10_find_65 : decode cX10_find 65 = .ok (.iload_n 1, 1) := dAX10_find (65, (.iload_n 1, 1)) (List.mem_of_getElem? (i := 37) rfl)
theorem dX10_find_66 : decode cX10_find 66 = .ok (.imul, 1) := dAX10_find (66, (.imul, 1)) (List.mem_of_getElem? (i := 38) rfl)
theorem dX10_find_67 : decode cX10_find 67 = .ok (.iadd, 1) := dAX10_find (67, (.iadd, 1)) (List.mem_of_getElem? (i := 39) rfl)
theorem dX10_find_68 : decode cX10_find 68 = .ok (.iload_n 3, 1) := dAX10_find (68, (.iload_n 3, 1)) (List.mem_of_getElem? (i := 40) rfl)
theorem dX10_find_69 : decode cX10_find 69 = .ok (.iadd, 1) := dAX10_find (69, (.iadd, 1)) (List.mem_of_getElem? (i := 41) rfl)
theorem dX10_find_70 : decode cX10_find 70 = .ok (.iaload, 1) := dAX10_find (70, (.iaload, 1)) (List.mem_of_getElem? (i := 42) rfl)
theorem dX10_find_71 : decode cX10_find 71 = .ok (.aload_n 0, 1) := dAX10_find (71, (.aload_n 0, 1)) (List.mem_of_getElem? (i := 43) rfl)
theorem dX10_find_72 : decode cX10_find 72 = .ok (.getfield 17, 3) := dAX10_find (72, (.getfield 17, 3)) (List.mem_of_getElem? (i := 44) rfl)
theorem dX10_find_75 : decode cX10_find 75 = .ok (.iload_n 3, 1) := dAX10_find (75, (.iload_n 3, 1)) (List.mem_of_getElem? (i := 45) rfl)
theorem dX10_find_76 : decode cX10_find 76 = .ok (.iaload, 1) := dAX10_find (76, (.iaload, 1)) (List.mem_of_getElem? (i := 46) rfl)
theorem dX10_find_77 : decode cX10_find 77 = .ok (.if_icmp .ne 7, 3) := dAX10_find (77, (.if_icmp .ne 7, 3)) (List.mem_of_getElem? (i := 47) rfl)
theorem dX10_find_80 : decode cX10_find 80 = .ok (.iconst 1, 1) := dAX10_find (80, (.iconst 1, 1)) (List.mem_of_getElem? (i := 48) rfl)
theorem dX10_find_81 : decode cX10_find 81 = .ok (.goto 4, 3) := dAX10_find (81, (.goto 4, 3)) (List.mem_of_getElem? (i := 49) rfl)
theorem dX10_find_84 : decode cX10_find 84 = .ok (.iconst 0, 1) := dAX10_find (84, (.iconst 0, 1)) (List.mem_of_getElem? (i := 50) rfl)
theorem dX10_find_85 : decode cX10_find 85 = .ok (.istore_n 2, 1) := dAX10_find (85, (.istore_n 2, 1)) (List.mem_of_getElem? (i := 51) rfl)
theorem dX10_find_86 : decode cX10_find 86 = .ok (.iinc 3 1, 3) := dAX10_find (86, (.iinc 3 1, 3)) (List.mem_of_getElem? (i := 52) rfl)
theorem dX10_find_89 : decode cX10_find 89 = .ok (.goto (-45), 3) := dAX10_find (89, (.goto (-45), 3)) (List.mem_of_getElem? (i := 53) rfl)
theorem dX10_find_92 : decode cX10_find 92 = .ok (.iload_n 2, 1) := dAX10_find (92, (.iload_n 2, 1)) (List.mem_of_getElem? (i := 54) rfl)
theorem dX10_find_93 : decode cX10_find 93 = .ok (.ifCond .eq 5, 3) := dAX10_find (93, (.ifCond .eq 5, 3)) (List.mem_of_getElem? (i := 55) rfl)
theorem dX10_find_96 : decode cX10_find 96 = .ok (.iload_n 1, 1) := dAX10_find (96, (.iload_n 1, 1)) (List.mem_of_getElem? (i := 56) rfl)
theorem dX10_find_97 : decode cX10_find 97 = .ok (.ireturn, 1) := dAX10_find (97, (.ireturn, 1)) (List.mem_of_getElem? (i := 57) rfl)
theorem dX10_find_98 : decode cX10_find 98 = .ok (.iinc 1 1, 3) := dAX10_find (98, (.iinc 1 1, 3)) (List.mem_of_getElem? (i := 58) rfl)
theorem dX10_find_101 : decode cX10_find 101 = .ok (.goto (-99), 3) := dAX10_find (101, (.goto (-99), 3)) (List.mem_of_getElem? (i := 59) rfl)
theorem dX10_find_104 : decode cX10_find 104 = .ok (.iconst (-1), 1) := dAX10_find (104, (.iconst (-1), 1)) (List.mem_of_getElem? (i := 60) rfl)
theorem dX10_find_105 : decode cX10_find 105 = .ok (.ireturn, 1) := dAX10_find (105, (.ireturn, 1)) (List.mem_of_getElem? (i := 61) rfl)
theorem kX10_find_23 : Cond.fieldLink RX10 23 "EveningVowModel" "fresh" "[I" ∈ wsX10_find := List.mem_of_getElem? (i := 1) rfl
theorem iX10_find_X10 : ∀ w ∈ u_ws RX10 TX10 35, w ∈ wsX10_find := fun w h => (List.mem_cons_of_mem _ (List.mem_append_right _ h))
theorem kX10_find_75 : Cond.fieldLink RX10 75 "EveningVowModel" "nameSize" "I" ∈ wsX10_find := List.mem_of_getElem? (i := 2) rfl
theorem kX10_find_17 : Cond.fieldLink RX10 17 "EveningVowModel" "letters" "[I" ∈ wsX10_find := List.mem_of_getElem? (i := 3) rfl
set_option maxHeartbeats 4000000 in
set_option maxRecDepth 100000 in
theorem wX10_find_L44 {p : Program} {l : Launch} {e : Env} {s : State} {m : MethodId} {args : Array Value} {below : List Frame} {meth : Method} {c : Code} {g : GG} {A : Nat → Prop} (C0 : Cx p s m args meth c cX10_find 4 (some .int) RX10 wsX10_find g A) (a_t : Nat) (p_t : Nat → Nat) (n : Nat) (x1 : Int32) (o_t : Nat → Int32) (f_t_12 : Nat → Int32) (f_t_16 : Nat → Int32)  (r : Int32) (K : Int32 → Option (Int32)) (hKx : ∀ (x2 : Int32) (H : Heap) (locs : List Loc) (ls : Array Slot), K x2 = some (r) → va_P g.1 vwCl [oX10 a_t p_t o_t, aI g (p_t 12) 8 f_t_12, aI g (p_t 16) 266 f_t_16] H → va_D A [oX10 a_t p_t o_t, aI g (p_t 12) 8 f_t_12, aI g (p_t 16) 266 f_t_16] → va_S A s.heap H locs → lv_has ls 4 [(0, .ref a_t), (1, .int x1), (2, .int x2)] → W p l e ({ frames := 0, cells := 0, slots := 0, locals := 0 } : Room) s m args below meth c H locs 0 0 (MQ below (EndI g r [oX10 a_t p_t o_t, aI g (p_t 12) 8 f_t_12, aI g (p_t 16) 266 f_t_16] A) args s 0 0 A) (F0 m 92 ls [])) : ∀ (k : Nat) (x2 : Int32) (x3 : Int32), fX10_find_L44 n x1 o_t f_t_12 f_t_16 K k x2 x3 = some (r) → ∀ (H : Heap) (locs : List Loc) (ls : Array Slot), va_P g.1 vwCl [oX10 a_t p_t o_t, aI g (p_t 12) 8 f_t_12, aI g (p_t 16) 266 f_t_16] H → va_D A [oX10 a_t p_t o_t, aI g (p_t 12) 8 f_t_12, aI g (p_t 16) 266 f_t_16] → va_S A s.heap H locs → lv_has ls 4 [(0, .ref a_t), (1, .int x1), (2, .int x2), (3, .int x3)] → W p l e ({ frames := 0, cells := 0, slots := 0, locals := 0 } : Room) s m args below meth c H locs 0 0 (MQ below (EndI g r [oX10 a_t p_t o_t, aI g (p_t 12) 8 f_t_12, aI g (p_t 16) 266 f_t_16] A) args s 0 0 A) (F0 m 44 ls []) := by
  obtain ⟨hx, hb, hml, hown, hts, hr, hlk, hK, hA, hSW⟩ := id C0
  intro k
  induction k with
  | zero =>
    intro x2 x3 hF
    exact absurd hF (by simp [fX10_find_L44])
  | succ k ih =>
    intro x2 x3 hF H locs ls hP hD hS hl
    rw [fX10_find_L44] at hF
    refine lv_iload_n hx hb dX10_find_44 rfl (lv_at hl 3 rfl) ?_
    refine lv_aload_n hx hb dX10_find_45 rfl (lv_at hl 0 rfl) ?_
    refine va_get (D := g.1) (ci := 10) (v := .int (o_t 8)) (C := RX10) (T := TX10) (N := 35) hx hb hts iX10_find_X10 hown hK.1 hP 0 rfl rfl 8 (by decide) (hts _ kX10_find_75) (fun _ h9 => h9) rfl dX10_find_46 ?_
    refine lv_icmp_ge (tgt := 92) hx hb dX10_find_49 (by decide) (fun c_4 => ?_) (fun c_4 => ?_)
    · have hF := it_p c_4 hF
      exact hKx x2 _ _ _ hF (hP.sub [0, 1, 2] rfl) (hD.sub [0, 1, 2] rfl rfl) hS (lv_sub hl [0, 1, 2] rfl)
    · have hF := it_n c_4 hF
      refine lv_iload_n hx hb dX10_find_52 rfl (lv_at hl 2 rfl) ?_
      refine lv_if_eq (tgt := 92) hx hb dX10_find_53 (by decide) (fun c_5 => ?_) (fun c_5 => ?_)
      · have hF := it_p c_5 hF
        exact hKx x2 _ _ _ hF (hP.sub [0, 1, 2] rfl) (hD.sub [0, 1, 2] rfl rfl) hS (lv_sub hl [0, 1, 2] rfl)
      · have hF := it_n c_5 hF
        refine lv_aload_n hx hb dX10_find_56 rfl (lv_at hl 0 rfl) ?_
        refine va_get (D := g.1) (ci := 10) (v := .ref (p_t 16)) (C := RX10) (T := TX10) (N := 35) hx hb hts iX10_find_X10 hown hK.1 hP 0 rfl rfl 16 (by decide) (hts _ kX10_find_23) (fun _ h9 => h9) rfl dX10_find_57 ?_
        refine lv_sipush (v := (138 : Int32)) hx hb dX10_find_60 (by decide) ?_
        refine lv_bipush (v := (8 : Int32)) hx hb dX10_find_63 (by decide) ?_
        refine lv_iload_n hx hb dX10_find_65 rfl (lv_at hl 1 rfl) ?_
        refine lv_imul hx hb dX10_find_66 ?_
        refine lv_iadd hx hb dX10_find_67 ?_
        refine lv_iload_n hx hb dX10_find_68 rfl (lv_at hl 3 rfl) ?_
        refine lv_iadd hx hb dX10_find_69 ?_
        obtain ⟨h_6, hF⟩ := it_ck hF
        refine va_iald hx hb hK.1 hP 2 0 rfl rfl h_6 dX10_find_70 ?_
        refine lv_aload_n hx hb dX10_find_71 rfl (lv_at hl 0 rfl) ?_
        refine va_get (D := g.1) (ci := 10) (v := .ref (p_t 12)) (C := RX10) (T := TX10) (N := 35) hx hb hts iX10_find_X10 hown hK.1 hP 0 rfl rfl 12 (by decide) (hts _ kX10_find_17) (fun _ h9 => h9) rfl dX10_find_72 ?_
        refine lv_iload_n hx hb dX10_find_75 rfl (lv_at hl 3 rfl) ?_
        obtain ⟨h_7, hF⟩ := it_ck hF
        refine va_iald hx hb hK.1 hP 1 0 rfl rfl h_7 dX10_find_76 ?_
        refine lv_icmp_ne (tgt := 84) hx hb dX10_find_77 (by decide) (fun c_8 => ?_) (fun c_8 => ?_)
        · have hF := it_n c_8 hF
          refine lv_iconst (v := (0 : Int32)) hx hb dX10_find_84 (by decide) ?_
          refine lv_istore_n (lv' := [(2, .int (0 : Int32)), (0, .ref a_t), (1, .int x1), (3, .int x3)]) hx hb dX10_find_85 rfl hl (by decide) rfl (fun ls hl => ?_)
          refine lv_iinc (v := (x3 + (1 : Int32))) (lv' := [(3, .int (x3 + (1 : Int32))), (2, .int (0 : Int32)), (0, .ref a_t), (1, .int x1)]) hx hb dX10_find_86 hl (k := 3) rfl rfl (by decide) rfl (fun ls hl => ?_)
          refine lv_goto (tgt := 44) hx hb dX10_find_89 (by decide) ?_
          exact ih (0 : Int32) (x3 + (1 : Int32)) hF _ _ _ (hP.sub [0, 1, 2] rfl) (hD.sub [0, 1, 2] rfl rfl) hS (lv_sub hl [2, 3, 1, 0] rfl)
        · have hF := it_p c_8 hF
          refine lv_iconst (v := (1 : Int32)) hx hb dX10_find_80 (by decide) ?_
          refine lv_goto (tgt := 85) hx hb dX10_find_81 (by decide) ?_
          refine lv_istore_n (lv' := [(2, .int (1 : Int32)), (0, .ref a_t), (1, .int x1), (3, .int x3)]) hx hb dX10_find_85 rfl hl (by decide) rfl (fun ls hl => ?_)
          refine lv_iinc (v := (x3 + (1 : Int32))) (lv' := [(3, .int (x3 + (1 : Int32))), (2, .int (1 : Int32)), (0, .ref a_t), (1, .int x1)]) hx hb dX10_find_86 hl (k := 3) rfl rfl (by decide) rfl (fun ls hl => ?_)
          refine lv_goto (tgt := 44) hx hb dX10_find_89 (by decide) ?_
          exact ih (1 : Int32) (x3 + (1 : Int32)) hF _ _ _ (hP.sub [0, 1, 2] rfl) (hD.sub [0, 1, 2] rfl rfl) hS (lv_sub hl [2, 3, 1, 0] rfl)
set_option maxHeartbeats 4000000 in
set_option maxRecDepth 100000 in
theorem wX10_find_L2 {p : Program} {l : Launch} {e : Env} {s : State} {m : MethodId} {args : Array Value} {below : List Frame} {meth : Method} {c : Code} {g : GG} {A : Nat → Prop} (C0 : Cx p s m args meth c cX10_find 4 (some .int) RX10 wsX10_find g A) (a_t : Nat) (p_t : Nat → Nat) (n : Nat) (o_t : Nat → Int32) (f_t_12 : Nat → Int32) (f_t_16 : Nat → Int32)  (r : Int32) (K : Unit → Option (Int32)) (hKx : ∀  (H : Heap) (locs : List Loc) (ls : Array Slot), K () = some (r) → va_P g.1 vwCl [oX10 a_t p_t o_t, aI g (p_t 12) 8 f_t_12, aI g (p_t 16) 266 f_t_16] H → va_D A [oX10 a_t p_t o_t, aI g (p_t 12) 8 f_t_12, aI g (p_t 16) 266 f_t_16] → va_S A s.heap H locs → lv_has ls 4 [] → W p l e ({ frames := 0, cells := 0, slots := 0, locals := 0 } : Room) s m args below meth c H locs 0 0 (MQ below (EndI g r [oX10 a_t p_t o_t, aI g (p_t 12) 8 f_t_12, aI g (p_t 16) 266 f_t_16] A) args s 0 0 A) (F0 m 104 ls [])) : ∀ (k : Nat) (x1 : Int32), fX10_find_L2 n o_t f_t_12 f_t_16 K k x1 = some (r) → ∀ (H : Heap) (locs : List Loc) (ls : Array Slot), va_P g.1 vwCl [oX10 a_t p_t o_t, aI g (p_t 12) 8 f_t_12, aI g (p_t 16) 266 f_t_16] H → va_D A [oX10 a_t p_t o_t, aI g (p_t 12) 8 f_t_12, aI g (p_t 16) 266 f_t_16] → va_S A s.heap H locs → lv_has ls 4 [(0, .ref a_t), (1, .int x1)] → W p l e ({ frames := 0, cells := 0, slots := 0, locals := 0 } : Room) s m args below meth c H locs 0 0 (MQ below (EndI g r [oX10 a_t p_t o_t, aI g (p_t 12) 8 f_t_12, aI g (p_t 16) 266 f_t_16] A) args s 0 0 A) (F0 m 2 ls []) := by
  obtain ⟨hx, hb, hml, hown, hts, hr, hlk, hK, hA, hSW⟩ := id C0
  intro k
  induction k with
  | zero =>
    intro x1 hF
    exact absurd hF (by simp [fX10_find_L2])
  | succ k ih =>
    intro x1 hF H locs ls hP hD hS hl
    rw [fX10_find_L2] at hF
    refine lv_iload_n hx hb dX10_find_2 rfl (lv_at hl 1 rfl) ?_
    refine lv_bipush (v := (16 : Int32)) hx hb dX10_find_3 (by decide) ?_
    refine lv_icmp_ge (tgt := 104) hx hb dX10_find_5 (by decide) (fun c_1 => ?_) (fun c_1 => ?_)
    · have hF := it_p c_1 hF
      exact hKx  _ _ _ hF (hP.sub [0, 1, 2] rfl) (hD.sub [0, 1, 2] rfl rfl) hS (lv_sub hl [] rfl)
    · have hF := it_n c_1 hF
      refine lv_aload_n hx hb dX10_find_8 rfl (lv_at hl 0 rfl) ?_
      refine va_get (D := g.1) (ci := 10) (v := .ref (p_t 16)) (C := RX10) (T := TX10) (N := 35) hx hb hts iX10_find_X10 hown hK.1 hP 0 rfl rfl 16 (by decide) (hts _ kX10_find_23) (fun _ h9 => h9) rfl dX10_find_9 ?_
      refine lv_bipush (v := (122 : Int32)) hx hb dX10_find_12 (by decide) ?_
      refine lv_iload_n hx hb dX10_find_14 rfl (lv_at hl 1 rfl) ?_
      refine lv_iadd hx hb dX10_find_15 ?_
      obtain ⟨h_2, hF⟩ := it_ck hF
      refine va_iald hx hb hK.1 hP 2 0 rfl rfl h_2 dX10_find_16 ?_
      refine lv_if_le (tgt := 40) hx hb dX10_find_17 (by decide) (fun c_3 => ?_) (fun c_3 => ?_)
      · have hF := it_p c_3 hF
        refine lv_iconst (v := (0 : Int32)) hx hb dX10_find_40 (by decide) ?_
        refine lv_istore_n (lv' := [(2, .int (0 : Int32)), (0, .ref a_t), (1, .int x1)]) hx hb dX10_find_41 rfl hl (by decide) rfl (fun ls hl => ?_)
        refine lv_iconst (v := (0 : Int32)) hx hb dX10_find_42 (by decide) ?_
        refine lv_istore_n (lv' := [(3, .int (0 : Int32)), (2, .int (0 : Int32)), (0, .ref a_t), (1, .int x1)]) hx hb dX10_find_43 rfl hl (by decide) rfl (fun ls hl => ?_)
        refine wX10_find_L44 C0 a_t p_t n x1 o_t f_t_12 f_t_16 r _ ?_ n (0 : Int32) (0 : Int32) hF _ _ _ (hP.sub [0, 1, 2] rfl) (hD.sub [0, 1, 2] rfl rfl) hS (lv_sub hl [2, 3, 1, 0] rfl)
        · intro x2_x44 H locs ls hF hP hD hS hl
          refine lv_iload_n hx hb dX10_find_92 rfl (lv_at hl 2 rfl) ?_
          refine lv_if_eq (tgt := 98) hx hb dX10_find_93 (by decide) (fun c_9 => ?_) (fun c_9 => ?_)
          · have hF := it_p c_9 hF
            refine lv_iinc (v := (x1 + (1 : Int32))) (lv' := [(1, .int (x1 + (1 : Int32))), (0, .ref a_t), (2, .int x2_x44)]) hx hb dX10_find_98 hl (k := 1) rfl rfl (by decide) rfl (fun ls hl => ?_)
            refine lv_goto (tgt := 2) hx hb dX10_find_101 (by decide) ?_
            exact ih (x1 + (1 : Int32)) hF _ _ _ (hP.sub [0, 1, 2] rfl) (hD.sub [0, 1, 2] rfl rfl) hS (lv_sub hl [1, 0] rfl)
          · have hF := it_n c_9 hF
            refine lv_iload_n hx hb dX10_find_96 rfl (lv_at hl 1 rfl) ?_
            cases hF
            exact ret_i C0 hP hD hS [0, 1, 2] rfl rfl rfl dX10_find_97 rfl
      · have hF := it_n c_3 hF
        refine lv_aload_n hx hb dX10_find_20 rfl (lv_at hl 0 rfl) ?_
        refine va_get (D := g.1) (ci := 10) (v := .ref (p_t 16)) (C := RX10) (T := TX10) (N := 35) hx hb hts iX10_find_X10 hown hK.1 hP 0 rfl rfl 16 (by decide) (hts _ kX10_find_23) (fun _ h9 => h9) rfl dX10_find_21 ?_
        refine lv_bipush (v := (122 : Int32)) hx hb dX10_find_24 (by decide) ?_
        refine lv_iload_n hx hb dX10_find_26 rfl (lv_at hl 1 rfl) ?_
        refine lv_iadd hx hb dX10_find_27 ?_
        obtain ⟨h_10, hF⟩ := it_ck hF
        refine va_iald hx hb hK.1 hP 2 0 rfl rfl h_10 dX10_find_28 ?_
        refine lv_aload_n hx hb dX10_find_29 rfl (lv_at hl 0 rfl) ?_
        refine va_get (D := g.1) (ci := 10) (v := .int (o_t 8)) (C := RX10) (T := TX10) (N := 35) hx hb hts iX10_find_X10 hown hK.1 hP 0 rfl rfl 8 (by decide) (hts _ kX10_find_75) (fun _ h9 => h9) rfl dX10_find_30 ?_
        refine lv_icmp_ne (tgt := 40) hx hb dX10_find_33 (by decide) (fun c_11 => ?_) (fun c_11 => ?_)
        · have hF := it_n c_11 hF
          refine lv_iconst (v := (0 : Int32)) hx hb dX10_find_40 (by decide) ?_
          refine lv_istore_n (lv' := [(2, .int (0 : Int32)), (0, .ref a_t), (1, .int x1)]) hx hb dX10_find_41 rfl hl (by decide) rfl (fun ls hl => ?_)
          refine lv_iconst (v := (0 : Int32)) hx hb dX10_find_42 (by decide) ?_
          refine lv_istore_n (lv' := [(3, .int (0 : Int32)), (2, .int (0 : Int32)), (0, .ref a_t), (1, .int x1)]) hx hb dX10_find_43 rfl hl (by decide) rfl (fun ls hl => ?_)
          refine wX10_find_L44 C0 a_t p_t n x1 o_t f_t_12 f_t_16 r _ ?_ n (0 : Int32) (0 : Int32) hF _ _ _ (hP.sub [0, 1, 2] rfl) (hD.sub [0, 1, 2] rfl rfl) hS (lv_sub hl [2, 3, 1, 0] rfl)
          · intro x2_x44 H locs ls hF hP hD hS hl
            refine lv_iload_n hx hb dX10_find_92 rfl (lv_at hl 2 rfl) ?_
            refine lv_if_eq (tgt := 98) hx hb dX10_find_93 (by decide) (fun c_12 => ?_) (fun c_12 => ?_)
            · have hF := it_p c_12 hF
              refine lv_iinc (v := (x1 + (1 : Int32))) (lv' := [(1, .int (x1 + (1 : Int32))), (0, .ref a_t), (2, .int x2_x44)]) hx hb dX10_find_98 hl (k := 1) rfl rfl (by decide) rfl (fun ls hl => ?_)
              refine lv_goto (tgt := 2) hx hb dX10_find_101 (by decide) ?_
              exact ih (x1 + (1 : Int32)) hF _ _ _ (hP.sub [0, 1, 2] rfl) (hD.sub [0, 1, 2] rfl rfl) hS (lv_sub hl [1, 0] rfl)
            · have hF := it_n c_12 hF
              refine lv_iload_n hx hb dX10_find_96 rfl (lv_at hl 1 rfl) ?_
              cases hF
              exact ret_i C0 hP hD hS [0, 1, 2] rfl rfl rfl dX10_find_97 rfl
        · have hF := it_p c_11 hF
          refine lv_iconst (v := (1 : Int32)) hx hb dX10_find_36 (by decide) ?_
          refine lv_goto (tgt := 41) hx hb dX10_find_37 (by decide) ?_
          refine lv_istore_n (lv' := [(2, .int (1 : Int32)), (0, .ref a_t), (1, .int x1)]) hx hb dX10_find_41 rfl hl (by decide) rfl (fun ls hl => ?_)
          refine lv_iconst (v := (0 : Int32)) hx hb dX10_find_42 (by decide) ?_
          refine lv_istore_n (lv' := [(3, .int (0 : Int32)), (2, .int (1 : Int32)), (0, .ref a_t), (1, .int x1)]) hx hb dX10_find_43 rfl hl (by decide) rfl (fun ls hl => ?_)
          refine wX10_find_L44 C0 a_t p_t n x1 o_t f_t_12 f_t_16 r _ ?_ n (1 : Int32) (0 : Int32) hF _ _ _ (hP.sub [0, 1, 2] rfl) (hD.sub [0, 1, 2] rfl rfl) hS (lv_sub hl [2, 3, 1, 0] rfl)
          · intro x2_x44 H locs ls hF hP hD hS hl
            refine lv_iload_n hx hb dX10_find_92 rfl (lv_at hl 2 rfl) ?_
            refine lv_if_eq (tgt := 98) hx hb dX10_find_93 (by decide) (fun c_13 => ?_) (fun c_13 => ?_)
            · have hF := it_p c_13 hF
              refine lv_iinc (v := (x1 + (1 : Int32))) (lv' := [(1, .int (x1 + (1 : Int32))), (0, .ref a_t), (2, .int x2_x44)]) hx hb dX10_find_98 hl (k := 1) rfl rfl (by decide) rfl (fun ls hl => ?_)
              refine lv_goto (tgt := 2) hx hb dX10_find_101 (by decide) ?_
              exact ih (x1 + (1 : Int32)) hF _ _ _ (hP.sub [0, 1, 2] rfl) (hD.sub [0, 1, 2] rfl rfl) hS (lv_sub hl [1, 0] rfl)
            · have hF := it_n c_13 hF
              refine lv_iload_n hx hb dX10_find_96 rfl (lv_at hl 1 rfl) ?_
              cases hF
              exact ret_i C0 hP hD hS [0, 1, 2] rfl rfl rfl dX10_find_97 rfl
set_option maxHeartbeats 4000000 in
set_option maxRecDepth 100000 in
theorem mX10_find (l : Launch) (g : GG) (a_t : Nat) (p_t : Nat → Nat) (n : Nat) (o_t : Nat → Int32) (f_t_12 : Nat → Int32) (f_t_16 : Nat → Int32) (r : Int32) (hF : fX10_find n o_t f_t_12 f_t_16 = some (r)) : MI l g yX10_find wsX10_find ({ frames := 0, cells := 0, slots := 0, locals := 0 } : Room) [.ref a_t] [oX10 a_t p_t o_t, aI g (p_t 12) 8 f_t_12, aI g (p_t 16) 266 f_t_16] r [oX10 a_t p_t o_t, aI g (p_t 12) 8 f_t_12, aI g (p_t 16) 266 f_t_16] := by
  refine MI.of (cc := cX10_find) (maxL := 4) (rt := .int) (own := RX10) rfl rfl (by decide) (Nat.le_of_ble_eq_true rfl) ?_
  intro p e s m args below meth c A C0 hP hD hS ls hl
  obtain ⟨hx, hb, hml, hown, hts, hr, hlk, hK, hA, hSW⟩ := id C0
  have hl : lv_has ls 4 [(0, .ref a_t)] := hl
  rw [fX10_find] at hF
  refine lv_iconst (v := (0 : Int32)) hx hb dX10_find_0 (by decide) ?_
  refine lv_istore_n (lv' := [(1, .int (0 : Int32)), (0, .ref a_t)]) hx hb dX10_find_1 rfl hl (by decide) rfl (fun ls hl => ?_)
  refine wX10_find_L2 C0 a_t p_t n o_t f_t_12 f_t_16 r _ ?_ n (0 : Int32) hF _ _ _ (hP.sub [0, 1, 2] rfl) (hD.sub [0, 1, 2] rfl rfl) hS (lv_sub hl [1, 0] rfl)
  · intro  H locs ls hF hP hD hS hl
    refine lv_iconst (v := (-1 : Int32)) hx hb dX10_find_104 (by decide) ?_
    cases hF
    exact ret_i C0 hP hD hS [0, 1, 2] rfl rfl rfl dX10_find_105 rfl

theorem dAX10_newName : ∀ q ∈ ([(0, (.aload_n 0, 1)), (1, (.getfield 91, 3)), (4, (.ifCond .eq 4, 3)), (7, (.return_, 1)), (8, (.aload_n 0, 1)), (9, (.invokevirtual 138, 3)), (12, (.aload_n 0, 1)), (13, (.getfield 91, 3)), (16, (.ifCond .ne 19, 3)), (19, (.aload_n 0, 1)), (20, (.invokevirtual 141, 3)), (23, (.ifCond .lt 12, 3)), (26, (.aload_n 0, 1)), (27, (.iconst 3, 1)), (28, (.aload_n 0, 1)), (29, (.getfield 72, 3)), (32, (.invokevirtual 118, 3)), (35, (.aload_n 0, 1)), (36, (.getfield 91, 3)), (39, (.ifCond .eq 4, 3)), (42, (.return_, 1)), (43, (.iconst 0, 1)), (44, (.istore_n 2, 1)), (45, (.iload_n 2, 1)), (46, (.aload_n 0, 1)), (47, (.getfield 75, 3)), (50, (.if_icmp .ge 30, 3)), (53, (.aload_n 0, 1)), (54, (.getfield 23, 3)), (57, (.sipush 138, 3)), (60, (.bipush 8, 2)), (62, (.iload_n 1, 1)), (63, (.imul, 1)), (64, (.iadd, 1)), (65, (.iload_n 2, 1)), (66, (.iadd, 1)), (67, (.aload_n 0, 1)), (68, (.getfield 17, 3)), (71, (.iload_n 2, 1)), (72, (.iaload, 1)), (73, (.iastore, 1)), (74, (.iinc 2 1, 3)), (77, (.goto (-32), 3)), (80, (.aload_n 0, 1)), (81, (.getfield 23, 3)), (84, (.bipush 122, 2)), (86, (.iload_n 1, 1)), (87, (.iadd, 1)), (88, (.aload_n 0, 1)), (89, (.getfield 75, 3)), (92, (.iastore, 1)), (93, (.aload_n 0, 1)), (94, (.invokevirtual 112, 3)), (97, (.return_, 1))] : List (Nat × (Instr × Nat))), decode cX10_newName q.1 = .ok q.2 := by decide +kernel
theorem dX10_newName_0 : decode cX10_newName 0 = .ok (.aload_n 0, 1) := dAX10_newName (0, (.aload_n 0, 1)) (List.mem_of_getElem? (i := 0) rfl)
theorem dX10_newName_1 : decode cX10_newName 1 = .ok (.getfield 91, 3) := dAX10_newName (1, (.getfield 91, 3)) (List.mem_of_getElem? (i := 1) rfl)
theorem dX10_newName_4 : decode cX10_newName 4 = .ok (.ifCond .eq 4, 3) := dAX10_newName (4, (.ifCond .eq 4, 3)) (List.mem_of_getElem? (i := 2) rfl)
theorem dX10_newName_7 : decode cX10_newName 7 = .ok (.return_, 1) := dAX10_newName (7, (.return_, 1)) (List.mem_of_getElem? (i := 3) rfl)
theorem dX10_newName_8 : decode cX10_newName 8 = .ok (.aload_n 0, 1) := dAX10_newName (8, (.aload_n 0, 1)) (List.mem_of_getElem? (i := 4) rfl)
theorem dX10_newName_9 : decode cX10_newName 9 = .ok (.invokevirtual 138, 3) := dAX10_newName (9, (.invokevirtual 138, 3)) (List.mem_of_getElem? (i := 5) rfl)
theorem dX10_newName_12 : decode cX10_newName 12 = .ok (.aload_n 0, 1) := dAX10_newName (12, (.aload_n 0, 1)) (List.mem_of_getElem? (i := 6) rfl)
theorem dX10_newName_13 : decode cX10_newName 13 = .ok (.getfield 91, 3) := dAX10_newName (13, (.getfield 91, 3)) (List.mem_of_getElem? (i := 7) rfl)
theorem dX10_newName_16 : decode cX10_newName 16 = .ok (.ifCond .ne 19, 3) := dAX10_newName (16, (.ifCond .ne 19, 3)) (List.mem_of_getElem? (i := 8) rfl)
theorem dX10_newName_19 : decode cX10_newName 19 = .ok (.aload_n 0, 1) := dAX10_newName (19, (.aload_n 0, 1)) (List.mem_of_getElem? (i := 9) rfl)
theorem dX10_newName_20 : decode cX10_newName 20 = .ok (.invokevirtual 141, 3) := dAX10_newName (20, (.invokevirtual 141, 3)) (List.mem_of_getElem? (i := 10) rfl)
theorem dX10_newName_23 : decode cX10_newName 23 = .ok (.ifCond .lt 12, 3) := dAX10_newName (23, (.ifCond .lt 12, 3)) (List.mem_of_getElem? (i := 11) rfl)
theorem dX10_newName_26 : decode cX10_newName 26 = .ok (.aload_n 0, 1) := dAX10_newName (26, (.aload_n 0, 1)) (List.mem_of_getElem? (i := 12) rfl)
theorem dX10_newName_27 : decode cX10_newName 27 = .ok (.iconst 3, 1) := dAX10_newName (27, (.iconst 3, 1)) (List.mem_of_getElem? (i := 13) rfl)
theorem dX10_newName_28 : decode cX10_newName 28 = .ok (.aload_n 0, 1) := dAX10_newName (28, (.aload_n 0, 1)) (List.mem_of_getElem? (i := 14) rfl)
theorem dX10_newName_29 : decode cX10_newName 29 = .ok (.getfield 72, 3) := dAX10_newName (29, (.getfield 72, 3)) (List.mem_of_getElem? (i := 15) rfl)
theorem dX10_newName_32 : decode cX10_newName 32 = .ok (.invokevirtual 118, 3) := dAX10_newName (32, (.invokevirtual 118, 3)) (List.mem_of_getElem? (i := 16) rfl)
theorem dX10_newName_35 : decode cX10_newName 35 = .ok (.aload_n 0, 1) := dAX10_newName (35, (.aload_n 0, 1)) (List.mem_of_getElem? (i := 17) rfl)
theorem dX10_newName_36 : decode cX10_newName 36 = .ok (.getfield 91, 3) := dAX10_newName (36, (.getfield 91, 3)) (List.mem_of_getElem? (i := 18) rfl)
theorem dX10_newName_39 : decode cX10_newName 39 = .ok (.ifCond .eq 4, 3) := dAX10_newName (39, (.ifCond .eq 4, 3)) (List.mem_of_getElem? (i := 19) rfl)
theorem dX10_newName_42 : decode cX10_newName 42 = .ok (.return_, 1) := dAX10_newName (42, (.return_, 1)) (List.mem_of_getElem? (i := 20) rfl)
theorem dX10_newName_43 : decode cX10_newName 43 = .ok (.iconst 0, 1) := dAX10_newName (43, (.iconst 0, 1)) (List.mem_of_getElem? (i := 21) rfl)
theorem dX10_newName_44 : decode cX10_newName 44 = .ok (.istore_n 2, 1) := dAX10_newName (44, (.istore_n 2, 1)) (List.mem_of_getElem? (i := 22) rfl)
theorem dX10_newName_45 : decode cX10_newName 45 = .ok (.iload_n 2, 1) := dAX10_newName (45, (.iload_n 2, 1)) (List.mem_of_getElem? (i := 23) rfl)
theorem dX10_newName_46 : decode cX10_newName 46 = .ok (.aload_n 0, 1) := dAX10_newName (46, (.aload_n 0, 1)) (List.mem_of_getElem? (i := 24) rfl)
theorem dX10_newName_47 : decode cX10_newName 47 = .ok (.getfield 75, 3) := dAX10_newName (47, (.getfield 75, 3)) (List.mem_of_getElem? (i := 25) rfl)
theorem dX10_newName_50 : decode cX10_newName 50 = .ok (.if_icmp .ge 30, 3) := dAX10_newName (50, (.if_icmp .ge 30, 3)) (List.mem_of_getElem? (i := 26) rfl)
theorem dX10_newName_53 : decode cX10_newName 53 = .ok (.aload_n 0, 1) := dAX10_newName (53, (.aload_n 0, 1)) (List.mem_of_getElem? (i := 27) rfl)
theorem dX10_newName_54 : decode cX10_newName 54 = .ok (.getfield 23, 3) := dAX10_newName (54, (.getfield 23, 3)) (List.mem_of_getElem? (i := 28) rfl)
theorem dX10_newName_57 : decode cX10_newName 57 = .ok (.sipush 138, 3) := dAX10_newName (57, (.sipush 138, 3)) (List.mem_of_getElem? (i := 29) rfl)
theorem dX10_newName_60 : decode cX10_newName 60 = .ok (.bipush 8, 2) := dAX10_newName (60, (.bipush 8, 2)) (List.mem_of_getElem? (i := 30) rfl)
theorem dX10_newName_62 : decode cX10_newName 62 = .ok (.iload_n 1, 1) := dAX10_newName (62, (.iload_n 1, 1)) (List.mem_of_getElem? (i := 31) rfl)
theorem dX10_newName_63 : decode cX10_newName 63 = .ok (.imul, 1) := dAX10_newName (63, (.imul, 1)) (List.mem_of_getElem? (i := 32) rfl)
theorem dX10_newName_64 : decode cX10_newName 64 = .ok (.iadd, 1) := dAX10_newName (64, (.iadd, 1)) (List.mem_of_getElem? (i := 33) rfl)
theorem dX10_newName_65 : decode cX10_newName 65 = .ok (.iload_n 2, 1) := dAX10_newName (65, (.iload_n 2, 1)) (List.mem_of_getElem? (i := 34) rfl)
theorem dX10_newName_66 : decode cX10_newName 66 = .ok (.iadd, 1) := dAX10_newName (66, (.iadd, 1)) (List.mem_of_getElem? (i := 35) rfl)
theorem dX10_newName_67 : decode cX10_newName 67 = .ok (.aload_n 0, 1) := dAX10_newName (67, (.aload_n 0, 1)) (List.mem_of_getElem? (i := 36) rfl)
theorem dX10_newName_68 : decode cX10_newName 68 = .ok (.getfield 17, 3) := dAX10_newName (68, (.getfield 17, 3)) (List.mem_of_getElem? (i := 37) rfl)
theorem dX10_newName_71 : decode cX10_newName 71 = .ok (.iload_n 2, 1) := dAX10_newName (71, (.iload_n 2, 1)) (List.mem_of_getElem? (i := 38) rfl)
theorem dX10_newName_72 : decode cX10_newName 72 = .ok (.iaload, 1) := dAX10_newName (72, (.iaload, 1)) (List.mem_of_getElem? (i := 39) rfl)
theorem dX10_newName_73 : decode cX10_newName 73 = .ok (.iastore, 1) := dAX10_newName (73, (.iastore, 1)) (List.mem_of_getElem? (i := 40) rfl)
theorem dX10_newName_74 : decode cX10_newName 74 = .ok (.iinc 2 1, 3) := dAX10_newName (74, (.iinc 2 1, 3)) (List.mem_of_getElem? (i := 41) rfl)
theorem dX10_newName_77 : decode cX10_newName 77 = .ok (.goto (-32), 3) := dAX10_newName (77, (.goto (-32), 3)) (List.mem_of_getElem? (i := 42) rfl)
theorem dX10_newName_80 : decode cX10_newName 80 = .ok (.aload_n 0, 1) := dAX10_newName (80, (.aload_n 0, 1)) (List.mem_of_getElem? (i := 43) rfl)
theorem dX10_newName_81 : decode cX10_newName 81 = .ok (.getfield 23, 3) := dAX10_newName (81, (.getfield 23, 3)) (List.mem_of_getElem? (i := 44) rfl)
theorem dX10_newName_84 : decode cX10_newName 84 = .ok (.bipush 122, 2) := dAX10_newName (84, (.bipush 122, 2)) (List.mem_of_getElem? (i := 45) rfl)
theorem dX10_newName_86 : decode cX10_newName 86 = .ok (.iload_n 1, 1) := dAX10_newName (86, (.iload_n 1, 1)) (List.mem_of_getElem? (i := 46) rfl)
theorem dX10_newName_87 : decode cX10_newName 87 = .ok (.iadd, 1) := dAX10_newName (87, (.iadd, 1)) (List.mem_of_getElem? (i := 47) rfl)
theorem dX10_newName_88 : decode cX10_newName 88 = .ok (.aload_n 0, 1) := dAX10_newName (88, (.aload_n 0, 1)) (List.mem_of_getElem? (i := 48) rfl)
theorem dX10_newName_89 : decode cX10_newName 89 = .ok (.getfield 75, 3) := dAX10_newName (89, (.getfield 75, 3)) (List.mem_of_getElem? (i := 49) rfl)
theorem dX10_newName_92 : decode cX10_newName 92 = .ok (.iastore, 1) := dAX10_newName (92, (.iastore, 1)) (List.mem_of_getElem? (i := 50) rfl)
theorem dX10_newName_93 : decode cX10_newName 93 = .ok (.aload_n 0, 1) := dAX10_newName (93, (.aload_n 0, 1)) (List.mem_of_getElem? (i := 51) rfl)
theorem dX10_newName_94 : decode cX10_newName 94 = .ok (.invokevirtual 112, 3) := dAX10_newName (94, (.invokevirtual 112, 3)) (List.mem_of_getElem? (i := 52) rfl)
theorem dX10_newName_97 : decode cX10_newName 97 = .ok (.return_, 1) := dAX10_newName (97, (.return_, 1)) (List.mem_of_getElem? (i := 53) rfl)
set_option maxRecDepth 20000 in
theorem ggX10_newName_X10_mustName : GoodIn wsX10_newName wsX10_mustName := goodIn_r _ [10, 11, 2, 12, 13, 14, 9, 15, 1, 3, 5, 16, 17, 18, 19, 20, 21, 22, 23, 24, 25, 26, 27, 28, 29, 30, 31, 32, 33, 34, 35, 36, 37, 38, 39, 40, 41, 42, 43, 44, 45, 46, 47, 48, 49, 50, 51, 52, 53, 54, 55, 56, 57, 58, 59, 60, 61, 62, 63, 64, 65, 66, 67, 68, 69, 70, 93, 94, 95, 96, 97, 98, 99, 100, 101, 102, 103, 104, 105, 106, 107, 108, 109, 110, 111, 112, 113, 114, 115, 116, 117, 118, 119, 120, 121, 122, 123, 124, 125, 126, 127] rfl (by decide +kernel)
set_option maxRecDepth 20000 in
theorem gX10_newName_X10_mustName : GoodIn wsX10_newName (wsV RX10 138 RX10 yX10_mustName wsX10_mustName) := goodIn_app (goodIn_of _ (by decide +kernel)) ggX10_newName_X10_mustName
set_option maxRecDepth 20000 in
theorem ggX10_newName_X10_find : GoodIn wsX10_newName wsX10_find := goodIn_r _ [74, 4, 3, 5, 93, 94, 95, 96, 97, 98, 99, 100, 101, 102, 103, 104, 105, 106, 107, 108, 109, 110, 111, 112, 113, 114, 115, 116, 117, 118, 119, 120, 121, 122, 123, 124, 125, 126, 127] rfl (by decide +kernel)
set_option maxRecDepth 20000 in
theorem gX10_newName_X10_find : GoodIn wsX10_newName (wsV RX10 141 RX10 yX10_find wsX10_find) := goodIn_app (goodIn_of _ (by decide +kernel)) ggX10_newName_X10_find
set_option maxRecDepth 20000 in
theorem ggX10_newName_X10_wrong : GoodIn wsX10_newName wsX10_wrong := goodIn_r _ [68, 1, 69, 70, 93, 94, 95, 96, 97, 98, 99, 100, 101, 102, 103, 104, 105, 106, 107, 108, 109, 110, 111, 112, 113, 114, 115, 116, 117, 118, 119, 120, 121, 122, 123, 124, 125, 126, 127] rfl (by decide +kernel)
set_option maxRecDepth 20000 in
theorem gX10_newName_X10_wrong : GoodIn wsX10_newName (wsV RX10 118 RX10 yX10_wrong wsX10_wrong) := goodIn_app (goodIn_of _ (by decide +kernel)) ggX10_newName_X10_wrong
set_option maxRecDepth 20000 in
theorem ggX10_newName_X10_next : GoodIn wsX10_newName wsX10_next := goodIn_r _ [78, 79, 2, 3, 80, 11, 5, 81, 82, 83, 9, 84, 85, 86, 87, 88, 89, 90, 91, 92, 93, 94, 95, 96, 97, 98, 99, 100, 101, 102, 103, 104, 105, 106, 107, 108, 109, 110, 111, 112, 113, 114, 115, 116, 117, 118, 119, 120, 121, 122, 123, 124, 125, 126, 127] rfl (by decide +kernel)
set_option maxRecDepth 20000 in
theorem gX10_newName_X10_next : GoodIn wsX10_newName (wsV RX10 112 RX10 yX10_next wsX10_next) := goodIn_app (goodIn_of _ (by decide +kernel)) ggX10_newName_X10_next
theorem kX10_newName_91 : Cond.fieldLink RX10 91 "EveningVowModel" "failed" "Z" ∈ wsX10_newName := List.mem_of_getElem? (i := 1) rfl
theorem iX10_newName_X10 : ∀ w ∈ u_ws RX10 TX10 35, w ∈ wsX10_newName := fun w h => (List.mem_cons_of_mem _ (List.mem_append_right _ h))
theorem kX10_newName_75 : Cond.fieldLink RX10 75 "EveningVowModel" "nameSize" "I" ∈ wsX10_newName := List.mem_of_getElem? (i := 3) rfl
theorem kX10_newName_23 : Cond.fieldLink RX10 23 "EveningVowModel" "fresh" "[I" ∈ wsX10_newName := List.mem_of_getElem? (i := 4) rfl
theorem kX10_newName_17 : Cond.fieldLink RX10 17 "EveningVowModel" "letters" "[I" ∈ wsX10_newName := List.mem_of_getElem? (i := 5) rfl
theorem kX10_newName_72 : Cond.fieldLink RX10 72 "EveningVowModel" "at" "I" ∈ wsX10_newName := List.mem_of_getElem? (i := 2) rfl
set_option maxHeartbeats 4000000 in
set_option maxRecDepth 100000 in
theorem wX10_newName_L45 {p : Program} {l : Launch} {e : Env} {s : State} {m : MethodId} {args : Array Value} {below : List Frame} {meth : Method} {c : Code} {g : GG} {A : Nat → Prop} (C0 : Cx p s m args meth c cX10_newName 3 none RX10 wsX10_newName g A) (a_t : Nat) (p_t : Nat → Nat) (n : Nat) (x1 : Int32) (o_t : Nat → Int32) (f_t_12 : Nat → Int32) (f_t_1 : Nat → Int32) (o_t' : Nat → Int32) (f_t_12' : Nat → Int32) (f_t_16' : Nat → Int32) (K : (Nat → Int32) → Option ((Nat → Int32) × (Nat → Int32) × (Nat → Int32))) (hKx : ∀ (f_t_16 : Nat → Int32) (H : Heap) (locs : List Loc) (ls : Array Slot), K f_t_16 = some (o_t', f_t_12', f_t_16') → va_P g.1 vwCl [oX10 a_t p_t o_t, aI g (p_t 1) 800 f_t_1, aI g (p_t 12) 8 f_t_12, aI g (p_t 16) 266 f_t_16] H → va_D A [oX10 a_t p_t o_t, aI g (p_t 1) 800 f_t_1, aI g (p_t 12) 8 f_t_12, aI g (p_t 16) 266 f_t_16] → va_S A s.heap H locs → lv_has ls 3 [(0, .ref a_t), (1, .int x1)] → W p l e ({ frames := 6, cells := 0, slots := 0, locals := 133 } : Room) s m args below meth c H locs 0 0 (MQ below (EndV g [oX10 a_t p_t o_t', aI g (p_t 1) 800 f_t_1, aI g (p_t 12) 8 f_t_12', aI g (p_t 16) 266 f_t_16'] A) args s 0 0 A) (F0 m 80 ls [])) : ∀ (k : Nat) (x2 : Int32) (f_t_16 : Nat → Int32), fX10_newName_L45 n x1 o_t f_t_12 K k x2 f_t_16 = some (o_t', f_t_12', f_t_16') → ∀ (H : Heap) (locs : List Loc) (ls : Array Slot), va_P g.1 vwCl [oX10 a_t p_t o_t, aI g (p_t 1) 800 f_t_1, aI g (p_t 12) 8 f_t_12, aI g (p_t 16) 266 f_t_16] H → va_D A [oX10 a_t p_t o_t, aI g (p_t 1) 800 f_t_1, aI g (p_t 12) 8 f_t_12, aI g (p_t 16) 266 f_t_16] → va_S A s.heap H locs → lv_has ls 3 [(0, .ref a_t), (1, .int x1), (2, .int x2)] → W p l e ({ frames := 6, cells := 0, slots := 0, locals := 133 } : Room) s m args below meth c H locs 0 0 (MQ below (EndV g [oX10 a_t p_t o_t', aI g (p_t 1) 800 f_t_1, aI g (p_t 12) 8 f_t_12', aI g (p_t 16) 266 f_t_16'] A) args s 0 0 A) (F0 m 45 ls []) := by
  obtain ⟨hx, hb, hml, hown, hts, hr, hlk, hK, hA, hSW⟩ := id C0
  intro k
  induction k with
  | zero =>
    intro x2 f_t_16 hF
    exact absurd hF (by simp [fX10_newName_L45])
  | succ k ih =>
    intro x2 f_t_16 hF H locs ls hP hD hS hl
    rw [fX10_newName_L45] at hF
    refine lv_iload_n hx hb dX10_newName_45 rfl (lv_at hl 2 rfl) ?_
    refine lv_aload_n hx hb dX10_newName_46 rfl (lv_at hl 0 rfl) ?_
    refine va_get (D := g.1) (ci := 10) (v := .int (o_t 8)) (C := RX10) (T := TX10) (N := 35) hx hb hts iX10_newName_X10 hown hK.1 hP 0 rfl rfl 8 (by decide) (hts _ kX10_newName_75) (fun _ h9 => h9) rfl dX10_newName_47 ?_
    refine lv_icmp_ge (tgt := 80) hx hb dX10_newName_50 (by decide) (fun c_6 => ?_) (fun c_6 => ?_)
    · have hF := it_p c_6 hF
      exact hKx f_t_16 _ _ _ hF (hP.sub [0, 1, 2, 3] rfl) (hD.sub [0, 1, 2, 3] rfl rfl) hS (lv_sub hl [0, 1] rfl)
    · have hF := it_n c_6 hF
      refine lv_aload_n hx hb dX10_newName_53 rfl (lv_at hl 0 rfl) ?_
      refine va_get (D := g.1) (ci := 10) (v := .ref (p_t 16)) (C := RX10) (T := TX10) (N := 35) hx hb hts iX10_newName_X10 hown hK.1 hP 0 rfl rfl 16 (by decide) (hts _ kX10_newName_23) (fun _ h9 => h9) rfl dX10_newName_54 ?_
      refine lv_sipush (v := (138 : Int32)) hx hb dX10_newName_57 (by decide) ?_
      refine lv_bipush (v := (8 : Int32)) hx hb dX10_newName_60 (by decide) ?_
      refine lv_iload_n hx hb dX10_newName_62 rfl (lv_at hl 1 rfl) ?_
      refine lv_imul hx hb dX10_newName_63 ?_
      refine lv_iadd hx hb dX10_newName_64 ?_
      refine lv_iload_n hx hb dX10_newName_65 rfl (lv_at hl 2 rfl) ?_
      refine lv_iadd hx hb dX10_newName_66 ?_
      refine lv_aload_n hx hb dX10_newName_67 rfl (lv_at hl 0 rfl) ?_
      refine va_get (D := g.1) (ci := 10) (v := .ref (p_t 12)) (C := RX10) (T := TX10) (N := 35) hx hb hts iX10_newName_X10 hown hK.1 hP 0 rfl rfl 12 (by decide) (hts _ kX10_newName_17) (fun _ h9 => h9) rfl dX10_newName_68 ?_
      refine lv_iload_n hx hb dX10_newName_71 rfl (lv_at hl 2 rfl) ?_
      obtain ⟨h_7, hF⟩ := it_ck hF
      refine va_iald hx hb hK.1 hP 2 0 rfl rfl h_7 dX10_newName_72 ?_
      obtain ⟨h_8, hF⟩ := it_ck hF
      refine va_iast hx hb hK.1 hP hD hS 3 0 rfl rfl h_8 dX10_newName_73 (fun H locs hP hD hS => ?_)
      have hP : va_P g.1 vwCl [oX10 a_t p_t o_t, aI g (p_t 1) 800 f_t_1, aI g (p_t 12) 8 f_t_12, aI g (p_t 16) 266 (upd f_t_16 ((((138 : Int32) + ((8 : Int32) * x1)) + x2)).toNatClampNeg (f_t_12 (x2).toNatClampNeg))] H := hP
      have hD : va_D A [oX10 a_t p_t o_t, aI g (p_t 1) 800 f_t_1, aI g (p_t 12) 8 f_t_12, aI g (p_t 16) 266 (upd f_t_16 ((((138 : Int32) + ((8 : Int32) * x1)) + x2)).toNatClampNeg (f_t_12 (x2).toNatClampNeg))] := hD
      refine lv_iinc (v := (x2 + (1 : Int32))) (lv' := [(2, .int (x2 + (1 : Int32))), (0, .ref a_t), (1, .int x1)]) hx hb dX10_newName_74 hl (k := 2) rfl rfl (by decide) rfl (fun ls hl => ?_)
      refine lv_goto (tgt := 45) hx hb dX10_newName_77 (by decide) ?_
      exact ih (x2 + (1 : Int32)) (upd f_t_16 ((((138 : Int32) + ((8 : Int32) * x1)) + x2)).toNatClampNeg (f_t_12 (x2).toNatClampNeg)) hF _ _ _ (hP.sub [0, 1, 2, 3] rfl) (hD.sub [0, 1, 2, 3] rfl rfl) hS (lv_sub hl [1, 2, 0] rfl)
set_option maxHeartbeats 4000000 in
set_option maxRecDepth 100000 in
theorem mX10_newName (l : Launch) (g : GG) (a_t : Nat) (p_t : Nat → Nat) (n : Nat) (x1 : Int32) (o_t : Nat → Int32) (f_t_1 : Nat → Int32) (f_t_12 : Nat → Int32) (f_t_16 : Nat → Int32) (o_t' : Nat → Int32) (f_t_12' : Nat → Int32) (f_t_16' : Nat → Int32) (hF : fX10_newName n x1 o_t f_t_1 f_t_12 f_t_16 = some (o_t', f_t_12', f_t_16')) : MV l g yX10_newName wsX10_newName ({ frames := 6, cells := 0, slots := 0, locals := 133 } : Room) [.ref a_t, .int x1] [oX10 a_t p_t o_t, aI g (p_t 1) 800 f_t_1, aI g (p_t 12) 8 f_t_12, aI g (p_t 16) 266 f_t_16] [oX10 a_t p_t o_t', aI g (p_t 1) 800 f_t_1, aI g (p_t 12) 8 f_t_12', aI g (p_t 16) 266 f_t_16'] := by
  refine MV.of (cc := cX10_newName) (maxL := 3) (own := RX10) rfl rfl (by decide) (Nat.le_of_ble_eq_true rfl) ?_
  intro p e s m args below meth c A C0 hP hD hS ls hl
  obtain ⟨hx, hb, hml, hown, hts, hr, hlk, hK, hA, hSW⟩ := id C0
  have hl : lv_has ls 3 [(0, .ref a_t), (1, .int x1)] := hl
  rw [fX10_newName] at hF
  refine lv_aload_n hx hb dX10_newName_0 rfl (lv_at hl 0 rfl) ?_
  refine va_get (D := g.1) (ci := 10) (v := .int (o_t 13)) (C := RX10) (T := TX10) (N := 35) hx hb hts iX10_newName_X10 hown hK.1 hP 0 rfl rfl 13 (by decide) (hts _ kX10_newName_91) (fun _ h9 => h9) rfl dX10_newName_1 ?_
  refine lv_if_eq (tgt := 8) hx hb dX10_newName_4 (by decide) (fun c_1 => ?_) (fun c_1 => ?_)
  · have hF := it_p c_1 hF
    refine lv_aload_n hx hb dX10_newName_8 rfl (lv_at hl 0 rfl) ?_
    obtain ⟨u_2, hu_3, hF⟩ := ob1_some hF
    refine call_v (wr := [aI g (p_t 1) 800 f_t_1, aI g (p_t 16) 266 f_t_16]) (As := []) (rest := []) (ci := 10) (q0 := 0) C0 (mX10_mustName l g a_t p_t n o_t f_t_12 u_2 hu_3) (cwV 0 hts gX10_newName_X10_mustName rfl rfl rfl (by decide +kernel) ⟨Nat.le_of_ble_eq_true rfl, Nat.le_of_ble_eq_true rfl⟩) hP hD hS [0, 2] [1, 3] rfl rfl rfl rfl rfl (by decide) rfl rfl hl.1 rfl rfl (Nat.le_of_ble_eq_true rfl) ⟨Nat.zero_le _, Nat.zero_le _⟩ dX10_newName_9 ?_
    intro H locs hP hD hS
    refine lv_aload_n hx hb dX10_newName_12 rfl (lv_at hl 0 rfl) ?_
    refine va_get (D := g.1) (ci := 10) (v := .int (u_2 13)) (C := RX10) (T := TX10) (N := 35) hx hb hts iX10_newName_X10 hown hK.1 hP 2 rfl rfl 13 (by decide) (hts _ kX10_newName_91) (fun _ h9 => h9) rfl dX10_newName_13 ?_
    refine lv_if_ne (tgt := 35) hx hb dX10_newName_16 (by decide) (fun c_4 => ?_) (fun c_4 => ?_)
    · have hF := it_n c_4 hF
      refine lv_aload_n hx hb dX10_newName_35 rfl (lv_at hl 0 rfl) ?_
      refine va_get (D := g.1) (ci := 10) (v := .int (u_2 13)) (C := RX10) (T := TX10) (N := 35) hx hb hts iX10_newName_X10 hown hK.1 hP 2 rfl rfl 13 (by decide) (hts _ kX10_newName_91) (fun _ h9 => h9) rfl dX10_newName_36 ?_
      refine lv_if_eq (tgt := 43) hx hb dX10_newName_39 (by decide) (fun c_5 => ?_) (fun c_5 => ?_)
      · have hF := it_p c_5 hF
        refine lv_iconst (v := (0 : Int32)) hx hb dX10_newName_43 (by decide) ?_
        refine lv_istore_n (lv' := [(2, .int (0 : Int32)), (0, .ref a_t), (1, .int x1)]) hx hb dX10_newName_44 rfl hl (by decide) rfl (fun ls hl => ?_)
        refine wX10_newName_L45 C0 a_t p_t n x1 u_2 f_t_12 f_t_1 o_t' f_t_12' f_t_16' _ ?_ n (0 : Int32) f_t_16 hF _ _ _ (hP.sub [2, 0, 3, 1] rfl) (hD.sub [2, 0, 3, 1] rfl rfl) hS (lv_sub hl [1, 2, 0] rfl)
        · intro f_t_16_x45 H locs ls hF hP hD hS hl
          refine lv_aload_n hx hb dX10_newName_80 rfl (lv_at hl 0 rfl) ?_
          refine va_get (D := g.1) (ci := 10) (v := .ref (p_t 16)) (C := RX10) (T := TX10) (N := 35) hx hb hts iX10_newName_X10 hown hK.1 hP 0 rfl rfl 16 (by decide) (hts _ kX10_newName_23) (fun _ h9 => h9) rfl dX10_newName_81 ?_
          refine lv_bipush (v := (122 : Int32)) hx hb dX10_newName_84 (by decide) ?_
          refine lv_iload_n hx hb dX10_newName_86 rfl (lv_at hl 1 rfl) ?_
          refine lv_iadd hx hb dX10_newName_87 ?_
          refine lv_aload_n hx hb dX10_newName_88 rfl (lv_at hl 0 rfl) ?_
          refine va_get (D := g.1) (ci := 10) (v := .int (u_2 8)) (C := RX10) (T := TX10) (N := 35) hx hb hts iX10_newName_X10 hown hK.1 hP 0 rfl rfl 8 (by decide) (hts _ kX10_newName_75) (fun _ h9 => h9) rfl dX10_newName_89 ?_
          obtain ⟨h_9, hF⟩ := it_ck hF
          refine va_iast hx hb hK.1 hP hD hS 3 0 rfl rfl h_9 dX10_newName_92 (fun H locs hP hD hS => ?_)
          have hP : va_P g.1 vwCl [oX10 a_t p_t u_2, aI g (p_t 1) 800 f_t_1, aI g (p_t 12) 8 f_t_12, aI g (p_t 16) 266 (upd f_t_16_x45 (((122 : Int32) + x1)).toNatClampNeg (u_2 8))] H := hP
          have hD : va_D A [oX10 a_t p_t u_2, aI g (p_t 1) 800 f_t_1, aI g (p_t 12) 8 f_t_12, aI g (p_t 16) 266 (upd f_t_16_x45 (((122 : Int32) + x1)).toNatClampNeg (u_2 8))] := hD
          refine lv_aload_n hx hb dX10_newName_93 rfl (lv_at hl 0 rfl) ?_
          obtain ⟨u_10, u_11, hu_12, hF⟩ := ob2_some hF
          refine call_v (wr := [aI g (p_t 16) 266 (upd f_t_16_x45 (((122 : Int32) + x1)).toNatClampNeg (u_2 8))]) (As := []) (rest := []) (ci := 10) (q0 := 0) C0 (mX10_next l g a_t p_t n u_2 f_t_1 f_t_12 u_10 u_11 hu_12) (cwV 0 hts gX10_newName_X10_next rfl rfl rfl (by decide +kernel) ⟨Nat.le_of_ble_eq_true rfl, Nat.le_of_ble_eq_true rfl⟩) hP hD hS [0, 1, 2] [3] rfl rfl rfl rfl rfl (by decide) rfl rfl hl.1 rfl rfl (Nat.le_of_ble_eq_true rfl) ⟨Nat.zero_le _, Nat.zero_le _⟩ dX10_newName_94 ?_
          intro H locs hP hD hS
          cases hF
          exact ret_v C0 hP hD hS [1, 2, 3, 0] rfl rfl rfl dX10_newName_97
      · have hF := it_n c_5 hF
        cases hF
        exact ret_v C0 hP hD hS [2, 0, 3, 1] rfl rfl rfl dX10_newName_42
    · have hF := it_p c_4 hF
      refine lv_aload_n hx hb dX10_newName_19 rfl (lv_at hl 0 rfl) ?_
      obtain ⟨u_13, hu_14, hF⟩ := ob1_some hF
      refine call_i (wr := [aI g (p_t 1) 800 f_t_1]) (As := []) (rest := []) (ci := 10) (q0 := 0) C0 (mX10_find l g a_t p_t n u_2 f_t_12 f_t_16 u_13 hu_14) (cwV 0 hts gX10_newName_X10_find rfl rfl rfl (by decide +kernel) ⟨Nat.le_of_ble_eq_true rfl, Nat.le_of_ble_eq_true rfl⟩) hP hD hS [2, 3, 1] [0] rfl rfl rfl rfl rfl (by decide) rfl rfl hl.1 rfl rfl (Nat.le_of_ble_eq_true rfl) ⟨Nat.zero_le _, Nat.zero_le _⟩ dX10_newName_20 ?_
      intro H locs hP hD hS
      refine lv_if_lt (tgt := 35) hx hb dX10_newName_23 (by decide) (fun c_15 => ?_) (fun c_15 => ?_)
      · have hF := it_p c_15 hF
        refine lv_aload_n hx hb dX10_newName_35 rfl (lv_at hl 0 rfl) ?_
        refine va_get (D := g.1) (ci := 10) (v := .int (u_2 13)) (C := RX10) (T := TX10) (N := 35) hx hb hts iX10_newName_X10 hown hK.1 hP 1 rfl rfl 13 (by decide) (hts _ kX10_newName_91) (fun _ h9 => h9) rfl dX10_newName_36 ?_
        refine lv_if_eq (tgt := 43) hx hb dX10_newName_39 (by decide) (fun c_16 => ?_) (fun c_16 => ?_)
        · have hF := it_p c_16 hF
          refine lv_iconst (v := (0 : Int32)) hx hb dX10_newName_43 (by decide) ?_
          refine lv_istore_n (lv' := [(2, .int (0 : Int32)), (0, .ref a_t), (1, .int x1)]) hx hb dX10_newName_44 rfl hl (by decide) rfl (fun ls hl => ?_)
          refine wX10_newName_L45 C0 a_t p_t n x1 u_2 f_t_12 f_t_1 o_t' f_t_12' f_t_16' _ ?_ n (0 : Int32) f_t_16 hF _ _ _ (hP.sub [1, 0, 2, 3] rfl) (hD.sub [1, 0, 2, 3] rfl rfl) hS (lv_sub hl [1, 2, 0] rfl)
          · intro f_t_16_x45 H locs ls hF hP hD hS hl
            refine lv_aload_n hx hb dX10_newName_80 rfl (lv_at hl 0 rfl) ?_
            refine va_get (D := g.1) (ci := 10) (v := .ref (p_t 16)) (C := RX10) (T := TX10) (N := 35) hx hb hts iX10_newName_X10 hown hK.1 hP 0 rfl rfl 16 (by decide) (hts _ kX10_newName_23) (fun _ h9 => h9) rfl dX10_newName_81 ?_
            refine lv_bipush (v := (122 : Int32)) hx hb dX10_newName_84 (by decide) ?_
            refine lv_iload_n hx hb dX10_newName_86 rfl (lv_at hl 1 rfl) ?_
            refine lv_iadd hx hb dX10_newName_87 ?_
            refine lv_aload_n hx hb dX10_newName_88 rfl (lv_at hl 0 rfl) ?_
            refine va_get (D := g.1) (ci := 10) (v := .int (u_2 8)) (C := RX10) (T := TX10) (N := 35) hx hb hts iX10_newName_X10 hown hK.1 hP 0 rfl rfl 8 (by decide) (hts _ kX10_newName_75) (fun _ h9 => h9) rfl dX10_newName_89 ?_
            obtain ⟨h_17, hF⟩ := it_ck hF
            refine va_iast hx hb hK.1 hP hD hS 3 0 rfl rfl h_17 dX10_newName_92 (fun H locs hP hD hS => ?_)
            have hP : va_P g.1 vwCl [oX10 a_t p_t u_2, aI g (p_t 1) 800 f_t_1, aI g (p_t 12) 8 f_t_12, aI g (p_t 16) 266 (upd f_t_16_x45 (((122 : Int32) + x1)).toNatClampNeg (u_2 8))] H := hP
            have hD : va_D A [oX10 a_t p_t u_2, aI g (p_t 1) 800 f_t_1, aI g (p_t 12) 8 f_t_12, aI g (p_t 16) 266 (upd f_t_16_x45 (((122 : Int32) + x1)).toNatClampNeg (u_2 8))] := hD
            refine lv_aload_n hx hb dX10_newName_93 rfl (lv_at hl 0 rfl) ?_
            obtain ⟨u_18, u_19, hu_20, hF⟩ := ob2_some hF
            refine call_v (wr := [aI g (p_t 16) 266 (upd f_t_16_x45 (((122 : Int32) + x1)).toNatClampNeg (u_2 8))]) (As := []) (rest := []) (ci := 10) (q0 := 0) C0 (mX10_next l g a_t p_t n u_2 f_t_1 f_t_12 u_18 u_19 hu_20) (cwV 0 hts gX10_newName_X10_next rfl rfl rfl (by decide +kernel) ⟨Nat.le_of_ble_eq_true rfl, Nat.le_of_ble_eq_true rfl⟩) hP hD hS [0, 1, 2] [3] rfl rfl rfl rfl rfl (by decide) rfl rfl hl.1 rfl rfl (Nat.le_of_ble_eq_true rfl) ⟨Nat.zero_le _, Nat.zero_le _⟩ dX10_newName_94 ?_
            intro H locs hP hD hS
            cases hF
            exact ret_v C0 hP hD hS [1, 2, 3, 0] rfl rfl rfl dX10_newName_97
        · have hF := it_n c_16 hF
          cases hF
          exact ret_v C0 hP hD hS [1, 0, 2, 3] rfl rfl rfl dX10_newName_42
      · have hF := it_n c_15 hF
        refine lv_aload_n hx hb dX10_newName_26 rfl (lv_at hl 0 rfl) ?_
        refine lv_iconst (v := (3 : Int32)) hx hb dX10_newName_27 (by decide) ?_
        refine lv_aload_n hx hb dX10_newName_28 rfl (lv_at hl 0 rfl) ?_
        refine va_get (D := g.1) (ci := 10) (v := .int (u_2 4)) (C := RX10) (T := TX10) (N := 35) hx hb hts iX10_newName_X10 hown hK.1 hP 1 rfl rfl 4 (by decide) (hts _ kX10_newName_72) (fun _ h9 => h9) rfl dX10_newName_29 ?_
        obtain ⟨u_21, hu_22, hF⟩ := ob1_some hF
        refine call_v (wr := [aI g (p_t 1) 800 f_t_1, aI g (p_t 12) 8 f_t_12, aI g (p_t 16) 266 f_t_16]) (As := [.int (3 : Int32), .int (u_2 4)]) (rest := []) (ci := 10) (q0 := 0) C0 (mX10_wrong l g a_t p_t n (3 : Int32) (u_2 4) u_2 u_21 hu_22) (cwV 2 hts gX10_newName_X10_wrong rfl rfl rfl (by decide +kernel) ⟨Nat.le_of_ble_eq_true rfl, Nat.le_of_ble_eq_true rfl⟩) hP hD hS [1] [0, 2, 3] rfl rfl rfl rfl rfl (by decide) rfl rfl hl.1 rfl rfl (Nat.le_of_ble_eq_true rfl) ⟨Nat.zero_le _, Nat.zero_le _⟩ dX10_newName_32 ?_
        intro H locs hP hD hS
        refine lv_aload_n hx hb dX10_newName_35 rfl (lv_at hl 0 rfl) ?_
        refine va_get (D := g.1) (ci := 10) (v := .int (u_21 13)) (C := RX10) (T := TX10) (N := 35) hx hb hts iX10_newName_X10 hown hK.1 hP 3 rfl rfl 13 (by decide) (hts _ kX10_newName_91) (fun _ h9 => h9) rfl dX10_newName_36 ?_
        refine lv_if_eq (tgt := 43) hx hb dX10_newName_39 (by decide) (fun c_23 => ?_) (fun c_23 => ?_)
        · have hF := it_p c_23 hF
          refine lv_iconst (v := (0 : Int32)) hx hb dX10_newName_43 (by decide) ?_
          refine lv_istore_n (lv' := [(2, .int (0 : Int32)), (0, .ref a_t), (1, .int x1)]) hx hb dX10_newName_44 rfl hl (by decide) rfl (fun ls hl => ?_)
          refine wX10_newName_L45 C0 a_t p_t n x1 u_21 f_t_12 f_t_1 o_t' f_t_12' f_t_16' _ ?_ n (0 : Int32) f_t_16 hF _ _ _ (hP.sub [3, 0, 1, 2] rfl) (hD.sub [3, 0, 1, 2] rfl rfl) hS (lv_sub hl [1, 2, 0] rfl)
          · intro f_t_16_x45 H locs ls hF hP hD hS hl
            refine lv_aload_n hx hb dX10_newName_80 rfl (lv_at hl 0 rfl) ?_
            refine va_get (D := g.1) (ci := 10) (v := .ref (p_t 16)) (C := RX10) (T := TX10) (N := 35) hx hb hts iX10_newName_X10 hown hK.1 hP 0 rfl rfl 16 (by decide) (hts _ kX10_newName_23) (fun _ h9 => h9) rfl dX10_newName_81 ?_
            refine lv_bipush (v := (122 : Int32)) hx hb dX10_newName_84 (by decide) ?_
            refine lv_iload_n hx hb dX10_newName_86 rfl (lv_at hl 1 rfl) ?_
            refine lv_iadd hx hb dX10_newName_87 ?_
            refine lv_aload_n hx hb dX10_newName_88 rfl (lv_at hl 0 rfl) ?_
            refine va_get (D := g.1) (ci := 10) (v := .int (u_21 8)) (C := RX10) (T := TX10) (N := 35) hx hb hts iX10_newName_X10 hown hK.1 hP 0 rfl rfl 8 (by decide) (hts _ kX10_newName_75) (fun _ h9 => h9) rfl dX10_newName_89 ?_
            obtain ⟨h_24, hF⟩ := it_ck hF
            refine va_iast hx hb hK.1 hP hD hS 3 0 rfl rfl h_24 dX10_newName_92 (fun H locs hP hD hS => ?_)
            have hP : va_P g.1 vwCl [oX10 a_t p_t u_21, aI g (p_t 1) 800 f_t_1, aI g (p_t 12) 8 f_t_12, aI g (p_t 16) 266 (upd f_t_16_x45 (((122 : Int32) + x1)).toNatClampNeg (u_21 8))] H := hP
            have hD : va_D A [oX10 a_t p_t u_21, aI g (p_t 1) 800 f_t_1, aI g (p_t 12) 8 f_t_12, aI g (p_t 16) 266 (upd f_t_16_x45 (((122 : Int32) + x1)).toNatClampNeg (u_21 8))] := hD
            refine lv_aload_n hx hb dX10_newName_93 rfl (lv_at hl 0 rfl) ?_
            obtain ⟨u_25, u_26, hu_27, hF⟩ := ob2_some hF
            refine call_v (wr := [aI g (p_t 16) 266 (upd f_t_16_x45 (((122 : Int32) + x1)).toNatClampNeg (u_21 8))]) (As := []) (rest := []) (ci := 10) (q0 := 0) C0 (mX10_next l g a_t p_t n u_21 f_t_1 f_t_12 u_25 u_26 hu_27) (cwV 0 hts gX10_newName_X10_next rfl rfl rfl (by decide +kernel) ⟨Nat.le_of_ble_eq_true rfl, Nat.le_of_ble_eq_true rfl⟩) hP hD hS [0, 1, 2] [3] rfl rfl rfl rfl rfl (by decide) rfl rfl hl.1 rfl rfl (Nat.le_of_ble_eq_true rfl) ⟨Nat.zero_le _, Nat.zero_le _⟩ dX10_newName_94 ?_
            intro H locs hP hD hS
            cases hF
            exact ret_v C0 hP hD hS [1, 2, 3, 0] rfl rfl rfl dX10_newName_97
        · have hF := it_n c_23 hF
          cases hF
          exact ret_v C0 hP hD hS [3, 0, 1, 2] rfl rfl rfl dX10_newName_42
  · have hF := it_n c_1 hF
    cases hF
    exact ret_v C0 hP hD hS [0, 1, 2, 3] rfl rfl rfl dX10_newName_7

theorem dAX10_guestHere : ∀ q ∈ ([(0, (.aload_n 0, 1)), (1, (.getfield 91, 3)), (4, (.ifCond .eq 5, 3)), (7, (.iconst 0, 1)), (8, (.ireturn, 1)), (9, (.aload_n 0, 1)), (10, (.invokevirtual 138, 3)), (13, (.aload_n 0, 1)), (14, (.getfield 91, 3)), (17, (.ifCond .eq 5, 3)), (20, (.iconst 0, 1)), (21, (.ireturn, 1)), (22, (.aload_n 0, 1)), (23, (.invokevirtual 141, 3)), (26, (.istore_n 1, 1)), (27, (.iload_n 1, 1)), (28, (.iconst 0, 1)), (29, (.bipush 6, 2)), (31, (.invokestatic 144, 3)), (34, (.ifCond .ne 12, 3)), (37, (.aload_n 0, 1)), (38, (.iconst 2, 1)), (39, (.aload_n 0, 1)), (40, (.getfield 72, 3)), (43, (.invokevirtual 118, 3)), (46, (.aload_n 0, 1)), (47, (.getfield 91, 3)), (50, (.ifCond .eq 7, 3)), (53, (.iconst 0, 1)), (54, (.goto 4, 3)), (57, (.iload_n 1, 1)), (58, (.ireturn, 1))] : List (Nat × (Instr × Nat))), decode cX10_guestHere q.1 = .ok q.2 := by decide +kernel
theorem dX10_guestHere_0 : decode cX10_guestHere 0 = .ok (.aload_n 0, 1) := dAX10_guestHere (0, (.aload_n 0, 1)) (List.mem_of_getElem? (i := 0) rfl)
theorem dX10_guestHere_1 : decode cX10_guestHere 1 = .ok (.getfield 91, 3) := dAX10_guestHere (1, (.getfield 91, 3)) (List.mem_of_getElem? (i := 1) rfl)
theorem dX10_guestHere_4 : decode cX10_guestHere 4 = .ok (.ifCond .eq 5, 3) := dAX10_guestHere (4, (.ifCond .eq 5, 3)) (List.mem_of_getElem? (i := 2) rfl)
theorem dX10_guestHere_7 : decode cX10_guestHere 7 = .ok (.iconst 0, 1) := dAX10_guestHere (7, (.iconst 0, 1)) (List.mem_of_getElem? (i := 3) rfl)
theorem dX10_guestHere_8 : decode cX10_guestHere 8 = .ok (.ireturn, 1) := dAX10_guestHere (8, (.ireturn, 1)) (List.mem_of_getElem? (i := 4) rfl)
theorem dX10_guestHere_9 : decode cX10_guestHere 9 = .ok (.aload_n 0, 1) := dAX10_guestHere (9, (.aload_n 0, 1)) (List.mem_of_getElem? (i := 5) rfl)
theorem dX10_guestHere_10 : decode cX10_guestHere 10 = .ok (.invokevirtual 138, 3) := dAX10_guestHere (10, (.invokevirtual 138, 3)) (List.mem_of_getElem? (i := 6) rfl)
theorem dX10_guestHere_13 : decode cX10_guestHere 13 = .ok (.aload_n 0, 1) := dAX10_guestHere (13, (.aload_n 0, 1)) (List.mem_of_getElem? (i := 7) rfl)
theorem dX10_guestHere_14 : decode cX10_guestHere 14 = .ok (.getfield 91, 3) := dAX10_guestHere (14, (.getfield 91, 3)) (List.mem_of_getElem? (i := 8) rfl)
theorem dX10_guestHere_17 : decode cX10_guestHere 17 = .ok (.ifCond .eq 5, 3) := dAX10_guestHere (17, (.ifCond .eq 5, 3)) (List.mem_of_getElem? (i := 9) rfl)
theorem dX10_guestHere_20 : decode cX10_guestHere 20 = .ok (.iconst 0, 1) := dAX10_guestHere (20, (.iconst 0, 1)) (List.mem_of_getElem? (i := 10) rfl)
theorem dX10_guestHere_21 : decode cX10_guestHere 21 = .ok (.ireturn, 1) := dAX10_guestHere (21, (.ireturn, 1)) (List.mem_of_getElem? (i := 11) rfl)
theorem dX10_guestHere_22 : decode cX10_guestHere 22 = .ok (.aload_n 0, 1) := dAX10_guestHere (22, (.aload_n 0, 1)) (List.mem_of_getElem? (i := 12) rfl)
theorem dX10_guestHere_23 : decode cX10_guestHere 23 = .ok (.invokevirtual 141, 3) := dAX10_guestHere (23, (.invokevirtual 141, 3)) (List.mem_of_getElem? (i := 13) rfl)
theorem dX10_guestHere_26 : decode cX10_guestHere 26 = .ok (.istore_n 1, 1) := dAX10_guestHere (26, (.istore_n 1, 1)) (List.mem_of_getElem? (i := 14) rfl)
theorem dX10_guestHere_27 : decode cX10_guestHere 27 = .ok (.iload_n 1, 1) := dAX10_guestHere (27, (.iload_n 1, 1)) (List.mem_of_getElem? (i := 15) rfl)
theorem dX10_guestHere_28 : decode cX10_guestHere 28 = .ok (.iconst 0, 1) := dAX10_guestHere (28, (.iconst 0, 1)) (List.mem_of_getElem? (i := 16) rfl)
theorem dX10_guestHere_29 : decode cX10_guestHere 29 = .ok (.bipush 6, 2) := dAX10_guestHere (29, (.bipush 6, 2)) (List.mem_of_getElem? (i := 17) rfl)
theorem dX10_guestHere_31 : decode cX10_guestHere 31 = .ok (.invokestatic 144, 3) := dAX10_guestHere (31, (.invokestatic 144, 3)) (List.mem_of_getElem? (i := 18) rfl)
theorem dX10_guestHere_34 : decode cX10_guestHere 34 = .ok (.ifCond .ne 12, 3) := dAX10_guestHere (34, (.ifCond .ne 12, 3)) (List.mem_of_getElem? (i := 19) rfl)
theorem dX10_guestHere_37 : decode cX10_guestHere 37 = .ok (.aload_n 0, 1) := dAX10_guestHere (37, (.aload_n 0, 1)) (List.mem_of_getElem? (i := 20) rfl)
theorem dX10_guestHere_38 : decode cX10_guestHere 38 = .ok (.iconst 2, 1) := dAX10_guestHere (38, (.iconst 2, 1)) (List.mem_of_getElem? (i := 21) rfl)
theorem dX10_guestHere_39 : decode cX10_guestHere 39 = .ok (.aload_n 0, 1) := dAX10_guestHere (39, (.aload_n 0, 1)) (List.mem_of_getElem? (i := 22) rfl)
theorem dX10_guestHere_40 : decode cX10_guestHere 40 = .ok (.getfield 72, 3) := dAX10_guestHere (40, (.getfield 72, 3)) (List.mem_of_getElem? (i := 23) rfl)
theorem dX10_guestHere_43 : decode cX10_guestHere 43 = .ok (.invokevirtual 118, 3) := dAX10_guestHere (43, (.invokevirtual 118, 3)) (List.mem_of_getElem? (i := 24) rfl)
theorem dX10_guestHere_46 : decode cX10_guestHere 46 = .ok (.aload_n 0, 1) := dAX10_guestHere (46, (.aload_n 0, 1)) (List.mem_of_getElem? (i := 25) rfl)
theorem dX10_guestHere_47 : decode cX10_guestHere 47 = .ok (.getfield 91, 3) := dAX10_guestHere (47, (.getfield 91, 3)) (List.mem_of_getElem? (i := 26) rfl)
theorem dX10_guestHere_50 : decode cX10_guestHere 50 = .ok (.ifCond .eq 7, 3) := dAX10_guestHere (50, (.ifCond .eq 7, 3)) (List.mem_of_getElem? (i := 27) rfl)
theorem dX10_guestHere_53 : decode cX10_guestHere 53 = .ok (.iconst 0, 1) := dAX10_guestHere (53, (.iconst 0, 1)) (List.mem_of_getElem? (i := 28) rfl)
theorem dX10_guestHere_54 : decode cX10_guestHere 54 = .ok (.goto 4, 3) := dAX10_guestHere (54, (.goto 4, 3)) (List.mem_of_getElem? (i := 29) rfl)
theorem dX10_guestHere_57 : decode cX10_guestHere 57 = .ok (.iload_n 1, 1) := dAX10_guestHere (57, (.iload_n 1, 1)) (List.mem_of_getElem? (i := 30) rfl)
theorem dX10_guestHere_58 : decode cX10_guestHere 58 = .ok (.ireturn, 1) := dAX10_guestHere (58, (.ireturn, 1)) (List.mem_of_getElem? (i := 31) rfl)
set_option maxRecDepth 20000 in
theorem ggX10_guestHere_X10_mustName : GoodIn wsX10_guestHere wsX10_mustName := goodIn_r _ [7, 8, 2, 9, 10, 11, 6, 12, 1, 13, 14, 15, 16, 17, 18, 19, 20, 21, 22, 23, 24, 25, 26, 27, 28, 29, 30, 31, 32, 33, 34, 35, 36, 37, 38, 39, 40, 41, 42, 43, 44, 45, 46, 47, 48, 49, 50, 51, 52, 53, 54, 55, 56, 57, 58, 59, 60, 61, 62, 63, 64, 65, 66, 67, 68, 69, 78, 79, 80, 81, 82, 83, 84, 85, 86, 87, 88, 89, 90, 91, 92, 93, 94, 95, 96, 97, 98, 99, 100, 101, 102, 103, 104, 105, 106, 107, 108, 109, 110, 111, 112] rfl (by decide +kernel)
set_option maxRecDepth 20000 in
theorem gX10_guestHere_X10_mustName : GoodIn wsX10_guestHere (wsV RX10 138 RX10 yX10_mustName wsX10_mustName) := goodIn_app (goodIn_of _ (by decide +kernel)) ggX10_guestHere_X10_mustName
set_option maxRecDepth 20000 in
theorem ggX10_guestHere_X10_find : GoodIn wsX10_guestHere wsX10_find := goodIn_r _ [73, 74, 13, 14, 78, 79, 80, 81, 82, 83, 84, 85, 86, 87, 88, 89, 90, 91, 92, 93, 94, 95, 96, 97, 98, 99, 100, 101, 102, 103, 104, 105, 106, 107, 108, 109, 110, 111, 112] rfl (by decide +kernel)
set_option maxRecDepth 20000 in
theorem gX10_guestHere_X10_find : GoodIn wsX10_guestHere (wsV RX10 141 RX10 yX10_find wsX10_find) := goodIn_app (goodIn_of _ (by decide +kernel)) ggX10_guestHere_X10_find
set_option maxRecDepth 20000 in
theorem ggX10_guestHere_X10_in : GoodIn wsX10_guestHere wsX10_in := goodIn_r _ [77] rfl (by decide +kernel)
set_option maxRecDepth 20000 in
theorem gX10_guestHere_X10_in : GoodIn wsX10_guestHere (va_wsS RX10 144 yX10_in wsX10_in) := goodIn_app (goodIn_of _ (by decide +kernel)) ggX10_guestHere_X10_in
set_option maxRecDepth 20000 in
theorem ggX10_guestHere_X10_wrong : GoodIn wsX10_guestHere wsX10_wrong := goodIn_r _ [67, 1, 68, 69, 78, 79, 80, 81, 82, 83, 84, 85, 86, 87, 88, 89, 90, 91, 92, 93, 94, 95, 96, 97, 98, 99, 100, 101, 102, 103, 104, 105, 106, 107, 108, 109, 110, 111, 112] rfl (by decide +kernel)
set_option maxRecDepth 20000 in
theorem gX10_guestHere_X10_wrong : GoodIn wsX10_guestHere (wsV RX10 118 RX10 yX10_wrong wsX10_wrong) := goodIn_app (goodIn_of _ (by decide +kernel)) ggX10_guestHere_X10_wrong
theorem kX10_guestHere_91 : Cond.fieldLink RX10 91 "EveningVowModel" "failed" "Z" ∈ wsX10_guestHere := List.mem_of_getElem? (i := 1) rfl
theorem iX10_guestHere_X10 : ∀ w ∈ u_ws RX10 TX10 35, w ∈ wsX10_guestHere := fun w h => (List.mem_cons_of_mem _ (List.mem_append_right _ h))
theorem kX10_guestHere_72 : Cond.fieldLink RX10 72 "EveningVowModel" "at" "I" ∈ wsX10_guestHere := List.mem_of_getElem? (i := 2) rfl
set_option maxHeartbeats 4000000 in
set_option maxRecDepth 100000 in
theorem mX10_guestHere (l : Launch) (g : GG) (a_t : Nat) (p_t : Nat → Nat) (n : Nat) (o_t : Nat → Int32) (f_t_12 : Nat → Int32) (f_t_16 : Nat → Int32) (r : Int32) (o_t' : Nat → Int32) (hF : fX10_guestHere n o_t f_t_12 f_t_16 = some (r, o_t')) : MI l g yX10_guestHere wsX10_guestHere ({ frames := 6, cells := 0, slots := 0, locals := 133 } : Room) [.ref a_t] [oX10 a_t p_t o_t, aI g (p_t 12) 8 f_t_12, aI g (p_t 16) 266 f_t_16] r [oX10 a_t p_t o_t', aI g (p_t 12) 8 f_t_12, aI g (p_t 16) 266 f_t_16] := by
  refine MI.of (cc := cX10_guestHere) (maxL := 2) (rt := .int) (own := RX10) rfl rfl (by decide) (Nat.le_of_ble_eq_true rfl) ?_
  intro p e s m args below meth c A C0 hP hD hS ls hl
  obtain ⟨hx, hb, hml, hown, hts, hr, hlk, hK, hA, hSW⟩ := id C0
  have hl : lv_has ls 2 [(0, .ref a_t)] := hl
  rw [fX10_guestHere] at hF
  refine lv_aload_n hx hb dX10_guestHere_0 rfl (lv_at hl 0 rfl) ?_
  refine va_get (D := g.1) (ci := 10) (v := .int (o_t 13)) (C := RX10) (T := TX10) (N := 35) hx hb hts iX10_guestHere_X10 hown hK.1 hP 0 rfl rfl 13 (by decide) (hts _ kX10_guestHere_91) (fun _ h9 => h9) rfl dX10_guestHere_1 ?_
  refine lv_if_eq (tgt := 9) hx hb dX10_guestHere_4 (by decide) (fun c_1 => ?_) (fun c_1 => ?_)
  · have hF := it_p c_1 hF
    refine lv_aload_n hx hb dX10_guestHere_9 rfl (lv_at hl 0 rfl) ?_
    obtain ⟨u_2, hu_3, hF⟩ := ob1_some hF
    refine call_v (wr := [aI g (p_t 16) 266 f_t_16]) (As := []) (rest := []) (ci := 10) (q0 := 0) C0 (mX10_mustName l g a_t p_t n o_t f_t_12 u_2 hu_3) (cwV 0 hts gX10_guestHere_X10_mustName rfl rfl rfl (by decide +kernel) ⟨Nat.le_of_ble_eq_true rfl, Nat.le_of_ble_eq_true rfl⟩) hP hD hS [0, 1] [2] rfl rfl rfl rfl rfl (by decide) rfl rfl hl.1 rfl rfl (Nat.le_of_ble_eq_true rfl) ⟨Nat.zero_le _, Nat.zero_le _⟩ dX10_guestHere_10 ?_
    intro H locs hP hD hS
    refine lv_aload_n hx hb dX10_guestHere_13 rfl (lv_at hl 0 rfl) ?_
    refine va_get (D := g.1) (ci := 10) (v := .int (u_2 13)) (C := RX10) (T := TX10) (N := 35) hx hb hts iX10_guestHere_X10 hown hK.1 hP 1 rfl rfl 13 (by decide) (hts _ kX10_guestHere_91) (fun _ h9 => h9) rfl dX10_guestHere_14 ?_
    refine lv_if_eq (tgt := 22) hx hb dX10_guestHere_17 (by decide) (fun c_4 => ?_) (fun c_4 => ?_)
    · have hF := it_p c_4 hF
      refine lv_aload_n hx hb dX10_guestHere_22 rfl (lv_at hl 0 rfl) ?_
      obtain ⟨u_5, hu_6, hF⟩ := ob1_some hF
      refine call_i (wr := []) (As := []) (rest := []) (ci := 10) (q0 := 0) C0 (mX10_find l g a_t p_t n u_2 f_t_12 f_t_16 u_5 hu_6) (cwV 0 hts gX10_guestHere_X10_find rfl rfl rfl (by decide +kernel) ⟨Nat.le_of_ble_eq_true rfl, Nat.le_of_ble_eq_true rfl⟩) hP hD hS [1, 2, 0] [] rfl rfl rfl rfl rfl (by decide) rfl rfl hl.1 rfl rfl (Nat.le_of_ble_eq_true rfl) ⟨Nat.zero_le _, Nat.zero_le _⟩ dX10_guestHere_23 ?_
      intro H locs hP hD hS
      refine lv_istore_n (lv' := [(1, .int u_5), (0, .ref a_t)]) hx hb dX10_guestHere_26 rfl hl (by decide) rfl (fun ls hl => ?_)
      refine lv_iload_n hx hb dX10_guestHere_27 rfl (lv_at hl 0 rfl) ?_
      refine lv_iconst (v := (0 : Int32)) hx hb dX10_guestHere_28 (by decide) ?_
      refine lv_bipush (v := (6 : Int32)) hx hb dX10_guestHere_29 (by decide) ?_
      obtain ⟨u_7, hu_8, hF⟩ := ob1_some hF
      refine call_si (wr := [oX10 a_t p_t u_2, aI g (p_t 12) 8 f_t_12, aI g (p_t 16) 266 f_t_16]) (As := [.int u_5, .int (0 : Int32), .int (6 : Int32)]) (rest := []) C0 (mX10_in l g n u_5 (0 : Int32) (6 : Int32) u_7 hu_8) (va_cwS 3 hts gX10_guestHere_X10_in rfl rfl rfl (by decide +kernel) ⟨Nat.le_of_ble_eq_true rfl, Nat.le_of_ble_eq_true rfl⟩) hP hD hS [] [0, 1, 2] rfl rfl rfl rfl rfl (by decide) hl.1 rfl rfl (Nat.le_of_ble_eq_true rfl) ⟨Nat.zero_le _, Nat.zero_le _⟩ dX10_guestHere_31 ?_
      intro H locs hP hD hS
      refine lv_if_ne (tgt := 46) hx hb dX10_guestHere_34 (by decide) (fun c_9 => ?_) (fun c_9 => ?_)
      · have hF := it_n c_9 hF
        refine lv_aload_n hx hb dX10_guestHere_46 rfl (lv_at hl 1 rfl) ?_
        refine va_get (D := g.1) (ci := 10) (v := .int (u_2 13)) (C := RX10) (T := TX10) (N := 35) hx hb hts iX10_guestHere_X10 hown hK.1 hP 0 rfl rfl 13 (by decide) (hts _ kX10_guestHere_91) (fun _ h9 => h9) rfl dX10_guestHere_47 ?_
        refine lv_if_eq (tgt := 57) hx hb dX10_guestHere_50 (by decide) (fun c_10 => ?_) (fun c_10 => ?_)
        · have hF := it_p c_10 hF
          refine lv_iload_n hx hb dX10_guestHere_57 rfl (lv_at hl 0 rfl) ?_
          cases hF
          exact ret_i C0 hP hD hS [0, 1, 2] rfl rfl rfl dX10_guestHere_58 rfl
        · have hF := it_n c_10 hF
          refine lv_iconst (v := (0 : Int32)) hx hb dX10_guestHere_53 (by decide) ?_
          refine lv_goto (tgt := 58) hx hb dX10_guestHere_54 (by decide) ?_
          cases hF
          exact ret_i C0 hP hD hS [0, 1, 2] rfl rfl rfl dX10_guestHere_58 rfl
      · have hF := it_p c_9 hF
        refine lv_aload_n hx hb dX10_guestHere_37 rfl (lv_at hl 1 rfl) ?_
        refine lv_iconst (v := (2 : Int32)) hx hb dX10_guestHere_38 (by decide) ?_
        refine lv_aload_n hx hb dX10_guestHere_39 rfl (lv_at hl 1 rfl) ?_
        refine va_get (D := g.1) (ci := 10) (v := .int (u_2 4)) (C := RX10) (T := TX10) (N := 35) hx hb hts iX10_guestHere_X10 hown hK.1 hP 0 rfl rfl 4 (by decide) (hts _ kX10_guestHere_72) (fun _ h9 => h9) rfl dX10_guestHere_40 ?_
        obtain ⟨u_11, hu_12, hF⟩ := ob1_some hF
        refine call_v (wr := [aI g (p_t 12) 8 f_t_12, aI g (p_t 16) 266 f_t_16]) (As := [.int (2 : Int32), .int (u_2 4)]) (rest := []) (ci := 10) (q0 := 0) C0 (mX10_wrong l g a_t p_t n (2 : Int32) (u_2 4) u_2 u_11 hu_12) (cwV 2 hts gX10_guestHere_X10_wrong rfl rfl rfl (by decide +kernel) ⟨Nat.le_of_ble_eq_true rfl, Nat.le_of_ble_eq_true rfl⟩) hP hD hS [0] [1, 2] rfl rfl rfl rfl rfl (by decide) rfl rfl hl.1 rfl rfl (Nat.le_of_ble_eq_true rfl) ⟨Nat.zero_le _, Nat.zero_le _⟩ dX10_guestHere_43 ?_
        intro H locs hP hD hS
        refine lv_aload_n hx hb dX10_guestHere_46 rfl (lv_at hl 1 rfl) ?_
        refine va_get (D := g.1) (ci := 10) (v := .int (u_11 13)) (C := RX10) (T := TX10) (N := 35) hx hb hts iX10_guestHere_X10 hown hK.1 hP 2 rfl rfl 13 (by decide) (hts _ kX10_guestHere_91) (fun _ h9 => h9) rfl dX10_guestHere_47 ?_
        refine lv_if_eq (tgt := 57) hx hb dX10_guestHere_50 (by decide) (fun c_13 => ?_) (fun c_13 => ?_)
        · have hF := it_p c_13 hF
          refine lv_iload_n hx hb dX10_guestHere_57 rfl (lv_at hl 0 rfl) ?_
          cases hF
          exact ret_i C0 hP hD hS [2, 0, 1] rfl rfl rfl dX10_guestHere_58 rfl
        · have hF := it_n c_13 hF
          refine lv_iconst (v := (0 : Int32)) hx hb dX10_guestHere_53 (by decide) ?_
          refine lv_goto (tgt := 58) hx hb dX10_guestHere_54 (by decide) ?_
          cases hF
          exact ret_i C0 hP hD hS [2, 0, 1] rfl rfl rfl dX10_guestHere_58 rfl
    · have hF := it_n c_4 hF
      refine lv_iconst (v := (0 : Int32)) hx hb dX10_guestHere_20 (by decide) ?_
      cases hF
      exact ret_i C0 hP hD hS [1, 2, 0] rfl rfl rfl dX10_guestHere_21 rfl
  · have hF := it_n c_1 hF
    refine lv_iconst (v := (0 : Int32)) hx hb dX10_guestHere_7 (by decide) ?_
    cases hF
    exact ret_i C0 hP hD hS [0, 1, 2] rfl rfl rfl dX10_guestHere_8 rfl

theorem dAX10_guestPassed : ∀ q ∈ ([(0, (.aload_n 0, 1)), (1, (.invokevirtual 148, 3)), (4, (.istore_n 1, 1)), (5, (.aload_n 0, 1)), (6, (.getfield 91, 3)), (9, (.ifCond .ne 7, 3)), (12, (.aload_n 0, 1)), (13, (.invokevirtual 112, 3)), (16, (.iload_n 1, 1)), (17, (.ireturn, 1))] : List (Nat × (Instr × Nat))), decode cX10_guestPassed q.1 = .ok q.2 := by decide +kernel
theorem dX10_guestPassed_0 : decode cX10_guestPassed 0 = .ok (.aload_n 0, 1) := dAX10_guestPassed (0, (.aload_n 0, 1)) (List.mem_of_getElem? (i := 0) rfl)
theorem dX10_guestPassed_1 : decode cX10_guestPassed 1 = .ok (.invokevirtual 148, 3) := dAX10_guestPassed (1, (.invokevirtual 148, 3)) (List.mem_of_getElem? (i := 1) rfl)
theorem dX10_guestPassed_4 : decode cX10_guestPassed 4 = .ok (.istore_n 1, 1) := dAX10_guestPassed (4, (.istore_n 1, 1)) (List.mem_of_getElem? (i := 2) rfl)
theorem dX10_guestPassed_5 : decode cX10_guestPassed 5 = .ok (.aload_n 0, 1) := dAX10_guestPassed (5, (.aload_n 0, 1)) (List.mem_of_getElem? (i := 3) rfl)
theorem dX10_guestPassed_6 : decode cX10_guestPassed 6 = .ok (.getfield 91, 3) := dAX10_guestPassed (6, (.getfield 91, 3)) (List.mem_of_getElem? (i := 4) rfl)
theorem dX10_guestPassed_9 : decode cX10_guestPassed 9 = .ok (.ifCond .ne 7, 3) := dAX10_guestPassed (9, (.ifCond .ne 7, 3)) (List.mem_of_getElem? (i := 5) rfl)
theorem dX10_guestPassed_12 : decode cX10_guestPassed 12 = .ok (.aload_n 0, 1) := dAX10_guestPassed (12, (.aload_n 0, 1)) (List.mem_of_getElem? (i := 6) rfl)
theorem dX10_guestPassed_13 : decode cX10_guestPassed 13 = .ok (.invokevirtual 112, 3) := dAX10_guestPassed (13, (.invokevirtual 112, 3)) (List.mem_of_getElem? (i := 7) rfl)
theorem dX10_guestPassed_16 : decode cX10_guestPassed 16 = .ok (.iload_n 1, 1) := dAX10_guestPassed (16, (.iload_n 1, 1)) (List.mem_of_getElem? (i := 8) rfl)
theorem dX10_guestPassed_17 : decode cX10_guestPassed 17 = .ok (.ireturn, 1) := dAX10_guestPassed (17, (.ireturn, 1)) (List.mem_of_getElem? (i := 9) rfl)
set_option maxRecDepth 20000 in
theorem ggX10_guestPassed_X10_guestHere : GoodIn wsX10_guestPassed wsX10_guestHere := goodIn_r _ [6, 1, 7, 8, 9, 10, 5, 11, 12, 13, 14, 15, 16, 17, 18, 19, 20, 21, 22, 23, 24, 25, 26, 27, 28, 29, 30, 31, 32, 33, 34, 35, 36, 37, 38, 39, 40, 41, 42, 43, 44, 45, 46, 47, 48, 49, 50, 51, 52, 53, 54, 55, 56, 57, 58, 59, 60, 61, 62, 63, 64, 65, 66, 67, 68, 69, 70, 71, 72, 73, 74, 75, 76, 77, 78, 79, 80, 81, 100, 101, 102, 103, 104, 105, 106, 107, 108, 109, 110, 111, 112, 113, 114, 115, 116, 117, 118, 119, 120, 121, 122, 123, 124, 125, 126, 127, 128, 129, 130, 131, 132, 133, 134] rfl (by decide +kernel)
set_option maxRecDepth 20000 in
theorem gX10_guestPassed_X10_guestHere : GoodIn wsX10_guestPassed (wsV RX10 148 RX10 yX10_guestHere wsX10_guestHere) := goodIn_app (goodIn_of _ (by decide +kernel)) ggX10_guestPassed_X10_guestHere
set_option maxRecDepth 20000 in
theorem ggX10_guestPassed_X10_next : GoodIn wsX10_guestPassed wsX10_next := goodIn_r _ [85, 86, 7, 17, 87, 12, 18, 88, 89, 90, 5, 91, 92, 93, 94, 95, 96, 97, 98, 99, 100, 101, 102, 103, 104, 105, 106, 107, 108, 109, 110, 111, 112, 113, 114, 115, 116, 117, 118, 119, 120, 121, 122, 123, 124, 125, 126, 127, 128, 129, 130, 131, 132, 133, 134] rfl (by decide +kernel)
set_option maxRecDepth 20000 in
theorem gX10_guestPassed_X10_next : GoodIn wsX10_guestPassed (wsV RX10 112 RX10 yX10_next wsX10_next) := goodIn_app (goodIn_of _ (by decide +kernel)) ggX10_guestPassed_X10_next
theorem kX10_guestPassed_91 : Cond.fieldLink RX10 91 "EveningVowModel" "failed" "Z" ∈ wsX10_guestPassed := List.mem_of_getElem? (i := 1) rfl
theorem iX10_guestPassed_X10 : ∀ w ∈ u_ws RX10 TX10 35, w ∈ wsX10_guestPassed := fun w h => (List.mem_cons_of_mem _ (List.mem_append_right _ h))
set_option maxHeartbeats 4000000 in
set_option maxRecDepth 100000 in
theorem mX10_guestPassed (l : Launch) (g : GG) (a_t : Nat) (p_t : Nat → Nat) (n : Nat) (o_t : Nat → Int32) (f_t_1 : Nat → Int32) (f_t_12 : Nat → Int32) (f_t_16 : Nat → Int32) (r : Int32) (o_t' : Nat → Int32) (f_t_12' : Nat → Int32) (hF : fX10_guestPassed n o_t f_t_1 f_t_12 f_t_16 = some (r, o_t', f_t_12')) : MI l g yX10_guestPassed wsX10_guestPassed ({ frames := 7, cells := 0, slots := 0, locals := 154 } : Room) [.ref a_t] [oX10 a_t p_t o_t, aI g (p_t 1) 800 f_t_1, aI g (p_t 12) 8 f_t_12, aI g (p_t 16) 266 f_t_16] r [oX10 a_t p_t o_t', aI g (p_t 1) 800 f_t_1, aI g (p_t 12) 8 f_t_12', aI g (p_t 16) 266 f_t_16] := by
  refine MI.of (cc := cX10_guestPassed) (maxL := 2) (rt := .int) (own := RX10) rfl rfl (by decide) (Nat.le_of_ble_eq_true rfl) ?_
  intro p e s m args below meth c A C0 hP hD hS ls hl
  obtain ⟨hx, hb, hml, hown, hts, hr, hlk, hK, hA, hSW⟩ := id C0
  have hl : lv_has ls 2 [(0, .ref a_t)] := hl
  rw [fX10_guestPassed] at hF
  refine lv_aload_n hx hb dX10_guestPassed_0 rfl (lv_at hl 0 rfl) ?_
  obtain ⟨u_1, u_2, hu_3, hF⟩ := ob2_some hF
  refine call_i (wr := [aI g (p_t 1) 800 f_t_1]) (As := []) (rest := []) (ci := 10) (q0 := 0) C0 (mX10_guestHere l g a_t p_t n o_t f_t_12 f_t_16 u_1 u_2 hu_3) (cwV 0 hts gX10_guestPassed_X10_guestHere rfl rfl rfl (by decide +kernel) ⟨Nat.le_of_ble_eq_true rfl, Nat.le_of_ble_eq_true rfl⟩) hP hD hS [0, 2, 3] [1] rfl rfl rfl rfl rfl (by decide) rfl rfl hl.1 rfl rfl (Nat.le_of_ble_eq_true rfl) ⟨Nat.zero_le _, Nat.zero_le _⟩ dX10_guestPassed_1 ?_
  intro H locs hP hD hS
  refine lv_istore_n (lv' := [(1, .int u_1), (0, .ref a_t)]) hx hb dX10_guestPassed_4 rfl hl (by decide) rfl (fun ls hl => ?_)
  refine lv_aload_n hx hb dX10_guestPassed_5 rfl (lv_at hl 1 rfl) ?_
  refine va_get (D := g.1) (ci := 10) (v := .int (u_2 13)) (C := RX10) (T := TX10) (N := 35) hx hb hts iX10_guestPassed_X10 hown hK.1 hP 1 rfl rfl 13 (by decide) (hts _ kX10_guestPassed_91) (fun _ h9 => h9) rfl dX10_guestPassed_6 ?_
  refine lv_if_ne (tgt := 16) hx hb dX10_guestPassed_9 (by decide) (fun c_4 => ?_) (fun c_4 => ?_)
  · have hF := it_n c_4 hF
    refine lv_iload_n hx hb dX10_guestPassed_16 rfl (lv_at hl 0 rfl) ?_
    cases hF
    exact ret_i C0 hP hD hS [1, 0, 2, 3] rfl rfl rfl dX10_guestPassed_17 rfl
  · have hF := it_p c_4 hF
    refine lv_aload_n hx hb dX10_guestPassed_12 rfl (lv_at hl 1 rfl) ?_
    obtain ⟨u_5, u_6, hu_7, hF⟩ := ob2_some hF
    refine call_v (wr := [aI g (p_t 16) 266 f_t_16]) (As := []) (rest := []) (ci := 10) (q0 := 0) C0 (mX10_next l g a_t p_t n u_2 f_t_1 f_t_12 u_5 u_6 hu_7) (cwV 0 hts gX10_guestPassed_X10_next rfl rfl rfl (by decide +kernel) ⟨Nat.le_of_ble_eq_true rfl, Nat.le_of_ble_eq_true rfl⟩) hP hD hS [1, 0, 2] [3] rfl rfl rfl rfl rfl (by decide) rfl rfl hl.1 rfl rfl (Nat.le_of_ble_eq_true rfl) ⟨Nat.zero_le _, Nat.zero_le _⟩ dX10_guestPassed_13 ?_
    intro H locs hP hD hS
    refine lv_iload_n hx hb dX10_guestPassed_16 rfl (lv_at hl 0 rfl) ?_
    cases hF
    exact ret_i C0 hP hD hS [1, 2, 3, 0] rfl rfl rfl dX10_guestPassed_17 rfl

theorem dAX10_number : ∀ q ∈ ([(0, (.aload_n 0, 1)), (1, (.getfield 91, 3)), (4, (.ifCond .eq 5, 3)), (7, (.iload_n 1, 1)), (8, (.ireturn, 1)), (9, (.aload_n 0, 1)), (10, (.getfield 81, 3)), (13, (.iconst 3, 1)), (14, (.if_icmp .eq 15, 3)), (17, (.aload_n 0, 1)), (18, (.iconst 1, 1)), (19, (.aload_n 0, 1)), (20, (.getfield 72, 3)), (23, (.invokevirtual 118, 3)), (26, (.goto 24, 3)), (29, (.aload_n 0, 1)), (30, (.getfield 78, 3)), (33, (.iload_n 1, 1)), (34, (.iload_n 2, 1)), (35, (.invokestatic 144, 3)), (38, (.ifCond .ne 12, 3)), (41, (.aload_n 0, 1)), (42, (.iconst 4, 1)), (43, (.aload_n 0, 1)), (44, (.getfield 72, 3)), (47, (.invokevirtual 118, 3)), (50, (.aload_n 0, 1)), (51, (.getfield 91, 3)), (54, (.ifCond .eq 5, 3)), (57, (.iload_n 1, 1)), (58, (.ireturn, 1)), (59, (.aload_n 0, 1)), (60, (.getfield 78, 3)), (63, (.istore_n 3, 1)), (64, (.aload_n 0, 1)), (65, (.invokevirtual 112, 3)), (68, (.iload_n 3, 1)), (69, (.ireturn, 1))] : List (Nat × (Instr × Nat))), decode cX10_number q.1 = .ok q.2 := by decide +kernel
theorem dX10_number_0 : decode cX10_number 0 = .ok (.aload_n 0, 1) := dAX10_number (0, (.aload_n 0, 1)) (List.mem_of_getElem? (i := 0) rfl)
theorem dX10_number_1 : decode cX10_number 1 = .ok (.getfield 91, 3) := dAX10_number (1, (.getfield 91, 3)) (List.mem_of_getElem? (i := 1) rfl)
theorem dX10_number_4 : decode cX10_number 4 = .ok (.ifCond .eq 5, 3) := dAX10_number (4, (.ifCond .eq 5, 3)) (List.mem_of_getElem? (i := 2) rfl)
theorem dX10_number_7 : decode cX10_number 7 = .ok (.iload_n 1, 1) := dAX10_number (7, (.iload_n 1, 1)) (List.mem_of_getElem? (i := 3) rfl)
theorem dX10_number_8 : decode cX10_number 8 = .ok (.ireturn, 1) := dAX10_number (8, (.ireturn, 1)) (List.mem_of_getElem? (i := 4) rfl)
theorem dX10_number_9 : decode cX10_number 9 = .ok (.aload_n 0, 1) := dAX10_number (9, (.aload_n 0, 1)) (List.mem_of_getElem? (i := 5) rfl)
theorem dX10_number_10 : decode cX10_number 10 = .ok (.getfield 81, 3) := dAX10_number (10, (.getfield 81, 3)) (List.mem_of_getElem? (i := 6) rfl)
theorem dX10_number_13 : decode cX10_number 13 = .ok (.iconst 3, 1) := dAX10_number (13, (.iconst 3, 1)) (List.mem_of_getElem? (i := 7) rfl)
theorem dX10_number_14 : decode cX10_number 14 = .ok (.if_icmp .eq 15, 3) := dAX10_number (14, (.if_icmp .eq 15, 3)) (List.mem_of_getElem? (i := 8) rfl)
theorem dX10_number_17 : decode cX10_number 17 = .ok (.aload_n 0, 1) := dAX10_number (17, (.aload_n 0, 1)) (List.mem_of_getElem? (i := 9) rfl)
theorem dX10_number_18 : decode cX10_number 18 = .ok (.iconst 1, 1) := dAX10_number (18, (.iconst 1, 1)) (List.mem_of_getElem? (i := 10) rfl)
theorem dX10_number_19 : decode cX10_number 19 = .ok (.aload_n 0, 1) := dAX10_number (19, (.aload_n 0, 1)) (List.mem_of_getElem? (i := 11) rfl)
theorem dX10_number_20 : decode cX10_number 20 = .ok (.getfield 72, 3) := dAX10_number (20, (.getfield 72, 3)) (List.mem_of_getElem? (i := 12) rfl)
theorem dX10_number_23 : decode cX10_number 23 = .ok (.invokevirtual 118, 3) := dAX10_number (23, (.invokevirtual 118, 3)) (List.mem_of_getElem? (i := 13) rfl)
theorem dX10_number_26 : decode cX10_number 26 = .ok (.goto 24, 3) := dAX10_number (26, (.goto 24, 3)) (List.mem_of_getElem? (i := 14) rfl)
theorem dX10_number_29 : decode cX10_number 29 = .ok (.aload_n 0, 1) := dAX10_number (29, (.aload_n 0, 1)) (List.mem_of_getElem? (i := 15) rfl)
theorem dX10_number_30 : decode cX10_number 30 = .ok (.getfield 78, 3) := dAX10_number (30, (.getfield 78, 3)) (List.mem_of_getElem? (i := 16) rfl)
theorem dX10_number_33 : decode cX10_number 33 = .ok (.iload_n 1, 1) := dAX10_number (33, (.iload_n 1, 1)) (List.mem_of_getElem? (i := 17) rfl)
theorem dX10_number_34 : decode cX10_number 34 = .ok (.iload_n 2, 1) := dAX10_number (34, (.iload_n 2, 1)) (List.mem_of_getElem? (i := 18) rfl)
theorem dX10_number_35 : decode cX10_number 35 = .ok (.invokestatic 144, 3) := dAX10_number (35, (.invokestatic 144, 3)) (List.mem_of_getElem? (i := 19) rfl)
theorem dX10_number_38 : decode cX10_number 38 = .ok (.ifCond .ne 12, 3) := dAX10_number (38, (.ifCond .ne 12, 3)) (List.mem_of_getElem? (i := 20) rfl)
theorem dX10_number_41 : decode cX10_number 41 = .ok (.aload_n 0, 1) := dAX10_number (41, (.aload_n 0, 1)) (List.mem_of_getElem? (i := 21) rfl)
theorem dX10_number_42 : decode cX10_number 42 = .ok (.iconst 4, 1) := dAX10_number (42, (.iconst 4, 1)) (List.mem_of_getElem? (i := 22) rfl)
theorem dX10_number_43 : decode cX10_number 43 = .ok (.aload_n 0, 1) := dAX10_number (43, (.aload_n 0, 1)) (List.mem_of_getElem? (i := 23) rfl)
theorem dX10_number_44 : decode cX10_number 44 = .ok (.getfield 72, 3) := dAX10_number (44, (.getfield 72, 3)) (List.mem_of_getElem? (i := 24) rfl)
theorem dX10_number_47 : decode cX10_number 47 = .ok (.invokevirtual 118, 3) := dAX10_number (47, (.invokevirtual 118, 3)) (List.mem_of_getElem? (i := 25) rfl)
theorem dX10_number_50 : decode cX10_number 50 = .ok (.aload_n 0, 1) := dAX10_number (50, (.aload_n 0, 1)) (List.mem_of_getElem? (i := 26) rfl)
theorem dX10_number_51 : decode cX10_number 51 = .ok (.getfield 91, 3) := dAX10_number (51, (.getfield 91, 3)) (List.mem_of_getElem? (i := 27) rfl)
theorem dX10_number_54 : decode cX10_number 54 = .ok (.ifCond .eq 5, 3) := dAX10_number (54, (.ifCond .eq 5, 3)) (List.mem_of_getElem? (i := 28) rfl)
theorem dX10_number_57 : decode cX10_number 57 = .ok (.iload_n 1, 1) := dAX10_number (57, (.iload_n 1, 1)) (List.mem_of_getElem? (i := 29) rfl)
theorem dX10_number_58 : decode cX10_number 58 = .ok (.ireturn, 1) := dAX10_number (58, (.ireturn, 1)) (List.mem_of_getElem? (i := 30) rfl)
theorem dX10_number_59 : decode cX10_number 59 = .ok (.aload_n 0, 1) := dAX10_number (59, (.aload_n 0, 1)) (List.mem_of_getElem? (i := 31) rfl)
theorem dX10_number_60 : decode cX10_number 60 = .ok (.getfield 78, 3) := dAX10_number (60, (.getfield 78, 3)) (List.mem_of_getElem? (i := 32) rfl)
theorem dX10_number_63 : decode cX10_number 63 = .ok (.istore_n 3, 1) := dAX10_number (63, (.istore_n 3, 1)) (List.mem_of_getElem? (i := 33) rfl)
theorem dX10_number_64 : decode cX10_number 64 = .ok (.aload_n 0, 1) := dAX10_number (64, (.aload_n 0, 1)) (List.mem_of_getElem? (i := 34) rfl)
theorem dX10_number_65 : decode cX10_number 65 = .ok (.invokevirtual 112, 3) := dAX10_number (65, (.invokevirtual 112, 3)) (List.mem_of_getElem? (i := 35) rfl)
theorem dX10_number_68 : decode cX10_number 68 = .ok (.iload_n 3, 1) := dAX10_number (68, (.iload_n 3, 1)) (List.mem_of_getElem? (i := 36) rfl)
theorem dX10_number_69 : decode cX10_number 69 = .ok (.ireturn, 1) := dAX10_number (69, (.ireturn, 1)) (List.mem_of_getElem? (i := 37) rfl)
set_option maxRecDepth 20000 in
theorem ggX10_number_X10_wrong : GoodIn wsX10_number wsX10_wrong := goodIn_r _ [9, 1, 10, 11, 34, 35, 36, 37, 38, 39, 40, 41, 42, 43, 44, 45, 46, 47, 48, 49, 50, 51, 52, 53, 54, 55, 56, 57, 58, 59, 60, 61, 62, 63, 64, 65, 66, 67, 68] rfl (by decide +kernel)
set_option maxRecDepth 20000 in
theorem gX10_number_X10_wrong : GoodIn wsX10_number (wsV RX10 118 RX10 yX10_wrong wsX10_wrong) := goodIn_app (goodIn_of _ (by decide +kernel)) ggX10_number_X10_wrong
set_option maxRecDepth 20000 in
theorem ggX10_number_X10_in : GoodIn wsX10_number wsX10_in := goodIn_r _ [14] rfl (by decide +kernel)
set_option maxRecDepth 20000 in
theorem gX10_number_X10_in : GoodIn wsX10_number (va_wsS RX10 144 yX10_in wsX10_in) := goodIn_app (goodIn_of _ (by decide +kernel)) ggX10_number_X10_in
set_option maxRecDepth 20000 in
theorem ggX10_number_X10_next : GoodIn wsX10_number wsX10_next := goodIn_r _ [18, 19, 3, 20, 4, 2, 21, 22, 23, 24, 8, 25, 26, 27, 28, 29, 30, 31, 32, 33, 34, 35, 36, 37, 38, 39, 40, 41, 42, 43, 44, 45, 46, 47, 48, 49, 50, 51, 52, 53, 54, 55, 56, 57, 58, 59, 60, 61, 62, 63, 64, 65, 66, 67, 68] rfl (by decide +kernel)
set_option maxRecDepth 20000 in
theorem gX10_number_X10_next : GoodIn wsX10_number (wsV RX10 112 RX10 yX10_next wsX10_next) := goodIn_app (goodIn_of _ (by decide +kernel)) ggX10_number_X10_next
theorem kX10_number_91 : Cond.fieldLink RX10 91 "EveningVowModel" "failed" "Z" ∈ wsX10_number := List.mem_of_getElem? (i := 1) rfl
theorem iX10_number_X10 : ∀ w ∈ u_ws RX10 TX10 35, w ∈ wsX10_number := fun w h => (List.mem_cons_of_mem _ (List.mem_append_right _ h))
theorem kX10_number_81 : Cond.fieldLink RX10 81 "EveningVowModel" "token" "I" ∈ wsX10_number := List.mem_of_getElem? (i := 2) rfl
theorem kX10_number_78 : Cond.fieldLink RX10 78 "EveningVowModel" "whole" "I" ∈ wsX10_number := List.mem_of_getElem? (i := 4) rfl
theorem kX10_number_72 : Cond.fieldLink RX10 72 "EveningVowModel" "at" "I" ∈ wsX10_number := List.mem_of_getElem? (i := 3) rfl
set_option maxHeartbeats 4000000 in
set_option maxRecDepth 100000 in
theorem mX10_number (l : Launch) (g : GG) (a_t : Nat) (p_t : Nat → Nat) (n : Nat) (x1 : Int32) (x2 : Int32) (o_t : Nat → Int32) (f_t_1 : Nat → Int32) (f_t_12 : Nat → Int32) (r : Int32) (o_t' : Nat → Int32) (f_t_12' : Nat → Int32) (hF : fX10_number n x1 x2 o_t f_t_1 f_t_12 = some (r, o_t', f_t_12')) : MI l g yX10_number wsX10_number ({ frames := 2, cells := 0, slots := 0, locals := 44 } : Room) [.ref a_t, .int x1, .int x2] [oX10 a_t p_t o_t, aI g (p_t 1) 800 f_t_1, aI g (p_t 12) 8 f_t_12] r [oX10 a_t p_t o_t', aI g (p_t 1) 800 f_t_1, aI g (p_t 12) 8 f_t_12'] := by
  refine MI.of (cc := cX10_number) (maxL := 4) (rt := .int) (own := RX10) rfl rfl (by decide) (Nat.le_of_ble_eq_true rfl) ?_
  intro p e s m args below meth c A C0 hP hD hS ls hl
  obtain ⟨hx, hb, hml, hown, hts, hr, hlk, hK, hA, hSW⟩ := id C0
  have hl : lv_has ls 4 [(0, .ref a_t), (1, .int x1), (2, .int x2)] := hl
  rw [fX10_number] at hF
  refine lv_aload_n hx hb dX10_number_0 rfl (lv_at hl 0 rfl) ?_
  refine va_get (D := g.1) (ci := 10) (v := .int (o_t 13)) (C := RX10) (T := TX10) (N := 35) hx hb hts iX10_number_X10 hown hK.1 hP 0 rfl rfl 13 (by decide) (hts _ kX10_number_91) (fun _ h9 => h9) rfl dX10_number_1 ?_
  refine lv_if_eq (tgt := 9) hx hb dX10_number_4 (by decide) (fun c_1 => ?_) (fun c_1 => ?_)
  · have hF := it_p c_1 hF
    refine lv_aload_n hx hb dX10_number_9 rfl (lv_at hl 0 rfl) ?_
    refine va_get (D := g.1) (ci := 10) (v := .int (o_t 6)) (C := RX10) (T := TX10) (N := 35) hx hb hts iX10_number_X10 hown hK.1 hP 0 rfl rfl 6 (by decide) (hts _ kX10_number_81) (fun _ h9 => h9) rfl dX10_number_10 ?_
    refine lv_iconst (v := (3 : Int32)) hx hb dX10_number_13 (by decide) ?_
    obtain ⟨J50, eJ50, hF⟩ := jn_some hF
    have hJ50 : ∀ (o_t_50 : Nat → Int32) (H : Heap) (locs : List Loc) (ls : Array Slot), J50 o_t_50 = some (r, o_t', f_t_12') → va_P g.1 vwCl [oX10 a_t p_t o_t_50, aI g (p_t 1) 800 f_t_1, aI g (p_t 12) 8 f_t_12] H → va_D A [oX10 a_t p_t o_t_50, aI g (p_t 1) 800 f_t_1, aI g (p_t 12) 8 f_t_12] → va_S A s.heap H locs → lv_has ls 4 [(0, .ref a_t), (1, .int x1)] → W p l e ({ frames := 2, cells := 0, slots := 0, locals := 44 } : Room) s m args below meth c H locs 0 0 (MQ below (EndI g r [oX10 a_t p_t o_t', aI g (p_t 1) 800 f_t_1, aI g (p_t 12) 8 f_t_12'] A) args s 0 0 A) (F0 m 50 ls []) := by
      intro o_t_50 H locs ls hF hP hD hS hl
      have hF := jj1 eJ50 hF
      refine lv_aload_n hx hb dX10_number_50 rfl (lv_at hl 0 rfl) ?_
      refine va_get (D := g.1) (ci := 10) (v := .int (o_t_50 13)) (C := RX10) (T := TX10) (N := 35) hx hb hts iX10_number_X10 hown hK.1 hP 0 rfl rfl 13 (by decide) (hts _ kX10_number_91) (fun _ h9 => h9) rfl dX10_number_51 ?_
      refine lv_if_eq (tgt := 59) hx hb dX10_number_54 (by decide) (fun c_2 => ?_) (fun c_2 => ?_)
      · have hF := it_p c_2 hF
        refine lv_aload_n hx hb dX10_number_59 rfl (lv_at hl 0 rfl) ?_
        refine va_get (D := g.1) (ci := 10) (v := .int (o_t_50 7)) (C := RX10) (T := TX10) (N := 35) hx hb hts iX10_number_X10 hown hK.1 hP 0 rfl rfl 7 (by decide) (hts _ kX10_number_78) (fun _ h9 => h9) rfl dX10_number_60 ?_
        refine lv_istore_n (lv' := [(3, .int (o_t_50 7)), (0, .ref a_t), (1, .int x1)]) hx hb dX10_number_63 rfl hl (by decide) rfl (fun ls hl => ?_)
        refine lv_aload_n hx hb dX10_number_64 rfl (lv_at hl 1 rfl) ?_
        obtain ⟨u_3, u_4, hu_5, hF⟩ := ob2_some hF
        refine call_v (wr := []) (As := []) (rest := []) (ci := 10) (q0 := 0) C0 (mX10_next l g a_t p_t n o_t_50 f_t_1 f_t_12 u_3 u_4 hu_5) (cwV 0 hts gX10_number_X10_next rfl rfl rfl (by decide +kernel) ⟨Nat.le_of_ble_eq_true rfl, Nat.le_of_ble_eq_true rfl⟩) hP hD hS [0, 1, 2] [] rfl rfl rfl rfl rfl (by decide) rfl rfl hl.1 rfl rfl (Nat.le_of_ble_eq_true rfl) ⟨Nat.zero_le _, Nat.zero_le _⟩ dX10_number_65 ?_
        intro H locs hP hD hS
        refine lv_iload_n hx hb dX10_number_68 rfl (lv_at hl 0 rfl) ?_
        cases hF
        exact ret_i C0 hP hD hS [0, 1, 2] rfl rfl rfl dX10_number_69 rfl
      · have hF := it_n c_2 hF
        refine lv_iload_n hx hb dX10_number_57 rfl (lv_at hl 1 rfl) ?_
        cases hF
        exact ret_i C0 hP hD hS [0, 1, 2] rfl rfl rfl dX10_number_58 rfl
    refine lv_icmp_eq (tgt := 29) hx hb dX10_number_14 (by decide) (fun c_6 => ?_) (fun c_6 => ?_)
    · have hF := it_p c_6 hF
      refine lv_aload_n hx hb dX10_number_29 rfl (lv_at hl 0 rfl) ?_
      refine va_get (D := g.1) (ci := 10) (v := .int (o_t 7)) (C := RX10) (T := TX10) (N := 35) hx hb hts iX10_number_X10 hown hK.1 hP 0 rfl rfl 7 (by decide) (hts _ kX10_number_78) (fun _ h9 => h9) rfl dX10_number_30 ?_
      refine lv_iload_n hx hb dX10_number_33 rfl (lv_at hl 1 rfl) ?_
      refine lv_iload_n hx hb dX10_number_34 rfl (lv_at hl 2 rfl) ?_
      obtain ⟨u_7, hu_8, hF⟩ := ob1_some hF
      refine call_si (wr := [oX10 a_t p_t o_t, aI g (p_t 1) 800 f_t_1, aI g (p_t 12) 8 f_t_12]) (As := [.int (o_t 7), .int x1, .int x2]) (rest := []) C0 (mX10_in l g n (o_t 7) x1 x2 u_7 hu_8) (va_cwS 3 hts gX10_number_X10_in rfl rfl rfl (by decide +kernel) ⟨Nat.le_of_ble_eq_true rfl, Nat.le_of_ble_eq_true rfl⟩) hP hD hS [] [0, 1, 2] rfl rfl rfl rfl rfl (by decide) hl.1 rfl rfl (Nat.le_of_ble_eq_true rfl) ⟨Nat.zero_le _, Nat.zero_le _⟩ dX10_number_35 ?_
      intro H locs hP hD hS
      refine lv_if_ne (tgt := 50) hx hb dX10_number_38 (by decide) (fun c_9 => ?_) (fun c_9 => ?_)
      · have hF := it_n c_9 hF
        exact hJ50 o_t _ _ _ hF (hP.sub [0, 1, 2] rfl) (hD.sub [0, 1, 2] rfl rfl) hS (lv_sub hl [0, 1] rfl)
      · have hF := it_p c_9 hF
        refine lv_aload_n hx hb dX10_number_41 rfl (lv_at hl 0 rfl) ?_
        refine lv_iconst (v := (4 : Int32)) hx hb dX10_number_42 (by decide) ?_
        refine lv_aload_n hx hb dX10_number_43 rfl (lv_at hl 0 rfl) ?_
        refine va_get (D := g.1) (ci := 10) (v := .int (o_t 4)) (C := RX10) (T := TX10) (N := 35) hx hb hts iX10_number_X10 hown hK.1 hP 0 rfl rfl 4 (by decide) (hts _ kX10_number_72) (fun _ h9 => h9) rfl dX10_number_44 ?_
        obtain ⟨u_10, hu_11, hF⟩ := ob1_some hF
        refine call_v (wr := [aI g (p_t 1) 800 f_t_1, aI g (p_t 12) 8 f_t_12]) (As := [.int (4 : Int32), .int (o_t 4)]) (rest := []) (ci := 10) (q0 := 0) C0 (mX10_wrong l g a_t p_t n (4 : Int32) (o_t 4) o_t u_10 hu_11) (cwV 2 hts gX10_number_X10_wrong rfl rfl rfl (by decide +kernel) ⟨Nat.le_of_ble_eq_true rfl, Nat.le_of_ble_eq_true rfl⟩) hP hD hS [0] [1, 2] rfl rfl rfl rfl rfl (by decide) rfl rfl hl.1 rfl rfl (Nat.le_of_ble_eq_true rfl) ⟨Nat.zero_le _, Nat.zero_le _⟩ dX10_number_47 ?_
        intro H locs hP hD hS
        exact hJ50 u_10 _ _ _ hF (hP.sub [2, 0, 1] rfl) (hD.sub [2, 0, 1] rfl rfl) hS (lv_sub hl [0, 1] rfl)
    · have hF := it_n c_6 hF
      refine lv_aload_n hx hb dX10_number_17 rfl (lv_at hl 0 rfl) ?_
      refine lv_iconst (v := (1 : Int32)) hx hb dX10_number_18 (by decide) ?_
      refine lv_aload_n hx hb dX10_number_19 rfl (lv_at hl 0 rfl) ?_
      refine va_get (D := g.1) (ci := 10) (v := .int (o_t 4)) (C := RX10) (T := TX10) (N := 35) hx hb hts iX10_number_X10 hown hK.1 hP 0 rfl rfl 4 (by decide) (hts _ kX10_number_72) (fun _ h9 => h9) rfl dX10_number_20 ?_
      obtain ⟨u_12, hu_13, hF⟩ := ob1_some hF
      refine call_v (wr := [aI g (p_t 1) 800 f_t_1, aI g (p_t 12) 8 f_t_12]) (As := [.int (1 : Int32), .int (o_t 4)]) (rest := []) (ci := 10) (q0 := 0) C0 (mX10_wrong l g a_t p_t n (1 : Int32) (o_t 4) o_t u_12 hu_13) (cwV 2 hts gX10_number_X10_wrong rfl rfl rfl (by decide +kernel) ⟨Nat.le_of_ble_eq_true rfl, Nat.le_of_ble_eq_true rfl⟩) hP hD hS [0] [1, 2] rfl rfl rfl rfl rfl (by decide) rfl rfl hl.1 rfl rfl (Nat.le_of_ble_eq_true rfl) ⟨Nat.zero_le _, Nat.zero_le _⟩ dX10_number_23 ?_
      intro H locs hP hD hS
      refine lv_goto (tgt := 50) hx hb dX10_number_26 (by decide) ?_
      exact hJ50 u_12 _ _ _ hF (hP.sub [2, 0, 1] rfl) (hD.sub [2, 0, 1] rfl rfl) hS (lv_sub hl [0, 1] rfl)
  · have hF := it_n c_1 hF
    refine lv_iload_n hx hb dX10_number_7 rfl (lv_at hl 1 rfl) ?_
    cases hF
    exact ret_i C0 hP hD hS [0, 1, 2] rfl rfl rfl dX10_number_8 rfl

theorem dAX10_after : ∀ q ∈ ([(0, (.aload_n 0, 1)), (1, (.aload_n 1, 1)), (2, (.invokevirtual 151, 3)), (5, (.aload_n 0, 1)), (6, (.iload_n 2, 1)), (7, (.iload_n 3, 1)), (8, (.invokevirtual 155, 3)), (11, (.ireturn, 1))] : List (Nat × (Instr × Nat))), decode cX10_after q.1 = .ok q.2 := by decide +kernel
theorem dX10_after_0 : decode cX10_after 0 = .ok (.aload_n 0, 1) := dAX10_after (0, (.aload_n 0, 1)) (List.mem_of_getElem? (i := 0) rfl)
theorem dX10_after_1 : decode cX10_after 1 = .ok (.aload_n 1, 1) := dAX10_after (1, (.aload_n 1, 1)) (List.mem_of_getElem? (i := 1) rfl)
theorem dX10_after_2 : decode cX10_after 2 = .ok (.invokevirtual 151, 3) := dAX10_after (2, (.invokevirtual 151, 3)) (List.mem_of_getElem? (i := 2) rfl)
theorem dX10_after_5 : decode cX10_after 5 = .ok (.aload_n 0, 1) := dAX10_after (5, (.aload_n 0, 1)) (List.mem_of_getElem? (i := 3) rfl)
theorem dX10_after_6 : decode cX10_after 6 = .ok (.iload_n 2, 1) := dAX10_after (6, (.iload_n 2, 1)) (List.mem_of_getElem? (i := 4) rfl)
theorem dX10_after_7 : decode cX10_after 7 = .ok (.iload_n 3, 1) := dAX10_after (7, (.iload_n 3, 1)) (List.mem_of_getElem? (i := 5) rfl)
theorem dX10_after_8 : decode cX10_after 8 = .ok (.invokevirtual 155, 3) := dAX10_after (8, (.invokevirtual 155, 3)) (List.mem_of_getElem? (i := 6) rfl)
theorem dX10_after_11 : decode cX10_after 11 = .ok (.ireturn, 1) := dAX10_after (11, (.ireturn, 1)) (List.mem_of_getElem? (i := 7) rfl)
set_option maxRecDepth 20000 in
theorem ggX10_after_X10_must : GoodIn wsX10_after wsX10_must := goodIn_r _ [5, 6, 7, 8, 9, 10, 4, 11, 12, 13, 14, 15, 16, 17, 18, 19, 20, 21, 22, 23, 24, 25, 26, 27, 28, 29, 30, 31, 32, 33, 34, 35, 36, 37, 38, 39, 40, 41, 42, 43, 44, 45, 46, 47, 48, 49, 50, 51, 52, 53, 54, 55, 56, 57, 58, 59, 60, 61, 62, 63, 64, 65, 66, 67, 68, 69, 70, 71, 72, 73, 74, 75, 76, 77, 78, 79, 80, 81, 82, 83, 84, 85, 86, 87, 88, 89, 90, 91, 99, 100, 101, 102, 103, 104, 105, 106, 107, 108, 109, 110, 111, 112, 113, 114, 115, 116, 117, 118, 119, 120, 121, 122, 123, 124, 125, 126, 127, 128, 129, 130, 131, 132, 133] rfl (by decide +kernel)
set_option maxRecDepth 20000 in
theorem gX10_after_X10_must : GoodIn wsX10_after (wsV RX10 151 RX10 yX10_must wsX10_must) := goodIn_app (goodIn_of _ (by decide +kernel)) ggX10_after_X10_must
set_option maxRecDepth 20000 in
theorem ggX10_after_X10_number : GoodIn wsX10_after wsX10_number := goodIn_r _ [95, 6, 16, 7, 73, 86, 87, 88, 4, 89, 90, 91, 96, 97, 98, 68, 69, 70, 71, 72, 17, 18, 74, 75, 76, 77, 78, 79, 80, 81, 82, 83, 84, 85, 99, 100, 101, 102, 103, 104, 105, 106, 107, 108, 109, 110, 111, 112, 113, 114, 115, 116, 117, 118, 119, 120, 121, 122, 123, 124, 125, 126, 127, 128, 129, 130, 131, 132, 133] rfl (by decide +kernel)
set_option maxRecDepth 20000 in
theorem gX10_after_X10_number : GoodIn wsX10_after (wsV RX10 155 RX10 yX10_number wsX10_number) := goodIn_app (goodIn_of _ (by decide +kernel)) ggX10_after_X10_number
set_option maxHeartbeats 4000000 in
set_option maxRecDepth 100000 in
theorem mX10_after (l : Launch) (g : GG) (a_t : Nat) (p_t : Nat → Nat) (n : Nat) (i1 : Nat) (x2 : Int32) (x3 : Int32) (o_t : Nat → Int32) (f_t_1 : Nat → Int32) (f_t_12 : Nat → Int32) (r : Int32) (o_t' : Nat → Int32) (f_t_12' : Nat → Int32) (hi1 : i1 < 22) (hF : fX10_after n i1 x2 x3 o_t f_t_1 f_t_12 = some (r, o_t', f_t_12')) : MI l g yX10_after wsX10_after ({ frames := 7, cells := 0, slots := 0, locals := 155 } : Room) [.ref a_t, .ref (gK g i1), .int x2, .int x3] [oX10 a_t p_t o_t, aI g (p_t 1) 800 f_t_1, aI g (p_t 12) 8 f_t_12] r [oX10 a_t p_t o_t', aI g (p_t 1) 800 f_t_1, aI g (p_t 12) 8 f_t_12'] := by
  refine MI.of (cc := cX10_after) (maxL := 4) (rt := .int) (own := RX10) rfl rfl (by decide) (Nat.le_of_ble_eq_true rfl) ?_
  intro p e s m args below meth c A C0 hP hD hS ls hl
  obtain ⟨hx, hb, hml, hown, hts, hr, hlk, hK, hA, hSW⟩ := id C0
  have hl : lv_has ls 4 [(0, .ref a_t), (1, .ref (gK g i1)), (2, .int x2), (3, .int x3)] := hl
  rw [fX10_after] at hF
  refine lv_aload_n hx hb dX10_after_0 rfl (lv_at hl 0 rfl) ?_
  refine lv_aload_n hx hb dX10_after_1 rfl (lv_at hl 1 rfl) ?_
  obtain ⟨u_1, u_2, hu_3, hF⟩ := ob2_some hF
  refine call_v (wr := []) (As := [.ref (gK g i1)]) (rest := []) (ci := 10) (q0 := 0) C0 (mX10_must l g a_t p_t n i1 o_t f_t_1 f_t_12 u_1 u_2 hi1 hu_3) (cwV 1 hts gX10_after_X10_must rfl rfl rfl (by decide +kernel) ⟨Nat.le_of_ble_eq_true rfl, Nat.le_of_ble_eq_true rfl⟩) hP hD hS [0, 1, 2] [] rfl rfl rfl rfl rfl (by decide) rfl rfl hl.1 rfl rfl (Nat.le_of_ble_eq_true rfl) ⟨Nat.zero_le _, Nat.zero_le _⟩ dX10_after_2 ?_
  intro H locs hP hD hS
  refine lv_aload_n hx hb dX10_after_5 rfl (lv_at hl 0 rfl) ?_
  refine lv_iload_n hx hb dX10_after_6 rfl (lv_at hl 2 rfl) ?_
  refine lv_iload_n hx hb dX10_after_7 rfl (lv_at hl 3 rfl) ?_
  obtain ⟨u_4, u_5, u_6, hu_7, hF⟩ := ob3_some hF
  refine call_i (wr := []) (As := [.int x2, .int x3]) (rest := []) (ci := 10) (q0 := 0) C0 (mX10_number l g a_t p_t n x2 x3 u_1 f_t_1 u_2 u_4 u_5 u_6 hu_7) (cwV 2 hts gX10_after_X10_number rfl rfl rfl (by decide +kernel) ⟨Nat.le_of_ble_eq_true rfl, Nat.le_of_ble_eq_true rfl⟩) hP hD hS [0, 1, 2] [] rfl rfl rfl rfl rfl (by decide) rfl rfl hl.1 rfl rfl (Nat.le_of_ble_eq_true rfl) ⟨Nat.zero_le _, Nat.zero_le _⟩ dX10_after_8 ?_
  intro H locs hP hD hS
  cases hF
  exact ret_i C0 hP hD hS [0, 1, 2] rfl rfl rfl dX10_after_11 rfl

theorem dAX10_eveningLine : ∀ q ∈ ([(0, (.aload_n 0, 1)), (1, (.getfield 23, 3)), (4, (.iconst 1, 1)), (5, (.iaload, 1)), (6, (.ifCond .le 12, 3)), (9, (.aload_n 0, 1)), (10, (.iconst 3, 1)), (11, (.aload_n 0, 1)), (12, (.getfield 72, 3)), (15, (.invokevirtual 118, 3)), (18, (.aload_n 0, 1)), (19, (.getfield 91, 3)), (22, (.ifCond .eq 4, 3)), (25, (.return_, 1)), (26, (.aload_n 0, 1)), (27, (.invokevirtual 112, 3)), (30, (.aload_n 0, 1)), (31, (.getfield 23, 3)), (34, (.iconst 0, 1)), (35, (.aload_n 0, 1)), (36, (.ldc 211, 2)), (38, (.iconst 0, 1)), (39, (.iconst 4, 1)), (40, (.invokevirtual 212, 3)), (43, (.iastore, 1)), (44, (.aload_n 0, 1)), (45, (.ldc 216, 2)), (47, (.iconst 1, 1)), (48, (.bipush 30, 2)), (50, (.invokevirtual 212, 3)), (53, (.istore_n 1, 1)), (54, (.aload_n 0, 1)), (55, (.getfield 23, 3)), (58, (.iconst 2, 1)), (59, (.aload_n 0, 1)), (60, (.ldc 218, 2)), (62, (.iconst 0, 1)), (63, (.bipush 40, 2)), (65, (.invokevirtual 212, 3)), (68, (.iastore, 1)), (69, (.aload_n 0, 1)), (70, (.getfield 91, 3)), (73, (.ifCond .ne 10, 3)), (76, (.aload_n 0, 1)), (77, (.getfield 23, 3)), (80, (.iconst 1, 1)), (81, (.iload_n 1, 1)), (82, (.iastore, 1)), (83, (.return_, 1))] : List (Nat × (Instr × Nat))), decode cX10_eveningLine q.1 = .ok q.2 := by decide +kernel
theorem dX10_eveningLine_0 : decode cX10_eveningLine 0 = .ok (.aload_n 0, 1) := dAX10_eveningLine (0, (.aload_n 0, 1)) (List.mem_of_getElem? (i := 0) rfl)
theorem dX10_eveningLine_1 : decode cX10_eveningLine 1 = .ok (.getfield 23, 3) := dAX10_eveningLine (1, (.getfield 23, 3)) (List.mem_of_getElem? (i := 1) rfl)
theorem dX10_eveningLine_4 : decode cX10_eveningLine 4 = .ok (.iconst 1, 1) := dAX10_eveningLine (4, (.iconst 1, 1)) (List.mem_of_getElem? (i := 2) rfl)
theorem dX10_eveningLine_5 : decode cX10_eveningLine 5 = .ok (.iaload, 1) := dAX10_eveningLine (5, (.iaload, 1)) (List.mem_of_getElem? (i := 3) rfl)
theorem dX10_eveningLine_6 : decode cX10_eveningLine 6 = .ok (.ifCond .le 12, 3) := dAX10_eveningLine (6, (.ifCond .le 12, 3)) (List.mem_of_getElem? (i := 4) rfl)
theorem dX10_eveningLine_9 : decode cX10_eveningLine 9 = .ok (.aload_n 0, 1) := dAX10_eveningLine (9, (.aload_n 0, 1)) (List.mem_of_getElem? (i := 5) rfl)
theorem dX10_eveningLine_10 : decode cX10_eveningLine 10 = .ok (.iconst 3, 1) := dAX10_eveningLine (10, (.iconst 3, 1)) (List.mem_of_getElem? (i := 6) rfl)
theorem dX10_eveningLine_11 : decode cX10_eveningLine 11 = .ok (.aload_n 0, 1) := dAX10_eveningLine (11, (.aload_n 0, 1)) (List.mem_of_getElem? (i := 7) rfl)
theorem dX10_eveningLine_12 : decode cX10_eveningLine 12 = .ok (.getfield 72, 3) := dAX10_eveningLine (12, (.getfield 72, 3)) (List.mem_of_getElem? (i := 8) rfl)
theorem dX10_eveningLine_15 : decode cX10_eveningLine 15 = .ok (.invokevirtual 118, 3) := dAX10_eveningLine (15, (.invokevirtual 118, 3)) (List.mem_of_getElem? (i := 9) rfl)
theorem dX10_eveningLine_18 : decode cX10_eveningLine 18 = .ok (.aload_n 0, 1) := dAX10_eveningLine (18, (.aload_n 0, 1)) (List.mem_of_getElem? (i := 10) rfl)
theorem dX10_eveningLine_19 : decode cX10_eveningLine 19 = .ok (.getfield 91, 3) := dAX10_eveningLine (19, (.getfield 91, 3)) (List.mem_of_getElem? (i := 11) rfl)
theorem dX10_eveningLine_22 : decode cX10_eveningLine 22 = .ok (.ifCond .eq 4, 3) := dAX10_eveningLine (22, (.ifCond .eq 4, 3)) (List.mem_of_getElem? (i := 12) rfl)
theorem dX10_eveningLine_25 : decode cX10_eveningLine 25 = .ok (.return_, 1) := dAX10_eveningLine (25, (.return_, 1)) (List.mem_of_getElem? (i := 13) rfl)
theorem dX10_eveningLine_26 : decode cX10_eveningLine 26 = .ok (.aload_n 0, 1) := dAX10_eveningLine (26, (.aload_n 0, 1)) (List.mem_of_getElem? (i := 14) rfl)
theorem dX10_eveningLine_27 : decode cX10_eveningLine 27 = .ok (.invokevirtual 112, 3) := dAX10_eveningLine (27, (.invokevirtual 112, 3)) (List.mem_of_getElem? (i := 15) rfl)
theorem dX10_eveningLine_30 : decode cX10_eveningLine 30 = .ok (.aload_n 0, 1) := dAX10_eveningLine (30, (.aload_n 0, 1)) (List.mem_of_getElem? (i := 16) rfl)
theorem dX10_eveningLine_31 : decode cX10_eveningLine 31 = .ok (.getfield 23, 3) := dAX10_eveningLine (31, (.getfield 23, 3)) (List.mem_of_getElem? (i := 17) rfl)
theorem dX10_eveningLine_34 : decode cX10_eveningLine 34 = .ok (.iconst 0, 1) := dAX10_eveningLine (34, (.iconst 0, 1)) (List.mem_of_getElem? (i := 18) rfl)
theorem dX10_eveningLine_35 : decode cX10_eveningLine 35 = .ok (.aload_n 0, 1) := dAX10_eveningLine (35, (.aload_n 0, 1)) (List.mem_of_getElem? (i := 19) rfl)
theorem dX10_eveningLine_36 : decode cX10_eveningLine 36 = .ok (.ldc 211, 2) := dAX10_eveningLine (36, (.ldc 211, 2)) (List.mem_of_getElem? (i := 20) rfl)
theorem dX10_eveningLine_38 : decode cX10_eveningLine 38 = .ok (.iconst 0, 1) := dAX10_eveningLine (38, (.iconst 0, 1)) (List.mem_of_getElem? (i := 21) rfl)
theorem dX10_eveningLine_39 : decode cX10_eveningLine 39 = .ok (.iconst 4, 1) := dAX10_eveningLine (39, (.iconst 4, 1)) (List.mem_of_getElem? (i := 22) rfl)
theorem dX10_eveningLine_40 : decode cX10_eveningLine 40 = .ok (.invokevirtual 212, 3) := dAX10_eveningLine (40, (.invokevirtual 212, 3)) (List.mem_of_getElem? (i := 23) rfl)
theorem dX10_eveningLine_43 : decode cX10_eveningLine 43 = .ok (.iastore, 1) := dAX10_eveningLine (43, (.iastore, 1)) (List.mem_of_getElem? (i := 24) rfl)
theorem dX10_eveningLine_44 : decode cX10_eveningLine 44 = .ok (.aload_n 0, 1) := dAX10_eveningLine (44, (.aload_n 0, 1)) (List.mem_of_getElem? (i := 25) rfl)
theorem dX10_eveningLine_45 : decode cX10_eveningLine 45 = .ok (.ldc 216, 2) := dAX10_eveningLine (45, (.ldc 216, 2)) (List.mem_of_getElem? (i := 26) rfl)
theorem dX10_eveningLine_47 : decode cX10_eveningLine 47 = .ok (.iconst 1, 1) := dAX10_eveningLine (47, (.iconst 1, 1)) (List.mem_of_getElem? (i := 27) rfl)
theorem dX10_eveningLine_48 : decode cX10_eveningLine 48 = .ok (.bipush 30, 2) := dAX10_eveningLine (48, (.bipush 30, 2)) (List.mem_of_getElem? (i := 28) rfl)
theorem dX10_eveningLine_50 : decode cX10_eveningLine 50 = .ok (.invokevirtual 212, 3) := dAX10_eveningLine (50, (.invokevirtual 212, 3)) (List.mem_of_getElem? (i := 29) rfl)
theorem dX10_eveningLine_53 : decode cX10_eveningLine 53 = .ok (.istore_n 1, 1) := dAX10_eveningLine (53, (.istore_n 1, 1)) (List.mem_of_getElem? (i := 30) rfl)
theorem dX10_eveningLine_54 : decode cX10_eveningLine 54 = .ok (.aload_n 0, 1) := dAX10_eveningLine (54, (.aload_n 0, 1)) (List.mem_of_getElem? (i := 31) rfl)
theorem dX10_eveningLine_55 : decode cX10_eveningLine 55 = .ok (.getfield 23, 3) := dAX10_eveningLine (55, (.getfield 23, 3)) (List.mem_of_getElem? (i := 32) rfl)
theorem dX10_eveningLine_58 : decode cX10_eveningLine 58 = .ok (.iconst 2, 1) := dAX10_eveningLine (58, (.iconst 2, 1)) (List.mem_of_getElem? (i := 33) rfl)
theorem dX10_eveningLine_59 : decode cX10_eveningLine 59 = .ok (.aload_n 0, 1) := dAX10_eveningLine (59, (.aload_n 0, 1)) (List.mem_of_getElem? (i := 34) rfl)
theorem dX10_eveningLine_60 : decode cX10_eveningLine 60 = .ok (.ldc 218, 2) := dAX10_eveningLine (60, (.ldc 218, 2)) (List.mem_of_getElem? (i := 35) rfl)
theorem dX10_eveningLine_62 : decode cX10_eveningLine 62 = .ok (.iconst 0, 1) := dAX10_eveningLine (62, (.iconst 0, 1)) (List.mem_of_getElem? (i := 36) rfl)
theorem dX10_eveningLine_63 : decode cX10_eveningLine 63 = .ok (.bipush 40, 2) := dAX10_eveningLine (63, (.bipush 40, 2)) (List.mem_of_getElem? (i := 37) rfl)
theorem dX10_eveningLine_65 : decode cX10_eveningLine 65 = .ok (.invokevirtual 212, 3) := dAX10_eveningLine (65, (.invokevirtual 212, 3)) (List.mem_of_getElem? (i := 38) rfl)
theorem dX10_eveningLine_68 : decode cX10_eveningLine 68 = .ok (.iastore, 1) := dAX10_eveningLine (68, (.iastore, 1)) (List.mem_of_getElem? (i := 39) rfl)
theorem dX10_eveningLine_69 : decode cX10_eveningLine 69 = .ok (.aload_n 0, 1) := dAX10_eveningLine (69, (.aload_n 0, 1)) (List.mem_of_getElem? (i := 40) rfl)
theorem dX10_eveningLine_70 : decode cX10_eveningLine 70 = .ok (.getfield 91, 3) := dAX10_eveningLine (70, (.getfield 91, 3)) (List.mem_of_getElem? (i := 41) rfl)
theorem dX10_eveningLine_73 : decode cX10_eveningLine 73 = .ok (.ifCond .ne 10, 3) := dAX10_eveningLine (73, (.ifCond .ne 10, 3)) (List.mem_of_getElem? (i := 42) rfl)
theorem dX10_eveningLine_76 : decode cX10_eveningLine 76 = .ok (.aload_n 0, 1) := dAX10_eveningLine (76, (.aload_n 0, 1)) (List.mem_of_getElem? (i := 43) rfl)
theorem dX10_eveningLine_77 : decode cX10_eveningLine 77 = .ok (.getfield 23, 3) := dAX10_eveningLine (77, (.getfield 23, 3)) (List.mem_of_getElem? (i := 44) rfl)
theorem dX10_eveningLine_80 : decode cX10_eveningLine 80 = .ok (.iconst 1, 1) := dAX10_eveningLine (80, (.iconst 1, 1)) (List.mem_of_getElem? (i := 45) rfl)
theorem dX10_eveningLine_81 : decode cX10_eveningLine 81 = .ok (.iload_n 1, 1) := dAX10_eveningLine (81, (.iload_n 1, 1)) (List.mem_of_getElem? (i := 46) rfl)
theorem dX10_eveningLine_82 : decode cX10_eveningLine 82 = .ok (.iastore, 1) := dAX10_eveningLine (82, (.iastore, 1)) (List.mem_of_getElem? (i := 47) rfl)
theorem dX10_eveningLine_83 : decode cX10_eveningLine 83 = .ok (.return_, 1) := dAX10_eveningLine (83, (.return_, 1)) (List.mem_of_getElem? (i := 48) rfl)
set_option maxRecDepth 20000 in
theorem ggX10_eveningLine_X10_wrong : GoodIn wsX10_eveningLine wsX10_wrong := goodIn_r _ [8, 3, 9, 10, 104, 105, 106, 107, 108, 109, 110, 111, 112, 113, 114, 115, 116, 117, 118, 119, 120, 121, 122, 123, 124, 125, 126, 127, 128, 129, 130, 131, 132, 133, 134, 135, 136, 137, 138] rfl (by decide +kernel)
set_option maxRecDepth 20000 in
theorem gX10_eveningLine_X10_wrong : GoodIn wsX10_eveningLine (wsV RX10 118 RX10 yX10_wrong wsX10_wrong) := goodIn_app (goodIn_of _ (by decide +kernel)) ggX10_eveningLine_X10_wrong
set_option maxRecDepth 20000 in
theorem ggX10_eveningLine_X10_next : GoodIn wsX10_eveningLine wsX10_next := goodIn_r _ [14, 15, 2, 16, 17, 18, 19, 20, 21, 22, 7, 23, 24, 25, 26, 27, 28, 29, 30, 31, 104, 105, 106, 107, 108, 109, 110, 111, 112, 113, 114, 115, 116, 117, 118, 119, 120, 121, 122, 123, 124, 125, 126, 127, 128, 129, 130, 131, 132, 133, 134, 135, 136, 137, 138] rfl (by decide +kernel)
set_option maxRecDepth 20000 in
theorem gX10_eveningLine_X10_next : GoodIn wsX10_eveningLine (wsV RX10 112 RX10 yX10_next wsX10_next) := goodIn_app (goodIn_of _ (by decide +kernel)) ggX10_eveningLine_X10_next
set_option maxRecDepth 20000 in
theorem ggX10_eveningLine_X10_after : GoodIn wsX10_eveningLine wsX10_after := goodIn_r _ [35, 36, 37, 38, 7, 39, 3, 2, 40, 41, 42, 43, 44, 45, 46, 47, 18, 16, 19, 48, 49, 50, 51, 52, 53, 54, 55, 56, 57, 58, 59, 60, 61, 62, 63, 64, 65, 66, 67, 68, 69, 70, 71, 72, 73, 74, 75, 76, 77, 78, 79, 80, 81, 82, 83, 84, 85, 86, 87, 88, 89, 90, 91, 92, 93, 94, 95, 96, 11, 12, 13, 14, 15, 17, 20, 21, 22, 23, 24, 25, 26, 27, 28, 29, 30, 31, 4, 5, 6, 8, 9, 10, 97, 98, 99, 100, 101, 102, 103, 104, 105, 106, 107, 108, 109, 110, 111, 112, 113, 114, 115, 116, 117, 118, 119, 120, 121, 122, 123, 124, 125, 126, 127, 128, 129, 130, 131, 132, 133, 134, 135, 136, 137, 138] rfl (by decide +kernel)
set_option maxRecDepth 20000 in
theorem gX10_eveningLine_X10_after : GoodIn wsX10_eveningLine (wsV RX10 212 RX10 yX10_after wsX10_after) := goodIn_app (goodIn_of _ (by decide +kernel)) ggX10_eveningLine_X10_after
theorem kX10_eveningLine_23 : Cond.fieldLink RX10 23 "EveningVowModel" "fresh" "[I" ∈ wsX10_eveningLine := List.mem_of_getElem? (i := 1) rfl
theorem iX10_eveningLine_X10 : ∀ w ∈ u_ws RX10 TX10 35, w ∈ wsX10_eveningLine := fun w h => (List.mem_cons_of_mem _ (List.mem_append_right _ h))
theorem kX10_eveningLine_91 : Cond.fieldLink RX10 91 "EveningVowModel" "failed" "Z" ∈ wsX10_eveningLine := List.mem_of_getElem? (i := 3) rfl
theorem kX10_eveningLine_72 : Cond.fieldLink RX10 72 "EveningVowModel" "at" "I" ∈ wsX10_eveningLine := List.mem_of_getElem? (i := 2) rfl
set_option maxHeartbeats 4000000 in
set_option maxRecDepth 100000 in
theorem mX10_eveningLine (l : Launch) (g : GG) (a_t : Nat) (p_t : Nat → Nat) (n : Nat) (o_t : Nat → Int32) (f_t_1 : Nat → Int32) (f_t_12 : Nat → Int32) (f_t_16 : Nat → Int32) (o_t' : Nat → Int32) (f_t_12' : Nat → Int32) (f_t_16' : Nat → Int32) (hF : fX10_eveningLine n o_t f_t_1 f_t_12 f_t_16 = some (o_t', f_t_12', f_t_16')) : MV l g yX10_eveningLine wsX10_eveningLine ({ frames := 8, cells := 0, slots := 0, locals := 178 } : Room) [.ref a_t] [oX10 a_t p_t o_t, aI g (p_t 1) 800 f_t_1, aI g (p_t 12) 8 f_t_12, aI g (p_t 16) 266 f_t_16] [oX10 a_t p_t o_t', aI g (p_t 1) 800 f_t_1, aI g (p_t 12) 8 f_t_12', aI g (p_t 16) 266 f_t_16'] := by
  refine MV.of (cc := cX10_eveningLine) (maxL := 2) (own := RX10) rfl rfl (by decide) (Nat.le_of_ble_eq_true rfl) ?_
  intro p e s m args below meth c A C0 hP hD hS ls hl
  obtain ⟨hx, hb, hml, hown, hts, hr, hlk, hK, hA, hSW⟩ := id C0
  have hl : lv_has ls 2 [(0, .ref a_t)] := hl
  rw [fX10_eveningLine] at hF
  refine lv_aload_n hx hb dX10_eveningLine_0 rfl (lv_at hl 0 rfl) ?_
  refine va_get (D := g.1) (ci := 10) (v := .ref (p_t 16)) (C := RX10) (T := TX10) (N := 35) hx hb hts iX10_eveningLine_X10 hown hK.1 hP 0 rfl rfl 16 (by decide) (hts _ kX10_eveningLine_23) (fun _ h9 => h9) rfl dX10_eveningLine_1 ?_
  refine lv_iconst (v := (1 : Int32)) hx hb dX10_eveningLine_4 (by decide) ?_
  refine va_iald_k (j := 1) hx hb hK.1 hP 3 0 rfl rfl (by unfold vp_in; decide) rfl dX10_eveningLine_5 ?_
  obtain ⟨J18, eJ18, hF⟩ := jn_some hF
  have hJ18 : ∀ (o_t_18 : Nat → Int32) (H : Heap) (locs : List Loc) (ls : Array Slot), J18 o_t_18 = some (o_t', f_t_12', f_t_16') → va_P g.1 vwCl [oX10 a_t p_t o_t_18, aI g (p_t 1) 800 f_t_1, aI g (p_t 12) 8 f_t_12, aI g (p_t 16) 266 f_t_16] H → va_D A [oX10 a_t p_t o_t_18, aI g (p_t 1) 800 f_t_1, aI g (p_t 12) 8 f_t_12, aI g (p_t 16) 266 f_t_16] → va_S A s.heap H locs → lv_has ls 2 [(0, .ref a_t)] → W p l e ({ frames := 8, cells := 0, slots := 0, locals := 178 } : Room) s m args below meth c H locs 0 0 (MQ below (EndV g [oX10 a_t p_t o_t', aI g (p_t 1) 800 f_t_1, aI g (p_t 12) 8 f_t_12', aI g (p_t 16) 266 f_t_16'] A) args s 0 0 A) (F0 m 18 ls []) := by
    intro o_t_18 H locs ls hF hP hD hS hl
    have hF := jj1 eJ18 hF
    refine lv_aload_n hx hb dX10_eveningLine_18 rfl (lv_at hl 0 rfl) ?_
    refine va_get (D := g.1) (ci := 10) (v := .int (o_t_18 13)) (C := RX10) (T := TX10) (N := 35) hx hb hts iX10_eveningLine_X10 hown hK.1 hP 0 rfl rfl 13 (by decide) (hts _ kX10_eveningLine_91) (fun _ h9 => h9) rfl dX10_eveningLine_19 ?_
    refine lv_if_eq (tgt := 26) hx hb dX10_eveningLine_22 (by decide) (fun c_1 => ?_) (fun c_1 => ?_)
    · have hF := it_p c_1 hF
      refine lv_aload_n hx hb dX10_eveningLine_26 rfl (lv_at hl 0 rfl) ?_
      obtain ⟨u_2, u_3, hu_4, hF⟩ := ob2_some hF
      refine call_v (wr := [aI g (p_t 16) 266 f_t_16]) (As := []) (rest := []) (ci := 10) (q0 := 0) C0 (mX10_next l g a_t p_t n o_t_18 f_t_1 f_t_12 u_2 u_3 hu_4) (cwV 0 hts gX10_eveningLine_X10_next rfl rfl rfl (by decide +kernel) ⟨Nat.le_of_ble_eq_true rfl, Nat.le_of_ble_eq_true rfl⟩) hP hD hS [0, 1, 2] [3] rfl rfl rfl rfl rfl (by decide) rfl rfl hl.1 rfl rfl (Nat.le_of_ble_eq_true rfl) ⟨Nat.zero_le _, Nat.zero_le _⟩ dX10_eveningLine_27 ?_
      intro H locs hP hD hS
      refine lv_aload_n hx hb dX10_eveningLine_30 rfl (lv_at hl 0 rfl) ?_
      refine va_get (D := g.1) (ci := 10) (v := .ref (p_t 16)) (C := RX10) (T := TX10) (N := 35) hx hb hts iX10_eveningLine_X10 hown hK.1 hP 1 rfl rfl 16 (by decide) (hts _ kX10_eveningLine_23) (fun _ h9 => h9) rfl dX10_eveningLine_31 ?_
      refine lv_iconst (v := (0 : Int32)) hx hb dX10_eveningLine_34 (by decide) ?_
      refine lv_aload_n hx hb dX10_eveningLine_35 rfl (lv_at hl 0 rfl) ?_
      refine va_ldcS (own := RX10) (index := 211) (q := gK g 8) hx hb hown (hK.2.2 8 (by decide)) dX10_eveningLine_36 ?_
      refine lv_iconst (v := (0 : Int32)) hx hb dX10_eveningLine_38 (by decide) ?_
      refine lv_iconst (v := (4 : Int32)) hx hb dX10_eveningLine_39 (by decide) ?_
      obtain ⟨u_5, u_6, u_7, hu_8, hF⟩ := ob3_some hF
      refine call_i (wr := [aI g (p_t 16) 266 f_t_16]) (As := [.ref (gK g 8), .int (0 : Int32), .int (4 : Int32)]) (rest := [.int (0 : Int32), .ref (p_t 16)]) (ci := 10) (q0 := 0) C0 (mX10_after l g a_t p_t n 8 (0 : Int32) (4 : Int32) u_2 f_t_1 u_3 u_5 u_6 u_7 (by decide) hu_8) (cwV 3 hts gX10_eveningLine_X10_after rfl rfl rfl (by decide +kernel) ⟨Nat.le_of_ble_eq_true rfl, Nat.le_of_ble_eq_true rfl⟩) hP hD hS [1, 2, 3] [0] rfl rfl rfl rfl rfl (by decide) rfl rfl hl.1 rfl rfl (Nat.le_of_ble_eq_true rfl) ⟨Nat.zero_le _, Nat.zero_le _⟩ dX10_eveningLine_40 ?_
      intro H locs hP hD hS
      refine va_iast hx hb hK.1 hP hD hS 0 0 rfl rfl (by unfold vp_in; decide) dX10_eveningLine_43 (fun H locs hP hD hS => ?_)
      have hP : va_P g.1 vwCl [aI g (p_t 16) 266 (upd f_t_16 0 u_5), oX10 a_t p_t u_6, aI g (p_t 1) 800 f_t_1, aI g (p_t 12) 8 u_7] H := hP
      have hD : va_D A [aI g (p_t 16) 266 (upd f_t_16 0 u_5), oX10 a_t p_t u_6, aI g (p_t 1) 800 f_t_1, aI g (p_t 12) 8 u_7] := hD
      refine lv_aload_n hx hb dX10_eveningLine_44 rfl (lv_at hl 0 rfl) ?_
      refine va_ldcS (own := RX10) (index := 216) (q := gK g 9) hx hb hown (hK.2.2 9 (by decide)) dX10_eveningLine_45 ?_
      refine lv_iconst (v := (1 : Int32)) hx hb dX10_eveningLine_47 (by decide) ?_
      refine lv_bipush (v := (30 : Int32)) hx hb dX10_eveningLine_48 (by decide) ?_
      obtain ⟨u_9, u_10, u_11, hu_12, hF⟩ := ob3_some hF
      refine call_i (wr := [aI g (p_t 16) 266 (upd f_t_16 0 u_5)]) (As := [.ref (gK g 9), .int (1 : Int32), .int (30 : Int32)]) (rest := []) (ci := 10) (q0 := 0) C0 (mX10_after l g a_t p_t n 9 (1 : Int32) (30 : Int32) u_6 f_t_1 u_7 u_9 u_10 u_11 (by decide) hu_12) (cwV 3 hts gX10_eveningLine_X10_after rfl rfl rfl (by decide +kernel) ⟨Nat.le_of_ble_eq_true rfl, Nat.le_of_ble_eq_true rfl⟩) hP hD hS [1, 2, 3] [0] rfl rfl rfl rfl rfl (by decide) rfl rfl hl.1 rfl rfl (Nat.le_of_ble_eq_true rfl) ⟨Nat.zero_le _, Nat.zero_le _⟩ dX10_eveningLine_50 ?_
      intro H locs hP hD hS
      refine lv_istore_n (lv' := [(1, .int u_9), (0, .ref a_t)]) hx hb dX10_eveningLine_53 rfl hl (by decide) rfl (fun ls hl => ?_)
      refine lv_aload_n hx hb dX10_eveningLine_54 rfl (lv_at hl 1 rfl) ?_
      refine va_get (D := g.1) (ci := 10) (v := .ref (p_t 16)) (C := RX10) (T := TX10) (N := 35) hx hb hts iX10_eveningLine_X10 hown hK.1 hP 1 rfl rfl 16 (by decide) (hts _ kX10_eveningLine_23) (fun _ h9 => h9) rfl dX10_eveningLine_55 ?_
      refine lv_iconst (v := (2 : Int32)) hx hb dX10_eveningLine_58 (by decide) ?_
      refine lv_aload_n hx hb dX10_eveningLine_59 rfl (lv_at hl 1 rfl) ?_
      refine va_ldcS (own := RX10) (index := 218) (q := gK g 10) hx hb hown (hK.2.2 10 (by decide)) dX10_eveningLine_60 ?_
      refine lv_iconst (v := (0 : Int32)) hx hb dX10_eveningLine_62 (by decide) ?_
      refine lv_bipush (v := (40 : Int32)) hx hb dX10_eveningLine_63 (by decide) ?_
      obtain ⟨u_13, u_14, u_15, hu_16, hF⟩ := ob3_some hF
      refine call_i (wr := [aI g (p_t 16) 266 (upd f_t_16 0 u_5)]) (As := [.ref (gK g 10), .int (0 : Int32), .int (40 : Int32)]) (rest := [.int (2 : Int32), .ref (p_t 16)]) (ci := 10) (q0 := 0) C0 (mX10_after l g a_t p_t n 10 (0 : Int32) (40 : Int32) u_10 f_t_1 u_11 u_13 u_14 u_15 (by decide) hu_16) (cwV 3 hts gX10_eveningLine_X10_after rfl rfl rfl (by decide +kernel) ⟨Nat.le_of_ble_eq_true rfl, Nat.le_of_ble_eq_true rfl⟩) hP hD hS [1, 2, 3] [0] rfl rfl rfl rfl rfl (by decide) rfl rfl hl.1 rfl rfl (Nat.le_of_ble_eq_true rfl) ⟨Nat.zero_le _, Nat.zero_le _⟩ dX10_eveningLine_65 ?_
      intro H locs hP hD hS
      refine va_iast hx hb hK.1 hP hD hS 0 0 rfl rfl (by unfold vp_in; decide) dX10_eveningLine_68 (fun H locs hP hD hS => ?_)
      have hP : va_P g.1 vwCl [aI g (p_t 16) 266 (upd (upd f_t_16 0 u_5) 2 u_13), oX10 a_t p_t u_14, aI g (p_t 1) 800 f_t_1, aI g (p_t 12) 8 u_15] H := hP
      have hD : va_D A [aI g (p_t 16) 266 (upd (upd f_t_16 0 u_5) 2 u_13), oX10 a_t p_t u_14, aI g (p_t 1) 800 f_t_1, aI g (p_t 12) 8 u_15] := hD
      refine lv_aload_n hx hb dX10_eveningLine_69 rfl (lv_at hl 1 rfl) ?_
      refine va_get (D := g.1) (ci := 10) (v := .int (u_14 13)) (C := RX10) (T := TX10) (N := 35) hx hb hts iX10_eveningLine_X10 hown hK.1 hP 1 rfl rfl 13 (by decide) (hts _ kX10_eveningLine_91) (fun _ h9 => h9) rfl dX10_eveningLine_70 ?_
      refine lv_if_ne (tgt := 83) hx hb dX10_eveningLine_73 (by decide) (fun c_17 => ?_) (fun c_17 => ?_)
      · have hF := it_n c_17 hF
        cases hF
        exact ret_v C0 hP hD hS [1, 2, 3, 0] rfl rfl rfl dX10_eveningLine_83
      · have hF := it_p c_17 hF
        refine lv_aload_n hx hb dX10_eveningLine_76 rfl (lv_at hl 1 rfl) ?_
        refine va_get (D := g.1) (ci := 10) (v := .ref (p_t 16)) (C := RX10) (T := TX10) (N := 35) hx hb hts iX10_eveningLine_X10 hown hK.1 hP 1 rfl rfl 16 (by decide) (hts _ kX10_eveningLine_23) (fun _ h9 => h9) rfl dX10_eveningLine_77 ?_
        refine lv_iconst (v := (1 : Int32)) hx hb dX10_eveningLine_80 (by decide) ?_
        refine lv_iload_n hx hb dX10_eveningLine_81 rfl (lv_at hl 0 rfl) ?_
        refine va_iast hx hb hK.1 hP hD hS 0 0 rfl rfl (by unfold vp_in; decide) dX10_eveningLine_82 (fun H locs hP hD hS => ?_)
        have hP : va_P g.1 vwCl [aI g (p_t 16) 266 (upd (upd (upd f_t_16 0 u_5) 2 u_13) 1 u_9), oX10 a_t p_t u_14, aI g (p_t 1) 800 f_t_1, aI g (p_t 12) 8 u_15] H := hP
        have hD : va_D A [aI g (p_t 16) 266 (upd (upd (upd f_t_16 0 u_5) 2 u_13) 1 u_9), oX10 a_t p_t u_14, aI g (p_t 1) 800 f_t_1, aI g (p_t 12) 8 u_15] := hD
        cases hF
        exact ret_v C0 hP hD hS [1, 2, 3, 0] rfl rfl rfl dX10_eveningLine_83
    · have hF := it_n c_1 hF
      cases hF
      exact ret_v C0 hP hD hS [0, 1, 2, 3] rfl rfl rfl dX10_eveningLine_25
  refine lv_if_le (tgt := 18) hx hb dX10_eveningLine_6 (by decide) (fun c_18 => ?_) (fun c_18 => ?_)
  · have hF := it_p c_18 hF
    exact hJ18 o_t _ _ _ hF (hP.sub [0, 1, 2, 3] rfl) (hD.sub [0, 1, 2, 3] rfl rfl) hS (lv_sub hl [0] rfl)
  · have hF := it_n c_18 hF
    refine lv_aload_n hx hb dX10_eveningLine_9 rfl (lv_at hl 0 rfl) ?_
    refine lv_iconst (v := (3 : Int32)) hx hb dX10_eveningLine_10 (by decide) ?_
    refine lv_aload_n hx hb dX10_eveningLine_11 rfl (lv_at hl 0 rfl) ?_
    refine va_get (D := g.1) (ci := 10) (v := .int (o_t 4)) (C := RX10) (T := TX10) (N := 35) hx hb hts iX10_eveningLine_X10 hown hK.1 hP 0 rfl rfl 4 (by decide) (hts _ kX10_eveningLine_72) (fun _ h9 => h9) rfl dX10_eveningLine_12 ?_
    obtain ⟨u_19, hu_20, hF⟩ := ob1_some hF
    refine call_v (wr := [aI g (p_t 1) 800 f_t_1, aI g (p_t 12) 8 f_t_12, aI g (p_t 16) 266 f_t_16]) (As := [.int (3 : Int32), .int (o_t 4)]) (rest := []) (ci := 10) (q0 := 0) C0 (mX10_wrong l g a_t p_t n (3 : Int32) (o_t 4) o_t u_19 hu_20) (cwV 2 hts gX10_eveningLine_X10_wrong rfl rfl rfl (by decide +kernel) ⟨Nat.le_of_ble_eq_true rfl, Nat.le_of_ble_eq_true rfl⟩) hP hD hS [0] [1, 2, 3] rfl rfl rfl rfl rfl (by decide) rfl rfl hl.1 rfl rfl (Nat.le_of_ble_eq_true rfl) ⟨Nat.zero_le _, Nat.zero_le _⟩ dX10_eveningLine_15 ?_
    intro H locs hP hD hS
    exact hJ18 u_19 _ _ _ hF (hP.sub [3, 0, 1, 2] rfl) (hD.sub [3, 0, 1, 2] rfl rfl) hS (lv_sub hl [0] rfl)

theorem dAX10_begins : ∀ q ∈ ([(0, (.aload_n 0, 1)), (1, (.aload_n 1, 1)), (2, (.invokevirtual 108, 3)), (5, (.ifCond .ne 5, 3)), (8, (.iconst 0, 1)), (9, (.ireturn, 1)), (10, (.iload_n 2, 1)), (11, (.ifCond .ne 12, 3)), (14, (.aload_n 0, 1)), (15, (.iconst 5, 1)), (16, (.aload_n 0, 1)), (17, (.getfield 72, 3)), (20, (.invokevirtual 118, 3)), (23, (.aload_n 0, 1)), (24, (.getfield 23, 3)), (27, (.iconst 1, 1)), (28, (.iaload, 1)), (29, (.ifCond .ne 13, 3)), (32, (.aload_n 0, 1)), (33, (.bipush 6, 2)), (35, (.aload_n 0, 1)), (36, (.getfield 72, 3)), (39, (.invokevirtual 118, 3)), (42, (.aload_n 0, 1)), (43, (.getfield 91, 3)), (46, (.ifCond .ne 7, 3)), (49, (.aload_n 0, 1)), (50, (.invokevirtual 112, 3)), (53, (.iconst 1, 1)), (54, (.ireturn, 1))] : List (Nat × (Instr × Nat))), decode cX10_begins q.1 = .ok q.2 := by decide +kernel
theorem dX10_begins_0 : decode cX10_begins 0 = .ok (.aload_n 0, 1) := dAX10_begins (0, (.aload_n 0, 1)) (List.mem_of_getElem? (i := 0) rfl)
theorem dX10_begins_1 : decode cX10_begins 1 = .ok (.aload_n 1, 1) := dAX10_begins (1, (.aload_n 1, 1)) (List.mem_of_getElem? (i := 1) rfl)
theorem dX10_begins_2 : decode cX10_begins 2 = .ok (.invokevirtual 108, 3) := dAX10_begins (2, (.invokevirtual 108, 3)) (List.mem_of_getElem? (i := 2) rfl)
theorem dX10_begins_5 : decode cX10_begins 5 = .ok (.ifCond .ne 5, 3) := dAX10_begins (5, (.ifCond .ne 5, 3)) (List.mem_of_getElem? (i := 3) rfl)
theorem dX10_begins_8 : decode cX10_begins 8 = .ok (.iconst 0, 1) := dAX10_begins (8, (.iconst 0, 1)) (List.mem_of_getElem? (i := 4) rfl)
theorem dX10_begins_9 : decode cX10_begins 9 = .ok (.ireturn, 1) := dAX10_begins (9, (.ireturn, 1)) (List.mem_of_getElem? (i := 5) rfl)
theorem dX10_begins_10 : decode cX10_begins 10 = .ok (.iload_n 2, 1) := dAX10_begins (10, (.iload_n 2, 1)) (List.mem_of_getElem? (i := 6) rfl)
theorem dX10_begins_11 : decode cX10_begins 11 = .ok (.ifCond .ne 12, 3) := dAX10_begins (11, (.ifCond .ne 12, 3)) (List.mem_of_getElem? (i := 7) rfl)
theorem dX10_begins_14 : decode cX10_begins 14 = .ok (.aload_n 0, 1) := dAX10_begins (14, (.aload_n 0, 1)) (List.mem_of_getElem? (i := 8) rfl)
theorem dX10_begins_15 : decode cX10_begins 15 = .ok (.iconst 5, 1) := dAX10_begins (15, (.iconst 5, 1)) (List.mem_of_getElem? (i := 9) rfl)
theorem dX10_begins_16 : decode cX10_begins 16 = .ok (.aload_n 0, 1) := dAX10_begins (16, (.aload_n 0, 1)) (List.mem_of_getElem? (i := 10) rfl)
theorem dX10_begins_17 : decode cX10_begins 17 = .ok (.getfield 72, 3) := dAX10_begins (17, (.getfield 72, 3)) (List.mem_of_getElem? (i := 11) rfl)
theorem dX10_begins_20 : decode cX10_begins 20 = .ok (.invokevirtual 118, 3) := dAX10_begins (20, (.invokevirtual 118, 3)) (List.mem_of_getElem? (i := 12) rfl)
theorem dX10_begins_23 : decode cX10_begins 23 = .ok (.aload_n 0, 1) := dAX10_begins (23, (.aload_n 0, 1)) (List.mem_of_getElem? (i := 13) rfl)
theorem dX10_begins_24 : decode cX10_begins 24 = .ok (.getfield 23, 3) := dAX10_begins (24, (.getfield 23, 3)) (List.mem_of_getElem? (i := 14) rfl)
theorem dX10_begins_27 : decode cX10_begins 27 = .ok (.iconst 1, 1) := dAX10_begins (27, (.iconst 1, 1)) (List.mem_of_getElem? (i := 15) rfl)
theorem dX10_begins_28 : decode cX10_begins 28 = .ok (.iaload, 1) := dAX10_begins (28, (.iaload, 1)) (List.mem_of_getElem? (i := 16) rfl)
theorem dX10_begins_29 : decode cX10_begins 29 = .ok (.ifCond .ne 13, 3) := dAX10_begins (29, (.ifCond .ne 13, 3)) (List.mem_of_getElem? (i := 17) rfl)
theorem dX10_begins_32 : decode cX10_begins 32 = .ok (.aload_n 0, 1) := dAX10_begins (32, (.aload_n 0, 1)) (List.mem_of_getElem? (i := 18) rfl)
theorem dX10_begins_33 : decode cX10_begins 33 = .ok (.bipush 6, 2) := dAX10_begins (33, (.bipush 6, 2)) (List.mem_of_getElem? (i := 19) rfl)
theorem dX10_begins_35 : decode cX10_begins 35 = .ok (.aload_n 0, 1) := dAX10_begins (35, (.aload_n 0, 1)) (List.mem_of_getElem? (i := 20) rfl)
theorem dX10_begins_36 : decode cX10_begins 36 = .ok (.getfield 72, 3) := dAX10_begins (36, (.getfield 72, 3)) (List.mem_of_getElem? (i := 21) rfl)
theorem dX10_begins_39 : decode cX10_begins 39 = .ok (.invokevirtual 118, 3) := dAX10_begins (39, (.invokevirtual 118, 3)) (List.mem_of_getElem? (i := 22) rfl)
theorem dX10_begins_42 : decode cX10_begins 42 = .ok (.aload_n 0, 1) := dAX10_begins (42, (.aload_n 0, 1)) (List.mem_of_getElem? (i := 23) rfl)
theorem dX10_begins_43 : decode cX10_begins 43 = .ok (.getfield 91, 3) := dAX10_begins (43, (.getfield 91, 3)) (List.mem_of_getElem? (i := 24) rfl)
theorem dX10_begins_46 : decode cX10_begins 46 = .ok (.ifCond .ne 7, 3) := dAX10_begins (46, (.ifCond .ne 7, 3)) (List.mem_of_getElem? (i := 25) rfl)
theorem dX10_begins_49 : decode cX10_begins 49 = .ok (.aload_n 0, 1) := dAX10_begins (49, (.aload_n 0, 1)) (List.mem_of_getElem? (i := 26) rfl)
theorem dX10_begins_50 : decode cX10_begins 50 = .ok (.invokevirtual 112, 3) := dAX10_begins (50, (.invokevirtual 112, 3)) (List.mem_of_getElem? (i := 27) rfl)
theorem dX10_begins_53 : decode cX10_begins 53 = .ok (.iconst 1, 1) := dAX10_begins (53, (.iconst 1, 1)) (List.mem_of_getElem? (i := 28) rfl)
theorem dX10_begins_54 : decode cX10_begins 54 = .ok (.ireturn, 1) := dAX10_begins (54, (.ireturn, 1)) (List.mem_of_getElem? (i := 29) rfl)
set_option maxRecDepth 20000 in
theorem ggX10_begins_X10_isWord : GoodIn wsX10_begins wsX10_isWord := goodIn_r _ [8, 3, 9, 10, 11, 12, 13, 14, 15, 16, 17, 18, 19, 20, 21, 22, 23, 24, 25, 26, 27, 28, 29, 30, 31, 32, 33, 34, 35, 36, 37, 38, 39, 40, 41, 42, 43, 44, 45, 46, 47, 48, 49, 50, 51, 52, 53, 54, 55, 56, 57, 58, 59, 60, 85, 86, 87, 88, 89, 90, 91, 92, 93, 94, 95, 96, 97, 98, 99, 100, 101, 102, 103, 104, 105, 106, 107, 108, 109, 110, 111, 112, 113, 114, 115, 116, 117, 118, 119] rfl (by decide +kernel)
set_option maxRecDepth 20000 in
theorem gX10_begins_X10_isWord : GoodIn wsX10_begins (wsV RX10 108 RX10 yX10_isWord wsX10_isWord) := goodIn_app (goodIn_of _ (by decide +kernel)) ggX10_begins_X10_isWord
set_option maxRecDepth 20000 in
theorem ggX10_begins_X10_wrong : GoodIn wsX10_begins wsX10_wrong := goodIn_r _ [64, 3, 65, 66, 85, 86, 87, 88, 89, 90, 91, 92, 93, 94, 95, 96, 97, 98, 99, 100, 101, 102, 103, 104, 105, 106, 107, 108, 109, 110, 111, 112, 113, 114, 115, 116, 117, 118, 119] rfl (by decide +kernel)
set_option maxRecDepth 20000 in
theorem gX10_begins_X10_wrong : GoodIn wsX10_begins (wsV RX10 118 RX10 yX10_wrong wsX10_wrong) := goodIn_app (goodIn_of _ (by decide +kernel)) ggX10_begins_X10_wrong
set_option maxRecDepth 20000 in
theorem ggX10_begins_X10_next : GoodIn wsX10_begins wsX10_next := goodIn_r _ [70, 71, 1, 10, 72, 9, 11, 73, 74, 75, 7, 76, 77, 78, 79, 80, 81, 82, 83, 84, 85, 86, 87, 88, 89, 90, 91, 92, 93, 94, 95, 96, 97, 98, 99, 100, 101, 102, 103, 104, 105, 106, 107, 108, 109, 110, 111, 112, 113, 114, 115, 116, 117, 118, 119] rfl (by decide +kernel)
set_option maxRecDepth 20000 in
theorem gX10_begins_X10_next : GoodIn wsX10_begins (wsV RX10 112 RX10 yX10_next wsX10_next) := goodIn_app (goodIn_of _ (by decide +kernel)) ggX10_begins_X10_next
theorem kX10_begins_23 : Cond.fieldLink RX10 23 "EveningVowModel" "fresh" "[I" ∈ wsX10_begins := List.mem_of_getElem? (i := 2) rfl
theorem iX10_begins_X10 : ∀ w ∈ u_ws RX10 TX10 35, w ∈ wsX10_begins := fun w h => (List.mem_cons_of_mem _ (List.mem_append_right _ h))
theorem kX10_begins_91 : Cond.fieldLink RX10 91 "EveningVowModel" "failed" "Z" ∈ wsX10_begins := List.mem_of_getElem? (i := 3) rfl
theorem kX10_begins_72 : Cond.fieldLink RX10 72 "EveningVowModel" "at" "I" ∈ wsX10_begins := List.mem_of_getElem? (i := 1) rfl
set_option maxHeartbeats 4000000 in
set_option maxRecDepth 100000 in
theorem mX10_begins (l : Launch) (g : GG) (a_t : Nat) (p_t : Nat → Nat) (n : Nat) (i1 : Nat) (x2 : Int32) (o_t : Nat → Int32) (f_t_1 : Nat → Int32) (f_t_12 : Nat → Int32) (f_t_16 : Nat → Int32) (r : Int32) (o_t' : Nat → Int32) (f_t_12' : Nat → Int32) (hi1 : i1 < 22) (hF : fX10_begins n i1 x2 o_t f_t_1 f_t_12 f_t_16 = some (r, o_t', f_t_12')) : MI l g yX10_begins wsX10_begins ({ frames := 5, cells := 0, slots := 0, locals := 113 } : Room) [.ref a_t, .ref (gK g i1), .int x2] [oX10 a_t p_t o_t, aI g (p_t 1) 800 f_t_1, aI g (p_t 12) 8 f_t_12, aI g (p_t 16) 266 f_t_16] r [oX10 a_t p_t o_t', aI g (p_t 1) 800 f_t_1, aI g (p_t 12) 8 f_t_12', aI g (p_t 16) 266 f_t_16] := by
  refine MI.of (cc := cX10_begins) (maxL := 3) (rt := .boolean) (own := RX10) rfl rfl (by decide) (Nat.le_of_ble_eq_true rfl) ?_
  intro p e s m args below meth c A C0 hP hD hS ls hl
  obtain ⟨hx, hb, hml, hown, hts, hr, hlk, hK, hA, hSW⟩ := id C0
  have hl : lv_has ls 3 [(0, .ref a_t), (1, .ref (gK g i1)), (2, .int x2)] := hl
  rw [fX10_begins] at hF
  refine lv_aload_n hx hb dX10_begins_0 rfl (lv_at hl 0 rfl) ?_
  refine lv_aload_n hx hb dX10_begins_1 rfl (lv_at hl 1 rfl) ?_
  obtain ⟨u_1, hu_2, hF⟩ := ob1_some hF
  refine call_i (wr := [aI g (p_t 1) 800 f_t_1, aI g (p_t 16) 266 f_t_16]) (As := [.ref (gK g i1)]) (rest := []) (ci := 10) (q0 := 0) C0 (mX10_isWord l g a_t p_t n i1 o_t f_t_12 u_1 hi1 hu_2) (cwV 1 hts gX10_begins_X10_isWord rfl rfl rfl (by decide +kernel) ⟨Nat.le_of_ble_eq_true rfl, Nat.le_of_ble_eq_true rfl⟩) hP hD hS [0, 2] [1, 3] rfl rfl rfl rfl rfl (by decide) rfl rfl hl.1 rfl rfl (Nat.le_of_ble_eq_true rfl) ⟨Nat.zero_le _, Nat.zero_le _⟩ dX10_begins_2 ?_
  intro H locs hP hD hS
  refine lv_if_ne (tgt := 10) hx hb dX10_begins_5 (by decide) (fun c_3 => ?_) (fun c_3 => ?_)
  · have hF := it_n c_3 hF
    refine lv_iload_n hx hb dX10_begins_10 rfl (lv_at hl 2 rfl) ?_
    refine lv_if_ne (tgt := 23) hx hb dX10_begins_11 (by decide) (fun c_4 => ?_) (fun c_4 => ?_)
    · have hF := it_n c_4 hF
      refine lv_aload_n hx hb dX10_begins_23 rfl (lv_at hl 0 rfl) ?_
      refine va_get (D := g.1) (ci := 10) (v := .ref (p_t 16)) (C := RX10) (T := TX10) (N := 35) hx hb hts iX10_begins_X10 hown hK.1 hP 2 rfl rfl 16 (by decide) (hts _ kX10_begins_23) (fun _ h9 => h9) rfl dX10_begins_24 ?_
      refine lv_iconst (v := (1 : Int32)) hx hb dX10_begins_27 (by decide) ?_
      refine va_iald_k (j := 1) hx hb hK.1 hP 1 0 rfl rfl (by unfold vp_in; decide) rfl dX10_begins_28 ?_
      refine lv_if_ne (tgt := 42) hx hb dX10_begins_29 (by decide) (fun c_5 => ?_) (fun c_5 => ?_)
      · have hF := it_n c_5 hF
        refine lv_aload_n hx hb dX10_begins_42 rfl (lv_at hl 0 rfl) ?_
        refine va_get (D := g.1) (ci := 10) (v := .int (o_t 13)) (C := RX10) (T := TX10) (N := 35) hx hb hts iX10_begins_X10 hown hK.1 hP 2 rfl rfl 13 (by decide) (hts _ kX10_begins_91) (fun _ h9 => h9) rfl dX10_begins_43 ?_
        refine lv_if_ne (tgt := 53) hx hb dX10_begins_46 (by decide) (fun c_6 => ?_) (fun c_6 => ?_)
        · have hF := it_n c_6 hF
          refine lv_iconst (v := (1 : Int32)) hx hb dX10_begins_53 (by decide) ?_
          cases hF
          exact ret_z C0 hP hD hS [2, 0, 3, 1] rfl rfl rfl dX10_begins_54 rfl rfl
        · have hF := it_p c_6 hF
          refine lv_aload_n hx hb dX10_begins_49 rfl (lv_at hl 0 rfl) ?_
          obtain ⟨u_7, u_8, hu_9, hF⟩ := ob2_some hF
          refine call_v (wr := [aI g (p_t 16) 266 f_t_16]) (As := []) (rest := []) (ci := 10) (q0 := 0) C0 (mX10_next l g a_t p_t n o_t f_t_1 f_t_12 u_7 u_8 hu_9) (cwV 0 hts gX10_begins_X10_next rfl rfl rfl (by decide +kernel) ⟨Nat.le_of_ble_eq_true rfl, Nat.le_of_ble_eq_true rfl⟩) hP hD hS [2, 0, 3] [1] rfl rfl rfl rfl rfl (by decide) rfl rfl hl.1 rfl rfl (Nat.le_of_ble_eq_true rfl) ⟨Nat.zero_le _, Nat.zero_le _⟩ dX10_begins_50 ?_
          intro H locs hP hD hS
          refine lv_iconst (v := (1 : Int32)) hx hb dX10_begins_53 (by decide) ?_
          cases hF
          exact ret_z C0 hP hD hS [1, 2, 3, 0] rfl rfl rfl dX10_begins_54 rfl rfl
      · have hF := it_p c_5 hF
        refine lv_aload_n hx hb dX10_begins_32 rfl (lv_at hl 0 rfl) ?_
        refine lv_bipush (v := (6 : Int32)) hx hb dX10_begins_33 (by decide) ?_
        refine lv_aload_n hx hb dX10_begins_35 rfl (lv_at hl 0 rfl) ?_
        refine va_get (D := g.1) (ci := 10) (v := .int (o_t 4)) (C := RX10) (T := TX10) (N := 35) hx hb hts iX10_begins_X10 hown hK.1 hP 2 rfl rfl 4 (by decide) (hts _ kX10_begins_72) (fun _ h9 => h9) rfl dX10_begins_36 ?_
        obtain ⟨u_10, hu_11, hF⟩ := ob1_some hF
        refine call_v (wr := [aI g (p_t 1) 800 f_t_1, aI g (p_t 16) 266 f_t_16, aI g (p_t 12) 8 f_t_12]) (As := [.int (6 : Int32), .int (o_t 4)]) (rest := []) (ci := 10) (q0 := 0) C0 (mX10_wrong l g a_t p_t n (6 : Int32) (o_t 4) o_t u_10 hu_11) (cwV 2 hts gX10_begins_X10_wrong rfl rfl rfl (by decide +kernel) ⟨Nat.le_of_ble_eq_true rfl, Nat.le_of_ble_eq_true rfl⟩) hP hD hS [2] [0, 1, 3] rfl rfl rfl rfl rfl (by decide) rfl rfl hl.1 rfl rfl (Nat.le_of_ble_eq_true rfl) ⟨Nat.zero_le _, Nat.zero_le _⟩ dX10_begins_39 ?_
        intro H locs hP hD hS
        refine lv_aload_n hx hb dX10_begins_42 rfl (lv_at hl 0 rfl) ?_
        refine va_get (D := g.1) (ci := 10) (v := .int (u_10 13)) (C := RX10) (T := TX10) (N := 35) hx hb hts iX10_begins_X10 hown hK.1 hP 3 rfl rfl 13 (by decide) (hts _ kX10_begins_91) (fun _ h9 => h9) rfl dX10_begins_43 ?_
        refine lv_if_ne (tgt := 53) hx hb dX10_begins_46 (by decide) (fun c_12 => ?_) (fun c_12 => ?_)
        · have hF := it_n c_12 hF
          refine lv_iconst (v := (1 : Int32)) hx hb dX10_begins_53 (by decide) ?_
          cases hF
          exact ret_z C0 hP hD hS [3, 0, 2, 1] rfl rfl rfl dX10_begins_54 rfl rfl
        · have hF := it_p c_12 hF
          refine lv_aload_n hx hb dX10_begins_49 rfl (lv_at hl 0 rfl) ?_
          obtain ⟨u_13, u_14, hu_15, hF⟩ := ob2_some hF
          refine call_v (wr := [aI g (p_t 16) 266 f_t_16]) (As := []) (rest := []) (ci := 10) (q0 := 0) C0 (mX10_next l g a_t p_t n u_10 f_t_1 f_t_12 u_13 u_14 hu_15) (cwV 0 hts gX10_begins_X10_next rfl rfl rfl (by decide +kernel) ⟨Nat.le_of_ble_eq_true rfl, Nat.le_of_ble_eq_true rfl⟩) hP hD hS [3, 0, 2] [1] rfl rfl rfl rfl rfl (by decide) rfl rfl hl.1 rfl rfl (Nat.le_of_ble_eq_true rfl) ⟨Nat.zero_le _, Nat.zero_le _⟩ dX10_begins_50 ?_
          intro H locs hP hD hS
          refine lv_iconst (v := (1 : Int32)) hx hb dX10_begins_53 (by decide) ?_
          cases hF
          exact ret_z C0 hP hD hS [1, 2, 3, 0] rfl rfl rfl dX10_begins_54 rfl rfl
    · have hF := it_p c_4 hF
      refine lv_aload_n hx hb dX10_begins_14 rfl (lv_at hl 0 rfl) ?_
      refine lv_iconst (v := (5 : Int32)) hx hb dX10_begins_15 (by decide) ?_
      refine lv_aload_n hx hb dX10_begins_16 rfl (lv_at hl 0 rfl) ?_
      refine va_get (D := g.1) (ci := 10) (v := .int (o_t 4)) (C := RX10) (T := TX10) (N := 35) hx hb hts iX10_begins_X10 hown hK.1 hP 2 rfl rfl 4 (by decide) (hts _ kX10_begins_72) (fun _ h9 => h9) rfl dX10_begins_17 ?_
      obtain ⟨u_16, hu_17, hF⟩ := ob1_some hF
      refine call_v (wr := [aI g (p_t 1) 800 f_t_1, aI g (p_t 16) 266 f_t_16, aI g (p_t 12) 8 f_t_12]) (As := [.int (5 : Int32), .int (o_t 4)]) (rest := []) (ci := 10) (q0 := 0) C0 (mX10_wrong l g a_t p_t n (5 : Int32) (o_t 4) o_t u_16 hu_17) (cwV 2 hts gX10_begins_X10_wrong rfl rfl rfl (by decide +kernel) ⟨Nat.le_of_ble_eq_true rfl, Nat.le_of_ble_eq_true rfl⟩) hP hD hS [2] [0, 1, 3] rfl rfl rfl rfl rfl (by decide) rfl rfl hl.1 rfl rfl (Nat.le_of_ble_eq_true rfl) ⟨Nat.zero_le _, Nat.zero_le _⟩ dX10_begins_20 ?_
      intro H locs hP hD hS
      refine lv_aload_n hx hb dX10_begins_23 rfl (lv_at hl 0 rfl) ?_
      refine va_get (D := g.1) (ci := 10) (v := .ref (p_t 16)) (C := RX10) (T := TX10) (N := 35) hx hb hts iX10_begins_X10 hown hK.1 hP 3 rfl rfl 16 (by decide) (hts _ kX10_begins_23) (fun _ h9 => h9) rfl dX10_begins_24 ?_
      refine lv_iconst (v := (1 : Int32)) hx hb dX10_begins_27 (by decide) ?_
      refine va_iald_k (j := 1) hx hb hK.1 hP 1 0 rfl rfl (by unfold vp_in; decide) rfl dX10_begins_28 ?_
      refine lv_if_ne (tgt := 42) hx hb dX10_begins_29 (by decide) (fun c_18 => ?_) (fun c_18 => ?_)
      · have hF := it_n c_18 hF
        refine lv_aload_n hx hb dX10_begins_42 rfl (lv_at hl 0 rfl) ?_
        refine va_get (D := g.1) (ci := 10) (v := .int (u_16 13)) (C := RX10) (T := TX10) (N := 35) hx hb hts iX10_begins_X10 hown hK.1 hP 3 rfl rfl 13 (by decide) (hts _ kX10_begins_91) (fun _ h9 => h9) rfl dX10_begins_43 ?_
        refine lv_if_ne (tgt := 53) hx hb dX10_begins_46 (by decide) (fun c_19 => ?_) (fun c_19 => ?_)
        · have hF := it_n c_19 hF
          refine lv_iconst (v := (1 : Int32)) hx hb dX10_begins_53 (by decide) ?_
          cases hF
          exact ret_z C0 hP hD hS [3, 0, 2, 1] rfl rfl rfl dX10_begins_54 rfl rfl
        · have hF := it_p c_19 hF
          refine lv_aload_n hx hb dX10_begins_49 rfl (lv_at hl 0 rfl) ?_
          obtain ⟨u_20, u_21, hu_22, hF⟩ := ob2_some hF
          refine call_v (wr := [aI g (p_t 16) 266 f_t_16]) (As := []) (rest := []) (ci := 10) (q0 := 0) C0 (mX10_next l g a_t p_t n u_16 f_t_1 f_t_12 u_20 u_21 hu_22) (cwV 0 hts gX10_begins_X10_next rfl rfl rfl (by decide +kernel) ⟨Nat.le_of_ble_eq_true rfl, Nat.le_of_ble_eq_true rfl⟩) hP hD hS [3, 0, 2] [1] rfl rfl rfl rfl rfl (by decide) rfl rfl hl.1 rfl rfl (Nat.le_of_ble_eq_true rfl) ⟨Nat.zero_le _, Nat.zero_le _⟩ dX10_begins_50 ?_
          intro H locs hP hD hS
          refine lv_iconst (v := (1 : Int32)) hx hb dX10_begins_53 (by decide) ?_
          cases hF
          exact ret_z C0 hP hD hS [1, 2, 3, 0] rfl rfl rfl dX10_begins_54 rfl rfl
      · have hF := it_p c_18 hF
        refine lv_aload_n hx hb dX10_begins_32 rfl (lv_at hl 0 rfl) ?_
        refine lv_bipush (v := (6 : Int32)) hx hb dX10_begins_33 (by decide) ?_
        refine lv_aload_n hx hb dX10_begins_35 rfl (lv_at hl 0 rfl) ?_
        refine va_get (D := g.1) (ci := 10) (v := .int (u_16 4)) (C := RX10) (T := TX10) (N := 35) hx hb hts iX10_begins_X10 hown hK.1 hP 3 rfl rfl 4 (by decide) (hts _ kX10_begins_72) (fun _ h9 => h9) rfl dX10_begins_36 ?_
        obtain ⟨u_23, hu_24, hF⟩ := ob1_some hF
        refine call_v (wr := [aI g (p_t 1) 800 f_t_1, aI g (p_t 16) 266 f_t_16, aI g (p_t 12) 8 f_t_12]) (As := [.int (6 : Int32), .int (u_16 4)]) (rest := []) (ci := 10) (q0 := 0) C0 (mX10_wrong l g a_t p_t n (6 : Int32) (u_16 4) u_16 u_23 hu_24) (cwV 2 hts gX10_begins_X10_wrong rfl rfl rfl (by decide +kernel) ⟨Nat.le_of_ble_eq_true rfl, Nat.le_of_ble_eq_true rfl⟩) hP hD hS [3] [0, 1, 2] rfl rfl rfl rfl rfl (by decide) rfl rfl hl.1 rfl rfl (Nat.le_of_ble_eq_true rfl) ⟨Nat.zero_le _, Nat.zero_le _⟩ dX10_begins_39 ?_
        intro H locs hP hD hS
        refine lv_aload_n hx hb dX10_begins_42 rfl (lv_at hl 0 rfl) ?_
        refine va_get (D := g.1) (ci := 10) (v := .int (u_23 13)) (C := RX10) (T := TX10) (N := 35) hx hb hts iX10_begins_X10 hown hK.1 hP 3 rfl rfl 13 (by decide) (hts _ kX10_begins_91) (fun _ h9 => h9) rfl dX10_begins_43 ?_
        refine lv_if_ne (tgt := 53) hx hb dX10_begins_46 (by decide) (fun c_25 => ?_) (fun c_25 => ?_)
        · have hF := it_n c_25 hF
          refine lv_iconst (v := (1 : Int32)) hx hb dX10_begins_53 (by decide) ?_
          cases hF
          exact ret_z C0 hP hD hS [3, 0, 2, 1] rfl rfl rfl dX10_begins_54 rfl rfl
        · have hF := it_p c_25 hF
          refine lv_aload_n hx hb dX10_begins_49 rfl (lv_at hl 0 rfl) ?_
          obtain ⟨u_26, u_27, hu_28, hF⟩ := ob2_some hF
          refine call_v (wr := [aI g (p_t 16) 266 f_t_16]) (As := []) (rest := []) (ci := 10) (q0 := 0) C0 (mX10_next l g a_t p_t n u_23 f_t_1 f_t_12 u_26 u_27 hu_28) (cwV 0 hts gX10_begins_X10_next rfl rfl rfl (by decide +kernel) ⟨Nat.le_of_ble_eq_true rfl, Nat.le_of_ble_eq_true rfl⟩) hP hD hS [3, 0, 2] [1] rfl rfl rfl rfl rfl (by decide) rfl rfl hl.1 rfl rfl (Nat.le_of_ble_eq_true rfl) ⟨Nat.zero_le _, Nat.zero_le _⟩ dX10_begins_50 ?_
          intro H locs hP hD hS
          refine lv_iconst (v := (1 : Int32)) hx hb dX10_begins_53 (by decide) ?_
          cases hF
          exact ret_z C0 hP hD hS [1, 2, 3, 0] rfl rfl rfl dX10_begins_54 rfl rfl
  · have hF := it_p c_3 hF
    refine lv_iconst (v := (0 : Int32)) hx hb dX10_begins_8 (by decide) ?_
    cases hF
    exact ret_z C0 hP hD hS [2, 0, 3, 1] rfl rfl rfl dX10_begins_9 rfl rfl

theorem dAX10_guestLine : ∀ q ∈ ([(0, (.aload_n 0, 1)), (1, (.getfield 91, 3)), (4, (.ifCond .eq 4, 3)), (7, (.return_, 1)), (8, (.bipush 9, 2)), (10, (.iconst 4, 1)), (11, (.aload_n 0, 1)), (12, (.getfield 23, 3)), (15, (.iconst 3, 1)), (16, (.iaload, 1)), (17, (.imul, 1)), (18, (.iadd, 1)), (19, (.istore_n 1, 1)), (20, (.aload_n 0, 1)), (21, (.aload_n 0, 1)), (22, (.getfield 23, 3)), (25, (.iconst 3, 1)), (26, (.iaload, 1)), (27, (.invokevirtual 220, 3)), (30, (.aload_n 0, 1)), (31, (.ldc 223, 2)), (33, (.invokevirtual 108, 3)), (36, (.ifCond .eq 7, 3)), (39, (.iconst 0, 1)), (40, (.goto 43, 3)), (43, (.aload_n 0, 1)), (44, (.ldc 225, 2)), (46, (.invokevirtual 108, 3)), (49, (.ifCond .eq 7, 3)), (52, (.iconst 1, 1)), (53, (.goto 30, 3)), (56, (.aload_n 0, 1)), (57, (.ldc 227, 2)), (59, (.invokevirtual 108, 3)), (62, (.ifCond .eq 7, 3)), (65, (.iconst 2, 1)), (66, (.goto 17, 3)), (69, (.aload_n 0, 1)), (70, (.ldc 229, 2)), (72, (.invokevirtual 108, 3)), (75, (.ifCond .eq 7, 3)), (78, (.iconst 3, 1)), (79, (.goto 4, 3)), (82, (.iconst (-1), 1)), (83, (.istore_n 2, 1)), (84, (.iload_n 2, 1)), (85, (.ifCond .ge 12, 3)), (88, (.aload_n 0, 1)), (89, (.iconst 1, 1)), (90, (.aload_n 0, 1)), (91, (.getfield 72, 3)), (94, (.invokevirtual 118, 3)), (97, (.aload_n 0, 1)), (98, (.getfield 91, 3)), (101, (.ifCond .eq 4, 3)), (104, (.return_, 1)), (105, (.aload_n 0, 1)), (106, (.invokevirtual 112, 3)), (109, (.aload_n 0, 1)), (110, (.getfield 23, 3)), (113, (.iload_n 1, 1)), (114, (.iload_n 2, 1)), (115, (.iastore, 1)), (116, (.aload_n 0, 1)), (117, (.getfield 23, 3)), (120, (.iload_n 1, 1)), (121, (.iconst 1, 1)), (122, (.iadd, 1)), (123, (.aload_n 0, 1)), (124, (.ldc 231, 2)), (126, (.iconst 1, 1)), (127, (.bipush 99, 2)), (129, (.invokevirtual 212, 3)), (132, (.iastore, 1)), (133, (.aload_n 0, 1)), (134, (.getfield 23, 3)), (137, (.iload_n 1, 1)), (138, (.iconst 2, 1)), (139, (.iadd, 1)), (140, (.aload_n 0, 1)), (141, (.ldc 233, 2)), (143, (.iconst 0, 1)), (144, (.bipush 20, 2)), (146, (.invokevirtual 212, 3)), (149, (.iastore, 1)), (150, (.aload_n 0, 1)), (151, (.getfield 91, 3)), (154, (.ifCond .ne 13, 3)), (157, (.aload_n 0, 1)), (158, (.getfield 23, 3)), (161, (.iconst 3, 1)), (162, (.dup2, 1)), (163, (.iaload, 1)), (164, (.iconst 1, 1)), (165, (.iadd, 1)), (166, (.iastore, 1)), (167, (.return_, 1))] : List (Nat × (Instr × Nat))), decode cX10_guestLine q.1 = .ok q.2 := by decide +kernel
theorem dX10_guestLine_0 : decode cX10_guestLine 0 = .ok (.aload_n 0, 1) := dAX10_guestLine (0, (.aload_n 0, 1)) (List.mem_of_getElem? (i := 0) rfl)
theorem dX10_guestLine_1 : decode cX10_guestLine 1 = .ok (.getfield 91, 3) := dAX10_guestLine (1, (.getfield 91, 3)) (List.mem_of_getElem? (i := 1) rfl)
theorem dX10_guestLine_4 : decode cX10_guestLine 4 = .ok (.ifCond .eq 4, 3) := dAX10_guestLine (4, (.ifCond .eq 4, 3)) (List.mem_of_getElem? (i := 2) rfl)
theorem dX10_guestLine_7 : decode cX10_guestLine 7 = .ok (.return_, 1) := dAX10_guestLine (7, (.return_, 1)) (List.mem_of_getElem? (i := 3) rfl)
theorem dX10_guestLine_8 : decode cX10_guestLine 8 = .ok (.bipush 9, 2) := dAX10_guestLine (8, (.bipush 9, 2)) (List.mem_of_getElem? (i := 4) rfl)
theorem dX10_guestLine_10 : decode cX10_guestLine 10 = .ok (.iconst 4, 1) := dAX10_guestLine (10, (.iconst 4, 1)) (List.mem_of_getElem? (i := 5) rfl)
theorem dX10_guestLine_11 : decode cX10_guestLine 11 = .ok (.aload_n 0, 1) := dAX10_guestLine (11, (.aload_n 0, 1)) (List.mem_of_getElem? (i := 6) rfl)
theorem dX10_guestLine_12 : decode cX10_guestLine 12 = .ok (.getfield 23, 3) := dAX10_guestLine (12, (.getfield 23, 3)) (List.mem_of_getElem? (i := 7) rfl)
theorem dX10_guestLine_15 : decode cX10_guestLine 15 = .ok (.iconst 3, 1) := dAX10_guestLine (15, (.iconst 3, 1)) (List.mem_of_getElem? (i := 8) rfl)
theorem dX10_guestLine_16 : decode cX10_guestLine 16 = .ok (.iaload, 1) := dAX10_guestLine (16, (.iaload, 1)) (List.mem_of_getElem? (i := 9) rfl)
theorem dX10_guestLine_17 : decode cX10_guestLine 17 = .ok (.imul, 1) := dAX10_guestLine (17, (.imul, 1)) (List.mem_of_getElem? (i := 10) rfl)
theorem dX10_guestLine_18 : decode cX10_guestLine 18 = .ok (.iadd, 1) := dAX10_guestLine (18, (.iadd, 1)) (List.mem_of_getElem? (i := 11) rfl)
theorem dX10_guestLine_19 : decode cX10_guestLine 19 = .ok (.istore_n 1, 1) := dAX10_guestLine (19, (.istore_n 1, 1)) (List.mem_of_getElem? (i := 12) rfl)
theorem dX10_guestLine_20 : decode cX10_guestLine 20 = .ok (.aload_n 0, 1) := dAX10_guestLine (20, (.aload_n 0, 1)) (List.mem_of_getElem? (i := 13) rfl)
theorem dX10_guestLine_21 : decode cX10_guestLine 21 = .ok (.aload_n 0, 1) := dAX10_guestLine (21, (.aload_n 0, 1)) (List.mem_of_getElem? (i := 14) rfl)
theorem dX10_guestLine_22 : decode cX10_guestLine 22 = .ok (.getfield 23, 3) := dAX10_guestLine (22, (.getfield 23, 3)) (List.mem_of_getElem? (i := 15) rfl)
theorem dX10_guestLine_25 : decode cX10_guestLine 25 = .ok (.iconst 3, 1) := dAX10_guestLine (25, (.iconst 3, 1)) (List.mem_of_getElem? (i := 16) rfl)
theorem dX10_guestLine_26 : decode cX10_guestLine 26 = .ok (.iaload, 1) := dAX10_guestLine (26, (.iaload, 1)) (List.mem_of_getElem? (i := 17) rfl)
theorem dX10_guestLine_27 : decode cX10_guestLine 27 = .ok (.invokevirtual 220, 3) := dAX10_guestLine (27, (.invokevirtual 220, 3)) (List.mem_of_getElem? (i := 18) rfl)
theorem dX10_guestLine_30 : decode cX10_guestLine 30 = .ok (.aload_n 0, 1) := dAX10_guestLine (30, (.aload_n 0, 1)) (List.mem_of_getElem? (i := 19) rfl)
theorem dX10_guestLine_31 : decode cX10_guestLine 31 = .ok (.ldc 223, 2) := dAX10_guestLine (31, (.ldc 223, 2)) (List.mem_of_getElem? (i := 20) rfl)
theorem dX10_guestLine_33 : decode cX10_guestLine 33 = .ok (.invokevirtual 108, 3) := dAX10_guestLine (33, (.invokevirtual 108, 3)) (List.mem_of_getElem? (i := 21) rfl)
theorem dX10_guestLine_36 : decode cX10_guestLine 36 = .ok (.ifCond .eq 7, 3) := dAX10_guestLine (36, (.ifCond .eq 7, 3)) (List.mem_of_getElem? (i := 22) rfl)
theorem dX10_guestLine_39 : decode cX10_guestLine 39 = .ok (.iconst 0, 1) := dAX10_guestLine (39, (.iconst 0, 1)) (List.mem_of_getElem? (i := 23) rfl)
theorem dX10_guestLine_40 : decode cX10_guestLine 40 = .ok (.goto 43, 3) := dAX10_guestLine (40, (.goto 43, 3)) (List.mem_of_getElem? (i := 24) rfl)
theorem dX10_guestLine_43 : decode cX10_guestLine 43 = .ok (.aload_n 0, 1) := dAX10_guestLine (43, (.aload_n 0, 1)) (List.mem_of_getElem? (i := 25) rfl)
theorem dX10_guestLine_44 : decode cX10_guestLine 44 = .ok (.ldc 225, 2) := dAX10_guestLine (44, (.ldc 225, 2)) (List.mem_of_getElem? (i := 26) rfl)
theorem dX10_guestLine_46 : decode cX10_guestLine 46 = .ok (.invokevirtual 108, 3) := dAX10_guestLine (46, (.invokevirtual 108, 3)) (List.mem_of_getElem? (i := 27) rfl)
theorem dX10_guestLine_49 : decode cX10_guestLine 49 = .ok (.ifCond .eq 7, 3) := dAX10_guestLine (49, (.ifCond .eq 7, 3)) (List.mem_of_getElem? (i := 28) rfl)
theorem dX10_guestLine_52 : decode cX10_guestLine 52 = .ok (.iconst 1, 1) := dAX10_guestLine (52, (.iconst 1, 1)) (List.mem_of_getElem? (i := 29) rfl)
theorem dX10_guestLine_53 : decode cX10_guestLine 53 = .ok (.goto 30, 3) := dAX10_guestLine (53, (.goto 30, 3)) (List.mem_of_getElem? (i := 30) rfl)
theorem dX10_guestLine_56 : decode cX10_guestLine 56 = .ok (.aload_n 0, 1) := dAX10_guestLine (56, (.aload_n 0, 1)) (List.mem_of_getElem? (i := 31) rfl)
theorem dX10_guestLine_57 : decode cX10_guestLine 57 = .ok (.ldc 227, 2) := dAX10_guestLine (57, (.ldc 227, 2)) (List.mem_of_getElem? (i := 32) rfl)
theorem dX10_guestLine_59 : decode cX10_guestLine 59 = .ok (.invokevirtual 108, 3) := dAX10_guestLine (59, (.invokevirtual 108, 3)) (List.mem_of_getElem? (i := 33) rfl)
theorem dX10_guestLine_62 : decode cX10_guestLine 62 = .ok (.ifCond .eq 7, 3) := dAX10_guestLine (62, (.ifCond .eq 7, 3)) (List.mem_of_getElem? (i := 34) rfl)
theorem dX10_guestLine_65 : decode cX10_guestLine 65 = .ok (.iconst 2, 1) := dAX10_guestLine (65, (.iconst 2, 1)) (List.mem_of_getElem? (i := 35) rfl)
theorem dX10_guestLine_66 : decode cX10_guestLine 66 = .ok (.goto 17, 3) := dAX10_guestLine (66, (.goto 17, 3)) (List.mem_of_getElem? (i := 36) rfl)
theorem dX10_guestLine_69 : decode cX10_guestLine 69 = .ok (.aload_n 0, 1) := dAX10_guestLine (69, (.aload_n 0, 1)) (List.mem_of_getElem? (i := 37) rfl)
theorem dX10_guestLine_70 : decode cX10_guestLine 70 = .ok (.ldc 229, 2) := dAX10_guestLine (70, (.ldc 229, 2)) (List.mem_of_getElem? (i := 38) rfl)
theorem dX10_guestLine_72 : decode cX10_guestLine 72 = .ok (.invokevirtual 108, 3) := dAX10_guestLine (72, (.invokevirtual 108, 3)) (List.mem_of_getElem? (i := 39) rfl)
theorem dX10_guestLine_75 : decode cX10_guestLine 75 = .ok (.ifCond .eq 7, 3) := dAX10_guestLine (75, (.ifCond .eq 7, 3)) (List.mem_of_getElem? (i := 40) rfl)
theorem dX10_guestLine_78 : decode cX10_guestLine 78 = .ok (.iconst 3, 1) := dAX10_guestLine (78, (.iconst 3, 1)) (List.mem_of_getElem? (i := 41) rfl)
theorem dX10_guestLine_79 : decode cX10_guestLine 79 = .ok (.goto 4, 3) := dAX10_guestLine (79, (.goto 4, 3)) (List.mem_of_getElem? (i := 42) rfl)
theorem dX10_guestLine_82 : decode cX10_guestLine 82 = .ok (.iconst (-1), 1) := dAX10_guestLine (82, (.iconst (-1), 1)) (List.mem_of_getElem? (i := 43) rfl)
theorem dX10_guestLine_83 : decode cX10_guestLine 83 = .ok (.istore_n 2, 1) := dAX10_guestLine (83, (.istore_n 2, 1)) (List.mem_of_getElem? (i := 44) rfl)
theorem dX10_guestLine_84 : decode cX10_guestLine 84 = .ok (.iload_n 2, 1) := dAX10_guestLine (84, (.iload_n 2, 1)) (List.mem_of_getElem? (i := 45) rfl)
theorem dX10_guestLine_85 : decode cX10_guestLine 85 = .ok (.ifCond .ge 12, 3) := dAX10_guestLine (85, (.ifCond .ge 12, 3)) (List.mem_of_getElem? (i := 46) rfl)
theorem dX10_guestLine_88 : decode cX10_guestLine 88 = .ok (.aload_n 0, 1) := dAX10_guestLine (88, (.aload_n 0, 1)) (List.mem_of_getElem? (i := 47) rfl)
theorem dX10_guestLine_89 : decode cX10_guestLine 89 = .ok (.iconst 1, 1) := dAX10_guestLine (89, (.iconst 1, 1)) (List.mem_of_getElem? (i := 48) rfl)
theorem dX10_guestLine_90 : decode cX10_guestLine 90 = .ok (.aload_n 0, 1) := dAX10_guestLine (90, (.aload_n 0, 1)) (List.mem_of_getElem? (i := 49) rfl)
theorem dX10_guestLine_91 : decode cX10_guestLine 91 = .ok (.getfield 72, 3) := dAX10_guestLine (91, (.getfield 72, 3)) (List.mem_of_getElem? (i := 50) rfl)
theorem dX10_guestLine_94 : decode cX10_guestLine 94 = .ok (.invokevirtual 118, 3) := dAX10_guestLine (94, (.invokevirtual 118, 3)) (List.mem_of_getElem? (i := 51) rfl)
theorem dX10_guestLine_97 : decode cX10_guestLine 97 = .ok (.aload_n 0, 1) := dAX10_guestLine (97, (.aload_n 0, 1)) (List.mem_of_getElem? (i := 52) rfl)
theorem dX10_guestLine_98 : decode cX10_guestLine 98 = .ok (.getfield 91, 3) := dAX10_guestLine (98, (.getfield 91, 3)) (List.mem_of_getElem? (i := 53) rfl)
theorem dX10_guestLine_101 : decode cX10_guestLine 101 = .ok (.ifCond .eq 4, 3) := dAX10_guestLine (101, (.ifCond .eq 4, 3)) (List.mem_of_getElem? (i := 54) rfl)
theorem dX10_guestLine_104 : decode cX10_guestLine 104 = .ok (.return_, 1) := dAX10_guestLine (104, (.return_, 1)) (List.mem_of_getElem? (i := 55) rfl)
theorem dX10_guestLine_105 : decode cX10_guestLine 105 = .ok (.aload_n 0, 1) := dAX10_guestLine (105, (.aload_n 0, 1)) (List.mem_of_getElem? (i := 56) rfl)
theorem dX10_guestLine_106 : decode cX10_guestLine 106 = .ok (.invokevirtual 112, 3) := dAX10_guestLine (106, (.invokevirtual 112, 3)) (List.mem_of_getElem? (i := 57) rfl)
theorem dX10_guestLine_109 : decode cX10_guestLine 109 = .ok (.aload_n 0, 1) := dAX10_guestLine (109, (.aload_n 0, 1)) (List.mem_of_getElem? (i := 58) rfl)
theorem dX10_guestLine_110 : decode cX10_guestLine 110 = .ok (.getfield 23, 3) := dAX10_guestLine (110, (.getfield 23, 3)) (List.mem_of_getElem? (i := 59) rfl)
theorem dX10_guestLine_113 : decode cX10_guestLine 113 = .ok (.iload_n 1, 1) := dAX10_guestLine (113, (.iload_n 1, 1)) (List.mem_of_getElem? (i := 60) rfl)
theorem dX10_guestLine_114 : decode cX10_guestLine 114 = .ok (.iload_n 2, 1) := dAX10_guestLine (114, (.iload_n 2, 1)) (List.mem_of_getElem? (i := 61) rfl)
theorem dX10_guestLine_115 : decode cX10_guestLine 115 = .ok (.iastore, 1) := dAX10_guestLine (115, (.iastore, 1)) (List.mem_of_getElem? (i := 62) rfl)
theorem dX10_guestLine_116 : decode cX10_guestLine 116 = .ok (.aload_n 0, 1) := dAX10_guestLine (116, (.aload_n 0, 1)) (List.mem_of_getElem? (i := 63) rfl)
theorem dX10_guestLine_117 : decode cX10_guestLine 117 = .ok (.getfield 23, 3) := dAX10_guestLine (117, (.getfield 23, 3)) (List.mem_of_getElem? (i := 64) rfl)
theorem dX10_guestLine_120 : decode cX10_guestLine 120 = .ok (.iload_n 1, 1) := dAX10_guestLine (120, (.iload_n 1, 1)) (List.mem_of_getElem? (i := 65) rfl)
theorem dX10_guestLine_121 : decode cX10_guestLine 121 = .ok (.iconst 1, 1) := dAX10_guestLine (121, (.iconst 1, 1)) (List.mem_of_getElem? (i := 66) rfl)
theorem dX10_guestLine_122 : decode cX10_guestLine 122 = .ok (.iadd, 1) := dAX10_guestLine (122, (.iadd, 1)) (List.mem_of_getElem? (i := 67) rfl)
theorem dX10_guestLine_123 : decode cX10_guestLine 123 = .ok (.aload_n 0, 1) := dAX10_guestLine (123, (.aload_n 0, 1)) (List.mem_of_getElem? (i := 68) rfl)
theorem dX10_guestLine_124 : decode cX10_guestLine 124 = .ok (.ldc 231, 2) := dAX10_guestLine (124, (.ldc 231, 2)) (List.mem_of_getElem? (i := 69) rfl)
theorem dX10_guestLine_126 : decode cX10_guestLine 126 = .ok (.iconst 1, 1) := dAX10_guestLine (126, (.iconst 1, 1)) (List.mem_of_getElem? (i := 70) rfl)
theorem dX10_guestLine_127 : decode cX10_guestLine 127 = .ok (.bipush 99, 2) := dAX10_guestLine (127, (.bipush 99, 2)) (List.mem_of_getElem? (i := 71) rfl)
theorem dX10_guestLine_129 : decode cX10_guestLine 129 = .ok (.invokevirtual 212, 3) := dAX10_guestLine (129, (.invokevirtual 212, 3)) (List.mem_of_getElem? (i := 72) rfl)
theorem dX10_guestLine_132 : decode cX10_guestLine 132 = .ok (.iastore, 1) := dAX10_guestLine (132, (.iastore, 1)) (List.mem_of_getElem? (i := 73) rfl)
theorem dX10_guestLine_133 : decode cX10_guestLine 133 = .ok (.aload_n 0, 1) := dAX10_guestLine (133, (.aload_n 0, 1)) (List.mem_of_getElem? (i := 74) rfl)
theorem dX10_guestLine_134 : decode cX10_guestLine 134 = .ok (.getfield 23, 3) := dAX10_guestLine (134, (.getfield 23, 3)) (List.mem_of_getElem? (i := 75) rfl)
theorem dX10_guestLine_137 : decode cX10_guestLine 137 = .ok (.iload_n 1, 1) := dAX10_guestLine (137, (.iload_n 1, 1)) (List.mem_of_getElem? (i := 76) rfl)
theorem dX10_guestLine_138 : decode cX10_guestLine 138 = .ok (.iconst 2, 1) := dAX10_guestLine (138, (.iconst 2, 1)) (List.mem_of_getElem? (i := 77) rfl)
theorem dX10_guestLine_139 : decode cX10_guestLine 139 = .ok (.iadd, 1) := dAX10_guestLine (139, (.iadd, 1)) (List.mem_of_getElem? (i := 78) rfl)
theorem dX10_guestLine_140 : decode cX10_guestLine 140 = .ok (.aload_n 0, 1) := dAX10_guestLine (140, (.aload_n 0, 1)) (List.mem_of_getElem? (i := 79) rfl)
theorem dX10_guestLine_141 : decode cX10_guestLine 141 = .ok (.ldc 233, 2) := dAX10_guestLine (141, (.ldc 233, 2)) (List.mem_of_getElem? (i := 80) rfl)
theorem dX10_guestLine_143 : decode cX10_guestLine 143 = .ok (.iconst 0, 1) := dAX10_guestLine (143, (.iconst 0, 1)) (List.mem_of_getElem? (i := 81) rfl)
theorem dX10_guestLine_144 : decode cX10_guestLine 144 = .ok (.bipush 20, 2) := dAX10_guestLine (144, (.bipush 20, 2)) (List.mem_of_getElem? (i := 82) rfl)
theorem dX10_guestLine_146 : decode cX10_guestLine 146 = .ok (.invokevirtual 212, 3) := dAX10_guestLine (146, (.invokevirtual 212, 3)) (List.mem_of_getElem? (i := 83) rfl)
theorem dX10_guestLine_149 : decode cX10_guestLine 149 = .ok (.iastore, 1) := dAX10_guestLine (149, (.iastore, 1)) (List.mem_of_getElem? (i := 84) rfl)
theorem dX10_guestLine_150 : decode cX10_guestLine 150 = .ok (.aload_n 0, 1) := dAX10_guestLine (150, (.aload_n 0, 1)) (List.mem_of_getElem? (i := 85) rfl)
theorem dX10_guestLine_151 : decode cX10_guestLine 151 = .ok (.getfield 91, 3) := dAX10_guestLine (151, (.getfield 91, 3)) (List.mem_of_getElem? (i := 86) rfl)
theorem dX10_guestLine_154 : decode cX10_guestLine 154 = .ok (.ifCond .ne 13, 3) := dAX10_guestLine (154, (.ifCond .ne 13, 3)) (List.mem_of_getElem? (i := 87) rfl)
theorem dX10_guestLine_157 : decode cX10_guestLine 157 = .ok (.aload_n 0, 1) := dAX10_guestLine (157, (.aload_n 0, 1)) (List.mem_of_getElem? (i := 88) rfl)
theorem dX10_guestLine_158 : decode cX10_guestLine 158 = .ok (.getfield 23, 3) := dAX10_guestLine (158, (.getfield 23, 3)) (List.mem_of_getElem? (i := 89) rfl)
theorem dX10_guestLine_161 : decode cX10_guestLine 161 = .ok (.iconst 3, 1) := dAX10_guestLine (161, (.iconst 3, 1)) (List.mem_of_getElem? (i := 90) rfl)
theorem dX10_guestLine_162 : decode cX10_guestLine 162 = .ok (.dup2, 1) := dAX10_guestLine (162, (.dup2, 1)) (List.mem_of_getElem? (i := 91) rfl)
theorem dX10_guestLine_163 : decode cX10_guestLine 163 = .ok (.iaload, 1) := dAX10_guestLine (163, (.iaload, 1)) (List.mem_of_getElem? (i := 92) rfl)
theorem dX10_guestLine_164 : decode cX10_guestLine 164 = .ok (.iconst 1, 1) := dAX10_guestLine (164, (.iconst 1, 1)) (List.mem_of_getElem? (i := 93) rfl)
theorem dX10_guestLine_165 : decode cX10_guestLine 165 = .ok (.iadd, 1) := dAX10_guestLine (165, (.iadd, 1)) (List.mem_of_getElem? (i := 94) rfl)
theorem dX10_guestLine_166 : decode cX10_guestLine 166 = .ok (.iastore, 1) := dAX10_guestLine (166, (.iastore, 1)) (List.mem_of_getElem? (i := 95) rfl)
theorem dX10_guestLine_167 : decode cX10_guestLine 167 = .ok (.return_, 1) := dAX10_guestLine (167, (.return_, 1)) (List.mem_of_getElem? (i := 96) rfl)
set_option maxRecDepth 20000 in
theorem ggX10_guestLine_X10_newName : GoodIn wsX10_guestLine wsX10_newName := goodIn_r _ [8, 1, 3, 9, 2, 10, 11, 12, 13, 7, 14, 15, 16, 17, 18, 19, 20, 21, 22, 23, 24, 25, 26, 27, 28, 29, 30, 31, 32, 33, 34, 35, 36, 37, 38, 39, 40, 41, 42, 43, 44, 45, 46, 47, 48, 49, 50, 51, 52, 53, 54, 55, 56, 57, 58, 59, 60, 61, 62, 63, 64, 65, 66, 67, 68, 69, 70, 71, 72, 73, 74, 75, 76, 77, 78, 79, 80, 81, 82, 83, 84, 85, 86, 87, 88, 89, 90, 91, 92, 93, 94, 95, 96, 116, 117, 118, 119, 120, 121, 122, 123, 124, 125, 126, 127, 128, 129, 130, 131, 132, 133, 134, 135, 136, 137, 138, 139, 140, 141, 142, 143, 144, 145, 146, 147, 148, 149, 150] rfl (by decide +kernel)
set_option maxRecDepth 20000 in
theorem gX10_guestLine_X10_newName : GoodIn wsX10_guestLine (wsV RX10 220 RX10 yX10_newName wsX10_newName) := goodIn_app (goodIn_of _ (by decide +kernel)) ggX10_guestLine_X10_newName
set_option maxRecDepth 20000 in
theorem ggX10_guestLine_X10_isWord : GoodIn wsX10_guestLine wsX10_isWord := goodIn_r _ [19, 1, 15, 9, 10, 20, 21, 22, 23, 24, 25, 26, 27, 28, 29, 30, 31, 32, 33, 34, 35, 36, 37, 38, 39, 40, 41, 42, 43, 44, 45, 46, 47, 48, 49, 50, 51, 52, 53, 54, 55, 56, 57, 58, 59, 60, 61, 62, 63, 64, 65, 66, 67, 68, 116, 117, 118, 119, 120, 121, 122, 123, 124, 125, 126, 127, 128, 129, 130, 131, 132, 133, 134, 135, 136, 137, 138, 139, 140, 141, 142, 143, 144, 145, 146, 147, 148, 149, 150] rfl (by decide +kernel)
set_option maxRecDepth 20000 in
theorem gX10_guestLine_X10_isWord : GoodIn wsX10_guestLine (wsV RX10 108 RX10 yX10_isWord wsX10_isWord) := goodIn_app (goodIn_of _ (by decide +kernel)) ggX10_guestLine_X10_isWord
set_option maxRecDepth 20000 in
theorem ggX10_guestLine_X10_wrong : GoodIn wsX10_guestLine wsX10_wrong := goodIn_r _ [72, 1, 73, 74, 116, 117, 118, 119, 120, 121, 122, 123, 124, 125, 126, 127, 128, 129, 130, 131, 132, 133, 134, 135, 136, 137, 138, 139, 140, 141, 142, 143, 144, 145, 146, 147, 148, 149, 150] rfl (by decide +kernel)
set_option maxRecDepth 20000 in
theorem gX10_guestLine_X10_wrong : GoodIn wsX10_guestLine (wsV RX10 118 RX10 yX10_wrong wsX10_wrong) := goodIn_app (goodIn_of _ (by decide +kernel)) ggX10_guestLine_X10_wrong
set_option maxRecDepth 20000 in
theorem ggX10_guestLine_X10_next : GoodIn wsX10_guestLine wsX10_next := goodIn_r _ [82, 83, 3, 9, 84, 15, 10, 85, 86, 87, 7, 88, 89, 90, 91, 92, 93, 94, 95, 96, 116, 117, 118, 119, 120, 121, 122, 123, 124, 125, 126, 127, 128, 129, 130, 131, 132, 133, 134, 135, 136, 137, 138, 139, 140, 141, 142, 143, 144, 145, 146, 147, 148, 149, 150] rfl (by decide +kernel)
set_option maxRecDepth 20000 in
theorem gX10_guestLine_X10_next : GoodIn wsX10_guestLine (wsV RX10 112 RX10 yX10_next wsX10_next) := goodIn_app (goodIn_of _ (by decide +kernel)) ggX10_guestLine_X10_next
set_option maxRecDepth 20000 in
theorem ggX10_guestLine_X10_after : GoodIn wsX10_guestLine wsX10_after := goodIn_r _ [100, 101, 102, 103, 7, 104, 1, 3, 105, 106, 107, 108, 16, 17, 18, 19, 15, 9, 10, 20, 21, 22, 23, 24, 25, 26, 27, 28, 29, 30, 31, 32, 33, 34, 35, 36, 37, 38, 39, 40, 41, 42, 43, 44, 45, 46, 47, 48, 49, 50, 51, 52, 53, 54, 55, 56, 57, 58, 59, 60, 61, 62, 63, 64, 65, 66, 67, 68, 79, 80, 81, 82, 83, 84, 85, 86, 87, 88, 89, 90, 91, 92, 93, 94, 95, 96, 69, 70, 71, 72, 73, 74, 109, 110, 111, 112, 113, 114, 115, 116, 117, 118, 119, 120, 121, 122, 123, 124, 125, 126, 127, 128, 129, 130, 131, 132, 133, 134, 135, 136, 137, 138, 139, 140, 141, 142, 143, 144, 145, 146, 147, 148, 149, 150] rfl (by decide +kernel)
set_option maxRecDepth 20000 in
theorem gX10_guestLine_X10_after : GoodIn wsX10_guestLine (wsV RX10 212 RX10 yX10_after wsX10_after) := goodIn_app (goodIn_of _ (by decide +kernel)) ggX10_guestLine_X10_after
theorem kX10_guestLine_91 : Cond.fieldLink RX10 91 "EveningVowModel" "failed" "Z" ∈ wsX10_guestLine := List.mem_of_getElem? (i := 1) rfl
theorem iX10_guestLine_X10 : ∀ w ∈ u_ws RX10 TX10 35, w ∈ wsX10_guestLine := fun w h => (List.mem_cons_of_mem _ (List.mem_append_right _ h))
theorem kX10_guestLine_23 : Cond.fieldLink RX10 23 "EveningVowModel" "fresh" "[I" ∈ wsX10_guestLine := List.mem_of_getElem? (i := 2) rfl
theorem kX10_guestLine_72 : Cond.fieldLink RX10 72 "EveningVowModel" "at" "I" ∈ wsX10_guestLine := List.mem_of_getElem? (i := 3) rfl
set_option maxHeartbeats 4000000 in
set_option maxRecDepth 100000 in
theorem mX10_guestLine (l : Launch) (g : GG) (a_t : Nat) (p_t : Nat → Nat) (n : Nat) (o_t : Nat → Int32) (f_t_1 : Nat → Int32) (f_t_12 : Nat → Int32) (f_t_16 : Nat → Int32) (o_t' : Nat → Int32) (f_t_12' : Nat → Int32) (f_t_16' : Nat → Int32) (hF : fX10_guestLine n o_t f_t_1 f_t_12 f_t_16 = some (o_t', f_t_12', f_t_16')) : MV l g yX10_guestLine wsX10_guestLine ({ frames := 8, cells := 0, slots := 0, locals := 178 } : Room) [.ref a_t] [oX10 a_t p_t o_t, aI g (p_t 1) 800 f_t_1, aI g (p_t 12) 8 f_t_12, aI g (p_t 16) 266 f_t_16] [oX10 a_t p_t o_t', aI g (p_t 1) 800 f_t_1, aI g (p_t 12) 8 f_t_12', aI g (p_t 16) 266 f_t_16'] := by
  refine MV.of (cc := cX10_guestLine) (maxL := 3) (own := RX10) rfl rfl (by decide) (Nat.le_of_ble_eq_true rfl) ?_
  intro p e s m args below meth c A C0 hP hD hS ls hl
  obtain ⟨hx, hb, hml, hown, hts, hr, hlk, hK, hA, hSW⟩ := id C0
  have hl : lv_has ls 3 [(0, .ref a_t)] := hl
  rw [fX10_guestLine] at hF
  refine lv_aload_n hx hb dX10_guestLine_0 rfl (lv_at hl 0 rfl) ?_
  refine va_get (D := g.1) (ci := 10) (v := .int (o_t 13)) (C := RX10) (T := TX10) (N := 35) hx hb hts iX10_guestLine_X10 hown hK.1 hP 0 rfl rfl 13 (by decide) (hts _ kX10_guestLine_91) (fun _ h9 => h9) rfl dX10_guestLine_1 ?_
  refine lv_if_eq (tgt := 8) hx hb dX10_guestLine_4 (by decide) (fun c_1 => ?_) (fun c_1 => ?_)
  · have hF := it_p c_1 hF
    refine lv_bipush (v := (9 : Int32)) hx hb dX10_guestLine_8 (by decide) ?_
    refine lv_iconst (v := (4 : Int32)) hx hb dX10_guestLine_10 (by decide) ?_
    refine lv_aload_n hx hb dX10_guestLine_11 rfl (lv_at hl 0 rfl) ?_
    refine va_get (D := g.1) (ci := 10) (v := .ref (p_t 16)) (C := RX10) (T := TX10) (N := 35) hx hb hts iX10_guestLine_X10 hown hK.1 hP 0 rfl rfl 16 (by decide) (hts _ kX10_guestLine_23) (fun _ h9 => h9) rfl dX10_guestLine_12 ?_
    refine lv_iconst (v := (3 : Int32)) hx hb dX10_guestLine_15 (by decide) ?_
    refine va_iald_k (j := 3) hx hb hK.1 hP 3 0 rfl rfl (by unfold vp_in; decide) rfl dX10_guestLine_16 ?_
    refine lv_imul hx hb dX10_guestLine_17 ?_
    refine lv_iadd hx hb dX10_guestLine_18 ?_
    refine lv_istore_n (lv' := [(1, .int ((9 : Int32) + ((4 : Int32) * (f_t_16 3)))), (0, .ref a_t)]) hx hb dX10_guestLine_19 rfl hl (by decide) rfl (fun ls hl => ?_)
    refine lv_aload_n hx hb dX10_guestLine_20 rfl (lv_at hl 1 rfl) ?_
    refine lv_aload_n hx hb dX10_guestLine_21 rfl (lv_at hl 1 rfl) ?_
    refine va_get (D := g.1) (ci := 10) (v := .ref (p_t 16)) (C := RX10) (T := TX10) (N := 35) hx hb hts iX10_guestLine_X10 hown hK.1 hP 0 rfl rfl 16 (by decide) (hts _ kX10_guestLine_23) (fun _ h9 => h9) rfl dX10_guestLine_22 ?_
    refine lv_iconst (v := (3 : Int32)) hx hb dX10_guestLine_25 (by decide) ?_
    refine va_iald_k (j := 3) hx hb hK.1 hP 3 0 rfl rfl (by unfold vp_in; decide) rfl dX10_guestLine_26 ?_
    obtain ⟨u_2, u_3, u_4, hu_5, hF⟩ := ob3_some hF
    refine call_v (wr := []) (As := [.int (f_t_16 3)]) (rest := []) (ci := 10) (q0 := 0) C0 (mX10_newName l g a_t p_t n (f_t_16 3) o_t f_t_1 f_t_12 f_t_16 u_2 u_3 u_4 hu_5) (cwV 1 hts gX10_guestLine_X10_newName rfl rfl rfl (by decide +kernel) ⟨Nat.le_of_ble_eq_true rfl, Nat.le_of_ble_eq_true rfl⟩) hP hD hS [0, 1, 2, 3] [] rfl rfl rfl rfl rfl (by decide) rfl rfl hl.1 rfl rfl (Nat.le_of_ble_eq_true rfl) ⟨Nat.zero_le _, Nat.zero_le _⟩ dX10_guestLine_27 ?_
    intro H locs hP hD hS
    refine lv_aload_n hx hb dX10_guestLine_30 rfl (lv_at hl 1 rfl) ?_
    refine va_ldcS (own := RX10) (index := 223) (q := gK g 11) hx hb hown (hK.2.2 11 (by decide)) dX10_guestLine_31 ?_
    obtain ⟨u_6, hu_7, hF⟩ := ob1_some hF
    refine call_i (wr := [aI g (p_t 1) 800 f_t_1, aI g (p_t 16) 266 u_4]) (As := [.ref (gK g 11)]) (rest := []) (ci := 10) (q0 := 0) C0 (mX10_isWord l g a_t p_t n 11 u_2 u_3 u_6 (by decide) hu_7) (cwV 1 hts gX10_guestLine_X10_isWord rfl rfl rfl (by decide +kernel) ⟨Nat.le_of_ble_eq_true rfl, Nat.le_of_ble_eq_true rfl⟩) hP hD hS [0, 2] [1, 3] rfl rfl rfl rfl rfl (by decide) rfl rfl hl.1 rfl rfl (Nat.le_of_ble_eq_true rfl) ⟨Nat.zero_le _, Nat.zero_le _⟩ dX10_guestLine_33 ?_
    intro H locs hP hD hS
    refine lv_if_eq (tgt := 43) hx hb dX10_guestLine_36 (by decide) (fun c_8 => ?_) (fun c_8 => ?_)
    · have hF := it_p c_8 hF
      refine lv_aload_n hx hb dX10_guestLine_43 rfl (lv_at hl 1 rfl) ?_
      refine va_ldcS (own := RX10) (index := 225) (q := gK g 12) hx hb hown (hK.2.2 12 (by decide)) dX10_guestLine_44 ?_
      obtain ⟨u_9, hu_10, hF⟩ := ob1_some hF
      refine call_i (wr := [aI g (p_t 1) 800 f_t_1, aI g (p_t 16) 266 u_4]) (As := [.ref (gK g 12)]) (rest := []) (ci := 10) (q0 := 0) C0 (mX10_isWord l g a_t p_t n 12 u_2 u_3 u_9 (by decide) hu_10) (cwV 1 hts gX10_guestLine_X10_isWord rfl rfl rfl (by decide +kernel) ⟨Nat.le_of_ble_eq_true rfl, Nat.le_of_ble_eq_true rfl⟩) hP hD hS [2, 3] [0, 1] rfl rfl rfl rfl rfl (by decide) rfl rfl hl.1 rfl rfl (Nat.le_of_ble_eq_true rfl) ⟨Nat.zero_le _, Nat.zero_le _⟩ dX10_guestLine_46 ?_
      intro H locs hP hD hS
      refine lv_if_eq (tgt := 56) hx hb dX10_guestLine_49 (by decide) (fun c_11 => ?_) (fun c_11 => ?_)
      · have hF := it_p c_11 hF
        refine lv_aload_n hx hb dX10_guestLine_56 rfl (lv_at hl 1 rfl) ?_
        refine va_ldcS (own := RX10) (index := 227) (q := gK g 13) hx hb hown (hK.2.2 13 (by decide)) dX10_guestLine_57 ?_
        obtain ⟨u_12, hu_13, hF⟩ := ob1_some hF
        refine call_i (wr := [aI g (p_t 1) 800 f_t_1, aI g (p_t 16) 266 u_4]) (As := [.ref (gK g 13)]) (rest := []) (ci := 10) (q0 := 0) C0 (mX10_isWord l g a_t p_t n 13 u_2 u_3 u_12 (by decide) hu_13) (cwV 1 hts gX10_guestLine_X10_isWord rfl rfl rfl (by decide +kernel) ⟨Nat.le_of_ble_eq_true rfl, Nat.le_of_ble_eq_true rfl⟩) hP hD hS [2, 3] [0, 1] rfl rfl rfl rfl rfl (by decide) rfl rfl hl.1 rfl rfl (Nat.le_of_ble_eq_true rfl) ⟨Nat.zero_le _, Nat.zero_le _⟩ dX10_guestLine_59 ?_
        intro H locs hP hD hS
        refine lv_if_eq (tgt := 69) hx hb dX10_guestLine_62 (by decide) (fun c_14 => ?_) (fun c_14 => ?_)
        · have hF := it_p c_14 hF
          refine lv_aload_n hx hb dX10_guestLine_69 rfl (lv_at hl 1 rfl) ?_
          refine va_ldcS (own := RX10) (index := 229) (q := gK g 14) hx hb hown (hK.2.2 14 (by decide)) dX10_guestLine_70 ?_
          obtain ⟨u_15, hu_16, hF⟩ := ob1_some hF
          refine call_i (wr := [aI g (p_t 1) 800 f_t_1, aI g (p_t 16) 266 u_4]) (As := [.ref (gK g 14)]) (rest := []) (ci := 10) (q0 := 0) C0 (mX10_isWord l g a_t p_t n 14 u_2 u_3 u_15 (by decide) hu_16) (cwV 1 hts gX10_guestLine_X10_isWord rfl rfl rfl (by decide +kernel) ⟨Nat.le_of_ble_eq_true rfl, Nat.le_of_ble_eq_true rfl⟩) hP hD hS [2, 3] [0, 1] rfl rfl rfl rfl rfl (by decide) rfl rfl hl.1 rfl rfl (Nat.le_of_ble_eq_true rfl) ⟨Nat.zero_le _, Nat.zero_le _⟩ dX10_guestLine_72 ?_
          intro H locs hP hD hS
          refine lv_if_eq (tgt := 82) hx hb dX10_guestLine_75 (by decide) (fun c_17 => ?_) (fun c_17 => ?_)
          · have hF := it_p c_17 hF
            refine lv_iconst (v := (-1 : Int32)) hx hb dX10_guestLine_82 (by decide) ?_
            refine lv_istore_n (lv' := [(2, .int (-1 : Int32)), (1, .int ((9 : Int32) + ((4 : Int32) * (f_t_16 3)))), (0, .ref a_t)]) hx hb dX10_guestLine_83 rfl hl (by decide) rfl (fun ls hl => ?_)
            refine lv_iload_n hx hb dX10_guestLine_84 rfl (lv_at hl 0 rfl) ?_
            obtain ⟨J97, eJ97, hF⟩ := jn_some hF
            have hJ97 : ∀ (o_t_97 : Nat → Int32) (H : Heap) (locs : List Loc) (ls : Array Slot), J97 o_t_97 = some (o_t', f_t_12', f_t_16') → va_P g.1 vwCl [aI g (p_t 1) 800 f_t_1, aI g (p_t 16) 266 u_4, oX10 a_t p_t o_t_97, aI g (p_t 12) 8 u_3] H → va_D A [aI g (p_t 1) 800 f_t_1, aI g (p_t 16) 266 u_4, oX10 a_t p_t o_t_97, aI g (p_t 12) 8 u_3] → va_S A s.heap H locs → lv_has ls 3 [(0, .ref a_t), (1, .int ((9 : Int32) + ((4 : Int32) * (f_t_16 3)))), (2, .int (-1 : Int32))] → W p l e ({ frames := 8, cells := 0, slots := 0, locals := 178 } : Room) s m args below meth c H locs 0 0 (MQ below (EndV g [oX10 a_t p_t o_t', aI g (p_t 1) 800 f_t_1, aI g (p_t 12) 8 f_t_12', aI g (p_t 16) 266 f_t_16'] A) args s 0 0 A) (F0 m 97 ls []) := by
              intro o_t_97 H locs ls hF hP hD hS hl
              have hF := jj1 eJ97 hF
              refine lv_aload_n hx hb dX10_guestLine_97 rfl (lv_at hl 0 rfl) ?_
              refine va_get (D := g.1) (ci := 10) (v := .int (o_t_97 13)) (C := RX10) (T := TX10) (N := 35) hx hb hts iX10_guestLine_X10 hown hK.1 hP 2 rfl rfl 13 (by decide) (hts _ kX10_guestLine_91) (fun _ h9 => h9) rfl dX10_guestLine_98 ?_
              refine lv_if_eq (tgt := 105) hx hb dX10_guestLine_101 (by decide) (fun c_18 => ?_) (fun c_18 => ?_)
              · have hF := it_p c_18 hF
                refine lv_aload_n hx hb dX10_guestLine_105 rfl (lv_at hl 0 rfl) ?_
                obtain ⟨u_19, u_20, hu_21, hF⟩ := ob2_some hF
                refine call_v (wr := [aI g (p_t 16) 266 u_4]) (As := []) (rest := []) (ci := 10) (q0 := 0) C0 (mX10_next l g a_t p_t n o_t_97 f_t_1 u_3 u_19 u_20 hu_21) (cwV 0 hts gX10_guestLine_X10_next rfl rfl rfl (by decide +kernel) ⟨Nat.le_of_ble_eq_true rfl, Nat.le_of_ble_eq_true rfl⟩) hP hD hS [2, 0, 3] [1] rfl rfl rfl rfl rfl (by decide) rfl rfl hl.1 rfl rfl (Nat.le_of_ble_eq_true rfl) ⟨Nat.zero_le _, Nat.zero_le _⟩ dX10_guestLine_106 ?_
                intro H locs hP hD hS
                refine lv_aload_n hx hb dX10_guestLine_109 rfl (lv_at hl 0 rfl) ?_
                refine va_get (D := g.1) (ci := 10) (v := .ref (p_t 16)) (C := RX10) (T := TX10) (N := 35) hx hb hts iX10_guestLine_X10 hown hK.1 hP 1 rfl rfl 16 (by decide) (hts _ kX10_guestLine_23) (fun _ h9 => h9) rfl dX10_guestLine_110 ?_
                refine lv_iload_n hx hb dX10_guestLine_113 rfl (lv_at hl 1 rfl) ?_
                refine lv_iload_n hx hb dX10_guestLine_114 rfl (lv_at hl 2 rfl) ?_
                obtain ⟨h_22, hF⟩ := it_ck hF
                refine va_iast hx hb hK.1 hP hD hS 0 0 rfl rfl h_22 dX10_guestLine_115 (fun H locs hP hD hS => ?_)
                have hP : va_P g.1 vwCl [aI g (p_t 16) 266 (upd u_4 (((9 : Int32) + ((4 : Int32) * (f_t_16 3)))).toNatClampNeg (-1 : Int32)), oX10 a_t p_t u_19, aI g (p_t 1) 800 f_t_1, aI g (p_t 12) 8 u_20] H := hP
                have hD : va_D A [aI g (p_t 16) 266 (upd u_4 (((9 : Int32) + ((4 : Int32) * (f_t_16 3)))).toNatClampNeg (-1 : Int32)), oX10 a_t p_t u_19, aI g (p_t 1) 800 f_t_1, aI g (p_t 12) 8 u_20] := hD
                refine lv_aload_n hx hb dX10_guestLine_116 rfl (lv_at hl 0 rfl) ?_
                refine va_get (D := g.1) (ci := 10) (v := .ref (p_t 16)) (C := RX10) (T := TX10) (N := 35) hx hb hts iX10_guestLine_X10 hown hK.1 hP 1 rfl rfl 16 (by decide) (hts _ kX10_guestLine_23) (fun _ h9 => h9) rfl dX10_guestLine_117 ?_
                refine lv_iload_n hx hb dX10_guestLine_120 rfl (lv_at hl 1 rfl) ?_
                refine lv_iconst (v := (1 : Int32)) hx hb dX10_guestLine_121 (by decide) ?_
                refine lv_iadd hx hb dX10_guestLine_122 ?_
                refine lv_aload_n hx hb dX10_guestLine_123 rfl (lv_at hl 0 rfl) ?_
                refine va_ldcS (own := RX10) (index := 231) (q := gK g 15) hx hb hown (hK.2.2 15 (by decide)) dX10_guestLine_124 ?_
                refine lv_iconst (v := (1 : Int32)) hx hb dX10_guestLine_126 (by decide) ?_
                refine lv_bipush (v := (99 : Int32)) hx hb dX10_guestLine_127 (by decide) ?_
                obtain ⟨u_23, u_24, u_25, hu_26, hF⟩ := ob3_some hF
                refine call_i (wr := [aI g (p_t 16) 266 (upd u_4 (((9 : Int32) + ((4 : Int32) * (f_t_16 3)))).toNatClampNeg (-1 : Int32))]) (As := [.ref (gK g 15), .int (1 : Int32), .int (99 : Int32)]) (rest := [.int (((9 : Int32) + ((4 : Int32) * (f_t_16 3))) + (1 : Int32)), .ref (p_t 16)]) (ci := 10) (q0 := 0) C0 (mX10_after l g a_t p_t n 15 (1 : Int32) (99 : Int32) u_19 f_t_1 u_20 u_23 u_24 u_25 (by decide) hu_26) (cwV 3 hts gX10_guestLine_X10_after rfl rfl rfl (by decide +kernel) ⟨Nat.le_of_ble_eq_true rfl, Nat.le_of_ble_eq_true rfl⟩) hP hD hS [1, 2, 3] [0] rfl rfl rfl rfl rfl (by decide) rfl rfl hl.1 rfl rfl (Nat.le_of_ble_eq_true rfl) ⟨Nat.zero_le _, Nat.zero_le _⟩ dX10_guestLine_129 ?_
                intro H locs hP hD hS
                obtain ⟨h_27, hF⟩ := it_ck hF
                refine va_iast hx hb hK.1 hP hD hS 0 0 rfl rfl h_27 dX10_guestLine_132 (fun H locs hP hD hS => ?_)
                have hP : va_P g.1 vwCl [aI g (p_t 16) 266 (upd (upd u_4 (((9 : Int32) + ((4 : Int32) * (f_t_16 3)))).toNatClampNeg (-1 : Int32)) ((((9 : Int32) + ((4 : Int32) * (f_t_16 3))) + (1 : Int32))).toNatClampNeg u_23), oX10 a_t p_t u_24, aI g (p_t 1) 800 f_t_1, aI g (p_t 12) 8 u_25] H := hP
                have hD : va_D A [aI g (p_t 16) 266 (upd (upd u_4 (((9 : Int32) + ((4 : Int32) * (f_t_16 3)))).toNatClampNeg (-1 : Int32)) ((((9 : Int32) + ((4 : Int32) * (f_t_16 3))) + (1 : Int32))).toNatClampNeg u_23), oX10 a_t p_t u_24, aI g (p_t 1) 800 f_t_1, aI g (p_t 12) 8 u_25] := hD
                refine lv_aload_n hx hb dX10_guestLine_133 rfl (lv_at hl 0 rfl) ?_
                refine va_get (D := g.1) (ci := 10) (v := .ref (p_t 16)) (C := RX10) (T := TX10) (N := 35) hx hb hts iX10_guestLine_X10 hown hK.1 hP 1 rfl rfl 16 (by decide) (hts _ kX10_guestLine_23) (fun _ h9 => h9) rfl dX10_guestLine_134 ?_
                refine lv_iload_n hx hb dX10_guestLine_137 rfl (lv_at hl 1 rfl) ?_
                refine lv_iconst (v := (2 : Int32)) hx hb dX10_guestLine_138 (by decide) ?_
                refine lv_iadd hx hb dX10_guestLine_139 ?_
                refine lv_aload_n hx hb dX10_guestLine_140 rfl (lv_at hl 0 rfl) ?_
                refine va_ldcS (own := RX10) (index := 233) (q := gK g 16) hx hb hown (hK.2.2 16 (by decide)) dX10_guestLine_141 ?_
                refine lv_iconst (v := (0 : Int32)) hx hb dX10_guestLine_143 (by decide) ?_
                refine lv_bipush (v := (20 : Int32)) hx hb dX10_guestLine_144 (by decide) ?_
                obtain ⟨u_28, u_29, u_30, hu_31, hF⟩ := ob3_some hF
                refine call_i (wr := [aI g (p_t 16) 266 (upd (upd u_4 (((9 : Int32) + ((4 : Int32) * (f_t_16 3)))).toNatClampNeg (-1 : Int32)) ((((9 : Int32) + ((4 : Int32) * (f_t_16 3))) + (1 : Int32))).toNatClampNeg u_23)]) (As := [.ref (gK g 16), .int (0 : Int32), .int (20 : Int32)]) (rest := [.int (((9 : Int32) + ((4 : Int32) * (f_t_16 3))) + (2 : Int32)), .ref (p_t 16)]) (ci := 10) (q0 := 0) C0 (mX10_after l g a_t p_t n 16 (0 : Int32) (20 : Int32) u_24 f_t_1 u_25 u_28 u_29 u_30 (by decide) hu_31) (cwV 3 hts gX10_guestLine_X10_after rfl rfl rfl (by decide +kernel) ⟨Nat.le_of_ble_eq_true rfl, Nat.le_of_ble_eq_true rfl⟩) hP hD hS [1, 2, 3] [0] rfl rfl rfl rfl rfl (by decide) rfl rfl hl.1 rfl rfl (Nat.le_of_ble_eq_true rfl) ⟨Nat.zero_le _, Nat.zero_le _⟩ dX10_guestLine_146 ?_
                intro H locs hP hD hS
                obtain ⟨h_32, hF⟩ := it_ck hF
                refine va_iast hx hb hK.1 hP hD hS 0 0 rfl rfl h_32 dX10_guestLine_149 (fun H locs hP hD hS => ?_)
                have hP : va_P g.1 vwCl [aI g (p_t 16) 266 (upd (upd (upd u_4 (((9 : Int32) + ((4 : Int32) * (f_t_16 3)))).toNatClampNeg (-1 : Int32)) ((((9 : Int32) + ((4 : Int32) * (f_t_16 3))) + (1 : Int32))).toNatClampNeg u_23) ((((9 : Int32) + ((4 : Int32) * (f_t_16 3))) + (2 : Int32))).toNatClampNeg u_28), oX10 a_t p_t u_29, aI g (p_t 1) 800 f_t_1, aI g (p_t 12) 8 u_30] H := hP
                have hD : va_D A [aI g (p_t 16) 266 (upd (upd (upd u_4 (((9 : Int32) + ((4 : Int32) * (f_t_16 3)))).toNatClampNeg (-1 : Int32)) ((((9 : Int32) + ((4 : Int32) * (f_t_16 3))) + (1 : Int32))).toNatClampNeg u_23) ((((9 : Int32) + ((4 : Int32) * (f_t_16 3))) + (2 : Int32))).toNatClampNeg u_28), oX10 a_t p_t u_29, aI g (p_t 1) 800 f_t_1, aI g (p_t 12) 8 u_30] := hD
                refine lv_aload_n hx hb dX10_guestLine_150 rfl (lv_at hl 0 rfl) ?_
                refine va_get (D := g.1) (ci := 10) (v := .int (u_29 13)) (C := RX10) (T := TX10) (N := 35) hx hb hts iX10_guestLine_X10 hown hK.1 hP 1 rfl rfl 13 (by decide) (hts _ kX10_guestLine_91) (fun _ h9 => h9) rfl dX10_guestLine_151 ?_
                refine lv_if_ne (tgt := 167) hx hb dX10_guestLine_154 (by decide) (fun c_33 => ?_) (fun c_33 => ?_)
                · have hF := it_n c_33 hF
                  cases hF
                  exact ret_v C0 hP hD hS [1, 2, 3, 0] rfl rfl rfl dX10_guestLine_167
                · have hF := it_p c_33 hF
                  refine lv_aload_n hx hb dX10_guestLine_157 rfl (lv_at hl 0 rfl) ?_
                  refine va_get (D := g.1) (ci := 10) (v := .ref (p_t 16)) (C := RX10) (T := TX10) (N := 35) hx hb hts iX10_guestLine_X10 hown hK.1 hP 1 rfl rfl 16 (by decide) (hts _ kX10_guestLine_23) (fun _ h9 => h9) rfl dX10_guestLine_158 ?_
                  refine lv_iconst (v := (3 : Int32)) hx hb dX10_guestLine_161 (by decide) ?_
                  refine lv_dup2_11 hx hb dX10_guestLine_162 rfl rfl ?_
                  refine va_iald_k (j := 3) hx hb hK.1 hP 0 0 rfl rfl (by unfold vp_in; decide) rfl dX10_guestLine_163 ?_
                  refine lv_iconst (v := (1 : Int32)) hx hb dX10_guestLine_164 (by decide) ?_
                  refine lv_iadd hx hb dX10_guestLine_165 ?_
                  refine va_iast hx hb hK.1 hP hD hS 0 0 rfl rfl (by unfold vp_in; decide) dX10_guestLine_166 (fun H locs hP hD hS => ?_)
                  have hP : va_P g.1 vwCl [aI g (p_t 16) 266 (upd (upd (upd (upd u_4 (((9 : Int32) + ((4 : Int32) * (f_t_16 3)))).toNatClampNeg (-1 : Int32)) ((((9 : Int32) + ((4 : Int32) * (f_t_16 3))) + (1 : Int32))).toNatClampNeg u_23) ((((9 : Int32) + ((4 : Int32) * (f_t_16 3))) + (2 : Int32))).toNatClampNeg u_28) 3 (((upd (upd (upd u_4 (((9 : Int32) + ((4 : Int32) * (f_t_16 3)))).toNatClampNeg (-1 : Int32)) ((((9 : Int32) + ((4 : Int32) * (f_t_16 3))) + (1 : Int32))).toNatClampNeg u_23) ((((9 : Int32) + ((4 : Int32) * (f_t_16 3))) + (2 : Int32))).toNatClampNeg u_28) 3) + (1 : Int32))), oX10 a_t p_t u_29, aI g (p_t 1) 800 f_t_1, aI g (p_t 12) 8 u_30] H := hP
                  have hD : va_D A [aI g (p_t 16) 266 (upd (upd (upd (upd u_4 (((9 : Int32) + ((4 : Int32) * (f_t_16 3)))).toNatClampNeg (-1 : Int32)) ((((9 : Int32) + ((4 : Int32) * (f_t_16 3))) + (1 : Int32))).toNatClampNeg u_23) ((((9 : Int32) + ((4 : Int32) * (f_t_16 3))) + (2 : Int32))).toNatClampNeg u_28) 3 (((upd (upd (upd u_4 (((9 : Int32) + ((4 : Int32) * (f_t_16 3)))).toNatClampNeg (-1 : Int32)) ((((9 : Int32) + ((4 : Int32) * (f_t_16 3))) + (1 : Int32))).toNatClampNeg u_23) ((((9 : Int32) + ((4 : Int32) * (f_t_16 3))) + (2 : Int32))).toNatClampNeg u_28) 3) + (1 : Int32))), oX10 a_t p_t u_29, aI g (p_t 1) 800 f_t_1, aI g (p_t 12) 8 u_30] := hD
                  cases hF
                  exact ret_v C0 hP hD hS [1, 2, 3, 0] rfl rfl rfl dX10_guestLine_167
              · have hF := it_n c_18 hF
                cases hF
                exact ret_v C0 hP hD hS [2, 0, 3, 1] rfl rfl rfl dX10_guestLine_104
            refine lv_if_ge (tgt := 97) hx hb dX10_guestLine_85 (by decide) (fun c_34 => ?_) (fun c_34 => ?_)
            · exact absurd c_34 (by decide)
            · skip
              refine lv_aload_n hx hb dX10_guestLine_88 rfl (lv_at hl 2 rfl) ?_
              refine lv_iconst (v := (1 : Int32)) hx hb dX10_guestLine_89 (by decide) ?_
              refine lv_aload_n hx hb dX10_guestLine_90 rfl (lv_at hl 2 rfl) ?_
              refine va_get (D := g.1) (ci := 10) (v := .int (u_2 4)) (C := RX10) (T := TX10) (N := 35) hx hb hts iX10_guestLine_X10 hown hK.1 hP 2 rfl rfl 4 (by decide) (hts _ kX10_guestLine_72) (fun _ h9 => h9) rfl dX10_guestLine_91 ?_
              obtain ⟨u_35, hu_36, hF⟩ := ob1_some hF
              refine call_v (wr := [aI g (p_t 1) 800 f_t_1, aI g (p_t 16) 266 u_4, aI g (p_t 12) 8 u_3]) (As := [.int (1 : Int32), .int (u_2 4)]) (rest := []) (ci := 10) (q0 := 0) C0 (mX10_wrong l g a_t p_t n (1 : Int32) (u_2 4) u_2 u_35 hu_36) (cwV 2 hts gX10_guestLine_X10_wrong rfl rfl rfl (by decide +kernel) ⟨Nat.le_of_ble_eq_true rfl, Nat.le_of_ble_eq_true rfl⟩) hP hD hS [2] [0, 1, 3] rfl rfl rfl rfl rfl (by decide) rfl rfl hl.1 rfl rfl (Nat.le_of_ble_eq_true rfl) ⟨Nat.zero_le _, Nat.zero_le _⟩ dX10_guestLine_94 ?_
              intro H locs hP hD hS
              exact hJ97 u_35 _ _ _ hF (hP.sub [0, 1, 3, 2] rfl) (hD.sub [0, 1, 3, 2] rfl rfl) hS (lv_sub hl [2, 1, 0] rfl)
          · have hF := it_n c_17 hF
            refine lv_iconst (v := (3 : Int32)) hx hb dX10_guestLine_78 (by decide) ?_
            refine lv_goto (tgt := 83) hx hb dX10_guestLine_79 (by decide) ?_
            refine lv_istore_n (lv' := [(2, .int (3 : Int32)), (1, .int ((9 : Int32) + ((4 : Int32) * (f_t_16 3)))), (0, .ref a_t)]) hx hb dX10_guestLine_83 rfl hl (by decide) rfl (fun ls hl => ?_)
            refine lv_iload_n hx hb dX10_guestLine_84 rfl (lv_at hl 0 rfl) ?_
            obtain ⟨J97, eJ97, hF⟩ := jn_some hF
            have hJ97 : ∀ (o_t_97 : Nat → Int32) (H : Heap) (locs : List Loc) (ls : Array Slot), J97 o_t_97 = some (o_t', f_t_12', f_t_16') → va_P g.1 vwCl [aI g (p_t 1) 800 f_t_1, aI g (p_t 16) 266 u_4, oX10 a_t p_t o_t_97, aI g (p_t 12) 8 u_3] H → va_D A [aI g (p_t 1) 800 f_t_1, aI g (p_t 16) 266 u_4, oX10 a_t p_t o_t_97, aI g (p_t 12) 8 u_3] → va_S A s.heap H locs → lv_has ls 3 [(0, .ref a_t), (1, .int ((9 : Int32) + ((4 : Int32) * (f_t_16 3)))), (2, .int (3 : Int32))] → W p l e ({ frames := 8, cells := 0, slots := 0, locals := 178 } : Room) s m args below meth c H locs 0 0 (MQ below (EndV g [oX10 a_t p_t o_t', aI g (p_t 1) 800 f_t_1, aI g (p_t 12) 8 f_t_12', aI g (p_t 16) 266 f_t_16'] A) args s 0 0 A) (F0 m 97 ls []) := by
              intro o_t_97 H locs ls hF hP hD hS hl
              have hF := jj1 eJ97 hF
              refine lv_aload_n hx hb dX10_guestLine_97 rfl (lv_at hl 0 rfl) ?_
              refine va_get (D := g.1) (ci := 10) (v := .int (o_t_97 13)) (C := RX10) (T := TX10) (N := 35) hx hb hts iX10_guestLine_X10 hown hK.1 hP 2 rfl rfl 13 (by decide) (hts _ kX10_guestLine_91) (fun _ h9 => h9) rfl dX10_guestLine_98 ?_
              refine lv_if_eq (tgt := 105) hx hb dX10_guestLine_101 (by decide) (fun c_37 => ?_) (fun c_37 => ?_)
              · have hF := it_p c_37 hF
                refine lv_aload_n hx hb dX10_guestLine_105 rfl (lv_at hl 0 rfl) ?_
                obtain ⟨u_38, u_39, hu_40, hF⟩ := ob2_some hF
                refine call_v (wr := [aI g (p_t 16) 266 u_4]) (As := []) (rest := []) (ci := 10) (q0 := 0) C0 (mX10_next l g a_t p_t n o_t_97 f_t_1 u_3 u_38 u_39 hu_40) (cwV 0 hts gX10_guestLine_X10_next rfl rfl rfl (by decide +kernel) ⟨Nat.le_of_ble_eq_true rfl, Nat.le_of_ble_eq_true rfl⟩) hP hD hS [2, 0, 3] [1] rfl rfl rfl rfl rfl (by decide) rfl rfl hl.1 rfl rfl (Nat.le_of_ble_eq_true rfl) ⟨Nat.zero_le _, Nat.zero_le _⟩ dX10_guestLine_106 ?_
                intro H locs hP hD hS
                refine lv_aload_n hx hb dX10_guestLine_109 rfl (lv_at hl 0 rfl) ?_
                refine va_get (D := g.1) (ci := 10) (v := .ref (p_t 16)) (C := RX10) (T := TX10) (N := 35) hx hb hts iX10_guestLine_X10 hown hK.1 hP 1 rfl rfl 16 (by decide) (hts _ kX10_guestLine_23) (fun _ h9 => h9) rfl dX10_guestLine_110 ?_
                refine lv_iload_n hx hb dX10_guestLine_113 rfl (lv_at hl 1 rfl) ?_
                refine lv_iload_n hx hb dX10_guestLine_114 rfl (lv_at hl 2 rfl) ?_
                obtain ⟨h_41, hF⟩ := it_ck hF
                refine va_iast hx hb hK.1 hP hD hS 0 0 rfl rfl h_41 dX10_guestLine_115 (fun H locs hP hD hS => ?_)
                have hP : va_P g.1 vwCl [aI g (p_t 16) 266 (upd u_4 (((9 : Int32) + ((4 : Int32) * (f_t_16 3)))).toNatClampNeg (3 : Int32)), oX10 a_t p_t u_38, aI g (p_t 1) 800 f_t_1, aI g (p_t 12) 8 u_39] H := hP
                have hD : va_D A [aI g (p_t 16) 266 (upd u_4 (((9 : Int32) + ((4 : Int32) * (f_t_16 3)))).toNatClampNeg (3 : Int32)), oX10 a_t p_t u_38, aI g (p_t 1) 800 f_t_1, aI g (p_t 12) 8 u_39] := hD
                refine lv_aload_n hx hb dX10_guestLine_116 rfl (lv_at hl 0 rfl) ?_
                refine va_get (D := g.1) (ci := 10) (v := .ref (p_t 16)) (C := RX10) (T := TX10) (N := 35) hx hb hts iX10_guestLine_X10 hown hK.1 hP 1 rfl rfl 16 (by decide) (hts _ kX10_guestLine_23) (fun _ h9 => h9) rfl dX10_guestLine_117 ?_
                refine lv_iload_n hx hb dX10_guestLine_120 rfl (lv_at hl 1 rfl) ?_
                refine lv_iconst (v := (1 : Int32)) hx hb dX10_guestLine_121 (by decide) ?_
                refine lv_iadd hx hb dX10_guestLine_122 ?_
                refine lv_aload_n hx hb dX10_guestLine_123 rfl (lv_at hl 0 rfl) ?_
                refine va_ldcS (own := RX10) (index := 231) (q := gK g 15) hx hb hown (hK.2.2 15 (by decide)) dX10_guestLine_124 ?_
                refine lv_iconst (v := (1 : Int32)) hx hb dX10_guestLine_126 (by decide) ?_
                refine lv_bipush (v := (99 : Int32)) hx hb dX10_guestLine_127 (by decide) ?_
                obtain ⟨u_42, u_43, u_44, hu_45, hF⟩ := ob3_some hF
                refine call_i (wr := [aI g (p_t 16) 266 (upd u_4 (((9 : Int32) + ((4 : Int32) * (f_t_16 3)))).toNatClampNeg (3 : Int32))]) (As := [.ref (gK g 15), .int (1 : Int32), .int (99 : Int32)]) (rest := [.int (((9 : Int32) + ((4 : Int32) * (f_t_16 3))) + (1 : Int32)), .ref (p_t 16)]) (ci := 10) (q0 := 0) C0 (mX10_after l g a_t p_t n 15 (1 : Int32) (99 : Int32) u_38 f_t_1 u_39 u_42 u_43 u_44 (by decide) hu_45) (cwV 3 hts gX10_guestLine_X10_after rfl rfl rfl (by decide +kernel) ⟨Nat.le_of_ble_eq_true rfl, Nat.le_of_ble_eq_true rfl⟩) hP hD hS [1, 2, 3] [0] rfl rfl rfl rfl rfl (by decide) rfl rfl hl.1 rfl rfl (Nat.le_of_ble_eq_true rfl) ⟨Nat.zero_le _, Nat.zero_le _⟩ dX10_guestLine_129 ?_
                intro H locs hP hD hS
                obtain ⟨h_46, hF⟩ := it_ck hF
                refine va_iast hx hb hK.1 hP hD hS 0 0 rfl rfl h_46 dX10_guestLine_132 (fun H locs hP hD hS => ?_)
                have hP : va_P g.1 vwCl [aI g (p_t 16) 266 (upd (upd u_4 (((9 : Int32) + ((4 : Int32) * (f_t_16 3)))).toNatClampNeg (3 : Int32)) ((((9 : Int32) + ((4 : Int32) * (f_t_16 3))) + (1 : Int32))).toNatClampNeg u_42), oX10 a_t p_t u_43, aI g (p_t 1) 800 f_t_1, aI g (p_t 12) 8 u_44] H := hP
                have hD : va_D A [aI g (p_t 16) 266 (upd (upd u_4 (((9 : Int32) + ((4 : Int32) * (f_t_16 3)))).toNatClampNeg (3 : Int32)) ((((9 : Int32) + ((4 : Int32) * (f_t_16 3))) + (1 : Int32))).toNatClampNeg u_42), oX10 a_t p_t u_43, aI g (p_t 1) 800 f_t_1, aI g (p_t 12) 8 u_44] := hD
                refine lv_aload_n hx hb dX10_guestLine_133 rfl (lv_at hl 0 rfl) ?_
                refine va_get (D := g.1) (ci := 10) (v := .ref (p_t 16)) (C := RX10) (T := TX10) (N := 35) hx hb hts iX10_guestLine_X10 hown hK.1 hP 1 rfl rfl 16 (by decide) (hts _ kX10_guestLine_23) (fun _ h9 => h9) rfl dX10_guestLine_134 ?_
                refine lv_iload_n hx hb dX10_guestLine_137 rfl (lv_at hl 1 rfl) ?_
                refine lv_iconst (v := (2 : Int32)) hx hb dX10_guestLine_138 (by decide) ?_
                refine lv_iadd hx hb dX10_guestLine_139 ?_
                refine lv_aload_n hx hb dX10_guestLine_140 rfl (lv_at hl 0 rfl) ?_
                refine va_ldcS (own := RX10) (index := 233) (q := gK g 16) hx hb hown (hK.2.2 16 (by decide)) dX10_guestLine_141 ?_
                refine lv_iconst (v := (0 : Int32)) hx hb dX10_guestLine_143 (by decide) ?_
                refine lv_bipush (v := (20 : Int32)) hx hb dX10_guestLine_144 (by decide) ?_
                obtain ⟨u_47, u_48, u_49, hu_50, hF⟩ := ob3_some hF
                refine call_i (wr := [aI g (p_t 16) 266 (upd (upd u_4 (((9 : Int32) + ((4 : Int32) * (f_t_16 3)))).toNatClampNeg (3 : Int32)) ((((9 : Int32) + ((4 : Int32) * (f_t_16 3))) + (1 : Int32))).toNatClampNeg u_42)]) (As := [.ref (gK g 16), .int (0 : Int32), .int (20 : Int32)]) (rest := [.int (((9 : Int32) + ((4 : Int32) * (f_t_16 3))) + (2 : Int32)), .ref (p_t 16)]) (ci := 10) (q0 := 0) C0 (mX10_after l g a_t p_t n 16 (0 : Int32) (20 : Int32) u_43 f_t_1 u_44 u_47 u_48 u_49 (by decide) hu_50) (cwV 3 hts gX10_guestLine_X10_after rfl rfl rfl (by decide +kernel) ⟨Nat.le_of_ble_eq_true rfl, Nat.le_of_ble_eq_true rfl⟩) hP hD hS [1, 2, 3] [0] rfl rfl rfl rfl rfl (by decide) rfl rfl hl.1 rfl rfl (Nat.le_of_ble_eq_true rfl) ⟨Nat.zero_le _, Nat.zero_le _⟩ dX10_guestLine_146 ?_
                intro H locs hP hD hS
                obtain ⟨h_51, hF⟩ := it_ck hF
                refine va_iast hx hb hK.1 hP hD hS 0 0 rfl rfl h_51 dX10_guestLine_149 (fun H locs hP hD hS => ?_)
                have hP : va_P g.1 vwCl [aI g (p_t 16) 266 (upd (upd (upd u_4 (((9 : Int32) + ((4 : Int32) * (f_t_16 3)))).toNatClampNeg (3 : Int32)) ((((9 : Int32) + ((4 : Int32) * (f_t_16 3))) + (1 : Int32))).toNatClampNeg u_42) ((((9 : Int32) + ((4 : Int32) * (f_t_16 3))) + (2 : Int32))).toNatClampNeg u_47), oX10 a_t p_t u_48, aI g (p_t 1) 800 f_t_1, aI g (p_t 12) 8 u_49] H := hP
                have hD : va_D A [aI g (p_t 16) 266 (upd (upd (upd u_4 (((9 : Int32) + ((4 : Int32) * (f_t_16 3)))).toNatClampNeg (3 : Int32)) ((((9 : Int32) + ((4 : Int32) * (f_t_16 3))) + (1 : Int32))).toNatClampNeg u_42) ((((9 : Int32) + ((4 : Int32) * (f_t_16 3))) + (2 : Int32))).toNatClampNeg u_47), oX10 a_t p_t u_48, aI g (p_t 1) 800 f_t_1, aI g (p_t 12) 8 u_49] := hD
                refine lv_aload_n hx hb dX10_guestLine_150 rfl (lv_at hl 0 rfl) ?_
                refine va_get (D := g.1) (ci := 10) (v := .int (u_48 13)) (C := RX10) (T := TX10) (N := 35) hx hb hts iX10_guestLine_X10 hown hK.1 hP 1 rfl rfl 13 (by decide) (hts _ kX10_guestLine_91) (fun _ h9 => h9) rfl dX10_guestLine_151 ?_
                refine lv_if_ne (tgt := 167) hx hb dX10_guestLine_154 (by decide) (fun c_52 => ?_) (fun c_52 => ?_)
                · have hF := it_n c_52 hF
                  cases hF
                  exact ret_v C0 hP hD hS [1, 2, 3, 0] rfl rfl rfl dX10_guestLine_167
                · have hF := it_p c_52 hF
                  refine lv_aload_n hx hb dX10_guestLine_157 rfl (lv_at hl 0 rfl) ?_
                  refine va_get (D := g.1) (ci := 10) (v := .ref (p_t 16)) (C := RX10) (T := TX10) (N := 35) hx hb hts iX10_guestLine_X10 hown hK.1 hP 1 rfl rfl 16 (by decide) (hts _ kX10_guestLine_23) (fun _ h9 => h9) rfl dX10_guestLine_158 ?_
                  refine lv_iconst (v := (3 : Int32)) hx hb dX10_guestLine_161 (by decide) ?_
                  refine lv_dup2_11 hx hb dX10_guestLine_162 rfl rfl ?_
                  refine va_iald_k (j := 3) hx hb hK.1 hP 0 0 rfl rfl (by unfold vp_in; decide) rfl dX10_guestLine_163 ?_
                  refine lv_iconst (v := (1 : Int32)) hx hb dX10_guestLine_164 (by decide) ?_
                  refine lv_iadd hx hb dX10_guestLine_165 ?_
                  refine va_iast hx hb hK.1 hP hD hS 0 0 rfl rfl (by unfold vp_in; decide) dX10_guestLine_166 (fun H locs hP hD hS => ?_)
                  have hP : va_P g.1 vwCl [aI g (p_t 16) 266 (upd (upd (upd (upd u_4 (((9 : Int32) + ((4 : Int32) * (f_t_16 3)))).toNatClampNeg (3 : Int32)) ((((9 : Int32) + ((4 : Int32) * (f_t_16 3))) + (1 : Int32))).toNatClampNeg u_42) ((((9 : Int32) + ((4 : Int32) * (f_t_16 3))) + (2 : Int32))).toNatClampNeg u_47) 3 (((upd (upd (upd u_4 (((9 : Int32) + ((4 : Int32) * (f_t_16 3)))).toNatClampNeg (3 : Int32)) ((((9 : Int32) + ((4 : Int32) * (f_t_16 3))) + (1 : Int32))).toNatClampNeg u_42) ((((9 : Int32) + ((4 : Int32) * (f_t_16 3))) + (2 : Int32))).toNatClampNeg u_47) 3) + (1 : Int32))), oX10 a_t p_t u_48, aI g (p_t 1) 800 f_t_1, aI g (p_t 12) 8 u_49] H := hP
                  have hD : va_D A [aI g (p_t 16) 266 (upd (upd (upd (upd u_4 (((9 : Int32) + ((4 : Int32) * (f_t_16 3)))).toNatClampNeg (3 : Int32)) ((((9 : Int32) + ((4 : Int32) * (f_t_16 3))) + (1 : Int32))).toNatClampNeg u_42) ((((9 : Int32) + ((4 : Int32) * (f_t_16 3))) + (2 : Int32))).toNatClampNeg u_47) 3 (((upd (upd (upd u_4 (((9 : Int32) + ((4 : Int32) * (f_t_16 3)))).toNatClampNeg (3 : Int32)) ((((9 : Int32) + ((4 : Int32) * (f_t_16 3))) + (1 : Int32))).toNatClampNeg u_42) ((((9 : Int32) + ((4 : Int32) * (f_t_16 3))) + (2 : Int32))).toNatClampNeg u_47) 3) + (1 : Int32))), oX10 a_t p_t u_48, aI g (p_t 1) 800 f_t_1, aI g (p_t 12) 8 u_49] := hD
                  cases hF
                  exact ret_v C0 hP hD hS [1, 2, 3, 0] rfl rfl rfl dX10_guestLine_167
              · have hF := it_n c_37 hF
                cases hF
                exact ret_v C0 hP hD hS [2, 0, 3, 1] rfl rfl rfl dX10_guestLine_104
            refine lv_if_ge (tgt := 97) hx hb dX10_guestLine_85 (by decide) (fun c_53 => ?_) (fun c_53 => ?_)
            · skip
              exact hJ97 u_2 _ _ _ hF (hP.sub [0, 1, 2, 3] rfl) (hD.sub [0, 1, 2, 3] rfl rfl) hS (lv_sub hl [2, 1, 0] rfl)
            · exact absurd c_53 (by decide)
        · have hF := it_n c_14 hF
          refine lv_iconst (v := (2 : Int32)) hx hb dX10_guestLine_65 (by decide) ?_
          refine lv_goto (tgt := 83) hx hb dX10_guestLine_66 (by decide) ?_
          refine lv_istore_n (lv' := [(2, .int (2 : Int32)), (1, .int ((9 : Int32) + ((4 : Int32) * (f_t_16 3)))), (0, .ref a_t)]) hx hb dX10_guestLine_83 rfl hl (by decide) rfl (fun ls hl => ?_)
          refine lv_iload_n hx hb dX10_guestLine_84 rfl (lv_at hl 0 rfl) ?_
          obtain ⟨J97, eJ97, hF⟩ := jn_some hF
          have hJ97 : ∀ (o_t_97 : Nat → Int32) (H : Heap) (locs : List Loc) (ls : Array Slot), J97 o_t_97 = some (o_t', f_t_12', f_t_16') → va_P g.1 vwCl [aI g (p_t 1) 800 f_t_1, aI g (p_t 16) 266 u_4, oX10 a_t p_t o_t_97, aI g (p_t 12) 8 u_3] H → va_D A [aI g (p_t 1) 800 f_t_1, aI g (p_t 16) 266 u_4, oX10 a_t p_t o_t_97, aI g (p_t 12) 8 u_3] → va_S A s.heap H locs → lv_has ls 3 [(0, .ref a_t), (1, .int ((9 : Int32) + ((4 : Int32) * (f_t_16 3)))), (2, .int (2 : Int32))] → W p l e ({ frames := 8, cells := 0, slots := 0, locals := 178 } : Room) s m args below meth c H locs 0 0 (MQ below (EndV g [oX10 a_t p_t o_t', aI g (p_t 1) 800 f_t_1, aI g (p_t 12) 8 f_t_12', aI g (p_t 16) 266 f_t_16'] A) args s 0 0 A) (F0 m 97 ls []) := by
            intro o_t_97 H locs ls hF hP hD hS hl
            have hF := jj1 eJ97 hF
            refine lv_aload_n hx hb dX10_guestLine_97 rfl (lv_at hl 0 rfl) ?_
            refine va_get (D := g.1) (ci := 10) (v := .int (o_t_97 13)) (C := RX10) (T := TX10) (N := 35) hx hb hts iX10_guestLine_X10 hown hK.1 hP 2 rfl rfl 13 (by decide) (hts _ kX10_guestLine_91) (fun _ h9 => h9) rfl dX10_guestLine_98 ?_
            refine lv_if_eq (tgt := 105) hx hb dX10_guestLine_101 (by decide) (fun c_54 => ?_) (fun c_54 => ?_)
            · have hF := it_p c_54 hF
              refine lv_aload_n hx hb dX10_guestLine_105 rfl (lv_at hl 0 rfl) ?_
              obtain ⟨u_55, u_56, hu_57, hF⟩ := ob2_some hF
              refine call_v (wr := [aI g (p_t 16) 266 u_4]) (As := []) (rest := []) (ci := 10) (q0 := 0) C0 (mX10_next l g a_t p_t n o_t_97 f_t_1 u_3 u_55 u_56 hu_57) (cwV 0 hts gX10_guestLine_X10_next rfl rfl rfl (by decide +kernel) ⟨Nat.le_of_ble_eq_true rfl, Nat.le_of_ble_eq_true rfl⟩) hP hD hS [2, 0, 3] [1] rfl rfl rfl rfl rfl (by decide) rfl rfl hl.1 rfl rfl (Nat.le_of_ble_eq_true rfl) ⟨Nat.zero_le _, Nat.zero_le _⟩ dX10_guestLine_106 ?_
              intro H locs hP hD hS
              refine lv_aload_n hx hb dX10_guestLine_109 rfl (lv_at hl 0 rfl) ?_
              refine va_get (D := g.1) (ci := 10) (v := .ref (p_t 16)) (C := RX10) (T := TX10) (N := 35) hx hb hts iX10_guestLine_X10 hown hK.1 hP 1 rfl rfl 16 (by decide) (hts _ kX10_guestLine_23) (fun _ h9 => h9) rfl dX10_guestLine_110 ?_
              refine lv_iload_n hx hb dX10_guestLine_113 rfl (lv_at hl 1 rfl) ?_
              refine lv_iload_n hx hb dX10_guestLine_114 rfl (lv_at hl 2 rfl) ?_
              obtain ⟨h_58, hF⟩ := it_ck hF
              refine va_iast hx hb hK.1 hP hD hS 0 0 rfl rfl h_58 dX10_guestLine_115 (fun H locs hP hD hS => ?_)
              have hP : va_P g.1 vwCl [aI g (p_t 16) 266 (upd u_4 (((9 : Int32) + ((4 : Int32) * (f_t_16 3)))).toNatClampNeg (2 : Int32)), oX10 a_t p_t u_55, aI g (p_t 1) 800 f_t_1, aI g (p_t 12) 8 u_56] H := hP
              have hD : va_D A [aI g (p_t 16) 266 (upd u_4 (((9 : Int32) + ((4 : Int32) * (f_t_16 3)))).toNatClampNeg (2 : Int32)), oX10 a_t p_t u_55, aI g (p_t 1) 800 f_t_1, aI g (p_t 12) 8 u_56] := hD
              refine lv_aload_n hx hb dX10_guestLine_116 rfl (lv_at hl 0 rfl) ?_
              refine va_get (D := g.1) (ci := 10) (v := .ref (p_t 16)) (C := RX10) (T := TX10) (N := 35) hx hb hts iX10_guestLine_X10 hown hK.1 hP 1 rfl rfl 16 (by decide) (hts _ kX10_guestLine_23) (fun _ h9 => h9) rfl dX10_guestLine_117 ?_
              refine lv_iload_n hx hb dX10_guestLine_120 rfl (lv_at hl 1 rfl) ?_
              refine lv_iconst (v := (1 : Int32)) hx hb dX10_guestLine_121 (by decide) ?_
              refine lv_iadd hx hb dX10_guestLine_122 ?_
              refine lv_aload_n hx hb dX10_guestLine_123 rfl (lv_at hl 0 rfl) ?_
              refine va_ldcS (own := RX10) (index := 231) (q := gK g 15) hx hb hown (hK.2.2 15 (by decide)) dX10_guestLine_124 ?_
              refine lv_iconst (v := (1 : Int32)) hx hb dX10_guestLine_126 (by decide) ?_
              refine lv_bipush (v := (99 : Int32)) hx hb dX10_guestLine_127 (by decide) ?_
              obtain ⟨u_59, u_60, u_61, hu_62, hF⟩ := ob3_some hF
              refine call_i (wr := [aI g (p_t 16) 266 (upd u_4 (((9 : Int32) + ((4 : Int32) * (f_t_16 3)))).toNatClampNeg (2 : Int32))]) (As := [.ref (gK g 15), .int (1 : Int32), .int (99 : Int32)]) (rest := [.int (((9 : Int32) + ((4 : Int32) * (f_t_16 3))) + (1 : Int32)), .ref (p_t 16)]) (ci := 10) (q0 := 0) C0 (mX10_after l g a_t p_t n 15 (1 : Int32) (99 : Int32) u_55 f_t_1 u_56 u_59 u_60 u_61 (by decide) hu_62) (cwV 3 hts gX10_guestLine_X10_after rfl rfl rfl (by decide +kernel) ⟨Nat.le_of_ble_eq_true rfl, Nat.le_of_ble_eq_true rfl⟩) hP hD hS [1, 2, 3] [0] rfl rfl rfl rfl rfl (by decide) rfl rfl hl.1 rfl rfl (Nat.le_of_ble_eq_true rfl) ⟨Nat.zero_le _, Nat.zero_le _⟩ dX10_guestLine_129 ?_
              intro H locs hP hD hS
              obtain ⟨h_63, hF⟩ := it_ck hF
              refine va_iast hx hb hK.1 hP hD hS 0 0 rfl rfl h_63 dX10_guestLine_132 (fun H locs hP hD hS => ?_)
              have hP : va_P g.1 vwCl [aI g (p_t 16) 266 (upd (upd u_4 (((9 : Int32) + ((4 : Int32) * (f_t_16 3)))).toNatClampNeg (2 : Int32)) ((((9 : Int32) + ((4 : Int32) * (f_t_16 3))) + (1 : Int32))).toNatClampNeg u_59), oX10 a_t p_t u_60, aI g (p_t 1) 800 f_t_1, aI g (p_t 12) 8 u_61] H := hP
              have hD : va_D A [aI g (p_t 16) 266 (upd (upd u_4 (((9 : Int32) + ((4 : Int32) * (f_t_16 3)))).toNatClampNeg (2 : Int32)) ((((9 : Int32) + ((4 : Int32) * (f_t_16 3))) + (1 : Int32))).toNatClampNeg u_59), oX10 a_t p_t u_60, aI g (p_t 1) 800 f_t_1, aI g (p_t 12) 8 u_61] := hD
              refine lv_aload_n hx hb dX10_guestLine_133 rfl (lv_at hl 0 rfl) ?_
              refine va_get (D := g.1) (ci := 10) (v := .ref (p_t 16)) (C := RX10) (T := TX10) (N := 35) hx hb hts iX10_guestLine_X10 hown hK.1 hP 1 rfl rfl 16 (by decide) (hts _ kX10_guestLine_23) (fun _ h9 => h9) rfl dX10_guestLine_134 ?_
              refine lv_iload_n hx hb dX10_guestLine_137 rfl (lv_at hl 1 rfl) ?_
              refine lv_iconst (v := (2 : Int32)) hx hb dX10_guestLine_138 (by decide) ?_
              refine lv_iadd hx hb dX10_guestLine_139 ?_
              refine lv_aload_n hx hb dX10_guestLine_140 rfl (lv_at hl 0 rfl) ?_
              refine va_ldcS (own := RX10) (index := 233) (q := gK g 16) hx hb hown (hK.2.2 16 (by decide)) dX10_guestLine_141 ?_
              refine lv_iconst (v := (0 : Int32)) hx hb dX10_guestLine_143 (by decide) ?_
              refine lv_bipush (v := (20 : Int32)) hx hb dX10_guestLine_144 (by decide) ?_
              obtain ⟨u_64, u_65, u_66, hu_67, hF⟩ := ob3_some hF
              refine call_i (wr := [aI g (p_t 16) 266 (upd (upd u_4 (((9 : Int32) + ((4 : Int32) * (f_t_16 3)))).toNatClampNeg (2 : Int32)) ((((9 : Int32) + ((4 : Int32) * (f_t_16 3))) + (1 : Int32))).toNatClampNeg u_59)]) (As := [.ref (gK g 16), .int (0 : Int32), .int (20 : Int32)]) (rest := [.int (((9 : Int32) + ((4 : Int32) * (f_t_16 3))) + (2 : Int32)), .ref (p_t 16)]) (ci := 10) (q0 := 0) C0 (mX10_after l g a_t p_t n 16 (0 : Int32) (20 : Int32) u_60 f_t_1 u_61 u_64 u_65 u_66 (by decide) hu_67) (cwV 3 hts gX10_guestLine_X10_after rfl rfl rfl (by decide +kernel) ⟨Nat.le_of_ble_eq_true rfl, Nat.le_of_ble_eq_true rfl⟩) hP hD hS [1, 2, 3] [0] rfl rfl rfl rfl rfl (by decide) rfl rfl hl.1 rfl rfl (Nat.le_of_ble_eq_true rfl) ⟨Nat.zero_le _, Nat.zero_le _⟩ dX10_guestLine_146 ?_
              intro H locs hP hD hS
              obtain ⟨h_68, hF⟩ := it_ck hF
              refine va_iast hx hb hK.1 hP hD hS 0 0 rfl rfl h_68 dX10_guestLine_149 (fun H locs hP hD hS => ?_)
              have hP : va_P g.1 vwCl [aI g (p_t 16) 266 (upd (upd (upd u_4 (((9 : Int32) + ((4 : Int32) * (f_t_16 3)))).toNatClampNeg (2 : Int32)) ((((9 : Int32) + ((4 : Int32) * (f_t_16 3))) + (1 : Int32))).toNatClampNeg u_59) ((((9 : Int32) + ((4 : Int32) * (f_t_16 3))) + (2 : Int32))).toNatClampNeg u_64), oX10 a_t p_t u_65, aI g (p_t 1) 800 f_t_1, aI g (p_t 12) 8 u_66] H := hP
              have hD : va_D A [aI g (p_t 16) 266 (upd (upd (upd u_4 (((9 : Int32) + ((4 : Int32) * (f_t_16 3)))).toNatClampNeg (2 : Int32)) ((((9 : Int32) + ((4 : Int32) * (f_t_16 3))) + (1 : Int32))).toNatClampNeg u_59) ((((9 : Int32) + ((4 : Int32) * (f_t_16 3))) + (2 : Int32))).toNatClampNeg u_64), oX10 a_t p_t u_65, aI g (p_t 1) 800 f_t_1, aI g (p_t 12) 8 u_66] := hD
              refine lv_aload_n hx hb dX10_guestLine_150 rfl (lv_at hl 0 rfl) ?_
              refine va_get (D := g.1) (ci := 10) (v := .int (u_65 13)) (C := RX10) (T := TX10) (N := 35) hx hb hts iX10_guestLine_X10 hown hK.1 hP 1 rfl rfl 13 (by decide) (hts _ kX10_guestLine_91) (fun _ h9 => h9) rfl dX10_guestLine_151 ?_
              refine lv_if_ne (tgt := 167) hx hb dX10_guestLine_154 (by decide) (fun c_69 => ?_) (fun c_69 => ?_)
              · have hF := it_n c_69 hF
                cases hF
                exact ret_v C0 hP hD hS [1, 2, 3, 0] rfl rfl rfl dX10_guestLine_167
              · have hF := it_p c_69 hF
                refine lv_aload_n hx hb dX10_guestLine_157 rfl (lv_at hl 0 rfl) ?_
                refine va_get (D := g.1) (ci := 10) (v := .ref (p_t 16)) (C := RX10) (T := TX10) (N := 35) hx hb hts iX10_guestLine_X10 hown hK.1 hP 1 rfl rfl 16 (by decide) (hts _ kX10_guestLine_23) (fun _ h9 => h9) rfl dX10_guestLine_158 ?_
                refine lv_iconst (v := (3 : Int32)) hx hb dX10_guestLine_161 (by decide) ?_
                refine lv_dup2_11 hx hb dX10_guestLine_162 rfl rfl ?_
                refine va_iald_k (j := 3) hx hb hK.1 hP 0 0 rfl rfl (by unfold vp_in; decide) rfl dX10_guestLine_163 ?_
                refine lv_iconst (v := (1 : Int32)) hx hb dX10_guestLine_164 (by decide) ?_
                refine lv_iadd hx hb dX10_guestLine_165 ?_
                refine va_iast hx hb hK.1 hP hD hS 0 0 rfl rfl (by unfold vp_in; decide) dX10_guestLine_166 (fun H locs hP hD hS => ?_)
                have hP : va_P g.1 vwCl [aI g (p_t 16) 266 (upd (upd (upd (upd u_4 (((9 : Int32) + ((4 : Int32) * (f_t_16 3)))).toNatClampNeg (2 : Int32)) ((((9 : Int32) + ((4 : Int32) * (f_t_16 3))) + (1 : Int32))).toNatClampNeg u_59) ((((9 : Int32) + ((4 : Int32) * (f_t_16 3))) + (2 : Int32))).toNatClampNeg u_64) 3 (((upd (upd (upd u_4 (((9 : Int32) + ((4 : Int32) * (f_t_16 3)))).toNatClampNeg (2 : Int32)) ((((9 : Int32) + ((4 : Int32) * (f_t_16 3))) + (1 : Int32))).toNatClampNeg u_59) ((((9 : Int32) + ((4 : Int32) * (f_t_16 3))) + (2 : Int32))).toNatClampNeg u_64) 3) + (1 : Int32))), oX10 a_t p_t u_65, aI g (p_t 1) 800 f_t_1, aI g (p_t 12) 8 u_66] H := hP
                have hD : va_D A [aI g (p_t 16) 266 (upd (upd (upd (upd u_4 (((9 : Int32) + ((4 : Int32) * (f_t_16 3)))).toNatClampNeg (2 : Int32)) ((((9 : Int32) + ((4 : Int32) * (f_t_16 3))) + (1 : Int32))).toNatClampNeg u_59) ((((9 : Int32) + ((4 : Int32) * (f_t_16 3))) + (2 : Int32))).toNatClampNeg u_64) 3 (((upd (upd (upd u_4 (((9 : Int32) + ((4 : Int32) * (f_t_16 3)))).toNatClampNeg (2 : Int32)) ((((9 : Int32) + ((4 : Int32) * (f_t_16 3))) + (1 : Int32))).toNatClampNeg u_59) ((((9 : Int32) + ((4 : Int32) * (f_t_16 3))) + (2 : Int32))).toNatClampNeg u_64) 3) + (1 : Int32))), oX10 a_t p_t u_65, aI g (p_t 1) 800 f_t_1, aI g (p_t 12) 8 u_66] := hD
                cases hF
                exact ret_v C0 hP hD hS [1, 2, 3, 0] rfl rfl rfl dX10_guestLine_167
            · have hF := it_n c_54 hF
              cases hF
              exact ret_v C0 hP hD hS [2, 0, 3, 1] rfl rfl rfl dX10_guestLine_104
          refine lv_if_ge (tgt := 97) hx hb dX10_guestLine_85 (by decide) (fun c_70 => ?_) (fun c_70 => ?_)
          · skip
            exact hJ97 u_2 _ _ _ hF (hP.sub [0, 1, 2, 3] rfl) (hD.sub [0, 1, 2, 3] rfl rfl) hS (lv_sub hl [2, 1, 0] rfl)
          · exact absurd c_70 (by decide)
      · have hF := it_n c_11 hF
        refine lv_iconst (v := (1 : Int32)) hx hb dX10_guestLine_52 (by decide) ?_
        refine lv_goto (tgt := 83) hx hb dX10_guestLine_53 (by decide) ?_
        refine lv_istore_n (lv' := [(2, .int (1 : Int32)), (1, .int ((9 : Int32) + ((4 : Int32) * (f_t_16 3)))), (0, .ref a_t)]) hx hb dX10_guestLine_83 rfl hl (by decide) rfl (fun ls hl => ?_)
        refine lv_iload_n hx hb dX10_guestLine_84 rfl (lv_at hl 0 rfl) ?_
        obtain ⟨J97, eJ97, hF⟩ := jn_some hF
        have hJ97 : ∀ (o_t_97 : Nat → Int32) (H : Heap) (locs : List Loc) (ls : Array Slot), J97 o_t_97 = some (o_t', f_t_12', f_t_16') → va_P g.1 vwCl [aI g (p_t 1) 800 f_t_1, aI g (p_t 16) 266 u_4, oX10 a_t p_t o_t_97, aI g (p_t 12) 8 u_3] H → va_D A [aI g (p_t 1) 800 f_t_1, aI g (p_t 16) 266 u_4, oX10 a_t p_t o_t_97, aI g (p_t 12) 8 u_3] → va_S A s.heap H locs → lv_has ls 3 [(0, .ref a_t), (1, .int ((9 : Int32) + ((4 : Int32) * (f_t_16 3)))), (2, .int (1 : Int32))] → W p l e ({ frames := 8, cells := 0, slots := 0, locals := 178 } : Room) s m args below meth c H locs 0 0 (MQ below (EndV g [oX10 a_t p_t o_t', aI g (p_t 1) 800 f_t_1, aI g (p_t 12) 8 f_t_12', aI g (p_t 16) 266 f_t_16'] A) args s 0 0 A) (F0 m 97 ls []) := by
          intro o_t_97 H locs ls hF hP hD hS hl
          have hF := jj1 eJ97 hF
          refine lv_aload_n hx hb dX10_guestLine_97 rfl (lv_at hl 0 rfl) ?_
          refine va_get (D := g.1) (ci := 10) (v := .int (o_t_97 13)) (C := RX10) (T := TX10) (N := 35) hx hb hts iX10_guestLine_X10 hown hK.1 hP 2 rfl rfl 13 (by decide) (hts _ kX10_guestLine_91) (fun _ h9 => h9) rfl dX10_guestLine_98 ?_
          refine lv_if_eq (tgt := 105) hx hb dX10_guestLine_101 (by decide) (fun c_71 => ?_) (fun c_71 => ?_)
          · have hF := it_p c_71 hF
            refine lv_aload_n hx hb dX10_guestLine_105 rfl (lv_at hl 0 rfl) ?_
            obtain ⟨u_72, u_73, hu_74, hF⟩ := ob2_some hF
            refine call_v (wr := [aI g (p_t 16) 266 u_4]) (As := []) (rest := []) (ci := 10) (q0 := 0) C0 (mX10_next l g a_t p_t n o_t_97 f_t_1 u_3 u_72 u_73 hu_74) (cwV 0 hts gX10_guestLine_X10_next rfl rfl rfl (by decide +kernel) ⟨Nat.le_of_ble_eq_true rfl, Nat.le_of_ble_eq_true rfl⟩) hP hD hS [2, 0, 3] [1] rfl rfl rfl rfl rfl (by decide) rfl rfl hl.1 rfl rfl (Nat.le_of_ble_eq_true rfl) ⟨Nat.zero_le _, Nat.zero_le _⟩ dX10_guestLine_106 ?_
            intro H locs hP hD hS
            refine lv_aload_n hx hb dX10_guestLine_109 rfl (lv_at hl 0 rfl) ?_
            refine va_get (D := g.1) (ci := 10) (v := .ref (p_t 16)) (C := RX10) (T := TX10) (N := 35) hx hb hts iX10_guestLine_X10 hown hK.1 hP 1 rfl rfl 16 (by decide) (hts _ kX10_guestLine_23) (fun _ h9 => h9) rfl dX10_guestLine_110 ?_
            refine lv_iload_n hx hb dX10_guestLine_113 rfl (lv_at hl 1 rfl) ?_
            refine lv_iload_n hx hb dX10_guestLine_114 rfl (lv_at hl 2 rfl) ?_
            obtain ⟨h_75, hF⟩ := it_ck hF
            refine va_iast hx hb hK.1 hP hD hS 0 0 rfl rfl h_75 dX10_guestLine_115 (fun H locs hP hD hS => ?_)
            have hP : va_P g.1 vwCl [aI g (p_t 16) 266 (upd u_4 (((9 : Int32) + ((4 : Int32) * (f_t_16 3)))).toNatClampNeg (1 : Int32)), oX10 a_t p_t u_72, aI g (p_t 1) 800 f_t_1, aI g (p_t 12) 8 u_73] H := hP
            have hD : va_D A [aI g (p_t 16) 266 (upd u_4 (((9 : Int32) + ((4 : Int32) * (f_t_16 3)))).toNatClampNeg (1 : Int32)), oX10 a_t p_t u_72, aI g (p_t 1) 800 f_t_1, aI g (p_t 12) 8 u_73] := hD
            refine lv_aload_n hx hb dX10_guestLine_116 rfl (lv_at hl 0 rfl) ?_
            refine va_get (D := g.1) (ci := 10) (v := .ref (p_t 16)) (C := RX10) (T := TX10) (N := 35) hx hb hts iX10_guestLine_X10 hown hK.1 hP 1 rfl rfl 16 (by decide) (hts _ kX10_guestLine_23) (fun _ h9 => h9) rfl dX10_guestLine_117 ?_
            refine lv_iload_n hx hb dX10_guestLine_120 rfl (lv_at hl 1 rfl) ?_
            refine lv_iconst (v := (1 : Int32)) hx hb dX10_guestLine_121 (by decide) ?_
            refine lv_iadd hx hb dX10_guestLine_122 ?_
            refine lv_aload_n hx hb dX10_guestLine_123 rfl (lv_at hl 0 rfl) ?_
            refine va_ldcS (own := RX10) (index := 231) (q := gK g 15) hx hb hown (hK.2.2 15 (by decide)) dX10_guestLine_124 ?_
            refine lv_iconst (v := (1 : Int32)) hx hb dX10_guestLine_126 (by decide) ?_
            refine lv_bipush (v := (99 : Int32)) hx hb dX10_guestLine_127 (by decide) ?_
            obtain ⟨u_76, u_77, u_78, hu_79, hF⟩ := ob3_some hF
            refine call_i (wr := [aI g (p_t 16) 266 (upd u_4 (((9 : Int32) + ((4 : Int32) * (f_t_16 3)))).toNatClampNeg (1 : Int32))]) (As := [.ref (gK g 15), .int (1 : Int32), .int (99 : Int32)]) (rest := [.int (((9 : Int32) + ((4 : Int32) * (f_t_16 3))) + (1 : Int32)), .ref (p_t 16)]) (ci := 10) (q0 := 0) C0 (mX10_after l g a_t p_t n 15 (1 : Int32) (99 : Int32) u_72 f_t_1 u_73 u_76 u_77 u_78 (by decide) hu_79) (cwV 3 hts gX10_guestLine_X10_after rfl rfl rfl (by decide +kernel) ⟨Nat.le_of_ble_eq_true rfl, Nat.le_of_ble_eq_true rfl⟩) hP hD hS [1, 2, 3] [0] rfl rfl rfl rfl rfl (by decide) rfl rfl hl.1 rfl rfl (Nat.le_of_ble_eq_true rfl) ⟨Nat.zero_le _, Nat.zero_le _⟩ dX10_guestLine_129 ?_
            intro H locs hP hD hS
            obtain ⟨h_80, hF⟩ := it_ck hF
            refine va_iast hx hb hK.1 hP hD hS 0 0 rfl rfl h_80 dX10_guestLine_132 (fun H locs hP hD hS => ?_)
            have hP : va_P g.1 vwCl [aI g (p_t 16) 266 (upd (upd u_4 (((9 : Int32) + ((4 : Int32) * (f_t_16 3)))).toNatClampNeg (1 : Int32)) ((((9 : Int32) + ((4 : Int32) * (f_t_16 3))) + (1 : Int32))).toNatClampNeg u_76), oX10 a_t p_t u_77, aI g (p_t 1) 800 f_t_1, aI g (p_t 12) 8 u_78] H := hP
            have hD : va_D A [aI g (p_t 16) 266 (upd (upd u_4 (((9 : Int32) + ((4 : Int32) * (f_t_16 3)))).toNatClampNeg (1 : Int32)) ((((9 : Int32) + ((4 : Int32) * (f_t_16 3))) + (1 : Int32))).toNatClampNeg u_76), oX10 a_t p_t u_77, aI g (p_t 1) 800 f_t_1, aI g (p_t 12) 8 u_78] := hD
            refine lv_aload_n hx hb dX10_guestLine_133 rfl (lv_at hl 0 rfl) ?_
            refine va_get (D := g.1) (ci := 10) (v := .ref (p_t 16)) (C := RX10) (T := TX10) (N := 35) hx hb hts iX10_guestLine_X10 hown hK.1 hP 1 rfl rfl 16 (by decide) (hts _ kX10_guestLine_23) (fun _ h9 => h9) rfl dX10_guestLine_134 ?_
            refine lv_iload_n hx hb dX10_guestLine_137 rfl (lv_at hl 1 rfl) ?_
            refine lv_iconst (v := (2 : Int32)) hx hb dX10_guestLine_138 (by decide) ?_
            refine lv_iadd hx hb dX10_guestLine_139 ?_
            refine lv_aload_n hx hb dX10_guestLine_140 rfl (lv_at hl 0 rfl) ?_
            refine va_ldcS (own := RX10) (index := 233) (q := gK g 16) hx hb hown (hK.2.2 16 (by decide)) dX10_guestLine_141 ?_
            refine lv_iconst (v := (0 : Int32)) hx hb dX10_guestLine_143 (by decide) ?_
            refine lv_bipush (v := (20 : Int32)) hx hb dX10_guestLine_144 (by decide) ?_
            obtain ⟨u_81, u_82, u_83, hu_84, hF⟩ := ob3_some hF
            refine call_i (wr := [aI g (p_t 16) 266 (upd (upd u_4 (((9 : Int32) + ((4 : Int32) * (f_t_16 3)))).toNatClampNeg (1 : Int32)) ((((9 : Int32) + ((4 : Int32) * (f_t_16 3))) + (1 : Int32))).toNatClampNeg u_76)]) (As := [.ref (gK g 16), .int (0 : Int32), .int (20 : Int32)]) (rest := [.int (((9 : Int32) + ((4 : Int32) * (f_t_16 3))) + (2 : Int32)), .ref (p_t 16)]) (ci := 10) (q0 := 0) C0 (mX10_after l g a_t p_t n 16 (0 : Int32) (20 : Int32) u_77 f_t_1 u_78 u_81 u_82 u_83 (by decide) hu_84) (cwV 3 hts gX10_guestLine_X10_after rfl rfl rfl (by decide +kernel) ⟨Nat.le_of_ble_eq_true rfl, Nat.le_of_ble_eq_true rfl⟩) hP hD hS [1, 2, 3] [0] rfl rfl rfl rfl rfl (by decide) rfl rfl hl.1 rfl rfl (Nat.le_of_ble_eq_true rfl) ⟨Nat.zero_le _, Nat.zero_le _⟩ dX10_guestLine_146 ?_
            intro H locs hP hD hS
            obtain ⟨h_85, hF⟩ := it_ck hF
            refine va_iast hx hb hK.1 hP hD hS 0 0 rfl rfl h_85 dX10_guestLine_149 (fun H locs hP hD hS => ?_)
            have hP : va_P g.1 vwCl [aI g (p_t 16) 266 (upd (upd (upd u_4 (((9 : Int32) + ((4 : Int32) * (f_t_16 3)))).toNatClampNeg (1 : Int32)) ((((9 : Int32) + ((4 : Int32) * (f_t_16 3))) + (1 : Int32))).toNatClampNeg u_76) ((((9 : Int32) + ((4 : Int32) * (f_t_16 3))) + (2 : Int32))).toNatClampNeg u_81), oX10 a_t p_t u_82, aI g (p_t 1) 800 f_t_1, aI g (p_t 12) 8 u_83] H := hP
            have hD : va_D A [aI g (p_t 16) 266 (upd (upd (upd u_4 (((9 : Int32) + ((4 : Int32) * (f_t_16 3)))).toNatClampNeg (1 : Int32)) ((((9 : Int32) + ((4 : Int32) * (f_t_16 3))) + (1 : Int32))).toNatClampNeg u_76) ((((9 : Int32) + ((4 : Int32) * (f_t_16 3))) + (2 : Int32))).toNatClampNeg u_81), oX10 a_t p_t u_82, aI g (p_t 1) 800 f_t_1, aI g (p_t 12) 8 u_83] := hD
            refine lv_aload_n hx hb dX10_guestLine_150 rfl (lv_at hl 0 rfl) ?_
            refine va_get (D := g.1) (ci := 10) (v := .int (u_82 13)) (C := RX10) (T := TX10) (N := 35) hx hb hts iX10_guestLine_X10 hown hK.1 hP 1 rfl rfl 13 (by decide) (hts _ kX10_guestLine_91) (fun _ h9 => h9) rfl dX10_guestLine_151 ?_
            refine lv_if_ne (tgt := 167) hx hb dX10_guestLine_154 (by decide) (fun c_86 => ?_) (fun c_86 => ?_)
            · have hF := it_n c_86 hF
              cases hF
              exact ret_v C0 hP hD hS [1, 2, 3, 0] rfl rfl rfl dX10_guestLine_167
            · have hF := it_p c_86 hF
              refine lv_aload_n hx hb dX10_guestLine_157 rfl (lv_at hl 0 rfl) ?_
              refine va_get (D := g.1) (ci := 10) (v := .ref (p_t 16)) (C := RX10) (T := TX10) (N := 35) hx hb hts iX10_guestLine_X10 hown hK.1 hP 1 rfl rfl 16 (by decide) (hts _ kX10_guestLine_23) (fun _ h9 => h9) rfl dX10_guestLine_158 ?_
              refine lv_iconst (v := (3 : Int32)) hx hb dX10_guestLine_161 (by decide) ?_
              refine lv_dup2_11 hx hb dX10_guestLine_162 rfl rfl ?_
              refine va_iald_k (j := 3) hx hb hK.1 hP 0 0 rfl rfl (by unfold vp_in; decide) rfl dX10_guestLine_163 ?_
              refine lv_iconst (v := (1 : Int32)) hx hb dX10_guestLine_164 (by decide) ?_
              refine lv_iadd hx hb dX10_guestLine_165 ?_
              refine va_iast hx hb hK.1 hP hD hS 0 0 rfl rfl (by unfold vp_in; decide) dX10_guestLine_166 (fun H locs hP hD hS => ?_)
              have hP : va_P g.1 vwCl [aI g (p_t 16) 266 (upd (upd (upd (upd u_4 (((9 : Int32) + ((4 : Int32) * (f_t_16 3)))).toNatClampNeg (1 : Int32)) ((((9 : Int32) + ((4 : Int32) * (f_t_16 3))) + (1 : Int32))).toNatClampNeg u_76) ((((9 : Int32) + ((4 : Int32) * (f_t_16 3))) + (2 : Int32))).toNatClampNeg u_81) 3 (((upd (upd (upd u_4 (((9 : Int32) + ((4 : Int32) * (f_t_16 3)))).toNatClampNeg (1 : Int32)) ((((9 : Int32) + ((4 : Int32) * (f_t_16 3))) + (1 : Int32))).toNatClampNeg u_76) ((((9 : Int32) + ((4 : Int32) * (f_t_16 3))) + (2 : Int32))).toNatClampNeg u_81) 3) + (1 : Int32))), oX10 a_t p_t u_82, aI g (p_t 1) 800 f_t_1, aI g (p_t 12) 8 u_83] H := hP
              have hD : va_D A [aI g (p_t 16) 266 (upd (upd (upd (upd u_4 (((9 : Int32) + ((4 : Int32) * (f_t_16 3)))).toNatClampNeg (1 : Int32)) ((((9 : Int32) + ((4 : Int32) * (f_t_16 3))) + (1 : Int32))).toNatClampNeg u_76) ((((9 : Int32) + ((4 : Int32) * (f_t_16 3))) + (2 : Int32))).toNatClampNeg u_81) 3 (((upd (upd (upd u_4 (((9 : Int32) + ((4 : Int32) * (f_t_16 3)))).toNatClampNeg (1 : Int32)) ((((9 : Int32) + ((4 : Int32) * (f_t_16 3))) + (1 : Int32))).toNatClampNeg u_76) ((((9 : Int32) + ((4 : Int32) * (f_t_16 3))) + (2 : Int32))).toNatClampNeg u_81) 3) + (1 : Int32))), oX10 a_t p_t u_82, aI g (p_t 1) 800 f_t_1, aI g (p_t 12) 8 u_83] := hD
              cases hF
              exact ret_v C0 hP hD hS [1, 2, 3, 0] rfl rfl rfl dX10_guestLine_167
          · have hF := it_n c_71 hF
            cases hF
            exact ret_v C0 hP hD hS [2, 0, 3, 1] rfl rfl rfl dX10_guestLine_104
        refine lv_if_ge (tgt := 97) hx hb dX10_guestLine_85 (by decide) (fun c_87 => ?_) (fun c_87 => ?_)
        · skip
          exact hJ97 u_2 _ _ _ hF (hP.sub [0, 1, 2, 3] rfl) (hD.sub [0, 1, 2, 3] rfl rfl) hS (lv_sub hl [2, 1, 0] rfl)
        · exact absurd c_87 (by decide)
    · have hF := it_n c_8 hF
      refine lv_iconst (v := (0 : Int32)) hx hb dX10_guestLine_39 (by decide) ?_
      refine lv_goto (tgt := 83) hx hb dX10_guestLine_40 (by decide) ?_
      refine lv_istore_n (lv' := [(2, .int (0 : Int32)), (1, .int ((9 : Int32) + ((4 : Int32) * (f_t_16 3)))), (0, .ref a_t)]) hx hb dX10_guestLine_83 rfl hl (by decide) rfl (fun ls hl => ?_)
      refine lv_iload_n hx hb dX10_guestLine_84 rfl (lv_at hl 0 rfl) ?_
      obtain ⟨J97, eJ97, hF⟩ := jn_some hF
      have hJ97 : ∀ (o_t_97 : Nat → Int32) (H : Heap) (locs : List Loc) (ls : Array Slot), J97 o_t_97 = some (o_t', f_t_12', f_t_16') → va_P g.1 vwCl [aI g (p_t 1) 800 f_t_1, aI g (p_t 16) 266 u_4, oX10 a_t p_t o_t_97, aI g (p_t 12) 8 u_3] H → va_D A [aI g (p_t 1) 800 f_t_1, aI g (p_t 16) 266 u_4, oX10 a_t p_t o_t_97, aI g (p_t 12) 8 u_3] → va_S A s.heap H locs → lv_has ls 3 [(0, .ref a_t), (1, .int ((9 : Int32) + ((4 : Int32) * (f_t_16 3)))), (2, .int (0 : Int32))] → W p l e ({ frames := 8, cells := 0, slots := 0, locals := 178 } : Room) s m args below meth c H locs 0 0 (MQ below (EndV g [oX10 a_t p_t o_t', aI g (p_t 1) 800 f_t_1, aI g (p_t 12) 8 f_t_12', aI g (p_t 16) 266 f_t_16'] A) args s 0 0 A) (F0 m 97 ls []) := by
        intro o_t_97 H locs ls hF hP hD hS hl
        have hF := jj1 eJ97 hF
        refine lv_aload_n hx hb dX10_guestLine_97 rfl (lv_at hl 0 rfl) ?_
        refine va_get (D := g.1) (ci := 10) (v := .int (o_t_97 13)) (C := RX10) (T := TX10) (N := 35) hx hb hts iX10_guestLine_X10 hown hK.1 hP 2 rfl rfl 13 (by decide) (hts _ kX10_guestLine_91) (fun _ h9 => h9) rfl dX10_guestLine_98 ?_
        refine lv_if_eq (tgt := 105) hx hb dX10_guestLine_101 (by decide) (fun c_88 => ?_) (fun c_88 => ?_)
        · have hF := it_p c_88 hF
          refine lv_aload_n hx hb dX10_guestLine_105 rfl (lv_at hl 0 rfl) ?_
          obtain ⟨u_89, u_90, hu_91, hF⟩ := ob2_some hF
          refine call_v (wr := [aI g (p_t 16) 266 u_4]) (As := []) (rest := []) (ci := 10) (q0 := 0) C0 (mX10_next l g a_t p_t n o_t_97 f_t_1 u_3 u_89 u_90 hu_91) (cwV 0 hts gX10_guestLine_X10_next rfl rfl rfl (by decide +kernel) ⟨Nat.le_of_ble_eq_true rfl, Nat.le_of_ble_eq_true rfl⟩) hP hD hS [2, 0, 3] [1] rfl rfl rfl rfl rfl (by decide) rfl rfl hl.1 rfl rfl (Nat.le_of_ble_eq_true rfl) ⟨Nat.zero_le _, Nat.zero_le _⟩ dX10_guestLine_106 ?_
          intro H locs hP hD hS
          refine lv_aload_n hx hb dX10_guestLine_109 rfl (lv_at hl 0 rfl) ?_
          refine va_get (D := g.1) (ci := 10) (v := .ref (p_t 16)) (C := RX10) (T := TX10) (N := 35) hx hb hts iX10_guestLine_X10 hown hK.1 hP 1 rfl rfl 16 (by decide) (hts _ kX10_guestLine_23) (fun _ h9 => h9) rfl dX10_guestLine_110 ?_
          refine lv_iload_n hx hb dX10_guestLine_113 rfl (lv_at hl 1 rfl) ?_
          refine lv_iload_n hx hb dX10_guestLine_114 rfl (lv_at hl 2 rfl) ?_
          obtain ⟨h_92, hF⟩ := it_ck hF
          refine va_iast hx hb hK.1 hP hD hS 0 0 rfl rfl h_92 dX10_guestLine_115 (fun H locs hP hD hS => ?_)
          have hP : va_P g.1 vwCl [aI g (p_t 16) 266 (upd u_4 (((9 : Int32) + ((4 : Int32) * (f_t_16 3)))).toNatClampNeg (0 : Int32)), oX10 a_t p_t u_89, aI g (p_t 1) 800 f_t_1, aI g (p_t 12) 8 u_90] H := hP
          have hD : va_D A [aI g (p_t 16) 266 (upd u_4 (((9 : Int32) + ((4 : Int32) * (f_t_16 3)))).toNatClampNeg (0 : Int32)), oX10 a_t p_t u_89, aI g (p_t 1) 800 f_t_1, aI g (p_t 12) 8 u_90] := hD
          refine lv_aload_n hx hb dX10_guestLine_116 rfl (lv_at hl 0 rfl) ?_
          refine va_get (D := g.1) (ci := 10) (v := .ref (p_t 16)) (C := RX10) (T := TX10) (N := 35) hx hb hts iX10_guestLine_X10 hown hK.1 hP 1 rfl rfl 16 (by decide) (hts _ kX10_guestLine_23) (fun _ h9 => h9) rfl dX10_guestLine_117 ?_
          refine lv_iload_n hx hb dX10_guestLine_120 rfl (lv_at hl 1 rfl) ?_
          refine lv_iconst (v := (1 : Int32)) hx hb dX10_guestLine_121 (by decide) ?_
          refine lv_iadd hx hb dX10_guestLine_122 ?_
          refine lv_aload_n hx hb dX10_guestLine_123 rfl (lv_at hl 0 rfl) ?_
          refine va_ldcS (own := RX10) (index := 231) (q := gK g 15) hx hb hown (hK.2.2 15 (by decide)) dX10_guestLine_124 ?_
          refine lv_iconst (v := (1 : Int32)) hx hb dX10_guestLine_126 (by decide) ?_
          refine lv_bipush (v := (99 : Int32)) hx hb dX10_guestLine_127 (by decide) ?_
          obtain ⟨u_93, u_94, u_95, hu_96, hF⟩ := ob3_some hF
          refine call_i (wr := [aI g (p_t 16) 266 (upd u_4 (((9 : Int32) + ((4 : Int32) * (f_t_16 3)))).toNatClampNeg (0 : Int32))]) (As := [.ref (gK g 15), .int (1 : Int32), .int (99 : Int32)]) (rest := [.int (((9 : Int32) + ((4 : Int32) * (f_t_16 3))) + (1 : Int32)), .ref (p_t 16)]) (ci := 10) (q0 := 0) C0 (mX10_after l g a_t p_t n 15 (1 : Int32) (99 : Int32) u_89 f_t_1 u_90 u_93 u_94 u_95 (by decide) hu_96) (cwV 3 hts gX10_guestLine_X10_after rfl rfl rfl (by decide +kernel) ⟨Nat.le_of_ble_eq_true rfl, Nat.le_of_ble_eq_true rfl⟩) hP hD hS [1, 2, 3] [0] rfl rfl rfl rfl rfl (by decide) rfl rfl hl.1 rfl rfl (Nat.le_of_ble_eq_true rfl) ⟨Nat.zero_le _, Nat.zero_le _⟩ dX10_guestLine_129 ?_
          intro H locs hP hD hS
          obtain ⟨h_97, hF⟩ := it_ck hF
          refine va_iast hx hb hK.1 hP hD hS 0 0 rfl rfl h_97 dX10_guestLine_132 (fun H locs hP hD hS => ?_)
          have hP : va_P g.1 vwCl [aI g (p_t 16) 266 (upd (upd u_4 (((9 : Int32) + ((4 : Int32) * (f_t_16 3)))).toNatClampNeg (0 : Int32)) ((((9 : Int32) + ((4 : Int32) * (f_t_16 3))) + (1 : Int32))).toNatClampNeg u_93), oX10 a_t p_t u_94, aI g (p_t 1) 800 f_t_1, aI g (p_t 12) 8 u_95] H := hP
          have hD : va_D A [aI g (p_t 16) 266 (upd (upd u_4 (((9 : Int32) + ((4 : Int32) * (f_t_16 3)))).toNatClampNeg (0 : Int32)) ((((9 : Int32) + ((4 : Int32) * (f_t_16 3))) + (1 : Int32))).toNatClampNeg u_93), oX10 a_t p_t u_94, aI g (p_t 1) 800 f_t_1, aI g (p_t 12) 8 u_95] := hD
          refine lv_aload_n hx hb dX10_guestLine_133 rfl (lv_at hl 0 rfl) ?_
          refine va_get (D := g.1) (ci := 10) (v := .ref (p_t 16)) (C := RX10) (T := TX10) (N := 35) hx hb hts iX10_guestLine_X10 hown hK.1 hP 1 rfl rfl 16 (by decide) (hts _ kX10_guestLine_23) (fun _ h9 => h9) rfl dX10_guestLine_134 ?_
          refine lv_iload_n hx hb dX10_guestLine_137 rfl (lv_at hl 1 rfl) ?_
          refine lv_iconst (v := (2 : Int32)) hx hb dX10_guestLine_138 (by decide) ?_
          refine lv_iadd hx hb dX10_guestLine_139 ?_
          refine lv_aload_n hx hb dX10_guestLine_140 rfl (lv_at hl 0 rfl) ?_
          refine va_ldcS (own := RX10) (index := 233) (q := gK g 16) hx hb hown (hK.2.2 16 (by decide)) dX10_guestLine_141 ?_
          refine lv_iconst (v := (0 : Int32)) hx hb dX10_guestLine_143 (by decide) ?_
          refine lv_bipush (v := (20 : Int32)) hx hb dX10_guestLine_144 (by decide) ?_
          obtain ⟨u_98, u_99, u_100, hu_101, hF⟩ := ob3_some hF
          refine call_i (wr := [aI g (p_t 16) 266 (upd (upd u_4 (((9 : Int32) + ((4 : Int32) * (f_t_16 3)))).toNatClampNeg (0 : Int32)) ((((9 : Int32) + ((4 : Int32) * (f_t_16 3))) + (1 : Int32))).toNatClampNeg u_93)]) (As := [.ref (gK g 16), .int (0 : Int32), .int (20 : Int32)]) (rest := [.int (((9 : Int32) + ((4 : Int32) * (f_t_16 3))) + (2 : Int32)), .ref (p_t 16)]) (ci := 10) (q0 := 0) C0 (mX10_after l g a_t p_t n 16 (0 : Int32) (20 : Int32) u_94 f_t_1 u_95 u_98 u_99 u_100 (by decide) hu_101) (cwV 3 hts gX10_guestLine_X10_after rfl rfl rfl (by decide +kernel) ⟨Nat.le_of_ble_eq_true rfl, Nat.le_of_ble_eq_true rfl⟩) hP hD hS [1, 2, 3] [0] rfl rfl rfl rfl rfl (by decide) rfl rfl hl.1 rfl rfl (Nat.le_of_ble_eq_true rfl) ⟨Nat.zero_le _, Nat.zero_le _⟩ dX10_guestLine_146 ?_
          intro H locs hP hD hS
          obtain ⟨h_102, hF⟩ := it_ck hF
          refine va_iast hx hb hK.1 hP hD hS 0 0 rfl rfl h_102 dX10_guestLine_149 (fun H locs hP hD hS => ?_)
          have hP : va_P g.1 vwCl [aI g (p_t 16) 266 (upd (upd (upd u_4 (((9 : Int32) + ((4 : Int32) * (f_t_16 3)))).toNatClampNeg (0 : Int32)) ((((9 : Int32) + ((4 : Int32) * (f_t_16 3))) + (1 : Int32))).toNatClampNeg u_93) ((((9 : Int32) + ((4 : Int32) * (f_t_16 3))) + (2 : Int32))).toNatClampNeg u_98), oX10 a_t p_t u_99, aI g (p_t 1) 800 f_t_1, aI g (p_t 12) 8 u_100] H := hP
          have hD : va_D A [aI g (p_t 16) 266 (upd (upd (upd u_4 (((9 : Int32) + ((4 : Int32) * (f_t_16 3)))).toNatClampNeg (0 : Int32)) ((((9 : Int32) + ((4 : Int32) * (f_t_16 3))) + (1 : Int32))).toNatClampNeg u_93) ((((9 : Int32) + ((4 : Int32) * (f_t_16 3))) + (2 : Int32))).toNatClampNeg u_98), oX10 a_t p_t u_99, aI g (p_t 1) 800 f_t_1, aI g (p_t 12) 8 u_100] := hD
          refine lv_aload_n hx hb dX10_guestLine_150 rfl (lv_at hl 0 rfl) ?_
          refine va_get (D := g.1) (ci := 10) (v := .int (u_99 13)) (C := RX10) (T := TX10) (N := 35) hx hb hts iX10_guestLine_X10 hown hK.1 hP 1 rfl rfl 13 (by decide) (hts _ kX10_guestLine_91) (fun _ h9 => h9) rfl dX10_guestLine_151 ?_
          refine lv_if_ne (tgt := 167) hx hb dX10_guestLine_154 (by decide) (fun c_103 => ?_) (fun c_103 => ?_)
          · have hF := it_n c_103 hF
            cases hF
            exact ret_v C0 hP hD hS [1, 2, 3, 0] rfl rfl rfl dX10_guestLine_167
          · have hF := it_p c_103 hF
            refine lv_aload_n hx hb dX10_guestLine_157 rfl (lv_at hl 0 rfl) ?_
            refine va_get (D := g.1) (ci := 10) (v := .ref (p_t 16)) (C := RX10) (T := TX10) (N := 35) hx hb hts iX10_guestLine_X10 hown hK.1 hP 1 rfl rfl 16 (by decide) (hts _ kX10_guestLine_23) (fun _ h9 => h9) rfl dX10_guestLine_158 ?_
            refine lv_iconst (v := (3 : Int32)) hx hb dX10_guestLine_161 (by decide) ?_
            refine lv_dup2_11 hx hb dX10_guestLine_162 rfl rfl ?_
            refine va_iald_k (j := 3) hx hb hK.1 hP 0 0 rfl rfl (by unfold vp_in; decide) rfl dX10_guestLine_163 ?_
            refine lv_iconst (v := (1 : Int32)) hx hb dX10_guestLine_164 (by decide) ?_
            refine lv_iadd hx hb dX10_guestLine_165 ?_
            refine va_iast hx hb hK.1 hP hD hS 0 0 rfl rfl (by unfold vp_in; decide) dX10_guestLine_166 (fun H locs hP hD hS => ?_)
            have hP : va_P g.1 vwCl [aI g (p_t 16) 266 (upd (upd (upd (upd u_4 (((9 : Int32) + ((4 : Int32) * (f_t_16 3)))).toNatClampNeg (0 : Int32)) ((((9 : Int32) + ((4 : Int32) * (f_t_16 3))) + (1 : Int32))).toNatClampNeg u_93) ((((9 : Int32) + ((4 : Int32) * (f_t_16 3))) + (2 : Int32))).toNatClampNeg u_98) 3 (((upd (upd (upd u_4 (((9 : Int32) + ((4 : Int32) * (f_t_16 3)))).toNatClampNeg (0 : Int32)) ((((9 : Int32) + ((4 : Int32) * (f_t_16 3))) + (1 : Int32))).toNatClampNeg u_93) ((((9 : Int32) + ((4 : Int32) * (f_t_16 3))) + (2 : Int32))).toNatClampNeg u_98) 3) + (1 : Int32))), oX10 a_t p_t u_99, aI g (p_t 1) 800 f_t_1, aI g (p_t 12) 8 u_100] H := hP
            have hD : va_D A [aI g (p_t 16) 266 (upd (upd (upd (upd u_4 (((9 : Int32) + ((4 : Int32) * (f_t_16 3)))).toNatClampNeg (0 : Int32)) ((((9 : Int32) + ((4 : Int32) * (f_t_16 3))) + (1 : Int32))).toNatClampNeg u_93) ((((9 : Int32) + ((4 : Int32) * (f_t_16 3))) + (2 : Int32))).toNatClampNeg u_98) 3 (((upd (upd (upd u_4 (((9 : Int32) + ((4 : Int32) * (f_t_16 3)))).toNatClampNeg (0 : Int32)) ((((9 : Int32) + ((4 : Int32) * (f_t_16 3))) + (1 : Int32))).toNatClampNeg u_93) ((((9 : Int32) + ((4 : Int32) * (f_t_16 3))) + (2 : Int32))).toNatClampNeg u_98) 3) + (1 : Int32))), oX10 a_t p_t u_99, aI g (p_t 1) 800 f_t_1, aI g (p_t 12) 8 u_100] := hD
            cases hF
            exact ret_v C0 hP hD hS [1, 2, 3, 0] rfl rfl rfl dX10_guestLine_167
        · have hF := it_n c_88 hF
          cases hF
          exact ret_v C0 hP hD hS [2, 0, 3, 1] rfl rfl rfl dX10_guestLine_104
      refine lv_if_ge (tgt := 97) hx hb dX10_guestLine_85 (by decide) (fun c_104 => ?_) (fun c_104 => ?_)
      · skip
        exact hJ97 u_2 _ _ _ hF (hP.sub [0, 1, 2, 3] rfl) (hD.sub [0, 1, 2, 3] rfl rfl) hS (lv_sub hl [2, 1, 0] rfl)
      · exact absurd c_104 (by decide)
  · have hF := it_n c_1 hF
    cases hF
    exact ret_v C0 hP hD hS [0, 1, 2, 3] rfl rfl rfl dX10_guestLine_7

theorem dAX10_pairLine : ∀ q ∈ ([(0, (.aload_n 0, 1)), (1, (.getfield 91, 3)), (4, (.ifCond .eq 4, 3)), (7, (.return_, 1)), (8, (.aload_n 0, 1)), (9, (.invokevirtual 148, 3)), (12, (.istore_n 1, 1)), (13, (.aload_n 0, 1)), (14, (.getfield 91, 3)), (17, (.ifCond .ne 28, 3)), (20, (.aload_n 0, 1)), (21, (.getfield 23, 3)), (24, (.bipush 9, 2)), (26, (.iconst 4, 1)), (27, (.iload_n 1, 1)), (28, (.imul, 1)), (29, (.iadd, 1)), (30, (.iconst 3, 1)), (31, (.iadd, 1)), (32, (.iaload, 1)), (33, (.ifCond .le 12, 3)), (36, (.aload_n 0, 1)), (37, (.iconst 3, 1)), (38, (.aload_n 0, 1)), (39, (.getfield 72, 3)), (42, (.invokevirtual 118, 3)), (45, (.aload_n 0, 1)), (46, (.getfield 91, 3)), (49, (.ifCond .eq 4, 3)), (52, (.return_, 1)), (53, (.aload_n 0, 1)), (54, (.invokevirtual 112, 3)), (57, (.aload_n 0, 1)), (58, (.invokevirtual 148, 3)), (61, (.istore_n 2, 1)), (62, (.aload_n 0, 1)), (63, (.getfield 91, 3)), (66, (.ifCond .ne 33, 3)), (69, (.iload_n 1, 1)), (70, (.iload_n 2, 1)), (71, (.if_icmp .eq 19, 3)), (74, (.aload_n 0, 1)), (75, (.getfield 23, 3)), (78, (.bipush 9, 2)), (80, (.iconst 4, 1)), (81, (.iload_n 2, 1)), (82, (.imul, 1)), (83, (.iadd, 1)), (84, (.iconst 3, 1)), (85, (.iadd, 1)), (86, (.iaload, 1)), (87, (.ifCond .le 12, 3)), (90, (.aload_n 0, 1)), (91, (.iconst 3, 1)), (92, (.aload_n 0, 1)), (93, (.getfield 72, 3)), (96, (.invokevirtual 118, 3)), (99, (.aload_n 0, 1)), (100, (.getfield 91, 3)), (103, (.ifCond .eq 4, 3)), (106, (.return_, 1)), (107, (.aload_n 0, 1)), (108, (.invokevirtual 112, 3)), (111, (.aload_n 0, 1)), (112, (.getfield 23, 3)), (115, (.bipush 9, 2)), (117, (.iconst 4, 1)), (118, (.iload_n 1, 1)), (119, (.imul, 1)), (120, (.iadd, 1)), (121, (.iconst 3, 1)), (122, (.iadd, 1)), (123, (.iload_n 2, 1)), (124, (.iconst 1, 1)), (125, (.iadd, 1)), (126, (.iastore, 1)), (127, (.aload_n 0, 1)), (128, (.getfield 23, 3)), (131, (.bipush 9, 2)), (133, (.iconst 4, 1)), (134, (.iload_n 2, 1)), (135, (.imul, 1)), (136, (.iadd, 1)), (137, (.iconst 3, 1)), (138, (.iadd, 1)), (139, (.iload_n 1, 1)), (140, (.iconst 1, 1)), (141, (.iadd, 1)), (142, (.iastore, 1)), (143, (.aload_n 0, 1)), (144, (.getfield 23, 3)), (147, (.iconst 4, 1)), (148, (.dup2, 1)), (149, (.iaload, 1)), (150, (.iconst 1, 1)), (151, (.iadd, 1)), (152, (.iastore, 1)), (153, (.return_, 1))] : List (Nat × (Instr × Nat))), decode cX10_pairLine q.1 = .ok q.2 := by decide +kernel
theorem dX10_pairLine_0 : decode cX10_pairLine 0 = .ok (.aload_n 0, 1) := dAX10_pairLine (0, (.aload_n 0, 1)) (List.mem_of_getElem? (i := 0) rfl)
theorem dX10_pairLine_1 : decode cX10_pairLine 1 = .ok (.getfield 91, 3) := dAX10_pairLine (1, (.getfield 91, 3)) (List.mem_of_getElem? (i := 1) rfl)
theorem dX10_pairLine_4 : decode cX10_pairLine 4 = .ok (.ifCond .eq 4, 3) := dAX10_pairLine (4, (.ifCond .eq 4, 3)) (List.mem_of_getElem? (i := 2) rfl)
theorem dX10_pairLine_7 : decode cX10_pairLine 7 = .ok (.return_, 1) := dAX10_pairLine (7, (.return_, 1)) (List.mem_of_getElem? (i := 3) rfl)
theorem dX10_pairLine_8 : decode cX10_pairLine 8 = .ok (.aload_n 0, 1) := dAX10_pairLine (8, (.aload_n 0, 1)) (List.mem_of_getElem? (i := 4) rfl)
theorem dX10_pairLine_9 : decode cX10_pairLine 9 = .ok (.invokevirtual 148, 3) := dAX10_pairLine (9, (.invokevirtual 148, 3)) (List.mem_of_getElem? (i := 5) rfl)
theorem dX10_pairLine_12 : decode cX10_pairLine 12 = .ok (.istore_n 1, 1) := dAX10_pairLine (12, (.istore_n 1, 1)) (List.mem_of_getElem? (i := 6) rfl)
theorem dX10_pairLine_13 : decode cX10_pairLine 13 = .ok (.aload_n 0, 1) := dAX10_pairLine (13, (.aload_n 0, 1)) (List.mem_of_getElem? (i := 7) rfl)
theorem dX10_pairLine_14 : decode cX10_pairLine 14 = .ok (.getfield 91, 3) := dAX10_pairLine (14, (.getfield 91, 3)) (List.mem_of_getElem? (i := 8) rfl)
theorem dX10_pairLine_17 : decode cX10_pairLine 17 = .ok (.ifCond .ne 28, 3) := dAX10_pairLine (17, (.ifCond .ne 28, 3)) (List.mem_of_getElem? (i := 9) rfl)
theorem dX10_pairLine_20 : decode cX10_pairLine 20 = .ok (.aload_n 0, 1) := dAX10_pairLine (20, (.aload_n 0, 1)) (List.mem_of_getElem? (i := 10) rfl)
theorem dX10_pairLine_21 : decode cX10_pairLine 21 = .ok (.getfield 23, 3) := dAX10_pairLine (21, (.getfield 23, 3)) (List.mem_of_getElem? (i := 11) rfl)
theorem dX10_pairLine_24 : decode cX10_pairLine 24 = .ok (.bipush 9, 2) := dAX10_pairLine (24, (.bipush 9, 2)) (List.mem_of_getElem? (i := 12) rfl)
theorem dX10_pairLine_26 : decode cX10_pairLine 26 = .ok (.iconst 4, 1) := dAX10_pairLine (26, (.iconst 4, 1)) (List.mem_of_getElem? (i := 13) rfl)
theorem dX10_pairLine_27 : decode cX10_pairLine 27 = .ok (.iload_n 1, 1) := dAX10_pairLine (27, (.iload_n 1, 1)) (List.mem_of_getElem? (i := 14) rfl)
theorem dX10_pairLine_28 : decode cX10_pairLine 28 = .ok (.imul, 1) := dAX10_pairLine (28, (.imul, 1)) (List.mem_of_getElem? (i := 15) rfl)
theorem dX10_pairLine_29 : decode cX10_pairLine 29 = .ok (.iadd, 1) := dAX10_pairLine (29, (.iadd, 1)) (List.mem_of_getElem? (i := 16) rfl)
theorem dX10_pairLine_30 : decode cX10_pairLine 30 = .ok (.iconst 3, 1) := dAX10_pairLine (30, (.iconst 3, 1)) (List.mem_of_getElem? (i := 17) rfl)
theorem dX10_pairLine_31 : decode cX10_pairLine 31 = .ok (.iadd, 1) := dAX10_pairLine (31, (.iadd, 1)) (List.mem_of_getElem? (i := 18) rfl)
theorem dX10_pairLine_32 : decode cX10_pairLine 32 = .ok (.iaload, 1) := dAX10_pairLine (32, (.iaload, 1)) (List.mem_of_getElem? (i := 19) rfl)
theorem dX10_pairLine_33 : decode cX10_pairLine 33 = .ok (.ifCond .le 12, 3) := dAX10_pairLine (33, (.ifCond .le 12, 3)) (List.mem_of_getElem? (i := 20) rfl)
theorem dX10_pairLine_36 : decode cX10_pairLine 36 = .ok (.aload_n 0, 1) := dAX10_pairLine (36, (.aload_n 0, 1)) (List.mem_of_getElem? (i := 21) rfl)
theorem dX10_pairLine_37 : decode cX10_pairLine 37 = .ok (.iconst 3, 1) := dAX10_pairLine (37, (.iconst 3, 1)) (List.mem_of_getElem? (i := 22) rfl)
theorem dX10_pairLine_38 : decode cX10_pairLine 38 = .ok (.aload_n 0, 1) := dAX10_pairLine (38, (.aload_n 0, 1)) (List.mem_of_getElem? (i := 23) rfl)
theorem dX10_pairLine_39 : decode cX10_pairLine 39 = .ok (.getfield 72, 3) := dAX10_pairLine (39, (.getfield 72, 3)) (List.mem_of_getElem? (i := 24) rfl)
theorem dX10_pairLine_42 : decode cX10_pairLine 42 = .ok (.invokevirtual 118, 3) := dAX10_pairLine (42, (.invokevirtual 118, 3)) (List.mem_of_getElem? (i := 25) rfl)
theorem dX10_pairLine_45 : decode cX10_pairLine 45 = .ok (.aload_n 0, 1) := dAX10_pairLine (45, (.aload_n 0, 1)) (List.mem_of_getElem? (i := 26) rfl)
theorem dX10_pairLine_46 : decode cX10_pairLine 46 = .ok (.getfield 91, 3) := dAX10_pairLine (46, (.getfield 91, 3)) (List.mem_of_getElem? (i := 27) rfl)
theorem dX10_pairLine_49 : decode cX10_pairLine 49 = .ok (.ifCond .eq 4, 3) := dAX10_pairLine (49, (.ifCond .eq 4, 3)) (List.mem_of_getElem? (i := 28) rfl)
theorem dX10_pairLine_52 : decode cX10_pairLine 52 = .ok (.return_, 1) := dAX10_pairLine (52, (.return_, 1)) (List.mem_of_getElem? (i := 29) rfl)
theorem dX10_pairLine_53 : decode cX10_pairLine 53 = .ok (.aload_n 0, 1) := dAX10_pairLine (53, (.aload_n 0, 1)) (List.mem_of_getElem? (i := 30) rfl)
theorem dX10_pairLine_54 : decode cX10_pairLine 54 = .ok (.invokevirtual 112, 3) := dAX10_pairLine (54, (.invokevirtual 112, 3)) (List.mem_of_getElem? (i := 31) rfl)
theorem dX10_pairLine_57 : decode cX10_pairLine 57 = .ok (.aload_n 0, 1) := dAX10_pairLine (57, (.aload_n 0, 1)) (List.mem_of_getElem? (i := 32) rfl)
theorem dX10_pairLine_58 : decode cX10_pairLine 58 = .ok (.invokevirtual 148, 3) := dAX10_pairLine (58, (.invokevirtual 148, 3)) (List.mem_of_getElem? (i := 33) rfl)
theorem dX10_pairLine_61 : decode cX10_pairLine 61 = .ok (.istore_n 2, 1) := dAX10_pairLine (61, (.istore_n 2, 1)) (List.mem_of_getElem? (i := 34) rfl)
theorem dX10_pairLine_62 : decode cX10_pairLine 62 = .ok (.aload_n 0, 1) := dAX10_pairLine (62, (.aload_n 0, 1)) (List.mem_of_getElem? (i := 35) rfl)
theorem dX10_pairLine_63 : decode cX10_pairLine 63 = .ok (.getfield 91, 3) := dAX10_pairLine (63, (.getfield 91, 3)) (List.mem_of_getElem? (i := 36) rfl)
theorem dX10_pairLine_66 : decode cX10_pairLine 66 = .ok (.ifCond .ne 33, 3) := dAX10_pairLine (66, (.ifCond .ne 33, 3)) (List.mem_of_getElem? (i := 37) rfl)
theorem dX10_pairLine_69 : decode cX10_pairLine 69 = .ok (.iload_n 1, 1) := dAX10_pairLine (69, (.iload_n 1, 1)) (List.mem_of_getElem? (i := 38) rfl)
theorem dX10_pairLine_70 : decode cX10_pairLine 70 = .ok (.iload_n 2, 1) := dAX10_pairLine (70, (.iload_n 2, 1)) (List.mem_of_getElem? (i := 39) rfl)
theorem dX10_pairLine_71 : decode cX10_pairLine 71 = .ok (.if_icmp .eq 19, 3) := dAX10_pairLine (71, (.if_icmp .eq 19, 3)) (List.mem_of_getElem? (i := 40) rfl)
theorem dX10_pairLine_74 : decode cX10_pairLine 74 = .ok (.aload_n 0, 1) := dAX10_pairLine (74, (.aload_n 0, 1)) (List.mem_of_getElem? (i := 41) rfl)
theorem dX10_pairLine_75 : decode cX10_pairLine 75 = .ok (.getfield 23, 3) := dAX10_pairLine (75, (.getfield 23, 3)) (List.mem_of_getElem? (i := 42) rfl)
theorem dX10_pairLine_78 : decode cX10_pairLine 78 = .ok (.bipush 9, 2) := dAX10_pairLine (78, (.bipush 9, 2)) (List.mem_of_getElem? (i := 43) rfl)
theorem dX10_pairLine_80 : decode cX10_pairLine 80 = .ok (.iconst 4, 1) := dAX10_pairLine (80, (.iconst 4, 1)) (List.mem_of_getElem? (i := 44) rfl)
theorem dX10_pairLine_81 : decode cX10_pairLine 81 = .ok (.iload_n 2, 1) := dAX10_pairLine (81, (.iload_n 2, 1)) (List.mem_of_getElem? (i := 45) rfl)
theorem dX10_pairLine_82 : decode cX10_pairLine 82 = .ok (.imul, 1) := dAX10_pairLine (82, (.imul, 1)) (List.mem_of_getElem? (i := 46) rfl)
theorem dX10_pairLine_83 : decode cX10_pairLine 83 = .ok (.iadd, 1) := dAX10_pairLine (83, (.iadd, 1)) (List.mem_of_getElem? (i := 47) rfl)
theorem dX10_pairLine_84 : decode cX10_pairLine 84 = .ok (.iconst 3, 1) := dAX10_pairLine (84, (.iconst 3, 1)) (List.mem_of_getElem? (i := 48) rfl)
theorem dX10_pairLine_85 : decode cX10_pairLine 85 = .ok (.iadd, 1) := dAX10_pairLine (85, (.iadd, 1)) (List.mem_of_getElem? (i := 49) rfl)
theorem dX10_pairLine_86 : decode cX10_pairLine 86 = .ok (.iaload, 1) := dAX10_pairLine (86, (.iaload, 1)) (List.mem_of_getElem? (i := 50) rfl)
theorem dX10_pairLine_87 : decode cX10_pairLine 87 = .ok (.ifCond .le 12, 3) := dAX10_pairLine (87, (.ifCond .le 12, 3)) (List.mem_of_getElem? (i := 51) rfl)
theorem dX10_pairLine_90 : decode cX10_pairLine 90 = .ok (.aload_n 0, 1) := dAX10_pairLine (90, (.aload_n 0, 1)) (List.mem_of_getElem? (i := 52) rfl)
theorem dX10_pairLine_91 : decode cX10_pairLine 91 = .ok (.iconst 3, 1) := dAX10_pairLine (91, (.iconst 3, 1)) (List.mem_of_getElem? (i := 53) rfl)
theorem dX10_pairLine_92 : decode cX10_pairLine 92 = .ok (.aload_n 0, 1) := dAX10_pairLine (92, (.aload_n 0, 1)) (List.mem_of_getElem? (i := 54) rfl)
theorem dX10_pairLine_93 : decode cX10_pairLine 93 = .ok (.getfield 72, 3) := dAX10_pairLine (93, (.getfield 72, 3)) (List.mem_of_getElem? (i := 55) rfl)
theorem dX10_pairLine_96 : decode cX10_pairLine 96 = .ok (.invokevirtual 118, 3) := dAX10_pairLine (96, (.invokevirtual 118, 3)) (List.mem_of_getElem? (i := 56) rfl)
theorem dX10_pairLine_99 : decode cX10_pairLine 99 = .ok (.aload_n 0, 1) := dAX10_pairLine (99, (.aload_n 0, 1)) (List.mem_of_getElem? (i := 57) rfl)
theorem dX10_pairLine_100 : decode cX10_pairLine 100 = .ok (.getfield 91, 3) := dAX10_pairLine (100, (.getfield 91, 3)) (List.mem_of_getElem? (i := 58) rfl)
theorem dX10_pairLine_103 : decode cX10_pairLine 103 = .ok (.ifCond .eq 4, 3) := dAX10_pairLine (103, (.ifCond .eq 4, 3)) (List.mem_of_getElem? (i := 59) rfl)
theorem dX10_pairLine_106 : decode cX10_pairLine 106 = .ok (.return_, 1) := dAX10_pairLine (106, (.return_, 1)) (List.mem_of_getElem? (i := 60) rfl)
theorem dX10_pairLine_107 : decode cX10_pairLine 107 = .ok (.aload_n 0, 1) := dAX10_pairLine (107, (.aload_n 0, 1)) (List.mem_of_getElem? (i := 61) rfl)
theorem dX10_pairLine_108 : decode cX10_pairLine 108 = .ok (.invokevirtual 112, 3) := dAX10_pairLine (108, (.invokevirtual 112, 3)) (List.mem_of_getElem? (i := 62) rfl)
theorem dX10_pairLine_111 : decode cX10_pairLine 111 = .ok (.aload_n 0, 1) := dAX10_pairLine (111, (.aload_n 0, 1)) (List.mem_of_getElem? (i := 63) rfl)
theorem dX10_pairLine_112 : decode cX10_pairLine 112 = .ok (.getfield 23, 3) := dAX10_pairLine (112, (.getfield 23, 3)) (List.mem_of_getElem? (i := 64) rfl)
theorem dX10_pairLine_115 : decode cX10_pairLine 115 = .ok (.bipush 9, 2) := dAX10_pairLine (115, (.bipush 9, 2)) (List.mem_of_getElem? (i := 65) rfl)
theorem dX10_pairLine_117 : decode cX10_pairLine 117 = .ok (.iconst 4, 1) := dAX10_pairLine (117, (.iconst 4, 1)) (List.mem_of_getElem? (i := 66) rfl)
theorem dX10_pairLine_118 : decode cX10_pairLine 118 = .ok (.iload_n 1, 1) := dAX10_pairLine (118, (.iload_n 1, 1)) (List.mem_of_getElem? (i := 67) rfl)
theorem dX10_pairLine_119 : decode cX10_pairLine 119 = .ok (.imul, 1) := dAX10_pairLine (119, (.imul, 1)) (List.mem_of_getElem? (i := 68) rfl)
theorem dX10_pairLine_120 : decode cX10_pairLine 120 = .ok (.iadd, 1) := dAX10_pairLine (120, (.iadd, 1)) (List.mem_of_getElem? (i := 69) rfl)
theorem dX10_pairLine_121 : decode cX10_pairLine 121 = .ok (.iconst 3, 1) := dAX10_pairLine (121, (.iconst 3, 1)) (List.mem_of_getElem? (i := 70) rfl)
theorem dX10_pairLine_122 : decode cX10_pairLine 122 = .ok (.iadd, 1) := dAX10_pairLine (122, (.iadd, 1)) (List.mem_of_getElem? (i := 71) rfl)
theorem dX10_pairLine_123 : decode cX10_pairLine 123 = .ok (.iload_n 2, 1) := dAX10_pairLine (123, (.iload_n 2, 1)) (List.mem_of_getElem? (i := 72) rfl)
theorem dX10_pairLine_124 : decode cX10_pairLine 124 = .ok (.iconst 1, 1) := dAX10_pairLine (124, (.iconst 1, 1)) (List.mem_of_getElem? (i := 73) rfl)
theorem dX10_pairLine_125 : decode cX10_pairLine 125 = .ok (.iadd, 1) := dAX10_pairLine (125, (.iadd, 1)) (List.mem_of_getElem? (i := 74) rfl)
theorem dX10_pairLine_126 : decode cX10_pairLine 126 = .ok (.iastore, 1) := dAX10_pairLine (126, (.iastore, 1)) (List.mem_of_getElem? (i := 75) rfl)
theorem dX10_pairLine_127 : decode cX10_pairLine 127 = .ok (.aload_n 0, 1) := dAX10_pairLine (127, (.aload_n 0, 1)) (List.mem_of_getElem? (i := 76) rfl)
theorem dX10_pairLine_128 : decode cX10_pairLine 128 = .ok (.getfield 23, 3) := dAX10_pairLine (128, (.getfield 23, 3)) (List.mem_of_getElem? (i := 77) rfl)
theorem dX10_pairLine_131 : decode cX10_pairLine 131 = .ok (.bipush 9, 2) := dAX10_pairLine (131, (.bipush 9, 2)) (List.mem_of_getElem? (i := 78) rfl)
theorem dX10_pairLine_133 : decode cX10_pairLine 133 = .ok (.iconst 4, 1) := dAX10_pairLine (133, (.iconst 4, 1)) (List.mem_of_getElem? (i := 79) rfl)
theorem dX10_pairLine_134 : decode cX10_pairLine 134 = .ok (.iload_n 2, 1) := dAX10_pairLine (134, (.iload_n 2, 1)) (List.mem_of_getElem? (i := 80) rfl)
theorem dX10_pairLine_135 : decode cX10_pairLine 135 = .ok (.imul, 1) := dAX10_pairLine (135, (.imul, 1)) (List.mem_of_getElem? (i := 81) rfl)
theorem dX10_pairLine_136 : decode cX10_pairLine 136 = .ok (.iadd, 1) := dAX10_pairLine (136, (.iadd, 1)) (List.mem_of_getElem? (i := 82) rfl)
theorem dX10_pairLine_137 : decode cX10_pairLine 137 = .ok (.iconst 3, 1) := dAX10_pairLine (137, (.iconst 3, 1)) (List.mem_of_getElem? (i := 83) rfl)
theorem dX10_pairLine_138 : decode cX10_pairLine 138 = .ok (.iadd, 1) := dAX10_pairLine (138, (.iadd, 1)) (List.mem_of_getElem? (i := 84) rfl)
theorem dX10_pairLine_139 : decode cX10_pairLine 139 = .ok (.iload_n 1, 1) := dAX10_pairLine (139, (.iload_n 1, 1)) (List.mem_of_getElem? (i := 85) rfl)
theorem dX10_pairLine_140 : decode cX10_pairLine 140 = .ok (.iconst 1, 1) := dAX10_pairLine (140, (.iconst 1, 1)) (List.mem_of_getElem? (i := 86) rfl)
theorem dX10_pairLine_141 : decode cX10_pairLine 141 = .ok (.iadd, 1) := dAX10_pairLine (141, (.iadd, 1)) (List.mem_of_getElem? (i := 87) rfl)
theorem dX10_pairLine_142 : decode cX10_pairLine 142 = .ok (.iastore, 1) := dAX10_pairLine (142, (.iastore, 1)) (List.mem_of_getElem? (i := 88) rfl)
theorem dX10_pairLine_143 : decode cX10_pairLine 143 = .ok (.aload_n 0, 1) := dAX10_pairLine (143, (.aload_n 0, 1)) (List.mem_of_getElem? (i := 89) rfl)
theorem dX10_pairLine_144 : decode cX10_pairLine 144 = .ok (.getfield 23, 3) := dAX10_pairLine (144, (.getfield 23, 3)) (List.mem_of_getElem? (i := 90) rfl)
theorem dX10_pairLine_147 : decode cX10_pairLine 147 = .ok (.iconst 4, 1) := dAX10_pairLine (147, (.iconst 4, 1)) (List.mem_of_getElem? (i := 91) rfl)
theorem dX10_pairLine_148 : decode cX10_pairLine 148 = .ok (.dup2, 1) := dAX10_pairLine (148, (.dup2, 1)) (List.mem_of_getElem? (i := 92) rfl)
theorem dX10_pairLine_149 : decode cX10_pairLine 149 = .ok (.iaload, 1) := dAX10_pairLine (149, (.iaload, 1)) (List.mem_of_getElem? (i := 93) rfl)
theorem dX10_pairLine_150 : decode cX10_pairLine 150 = .ok (.iconst 1, 1) := dAX10_pairLine (150, (.iconst 1, 1)) (List.mem_of_getElem? (i := 94) rfl)
theorem dX10_pairLine_151 : decode cX10_pairLine 151 = .ok (.iadd, 1) := dAX10_pairLine (151, (.iadd, 1)) (List.mem_of_getElem? (i := 95) rfl)
theorem dX10_pairLine_152 : decode cX10_pairLine 152 = .ok (.iastore, 1) := dAX10_pairLine (152, (.iastore, 1)) (List.mem_of_getElem? (i := 96) rfl)
theorem dX10_pairLine_153 : decode cX10_pairLine 153 = .ok (.return_, 1) := dAX10_pairLine (153, (.return_, 1)) (List.mem_of_getElem? (i := 97) rfl)
set_option maxRecDepth 20000 in
theorem ggX10_pairLine_X10_guestHere : GoodIn wsX10_pairLine wsX10_guestHere := goodIn_r _ [8, 1, 3, 9, 10, 11, 7, 12, 13, 14, 15, 16, 17, 18, 19, 20, 21, 22, 23, 24, 25, 26, 27, 28, 29, 30, 31, 32, 33, 34, 35, 36, 37, 38, 39, 40, 41, 42, 43, 44, 45, 46, 47, 48, 49, 50, 51, 52, 53, 54, 55, 56, 57, 58, 59, 60, 61, 62, 63, 64, 65, 66, 67, 68, 69, 70, 71, 72, 73, 74, 75, 76, 77, 78, 2, 79, 80, 81, 100, 101, 102, 103, 104, 105, 106, 107, 108, 109, 110, 111, 112, 113, 114, 115, 116, 117, 118, 119, 120, 121, 122, 123, 124, 125, 126, 127, 128, 129, 130, 131, 132, 133, 134] rfl (by decide +kernel)
set_option maxRecDepth 20000 in
theorem gX10_pairLine_X10_guestHere : GoodIn wsX10_pairLine (wsV RX10 148 RX10 yX10_guestHere wsX10_guestHere) := goodIn_app (goodIn_of _ (by decide +kernel)) ggX10_pairLine_X10_guestHere
set_option maxRecDepth 20000 in
theorem ggX10_pairLine_X10_wrong : GoodIn wsX10_pairLine wsX10_wrong := goodIn_r _ [72, 1, 73, 74, 100, 101, 102, 103, 104, 105, 106, 107, 108, 109, 110, 111, 112, 113, 114, 115, 116, 117, 118, 119, 120, 121, 122, 123, 124, 125, 126, 127, 128, 129, 130, 131, 132, 133, 134] rfl (by decide +kernel)
set_option maxRecDepth 20000 in
theorem gX10_pairLine_X10_wrong : GoodIn wsX10_pairLine (wsV RX10 118 RX10 yX10_wrong wsX10_wrong) := goodIn_app (goodIn_of _ (by decide +kernel)) ggX10_pairLine_X10_wrong
set_option maxRecDepth 20000 in
theorem ggX10_pairLine_X10_next : GoodIn wsX10_pairLine wsX10_next := goodIn_r _ [85, 86, 3, 18, 87, 13, 19, 88, 89, 90, 7, 91, 92, 93, 94, 95, 96, 97, 98, 99, 100, 101, 102, 103, 104, 105, 106, 107, 108, 109, 110, 111, 112, 113, 114, 115, 116, 117, 118, 119, 120, 121, 122, 123, 124, 125, 126, 127, 128, 129, 130, 131, 132, 133, 134] rfl (by decide +kernel)
set_option maxRecDepth 20000 in
theorem gX10_pairLine_X10_next : GoodIn wsX10_pairLine (wsV RX10 112 RX10 yX10_next wsX10_next) := goodIn_app (goodIn_of _ (by decide +kernel)) ggX10_pairLine_X10_next
theorem kX10_pairLine_91 : Cond.fieldLink RX10 91 "EveningVowModel" "failed" "Z" ∈ wsX10_pairLine := List.mem_of_getElem? (i := 1) rfl
theorem iX10_pairLine_X10 : ∀ w ∈ u_ws RX10 TX10 35, w ∈ wsX10_pairLine := fun w h => (List.mem_cons_of_mem _ (List.mem_append_right _ h))
theorem kX10_pairLine_23 : Cond.fieldLink RX10 23 "EveningVowModel" "fresh" "[I" ∈ wsX10_pairLine := List.mem_of_getElem? (i := 2) rfl
theorem kX10_pairLine_72 : Cond.fieldLink RX10 72 "EveningVowModel" "at" "I" ∈ wsX10_pairLine := List.mem_of_getElem? (i := 3) rfl
set_option maxHeartbeats 4000000 in
set_option maxRecDepth 100000 in
theorem mX10_pairLine (l : Launch) (g : GG) (a_t : Nat) (p_t : Nat → Nat) (n : Nat) (o_t : Nat → Int32) (f_t_1 : Nat → Int32) (f_t_12 : Nat → Int32) (f_t_16 : Nat → Int32) (o_t' : Nat → Int32) (f_t_12' : Nat → Int32) (f_t_16' : Nat → Int32) (hF : fX10_pairLine n o_t f_t_1 f_t_12 f_t_16 = some (o_t', f_t_12', f_t_16')) : MV l g yX10_pairLine wsX10_pairLine ({ frames := 7, cells := 0, slots := 0, locals := 154 } : Room) [.ref a_t] [oX10 a_t p_t o_t, aI g (p_t 1) 800 f_t_1, aI g (p_t 12) 8 f_t_12, aI g (p_t 16) 266 f_t_16] [oX10 a_t p_t o_t', aI g (p_t 1) 800 f_t_1, aI g (p_t 12) 8 f_t_12', aI g (p_t 16) 266 f_t_16'] := by
  refine MV.of (cc := cX10_pairLine) (maxL := 3) (own := RX10) rfl rfl (by decide) (Nat.le_of_ble_eq_true rfl) ?_
  intro p e s m args below meth c A C0 hP hD hS ls hl
  obtain ⟨hx, hb, hml, hown, hts, hr, hlk, hK, hA, hSW⟩ := id C0
  have hl : lv_has ls 3 [(0, .ref a_t)] := hl
  rw [fX10_pairLine] at hF
  refine lv_aload_n hx hb dX10_pairLine_0 rfl (lv_at hl 0 rfl) ?_
  refine va_get (D := g.1) (ci := 10) (v := .int (o_t 13)) (C := RX10) (T := TX10) (N := 35) hx hb hts iX10_pairLine_X10 hown hK.1 hP 0 rfl rfl 13 (by decide) (hts _ kX10_pairLine_91) (fun _ h9 => h9) rfl dX10_pairLine_1 ?_
  refine lv_if_eq (tgt := 8) hx hb dX10_pairLine_4 (by decide) (fun c_1 => ?_) (fun c_1 => ?_)
  · have hF := it_p c_1 hF
    refine lv_aload_n hx hb dX10_pairLine_8 rfl (lv_at hl 0 rfl) ?_
    obtain ⟨u_2, u_3, hu_4, hF⟩ := ob2_some hF
    refine call_i (wr := [aI g (p_t 1) 800 f_t_1]) (As := []) (rest := []) (ci := 10) (q0 := 0) C0 (mX10_guestHere l g a_t p_t n o_t f_t_12 f_t_16 u_2 u_3 hu_4) (cwV 0 hts gX10_pairLine_X10_guestHere rfl rfl rfl (by decide +kernel) ⟨Nat.le_of_ble_eq_true rfl, Nat.le_of_ble_eq_true rfl⟩) hP hD hS [0, 2, 3] [1] rfl rfl rfl rfl rfl (by decide) rfl rfl hl.1 rfl rfl (Nat.le_of_ble_eq_true rfl) ⟨Nat.zero_le _, Nat.zero_le _⟩ dX10_pairLine_9 ?_
    intro H locs hP hD hS
    refine lv_istore_n (lv' := [(1, .int u_2), (0, .ref a_t)]) hx hb dX10_pairLine_12 rfl hl (by decide) rfl (fun ls hl => ?_)
    refine lv_aload_n hx hb dX10_pairLine_13 rfl (lv_at hl 1 rfl) ?_
    refine va_get (D := g.1) (ci := 10) (v := .int (u_3 13)) (C := RX10) (T := TX10) (N := 35) hx hb hts iX10_pairLine_X10 hown hK.1 hP 1 rfl rfl 13 (by decide) (hts _ kX10_pairLine_91) (fun _ h9 => h9) rfl dX10_pairLine_14 ?_
    obtain ⟨J45, eJ45, hF⟩ := jn_some hF
    have hJ45 : ∀ (o_t_45 : Nat → Int32) (H : Heap) (locs : List Loc) (ls : Array Slot), J45 o_t_45 = some (o_t', f_t_12', f_t_16') → va_P g.1 vwCl [aI g (p_t 1) 800 f_t_1, oX10 a_t p_t o_t_45, aI g (p_t 12) 8 f_t_12, aI g (p_t 16) 266 f_t_16] H → va_D A [aI g (p_t 1) 800 f_t_1, oX10 a_t p_t o_t_45, aI g (p_t 12) 8 f_t_12, aI g (p_t 16) 266 f_t_16] → va_S A s.heap H locs → lv_has ls 3 [(0, .ref a_t), (1, .int u_2)] → W p l e ({ frames := 7, cells := 0, slots := 0, locals := 154 } : Room) s m args below meth c H locs 0 0 (MQ below (EndV g [oX10 a_t p_t o_t', aI g (p_t 1) 800 f_t_1, aI g (p_t 12) 8 f_t_12', aI g (p_t 16) 266 f_t_16'] A) args s 0 0 A) (F0 m 45 ls []) := by
      intro o_t_45 H locs ls hF hP hD hS hl
      have hF := jj1 eJ45 hF
      refine lv_aload_n hx hb dX10_pairLine_45 rfl (lv_at hl 0 rfl) ?_
      refine va_get (D := g.1) (ci := 10) (v := .int (o_t_45 13)) (C := RX10) (T := TX10) (N := 35) hx hb hts iX10_pairLine_X10 hown hK.1 hP 1 rfl rfl 13 (by decide) (hts _ kX10_pairLine_91) (fun _ h9 => h9) rfl dX10_pairLine_46 ?_
      refine lv_if_eq (tgt := 53) hx hb dX10_pairLine_49 (by decide) (fun c_5 => ?_) (fun c_5 => ?_)
      · have hF := it_p c_5 hF
        refine lv_aload_n hx hb dX10_pairLine_53 rfl (lv_at hl 0 rfl) ?_
        obtain ⟨u_6, u_7, hu_8, hF⟩ := ob2_some hF
        refine call_v (wr := [aI g (p_t 16) 266 f_t_16]) (As := []) (rest := []) (ci := 10) (q0 := 0) C0 (mX10_next l g a_t p_t n o_t_45 f_t_1 f_t_12 u_6 u_7 hu_8) (cwV 0 hts gX10_pairLine_X10_next rfl rfl rfl (by decide +kernel) ⟨Nat.le_of_ble_eq_true rfl, Nat.le_of_ble_eq_true rfl⟩) hP hD hS [1, 0, 2] [3] rfl rfl rfl rfl rfl (by decide) rfl rfl hl.1 rfl rfl (Nat.le_of_ble_eq_true rfl) ⟨Nat.zero_le _, Nat.zero_le _⟩ dX10_pairLine_54 ?_
        intro H locs hP hD hS
        refine lv_aload_n hx hb dX10_pairLine_57 rfl (lv_at hl 0 rfl) ?_
        obtain ⟨u_9, u_10, hu_11, hF⟩ := ob2_some hF
        refine call_i (wr := [aI g (p_t 1) 800 f_t_1]) (As := []) (rest := []) (ci := 10) (q0 := 0) C0 (mX10_guestHere l g a_t p_t n u_6 u_7 f_t_16 u_9 u_10 hu_11) (cwV 0 hts gX10_pairLine_X10_guestHere rfl rfl rfl (by decide +kernel) ⟨Nat.le_of_ble_eq_true rfl, Nat.le_of_ble_eq_true rfl⟩) hP hD hS [1, 3, 0] [2] rfl rfl rfl rfl rfl (by decide) rfl rfl hl.1 rfl rfl (Nat.le_of_ble_eq_true rfl) ⟨Nat.zero_le _, Nat.zero_le _⟩ dX10_pairLine_58 ?_
        intro H locs hP hD hS
        refine lv_istore_n (lv' := [(2, .int u_9), (0, .ref a_t), (1, .int u_2)]) hx hb dX10_pairLine_61 rfl hl (by decide) rfl (fun ls hl => ?_)
        refine lv_aload_n hx hb dX10_pairLine_62 rfl (lv_at hl 1 rfl) ?_
        refine va_get (D := g.1) (ci := 10) (v := .int (u_10 13)) (C := RX10) (T := TX10) (N := 35) hx hb hts iX10_pairLine_X10 hown hK.1 hP 1 rfl rfl 13 (by decide) (hts _ kX10_pairLine_91) (fun _ h9 => h9) rfl dX10_pairLine_63 ?_
        obtain ⟨J99, eJ99, hF⟩ := jn_some hF
        have hJ99 : ∀ (o_t_99 : Nat → Int32) (H : Heap) (locs : List Loc) (ls : Array Slot), J99 o_t_99 = some (o_t', f_t_12', f_t_16') → va_P g.1 vwCl [aI g (p_t 1) 800 f_t_1, oX10 a_t p_t o_t_99, aI g (p_t 12) 8 u_7, aI g (p_t 16) 266 f_t_16] H → va_D A [aI g (p_t 1) 800 f_t_1, oX10 a_t p_t o_t_99, aI g (p_t 12) 8 u_7, aI g (p_t 16) 266 f_t_16] → va_S A s.heap H locs → lv_has ls 3 [(0, .ref a_t), (1, .int u_2), (2, .int u_9)] → W p l e ({ frames := 7, cells := 0, slots := 0, locals := 154 } : Room) s m args below meth c H locs 0 0 (MQ below (EndV g [oX10 a_t p_t o_t', aI g (p_t 1) 800 f_t_1, aI g (p_t 12) 8 f_t_12', aI g (p_t 16) 266 f_t_16'] A) args s 0 0 A) (F0 m 99 ls []) := by
          intro o_t_99 H locs ls hF hP hD hS hl
          have hF := jj1 eJ99 hF
          refine lv_aload_n hx hb dX10_pairLine_99 rfl (lv_at hl 0 rfl) ?_
          refine va_get (D := g.1) (ci := 10) (v := .int (o_t_99 13)) (C := RX10) (T := TX10) (N := 35) hx hb hts iX10_pairLine_X10 hown hK.1 hP 1 rfl rfl 13 (by decide) (hts _ kX10_pairLine_91) (fun _ h9 => h9) rfl dX10_pairLine_100 ?_
          refine lv_if_eq (tgt := 107) hx hb dX10_pairLine_103 (by decide) (fun c_12 => ?_) (fun c_12 => ?_)
          · have hF := it_p c_12 hF
            refine lv_aload_n hx hb dX10_pairLine_107 rfl (lv_at hl 0 rfl) ?_
            obtain ⟨u_13, u_14, hu_15, hF⟩ := ob2_some hF
            refine call_v (wr := [aI g (p_t 16) 266 f_t_16]) (As := []) (rest := []) (ci := 10) (q0 := 0) C0 (mX10_next l g a_t p_t n o_t_99 f_t_1 u_7 u_13 u_14 hu_15) (cwV 0 hts gX10_pairLine_X10_next rfl rfl rfl (by decide +kernel) ⟨Nat.le_of_ble_eq_true rfl, Nat.le_of_ble_eq_true rfl⟩) hP hD hS [1, 0, 2] [3] rfl rfl rfl rfl rfl (by decide) rfl rfl hl.1 rfl rfl (Nat.le_of_ble_eq_true rfl) ⟨Nat.zero_le _, Nat.zero_le _⟩ dX10_pairLine_108 ?_
            intro H locs hP hD hS
            refine lv_aload_n hx hb dX10_pairLine_111 rfl (lv_at hl 0 rfl) ?_
            refine va_get (D := g.1) (ci := 10) (v := .ref (p_t 16)) (C := RX10) (T := TX10) (N := 35) hx hb hts iX10_pairLine_X10 hown hK.1 hP 1 rfl rfl 16 (by decide) (hts _ kX10_pairLine_23) (fun _ h9 => h9) rfl dX10_pairLine_112 ?_
            refine lv_bipush (v := (9 : Int32)) hx hb dX10_pairLine_115 (by decide) ?_
            refine lv_iconst (v := (4 : Int32)) hx hb dX10_pairLine_117 (by decide) ?_
            refine lv_iload_n hx hb dX10_pairLine_118 rfl (lv_at hl 1 rfl) ?_
            refine lv_imul hx hb dX10_pairLine_119 ?_
            refine lv_iadd hx hb dX10_pairLine_120 ?_
            refine lv_iconst (v := (3 : Int32)) hx hb dX10_pairLine_121 (by decide) ?_
            refine lv_iadd hx hb dX10_pairLine_122 ?_
            refine lv_iload_n hx hb dX10_pairLine_123 rfl (lv_at hl 2 rfl) ?_
            refine lv_iconst (v := (1 : Int32)) hx hb dX10_pairLine_124 (by decide) ?_
            refine lv_iadd hx hb dX10_pairLine_125 ?_
            obtain ⟨h_16, hF⟩ := it_ck hF
            refine va_iast hx hb hK.1 hP hD hS 0 0 rfl rfl h_16 dX10_pairLine_126 (fun H locs hP hD hS => ?_)
            have hP : va_P g.1 vwCl [aI g (p_t 16) 266 (upd f_t_16 ((((9 : Int32) + ((4 : Int32) * u_2)) + (3 : Int32))).toNatClampNeg (u_9 + (1 : Int32))), oX10 a_t p_t u_13, aI g (p_t 1) 800 f_t_1, aI g (p_t 12) 8 u_14] H := hP
            have hD : va_D A [aI g (p_t 16) 266 (upd f_t_16 ((((9 : Int32) + ((4 : Int32) * u_2)) + (3 : Int32))).toNatClampNeg (u_9 + (1 : Int32))), oX10 a_t p_t u_13, aI g (p_t 1) 800 f_t_1, aI g (p_t 12) 8 u_14] := hD
            refine lv_aload_n hx hb dX10_pairLine_127 rfl (lv_at hl 0 rfl) ?_
            refine va_get (D := g.1) (ci := 10) (v := .ref (p_t 16)) (C := RX10) (T := TX10) (N := 35) hx hb hts iX10_pairLine_X10 hown hK.1 hP 1 rfl rfl 16 (by decide) (hts _ kX10_pairLine_23) (fun _ h9 => h9) rfl dX10_pairLine_128 ?_
            refine lv_bipush (v := (9 : Int32)) hx hb dX10_pairLine_131 (by decide) ?_
            refine lv_iconst (v := (4 : Int32)) hx hb dX10_pairLine_133 (by decide) ?_
            refine lv_iload_n hx hb dX10_pairLine_134 rfl (lv_at hl 2 rfl) ?_
            refine lv_imul hx hb dX10_pairLine_135 ?_
            refine lv_iadd hx hb dX10_pairLine_136 ?_
            refine lv_iconst (v := (3 : Int32)) hx hb dX10_pairLine_137 (by decide) ?_
            refine lv_iadd hx hb dX10_pairLine_138 ?_
            refine lv_iload_n hx hb dX10_pairLine_139 rfl (lv_at hl 1 rfl) ?_
            refine lv_iconst (v := (1 : Int32)) hx hb dX10_pairLine_140 (by decide) ?_
            refine lv_iadd hx hb dX10_pairLine_141 ?_
            obtain ⟨h_17, hF⟩ := it_ck hF
            refine va_iast hx hb hK.1 hP hD hS 0 0 rfl rfl h_17 dX10_pairLine_142 (fun H locs hP hD hS => ?_)
            have hP : va_P g.1 vwCl [aI g (p_t 16) 266 (upd (upd f_t_16 ((((9 : Int32) + ((4 : Int32) * u_2)) + (3 : Int32))).toNatClampNeg (u_9 + (1 : Int32))) ((((9 : Int32) + ((4 : Int32) * u_9)) + (3 : Int32))).toNatClampNeg (u_2 + (1 : Int32))), oX10 a_t p_t u_13, aI g (p_t 1) 800 f_t_1, aI g (p_t 12) 8 u_14] H := hP
            have hD : va_D A [aI g (p_t 16) 266 (upd (upd f_t_16 ((((9 : Int32) + ((4 : Int32) * u_2)) + (3 : Int32))).toNatClampNeg (u_9 + (1 : Int32))) ((((9 : Int32) + ((4 : Int32) * u_9)) + (3 : Int32))).toNatClampNeg (u_2 + (1 : Int32))), oX10 a_t p_t u_13, aI g (p_t 1) 800 f_t_1, aI g (p_t 12) 8 u_14] := hD
            refine lv_aload_n hx hb dX10_pairLine_143 rfl (lv_at hl 0 rfl) ?_
            refine va_get (D := g.1) (ci := 10) (v := .ref (p_t 16)) (C := RX10) (T := TX10) (N := 35) hx hb hts iX10_pairLine_X10 hown hK.1 hP 1 rfl rfl 16 (by decide) (hts _ kX10_pairLine_23) (fun _ h9 => h9) rfl dX10_pairLine_144 ?_
            refine lv_iconst (v := (4 : Int32)) hx hb dX10_pairLine_147 (by decide) ?_
            refine lv_dup2_11 hx hb dX10_pairLine_148 rfl rfl ?_
            refine va_iald_k (j := 4) hx hb hK.1 hP 0 0 rfl rfl (by unfold vp_in; decide) rfl dX10_pairLine_149 ?_
            refine lv_iconst (v := (1 : Int32)) hx hb dX10_pairLine_150 (by decide) ?_
            refine lv_iadd hx hb dX10_pairLine_151 ?_
            refine va_iast hx hb hK.1 hP hD hS 0 0 rfl rfl (by unfold vp_in; decide) dX10_pairLine_152 (fun H locs hP hD hS => ?_)
            have hP : va_P g.1 vwCl [aI g (p_t 16) 266 (upd (upd (upd f_t_16 ((((9 : Int32) + ((4 : Int32) * u_2)) + (3 : Int32))).toNatClampNeg (u_9 + (1 : Int32))) ((((9 : Int32) + ((4 : Int32) * u_9)) + (3 : Int32))).toNatClampNeg (u_2 + (1 : Int32))) 4 (((upd (upd f_t_16 ((((9 : Int32) + ((4 : Int32) * u_2)) + (3 : Int32))).toNatClampNeg (u_9 + (1 : Int32))) ((((9 : Int32) + ((4 : Int32) * u_9)) + (3 : Int32))).toNatClampNeg (u_2 + (1 : Int32))) 4) + (1 : Int32))), oX10 a_t p_t u_13, aI g (p_t 1) 800 f_t_1, aI g (p_t 12) 8 u_14] H := hP
            have hD : va_D A [aI g (p_t 16) 266 (upd (upd (upd f_t_16 ((((9 : Int32) + ((4 : Int32) * u_2)) + (3 : Int32))).toNatClampNeg (u_9 + (1 : Int32))) ((((9 : Int32) + ((4 : Int32) * u_9)) + (3 : Int32))).toNatClampNeg (u_2 + (1 : Int32))) 4 (((upd (upd f_t_16 ((((9 : Int32) + ((4 : Int32) * u_2)) + (3 : Int32))).toNatClampNeg (u_9 + (1 : Int32))) ((((9 : Int32) + ((4 : Int32) * u_9)) + (3 : Int32))).toNatClampNeg (u_2 + (1 : Int32))) 4) + (1 : Int32))), oX10 a_t p_t u_13, aI g (p_t 1) 800 f_t_1, aI g (p_t 12) 8 u_14] := hD
            cases hF
            exact ret_v C0 hP hD hS [1, 2, 3, 0] rfl rfl rfl dX10_pairLine_153
          · have hF := it_n c_12 hF
            cases hF
            exact ret_v C0 hP hD hS [1, 0, 2, 3] rfl rfl rfl dX10_pairLine_106
        refine lv_if_ne (tgt := 99) hx hb dX10_pairLine_66 (by decide) (fun c_18 => ?_) (fun c_18 => ?_)
        · have hF := it_n c_18 hF
          exact hJ99 u_10 _ _ _ hF (hP.sub [0, 1, 2, 3] rfl) (hD.sub [0, 1, 2, 3] rfl rfl) hS (lv_sub hl [1, 2, 0] rfl)
        · have hF := it_p c_18 hF
          refine lv_iload_n hx hb dX10_pairLine_69 rfl (lv_at hl 2 rfl) ?_
          refine lv_iload_n hx hb dX10_pairLine_70 rfl (lv_at hl 0 rfl) ?_
          refine lv_icmp_eq (tgt := 90) hx hb dX10_pairLine_71 (by decide) (fun c_19 => ?_) (fun c_19 => ?_)
          · have hF := it_p c_19 hF
            refine lv_aload_n hx hb dX10_pairLine_90 rfl (lv_at hl 1 rfl) ?_
            refine lv_iconst (v := (3 : Int32)) hx hb dX10_pairLine_91 (by decide) ?_
            refine lv_aload_n hx hb dX10_pairLine_92 rfl (lv_at hl 1 rfl) ?_
            refine va_get (D := g.1) (ci := 10) (v := .int (u_10 4)) (C := RX10) (T := TX10) (N := 35) hx hb hts iX10_pairLine_X10 hown hK.1 hP 1 rfl rfl 4 (by decide) (hts _ kX10_pairLine_72) (fun _ h9 => h9) rfl dX10_pairLine_93 ?_
            obtain ⟨u_20, hu_21, hF⟩ := ob1_some hF
            refine call_v (wr := [aI g (p_t 1) 800 f_t_1, aI g (p_t 12) 8 u_7, aI g (p_t 16) 266 f_t_16]) (As := [.int (3 : Int32), .int (u_10 4)]) (rest := []) (ci := 10) (q0 := 0) C0 (mX10_wrong l g a_t p_t n (3 : Int32) (u_10 4) u_10 u_20 hu_21) (cwV 2 hts gX10_pairLine_X10_wrong rfl rfl rfl (by decide +kernel) ⟨Nat.le_of_ble_eq_true rfl, Nat.le_of_ble_eq_true rfl⟩) hP hD hS [1] [0, 2, 3] rfl rfl rfl rfl rfl (by decide) rfl rfl hl.1 rfl rfl (Nat.le_of_ble_eq_true rfl) ⟨Nat.zero_le _, Nat.zero_le _⟩ dX10_pairLine_96 ?_
            intro H locs hP hD hS
            exact hJ99 u_20 _ _ _ hF (hP.sub [0, 3, 1, 2] rfl) (hD.sub [0, 3, 1, 2] rfl rfl) hS (lv_sub hl [1, 2, 0] rfl)
          · have hF := it_n c_19 hF
            refine lv_aload_n hx hb dX10_pairLine_74 rfl (lv_at hl 1 rfl) ?_
            refine va_get (D := g.1) (ci := 10) (v := .ref (p_t 16)) (C := RX10) (T := TX10) (N := 35) hx hb hts iX10_pairLine_X10 hown hK.1 hP 1 rfl rfl 16 (by decide) (hts _ kX10_pairLine_23) (fun _ h9 => h9) rfl dX10_pairLine_75 ?_
            refine lv_bipush (v := (9 : Int32)) hx hb dX10_pairLine_78 (by decide) ?_
            refine lv_iconst (v := (4 : Int32)) hx hb dX10_pairLine_80 (by decide) ?_
            refine lv_iload_n hx hb dX10_pairLine_81 rfl (lv_at hl 0 rfl) ?_
            refine lv_imul hx hb dX10_pairLine_82 ?_
            refine lv_iadd hx hb dX10_pairLine_83 ?_
            refine lv_iconst (v := (3 : Int32)) hx hb dX10_pairLine_84 (by decide) ?_
            refine lv_iadd hx hb dX10_pairLine_85 ?_
            obtain ⟨h_22, hF⟩ := it_ck hF
            refine va_iald hx hb hK.1 hP 3 0 rfl rfl h_22 dX10_pairLine_86 ?_
            refine lv_if_le (tgt := 99) hx hb dX10_pairLine_87 (by decide) (fun c_23 => ?_) (fun c_23 => ?_)
            · have hF := it_p c_23 hF
              exact hJ99 u_10 _ _ _ hF (hP.sub [0, 1, 2, 3] rfl) (hD.sub [0, 1, 2, 3] rfl rfl) hS (lv_sub hl [1, 2, 0] rfl)
            · have hF := it_n c_23 hF
              refine lv_aload_n hx hb dX10_pairLine_90 rfl (lv_at hl 1 rfl) ?_
              refine lv_iconst (v := (3 : Int32)) hx hb dX10_pairLine_91 (by decide) ?_
              refine lv_aload_n hx hb dX10_pairLine_92 rfl (lv_at hl 1 rfl) ?_
              refine va_get (D := g.1) (ci := 10) (v := .int (u_10 4)) (C := RX10) (T := TX10) (N := 35) hx hb hts iX10_pairLine_X10 hown hK.1 hP 1 rfl rfl 4 (by decide) (hts _ kX10_pairLine_72) (fun _ h9 => h9) rfl dX10_pairLine_93 ?_
              obtain ⟨u_24, hu_25, hF⟩ := ob1_some hF
              refine call_v (wr := [aI g (p_t 1) 800 f_t_1, aI g (p_t 12) 8 u_7, aI g (p_t 16) 266 f_t_16]) (As := [.int (3 : Int32), .int (u_10 4)]) (rest := []) (ci := 10) (q0 := 0) C0 (mX10_wrong l g a_t p_t n (3 : Int32) (u_10 4) u_10 u_24 hu_25) (cwV 2 hts gX10_pairLine_X10_wrong rfl rfl rfl (by decide +kernel) ⟨Nat.le_of_ble_eq_true rfl, Nat.le_of_ble_eq_true rfl⟩) hP hD hS [1] [0, 2, 3] rfl rfl rfl rfl rfl (by decide) rfl rfl hl.1 rfl rfl (Nat.le_of_ble_eq_true rfl) ⟨Nat.zero_le _, Nat.zero_le _⟩ dX10_pairLine_96 ?_
              intro H locs hP hD hS
              exact hJ99 u_24 _ _ _ hF (hP.sub [0, 3, 1, 2] rfl) (hD.sub [0, 3, 1, 2] rfl rfl) hS (lv_sub hl [1, 2, 0] rfl)
      · have hF := it_n c_5 hF
        cases hF
        exact ret_v C0 hP hD hS [1, 0, 2, 3] rfl rfl rfl dX10_pairLine_52
    refine lv_if_ne (tgt := 45) hx hb dX10_pairLine_17 (by decide) (fun c_26 => ?_) (fun c_26 => ?_)
    · have hF := it_n c_26 hF
      exact hJ45 u_3 _ _ _ hF (hP.sub [0, 1, 2, 3] rfl) (hD.sub [0, 1, 2, 3] rfl rfl) hS (lv_sub hl [1, 0] rfl)
    · have hF := it_p c_26 hF
      refine lv_aload_n hx hb dX10_pairLine_20 rfl (lv_at hl 1 rfl) ?_
      refine va_get (D := g.1) (ci := 10) (v := .ref (p_t 16)) (C := RX10) (T := TX10) (N := 35) hx hb hts iX10_pairLine_X10 hown hK.1 hP 1 rfl rfl 16 (by decide) (hts _ kX10_pairLine_23) (fun _ h9 => h9) rfl dX10_pairLine_21 ?_
      refine lv_bipush (v := (9 : Int32)) hx hb dX10_pairLine_24 (by decide) ?_
      refine lv_iconst (v := (4 : Int32)) hx hb dX10_pairLine_26 (by decide) ?_
      refine lv_iload_n hx hb dX10_pairLine_27 rfl (lv_at hl 0 rfl) ?_
      refine lv_imul hx hb dX10_pairLine_28 ?_
      refine lv_iadd hx hb dX10_pairLine_29 ?_
      refine lv_iconst (v := (3 : Int32)) hx hb dX10_pairLine_30 (by decide) ?_
      refine lv_iadd hx hb dX10_pairLine_31 ?_
      obtain ⟨h_27, hF⟩ := it_ck hF
      refine va_iald hx hb hK.1 hP 3 0 rfl rfl h_27 dX10_pairLine_32 ?_
      refine lv_if_le (tgt := 45) hx hb dX10_pairLine_33 (by decide) (fun c_28 => ?_) (fun c_28 => ?_)
      · have hF := it_p c_28 hF
        exact hJ45 u_3 _ _ _ hF (hP.sub [0, 1, 2, 3] rfl) (hD.sub [0, 1, 2, 3] rfl rfl) hS (lv_sub hl [1, 0] rfl)
      · have hF := it_n c_28 hF
        refine lv_aload_n hx hb dX10_pairLine_36 rfl (lv_at hl 1 rfl) ?_
        refine lv_iconst (v := (3 : Int32)) hx hb dX10_pairLine_37 (by decide) ?_
        refine lv_aload_n hx hb dX10_pairLine_38 rfl (lv_at hl 1 rfl) ?_
        refine va_get (D := g.1) (ci := 10) (v := .int (u_3 4)) (C := RX10) (T := TX10) (N := 35) hx hb hts iX10_pairLine_X10 hown hK.1 hP 1 rfl rfl 4 (by decide) (hts _ kX10_pairLine_72) (fun _ h9 => h9) rfl dX10_pairLine_39 ?_
        obtain ⟨u_29, hu_30, hF⟩ := ob1_some hF
        refine call_v (wr := [aI g (p_t 1) 800 f_t_1, aI g (p_t 12) 8 f_t_12, aI g (p_t 16) 266 f_t_16]) (As := [.int (3 : Int32), .int (u_3 4)]) (rest := []) (ci := 10) (q0 := 0) C0 (mX10_wrong l g a_t p_t n (3 : Int32) (u_3 4) u_3 u_29 hu_30) (cwV 2 hts gX10_pairLine_X10_wrong rfl rfl rfl (by decide +kernel) ⟨Nat.le_of_ble_eq_true rfl, Nat.le_of_ble_eq_true rfl⟩) hP hD hS [1] [0, 2, 3] rfl rfl rfl rfl rfl (by decide) rfl rfl hl.1 rfl rfl (Nat.le_of_ble_eq_true rfl) ⟨Nat.zero_le _, Nat.zero_le _⟩ dX10_pairLine_42 ?_
        intro H locs hP hD hS
        exact hJ45 u_29 _ _ _ hF (hP.sub [0, 3, 1, 2] rfl) (hD.sub [0, 3, 1, 2] rfl rfl) hS (lv_sub hl [1, 0] rfl)
  · have hF := it_n c_1 hF
    cases hF
    exact ret_v C0 hP hD hS [0, 1, 2, 3] rfl rfl rfl dX10_pairLine_7

theorem dAX10_drawsLine : ∀ q ∈ ([(0, (.aload_n 0, 1)), (1, (.getfield 91, 3)), (4, (.ifCond .eq 4, 3)), (7, (.return_, 1)), (8, (.aload_n 0, 1)), (9, (.invokevirtual 235, 3)), (12, (.istore_n 1, 1)), (13, (.aload_n 0, 1)), (14, (.invokevirtual 148, 3)), (17, (.istore_n 2, 1)), (18, (.aload_n 0, 1)), (19, (.getfield 91, 3)), (22, (.ifCond .ne 34, 3)), (25, (.iload_n 1, 1)), (26, (.iload_n 2, 1)), (27, (.if_icmp .eq 20, 3)), (30, (.aload_n 0, 1)), (31, (.getfield 23, 3)), (34, (.bipush 37, 2)), (36, (.bipush 7, 2)), (38, (.iload_n 1, 1)), (39, (.imul, 1)), (40, (.iadd, 1)), (41, (.iload_n 2, 1)), (42, (.iadd, 1)), (43, (.iaload, 1)), (44, (.ifCond .le 12, 3)), (47, (.aload_n 0, 1)), (48, (.iconst 3, 1)), (49, (.aload_n 0, 1)), (50, (.getfield 72, 3)), (53, (.invokevirtual 118, 3)), (56, (.aload_n 0, 1)), (57, (.getfield 91, 3)), (60, (.ifCond .eq 4, 3)), (63, (.return_, 1)), (64, (.aload_n 0, 1)), (65, (.invokevirtual 112, 3)), (68, (.aload_n 0, 1)), (69, (.ldc 238, 2)), (71, (.iconst 1, 1)), (72, (.bipush 20, 2)), (74, (.invokevirtual 212, 3)), (77, (.istore_n 3, 1)), (78, (.aload_n 0, 1)), (79, (.getfield 91, 3)), (82, (.ifCond .eq 4, 3)), (85, (.return_, 1)), (86, (.aload_n 0, 1)), (87, (.getfield 23, 3)), (90, (.bipush 37, 2)), (92, (.bipush 7, 2)), (94, (.iload_n 1, 1)), (95, (.imul, 1)), (96, (.iadd, 1)), (97, (.iload_n 2, 1)), (98, (.iadd, 1)), (99, (.iload_n 3, 1)), (100, (.iastore, 1)), (101, (.aload_n 0, 1)), (102, (.getfield 23, 3)), (105, (.iconst 5, 1)), (106, (.dup2, 1)), (107, (.iaload, 1)), (108, (.iconst 1, 1)), (109, (.iadd, 1)), (110, (.iastore, 1)), (111, (.return_, 1))] : List (Nat × (Instr × Nat))), decode cX10_drawsLine q.1 = .ok q.2 := by decide +kernel
theorem dX10_drawsLine_0 : decode cX10_drawsLine 0 = .ok (.aload_n 0, 1) := dAX10_drawsLine (0, (.aload_n 0, 1)) (List.mem_of_getElem? (i := 0) rfl)
theorem dX10_drawsLine_1 : decode cX10_drawsLine 1 = .ok (.getfield 91, 3) := dAX10_drawsLine (1, (.getfield 91, 3)) (List.mem_of_getElem? (i := 1) rfl)
theorem dX10_drawsLine_4 : decode cX10_drawsLine 4 = .ok (.ifCond .eq 4, 3) := dAX10_drawsLine (4, (.ifCond .eq 4, 3)) (List.mem_of_getElem? (i := 2) rfl)
theorem dX10_drawsLine_7 : decode cX10_drawsLine 7 = .ok (.return_, 1) := dAX10_drawsLine (7, (.return_, 1)) (List.mem_of_getElem? (i := 3) rfl)
theorem dX10_drawsLine_8 : decode cX10_drawsLine 8 = .ok (.aload_n 0, 1) := dAX10_drawsLine (8, (.aload_n 0, 1)) (List.mem_of_getElem? (i := 4) rfl)
theorem dX10_drawsLine_9 : decode cX10_drawsLine 9 = .ok (.invokevirtual 235, 3) := dAX10_drawsLine (9, (.invokevirtual 235, 3)) (List.mem_of_getElem? (i := 5) rfl)
theorem dX10_drawsLine_12 : decode cX10_drawsLine 12 = .ok (.istore_n 1, 1) := dAX10_drawsLine (12, (.istore_n 1, 1)) (List.mem_of_getElem? (i := 6) rfl)
theorem dX10_drawsLine_13 : decode cX10_drawsLine 13 = .ok (.aload_n 0, 1) := dAX10_drawsLine (13, (.aload_n 0, 1)) (List.mem_of_getElem? (i := 7) rfl)
theorem dX10_drawsLine_14 : decode cX10_drawsLine 14 = .ok (.invokevirtual 148, 3) := dAX10_drawsLine (14, (.invokevirtual 148, 3)) (List.mem_of_getElem? (i := 8) rfl)
theorem dX10_drawsLine_17 : decode cX10_drawsLine 17 = .ok (.istore_n 2, 1) := dAX10_drawsLine (17, (.istore_n 2, 1)) (List.mem_of_getElem? (i := 9) rfl)
theorem dX10_drawsLine_18 : decode cX10_drawsLine 18 = .ok (.aload_n 0, 1) := dAX10_drawsLine (18, (.aload_n 0, 1)) (List.mem_of_getElem? (i := 10) rfl)
theorem dX10_drawsLine_19 : decode cX10_drawsLine 19 = .ok (.getfield 91, 3) := dAX10_drawsLine (19, (.getfield 91, 3)) (List.mem_of_getElem? (i := 11) rfl)
theorem dX10_drawsLine_22 : decode cX10_drawsLine 22 = .ok (.ifCond .ne 34, 3) := dAX10_drawsLine (22, (.ifCond .ne 34, 3)) (List.mem_of_getElem? (i := 12) rfl)
theorem dX10_drawsLine_25 : decode cX10_drawsLine 25 = .ok (.iload_n 1, 1) := dAX10_drawsLine (25, (.iload_n 1, 1)) (List.mem_of_getElem? (i := 13) rfl)
theorem dX10_drawsLine_26 : decode cX10_drawsLine 26 = .ok (.iload_n 2, 1) := dAX10_drawsLine (26, (.iload_n 2, 1)) (List.mem_of_getElem? (i := 14) rfl)
theorem dX10_drawsLine_27 : decode cX10_drawsLine 27 = .ok (.if_icmp .eq 20, 3) := dAX10_drawsLine (27, (.if_icmp .eq 20, 3)) (List.mem_of_getElem? (i := 15) rfl)
theorem dX10_drawsLine_30 : decode cX10_drawsLine 30 = .ok (.aload_n 0, 1) := dAX10_drawsLine (30, (.aload_n 0, 1)) (List.mem_of_getElem? (i := 16) rfl)
theorem dX10_drawsLine_31 : decode cX10_drawsLine 31 = .ok (.getfield 23, 3) := dAX10_drawsLine (31, (.getfield 23, 3)) (List.mem_of_getElem? (i := 17) rfl)
theorem dX10_drawsLine_34 : decode cX10_drawsLine 34 = .ok (.bipush 37, 2) := dAX10_drawsLine (34, (.bipush 37, 2)) (List.mem_of_getElem? (i := 18) rfl)
theorem dX10_drawsLine_36 : decode cX10_drawsLine 36 = .ok (.bipush 7, 2) := dAX10_drawsLine (36, (.bipush 7, 2)) (List.mem_of_getElem? (i := 19) rfl)
theorem dX10_drawsLine_38 : decode cX10_drawsLine 38 = .ok (.iload_n 1, 1) := dAX10_drawsLine (38, (.iload_n 1, 1)) (List.mem_of_getElem? (i := 20) rfl)
theorem dX10_drawsLine_39 : decode cX10_drawsLine 39 = .ok (.imul, 1) := dAX10_drawsLine (39, (.imul, 1)) (List.mem_of_getElem? (i := 21) rfl)
theorem dX10_drawsLine_40 : decode cX10_drawsLine 40 = .ok (.iadd, 1) := dAX10_drawsLine (40, (.iadd, 1)) (List.mem_of_getElem? (i := 22) rfl)
theorem dX10_drawsLine_41 : decode cX10_drawsLine 41 = .ok (.iload_n 2, 1) := dAX10_drawsLine (41, (.iload_n 2, 1)) (List.mem_of_getElem? (i := 23) rfl)
theorem dX10_drawsLine_42 : decode cX10_drawsLine 42 = .ok (.iadd, 1) := dAX10_drawsLine (42, (.iadd, 1)) (List.mem_of_getElem? (i := 24) rfl)
theorem dX10_drawsLine_43 : decode cX10_drawsLine 43 = .ok (.iaload, 1) := dAX10_drawsLine (43, (.iaload, 1)) (List.mem_of_getElem? (i := 25) rfl)
theorem dX10_drawsLine_44 : decode cX10_drawsLine 44 = .ok (.ifCond .le 12, 3) := dAX10_drawsLine (44, (.ifCond .le 12, 3)) (List.mem_of_getElem? (i := 26) rfl)
theorem dX10_drawsLine_47 : decode cX10_drawsLine 47 = .ok (.aload_n 0, 1) := dAX10_drawsLine (47, (.aload_n 0, 1)) (List.mem_of_getElem? (i := 27) rfl)
theorem dX10_drawsLine_48 : decode cX10_drawsLine 48 = .ok (.iconst 3, 1) := dAX10_drawsLine (48, (.iconst 3, 1)) (List.mem_of_getElem? (i := 28) rfl)
theorem dX10_drawsLine_49 : decode cX10_drawsLine 49 = .ok (.aload_n 0, 1) := dAX10_drawsLine (49, (.aload_n 0, 1)) (List.mem_of_getElem? (i := 29) rfl)
theorem dX10_drawsLine_50 : decode cX10_drawsLine 50 = .ok (.getfield 72, 3) := dAX10_drawsLine (50, (.getfield 72, 3)) (List.mem_of_getElem? (i := 30) rfl)
theorem dX10_drawsLine_53 : decode cX10_drawsLine 53 = .ok (.invokevirtual 118, 3) := dAX10_drawsLine (53, (.invokevirtual 118, 3)) (List.mem_of_getElem? (i := 31) rfl)
theorem dX10_drawsLine_56 : decode cX10_drawsLine 56 = .ok (.aload_n 0, 1) := dAX10_drawsLine (56, (.aload_n 0, 1)) (List.mem_of_getElem? (i := 32) rfl)
theorem dX10_drawsLine_57 : decode cX10_drawsLine 57 = .ok (.getfield 91, 3) := dAX10_drawsLine (57, (.getfield 91, 3)) (List.mem_of_getElem? (i := 33) rfl)
theorem dX10_drawsLine_60 : decode cX10_drawsLine 60 = .ok (.ifCond .eq 4, 3) := dAX10_drawsLine (60, (.ifCond .eq 4, 3)) (List.mem_of_getElem? (i := 34) rfl)
theorem dX10_drawsLine_63 : decode cX10_drawsLine 63 = .ok (.return_, 1) := dAX10_drawsLine (63, (.return_, 1)) (List.mem_of_getElem? (i := 35) rfl)
theorem dX10_drawsLine_64 : decode cX10_drawsLine 64 = .ok (.aload_n 0, 1) := dAX10_drawsLine (64, (.aload_n 0, 1)) (List.mem_of_getElem? (i := 36) rfl)
theorem dX10_drawsLine_65 : decode cX10_drawsLine 65 = .ok (.invokevirtual 112, 3) := dAX10_drawsLine (65, (.invokevirtual 112, 3)) (List.mem_of_getElem? (i := 37) rfl)
theorem dX10_drawsLine_68 : decode cX10_drawsLine 68 = .ok (.aload_n 0, 1) := dAX10_drawsLine (68, (.aload_n 0, 1)) (List.mem_of_getElem? (i := 38) rfl)
theorem dX10_drawsLine_69 : decode cX10_drawsLine 69 = .ok (.ldc 238, 2) := dAX10_drawsLine (69, (.ldc 238, 2)) (List.mem_of_getElem? (i := 39) rfl)
theorem dX10_drawsLine_71 : decode cX10_drawsLine 71 = .ok (.iconst 1, 1) := dAX10_drawsLine (71, (.iconst 1, 1)) (List.mem_of_getElem? (i := 40) rfl)
theorem dX10_drawsLine_72 : decode cX10_drawsLine 72 = .ok (.bipush 20, 2) := dAX10_drawsLine (72, (.bipush 20, 2)) (List.mem_of_getElem? (i := 41) rfl)
theorem dX10_drawsLine_74 : decode cX10_drawsLine 74 = .ok (.invokevirtual 212, 3) := dAX10_drawsLine (74, (.invokevirtual 212, 3)) (List.mem_of_getElem? (i := 42) rfl)
theorem dX10_drawsLine_77 : decode cX10_drawsLine 77 = .ok (.istore_n 3, 1) := dAX10_drawsLine (77, (.istore_n 3, 1)) (List.mem_of_getElem? (i := 43) rfl)
theorem dX10_drawsLine_78 : decode cX10_drawsLine 78 = .ok (.aload_n 0, 1) := dAX10_drawsLine (78, (.aload_n 0, 1)) (List.mem_of_getElem? (i := 44) rfl)
theorem dX10_drawsLine_79 : decode cX10_drawsLine 79 = .ok (.getfield 91, 3) := dAX10_drawsLine (79, (.getfield 91, 3)) (List.mem_of_getElem? (i := 45) rfl)
theorem dX10_drawsLine_82 : decode cX10_drawsLine 82 = .ok (.ifCond .eq 4, 3) := dAX10_drawsLine (82, (.ifCond .eq 4, 3)) (List.mem_of_getElem? (i := 46) rfl)
theorem dX10_drawsLine_85 : decode cX10_drawsLine 85 = .ok (.return_, 1) := dAX10_drawsLine (85, (.return_, 1)) (List.mem_of_getElem? (i := 47) rfl)
theorem dX10_drawsLine_86 : decode cX10_drawsLine 86 = .ok (.aload_n 0, 1) := dAX10_drawsLine (86, (.aload_n 0, 1)) (List.mem_of_getElem? (i := 48) rfl)
theorem dX10_drawsLine_87 : decode cX10_drawsLine 87 = .ok (.getfield 23, 3) := dAX10_drawsLine (87, (.getfield 23, 3)) (List.mem_of_getElem? (i := 49) rfl)
theorem dX10_drawsLine_90 : decode cX10_drawsLine 90 = .ok (.bipush 37, 2) := dAX10_drawsLine (90, (.bipush 37, 2)) (List.mem_of_getElem? (i := 50) rfl)
theorem dX10_drawsLine_92 : decode cX10_drawsLine 92 = .ok (.bipush 7, 2) := dAX10_drawsLine (92, (.bipush 7, 2)) (List.mem_of_getElem? (i := 51) rfl)
theorem dX10_drawsLine_94 : decode cX10_drawsLine 94 = .ok (.iload_n 1, 1) := dAX10_drawsLine (94, (.iload_n 1, 1)) (List.mem_of_getElem? (i := 52) rfl)
theorem dX10_drawsLine_95 : decode cX10_drawsLine 95 = .ok (.imul, 1) := dAX10_drawsLine (95, (.imul, 1)) (List.mem_of_getElem? (i := 53) rfl)
theorem dX10_drawsLine_96 : decode cX10_drawsLine 96 = .ok (.iadd, 1) := dAX10_drawsLine (96, (.iadd, 1)) (List.mem_of_getElem? (i := 54) rfl)
theorem dX10_drawsLine_97 : decode cX10_drawsLine 97 = .ok (.iload_n 2, 1) := dAX10_drawsLine (97, (.iload_n 2, 1)) (List.mem_of_getElem? (i := 55) rfl)
theorem dX10_drawsLine_98 : decode cX10_drawsLine 98 = .ok (.iadd, 1) := dAX10_drawsLine (98, (.iadd, 1)) (List.mem_of_getElem? (i := 56) rfl)
theorem dX10_drawsLine_99 : decode cX10_drawsLine 99 = .ok (.iload_n 3, 1) := dAX10_drawsLine (99, (.iload_n 3, 1)) (List.mem_of_getElem? (i := 57) rfl)
theorem dX10_drawsLine_100 : decode cX10_drawsLine 100 = .ok (.iastore, 1) := dAX10_drawsLine (100, (.iastore, 1)) (List.mem_of_getElem? (i := 58) rfl)
theorem dX10_drawsLine_101 : decode cX10_drawsLine 101 = .ok (.aload_n 0, 1) := dAX10_drawsLine (101, (.aload_n 0, 1)) (List.mem_of_getElem? (i := 59) rfl)
theorem dX10_drawsLine_102 : decode cX10_drawsLine 102 = .ok (.getfield 23, 3) := dAX10_drawsLine (102, (.getfield 23, 3)) (List.mem_of_getElem? (i := 60) rfl)
theorem dX10_drawsLine_105 : decode cX10_drawsLine 105 = .ok (.iconst 5, 1) := dAX10_drawsLine (105, (.iconst 5, 1)) (List.mem_of_getElem? (i := 61) rfl)
theorem dX10_drawsLine_106 : decode cX10_drawsLine 106 = .ok (.dup2, 1) := dAX10_drawsLine (106, (.dup2, 1)) (List.mem_of_getElem? (i := 62) rfl)
theorem dX10_drawsLine_107 : decode cX10_drawsLine 107 = .ok (.iaload, 1) := dAX10_drawsLine (107, (.iaload, 1)) (List.mem_of_getElem? (i := 63) rfl)
theorem dX10_drawsLine_108 : decode cX10_drawsLine 108 = .ok (.iconst 1, 1) := dAX10_drawsLine (108, (.iconst 1, 1)) (List.mem_of_getElem? (i := 64) rfl)
theorem dX10_drawsLine_109 : decode cX10_drawsLine 109 = .ok (.iadd, 1) := dAX10_drawsLine (109, (.iadd, 1)) (List.mem_of_getElem? (i := 65) rfl)
theorem dX10_drawsLine_110 : decode cX10_drawsLine 110 = .ok (.iastore, 1) := dAX10_drawsLine (110, (.iastore, 1)) (List.mem_of_getElem? (i := 66) rfl)
theorem dX10_drawsLine_111 : decode cX10_drawsLine 111 = .ok (.return_, 1) := dAX10_drawsLine (111, (.return_, 1)) (List.mem_of_getElem? (i := 67) rfl)
set_option maxRecDepth 20000 in
theorem ggX10_drawsLine_X10_guestPassed : GoodIn wsX10_drawsLine wsX10_guestPassed := goodIn_r _ [8, 1, 9, 10, 11, 7, 12, 3, 13, 14, 15, 16, 17, 18, 19, 20, 21, 22, 23, 24, 25, 26, 27, 28, 29, 30, 31, 32, 33, 34, 35, 36, 37, 38, 39, 40, 41, 42, 43, 44, 45, 46, 47, 48, 49, 50, 51, 52, 53, 54, 55, 56, 57, 58, 59, 60, 61, 62, 63, 64, 65, 66, 67, 68, 69, 70, 71, 72, 73, 74, 75, 76, 77, 78, 79, 80, 81, 82, 2, 83, 84, 85, 86, 87, 88, 89, 90, 91, 92, 93, 94, 95, 96, 97, 98, 99, 100, 101, 102, 103, 120, 121, 122, 123, 124, 125, 126, 127, 128, 129, 130, 131, 132, 133, 134, 135, 136, 137, 138, 139, 140, 141, 142, 143, 144, 145, 146, 147, 148, 149, 150, 151, 152, 153, 154] rfl (by decide +kernel)
set_option maxRecDepth 20000 in
theorem gX10_drawsLine_X10_guestPassed : GoodIn wsX10_drawsLine (wsV RX10 235 RX10 yX10_guestPassed wsX10_guestPassed) := goodIn_app (goodIn_of _ (by decide +kernel)) ggX10_drawsLine_X10_guestPassed
set_option maxRecDepth 20000 in
theorem ggX10_drawsLine_X10_guestHere : GoodIn wsX10_drawsLine wsX10_guestHere := goodIn_r _ [12, 1, 3, 13, 14, 15, 7, 16, 17, 18, 19, 20, 21, 22, 23, 24, 25, 26, 27, 28, 29, 30, 31, 32, 33, 34, 35, 36, 37, 38, 39, 40, 41, 42, 43, 44, 45, 46, 47, 48, 49, 50, 51, 52, 53, 54, 55, 56, 57, 58, 59, 60, 61, 62, 63, 64, 65, 66, 67, 68, 69, 70, 71, 72, 73, 74, 75, 76, 77, 78, 79, 80, 81, 82, 2, 83, 84, 85, 120, 121, 122, 123, 124, 125, 126, 127, 128, 129, 130, 131, 132, 133, 134, 135, 136, 137, 138, 139, 140, 141, 142, 143, 144, 145, 146, 147, 148, 149, 150, 151, 152, 153, 154] rfl (by decide +kernel)
set_option maxRecDepth 20000 in
theorem gX10_drawsLine_X10_guestHere : GoodIn wsX10_drawsLine (wsV RX10 148 RX10 yX10_guestHere wsX10_guestHere) := goodIn_app (goodIn_of _ (by decide +kernel)) ggX10_drawsLine_X10_guestHere
set_option maxRecDepth 20000 in
theorem ggX10_drawsLine_X10_wrong : GoodIn wsX10_drawsLine wsX10_wrong := goodIn_r _ [76, 1, 77, 78, 120, 121, 122, 123, 124, 125, 126, 127, 128, 129, 130, 131, 132, 133, 134, 135, 136, 137, 138, 139, 140, 141, 142, 143, 144, 145, 146, 147, 148, 149, 150, 151, 152, 153, 154] rfl (by decide +kernel)
set_option maxRecDepth 20000 in
theorem gX10_drawsLine_X10_wrong : GoodIn wsX10_drawsLine (wsV RX10 118 RX10 yX10_wrong wsX10_wrong) := goodIn_app (goodIn_of _ (by decide +kernel)) ggX10_drawsLine_X10_wrong
set_option maxRecDepth 20000 in
theorem ggX10_drawsLine_X10_next : GoodIn wsX10_drawsLine wsX10_next := goodIn_r _ [89, 90, 3, 22, 91, 17, 23, 92, 93, 94, 7, 95, 96, 97, 98, 99, 100, 101, 102, 103, 120, 121, 122, 123, 124, 125, 126, 127, 128, 129, 130, 131, 132, 133, 134, 135, 136, 137, 138, 139, 140, 141, 142, 143, 144, 145, 146, 147, 148, 149, 150, 151, 152, 153, 154] rfl (by decide +kernel)
set_option maxRecDepth 20000 in
theorem gX10_drawsLine_X10_next : GoodIn wsX10_drawsLine (wsV RX10 112 RX10 yX10_next wsX10_next) := goodIn_app (goodIn_of _ (by decide +kernel)) ggX10_drawsLine_X10_next
set_option maxRecDepth 20000 in
theorem ggX10_drawsLine_X10_after : GoodIn wsX10_drawsLine wsX10_after := goodIn_r _ [107, 108, 109, 110, 7, 111, 1, 3, 112, 113, 114, 115, 18, 19, 20, 21, 17, 22, 23, 24, 25, 26, 27, 28, 29, 30, 31, 32, 33, 34, 35, 36, 37, 38, 39, 40, 41, 42, 43, 44, 45, 46, 47, 48, 49, 50, 51, 52, 53, 54, 55, 56, 57, 58, 59, 60, 61, 62, 63, 64, 65, 66, 67, 68, 69, 70, 71, 72, 86, 87, 88, 89, 90, 91, 92, 93, 94, 95, 96, 97, 98, 99, 100, 101, 102, 103, 73, 74, 75, 76, 77, 78, 116, 117, 118, 119, 83, 84, 85, 120, 121, 122, 123, 124, 125, 126, 127, 128, 129, 130, 131, 132, 133, 134, 135, 136, 137, 138, 139, 140, 141, 142, 143, 144, 145, 146, 147, 148, 149, 150, 151, 152, 153, 154] rfl (by decide +kernel)
set_option maxRecDepth 20000 in
theorem gX10_drawsLine_X10_after : GoodIn wsX10_drawsLine (wsV RX10 212 RX10 yX10_after wsX10_after) := goodIn_app (goodIn_of _ (by decide +kernel)) ggX10_drawsLine_X10_after
theorem kX10_drawsLine_91 : Cond.fieldLink RX10 91 "EveningVowModel" "failed" "Z" ∈ wsX10_drawsLine := List.mem_of_getElem? (i := 1) rfl
theorem iX10_drawsLine_X10 : ∀ w ∈ u_ws RX10 TX10 35, w ∈ wsX10_drawsLine := fun w h => (List.mem_cons_of_mem _ (List.mem_append_right _ h))
theorem kX10_drawsLine_23 : Cond.fieldLink RX10 23 "EveningVowModel" "fresh" "[I" ∈ wsX10_drawsLine := List.mem_of_getElem? (i := 2) rfl
theorem kX10_drawsLine_72 : Cond.fieldLink RX10 72 "EveningVowModel" "at" "I" ∈ wsX10_drawsLine := List.mem_of_getElem? (i := 3) rfl
set_option maxHeartbeats 4000000 in
set_option maxRecDepth 100000 in
theorem mX10_drawsLine (l : Launch) (g : GG) (a_t : Nat) (p_t : Nat → Nat) (n : Nat) (o_t : Nat → Int32) (f_t_1 : Nat → Int32) (f_t_12 : Nat → Int32) (f_t_16 : Nat → Int32) (o_t' : Nat → Int32) (f_t_12' : Nat → Int32) (f_t_16' : Nat → Int32) (hF : fX10_drawsLine n o_t f_t_1 f_t_12 f_t_16 = some (o_t', f_t_12', f_t_16')) : MV l g yX10_drawsLine wsX10_drawsLine ({ frames := 8, cells := 0, slots := 0, locals := 178 } : Room) [.ref a_t] [oX10 a_t p_t o_t, aI g (p_t 1) 800 f_t_1, aI g (p_t 12) 8 f_t_12, aI g (p_t 16) 266 f_t_16] [oX10 a_t p_t o_t', aI g (p_t 1) 800 f_t_1, aI g (p_t 12) 8 f_t_12', aI g (p_t 16) 266 f_t_16'] := by
  refine MV.of (cc := cX10_drawsLine) (maxL := 4) (own := RX10) rfl rfl (by decide) (Nat.le_of_ble_eq_true rfl) ?_
  intro p e s m args below meth c A C0 hP hD hS ls hl
  obtain ⟨hx, hb, hml, hown, hts, hr, hlk, hK, hA, hSW⟩ := id C0
  have hl : lv_has ls 4 [(0, .ref a_t)] := hl
  rw [fX10_drawsLine] at hF
  refine lv_aload_n hx hb dX10_drawsLine_0 rfl (lv_at hl 0 rfl) ?_
  refine va_get (D := g.1) (ci := 10) (v := .int (o_t 13)) (C := RX10) (T := TX10) (N := 35) hx hb hts iX10_drawsLine_X10 hown hK.1 hP 0 rfl rfl 13 (by decide) (hts _ kX10_drawsLine_91) (fun _ h9 => h9) rfl dX10_drawsLine_1 ?_
  refine lv_if_eq (tgt := 8) hx hb dX10_drawsLine_4 (by decide) (fun c_1 => ?_) (fun c_1 => ?_)
  · have hF := it_p c_1 hF
    refine lv_aload_n hx hb dX10_drawsLine_8 rfl (lv_at hl 0 rfl) ?_
    obtain ⟨u_2, u_3, u_4, hu_5, hF⟩ := ob3_some hF
    refine call_i (wr := []) (As := []) (rest := []) (ci := 10) (q0 := 0) C0 (mX10_guestPassed l g a_t p_t n o_t f_t_1 f_t_12 f_t_16 u_2 u_3 u_4 hu_5) (cwV 0 hts gX10_drawsLine_X10_guestPassed rfl rfl rfl (by decide +kernel) ⟨Nat.le_of_ble_eq_true rfl, Nat.le_of_ble_eq_true rfl⟩) hP hD hS [0, 1, 2, 3] [] rfl rfl rfl rfl rfl (by decide) rfl rfl hl.1 rfl rfl (Nat.le_of_ble_eq_true rfl) ⟨Nat.zero_le _, Nat.zero_le _⟩ dX10_drawsLine_9 ?_
    intro H locs hP hD hS
    refine lv_istore_n (lv' := [(1, .int u_2), (0, .ref a_t)]) hx hb dX10_drawsLine_12 rfl hl (by decide) rfl (fun ls hl => ?_)
    refine lv_aload_n hx hb dX10_drawsLine_13 rfl (lv_at hl 1 rfl) ?_
    obtain ⟨u_6, u_7, hu_8, hF⟩ := ob2_some hF
    refine call_i (wr := [aI g (p_t 1) 800 f_t_1]) (As := []) (rest := []) (ci := 10) (q0 := 0) C0 (mX10_guestHere l g a_t p_t n u_3 u_4 f_t_16 u_6 u_7 hu_8) (cwV 0 hts gX10_drawsLine_X10_guestHere rfl rfl rfl (by decide +kernel) ⟨Nat.le_of_ble_eq_true rfl, Nat.le_of_ble_eq_true rfl⟩) hP hD hS [0, 2, 3] [1] rfl rfl rfl rfl rfl (by decide) rfl rfl hl.1 rfl rfl (Nat.le_of_ble_eq_true rfl) ⟨Nat.zero_le _, Nat.zero_le _⟩ dX10_drawsLine_14 ?_
    intro H locs hP hD hS
    refine lv_istore_n (lv' := [(2, .int u_6), (1, .int u_2), (0, .ref a_t)]) hx hb dX10_drawsLine_17 rfl hl (by decide) rfl (fun ls hl => ?_)
    refine lv_aload_n hx hb dX10_drawsLine_18 rfl (lv_at hl 2 rfl) ?_
    refine va_get (D := g.1) (ci := 10) (v := .int (u_7 13)) (C := RX10) (T := TX10) (N := 35) hx hb hts iX10_drawsLine_X10 hown hK.1 hP 1 rfl rfl 13 (by decide) (hts _ kX10_drawsLine_91) (fun _ h9 => h9) rfl dX10_drawsLine_19 ?_
    obtain ⟨J56, eJ56, hF⟩ := jn_some hF
    have hJ56 : ∀ (o_t_56 : Nat → Int32) (H : Heap) (locs : List Loc) (ls : Array Slot), J56 o_t_56 = some (o_t', f_t_12', f_t_16') → va_P g.1 vwCl [aI g (p_t 1) 800 f_t_1, oX10 a_t p_t o_t_56, aI g (p_t 12) 8 u_4, aI g (p_t 16) 266 f_t_16] H → va_D A [aI g (p_t 1) 800 f_t_1, oX10 a_t p_t o_t_56, aI g (p_t 12) 8 u_4, aI g (p_t 16) 266 f_t_16] → va_S A s.heap H locs → lv_has ls 4 [(0, .ref a_t), (1, .int u_2), (2, .int u_6)] → W p l e ({ frames := 8, cells := 0, slots := 0, locals := 178 } : Room) s m args below meth c H locs 0 0 (MQ below (EndV g [oX10 a_t p_t o_t', aI g (p_t 1) 800 f_t_1, aI g (p_t 12) 8 f_t_12', aI g (p_t 16) 266 f_t_16'] A) args s 0 0 A) (F0 m 56 ls []) := by
      intro o_t_56 H locs ls hF hP hD hS hl
      have hF := jj1 eJ56 hF
      refine lv_aload_n hx hb dX10_drawsLine_56 rfl (lv_at hl 0 rfl) ?_
      refine va_get (D := g.1) (ci := 10) (v := .int (o_t_56 13)) (C := RX10) (T := TX10) (N := 35) hx hb hts iX10_drawsLine_X10 hown hK.1 hP 1 rfl rfl 13 (by decide) (hts _ kX10_drawsLine_91) (fun _ h9 => h9) rfl dX10_drawsLine_57 ?_
      refine lv_if_eq (tgt := 64) hx hb dX10_drawsLine_60 (by decide) (fun c_9 => ?_) (fun c_9 => ?_)
      · have hF := it_p c_9 hF
        refine lv_aload_n hx hb dX10_drawsLine_64 rfl (lv_at hl 0 rfl) ?_
        obtain ⟨u_10, u_11, hu_12, hF⟩ := ob2_some hF
        refine call_v (wr := [aI g (p_t 16) 266 f_t_16]) (As := []) (rest := []) (ci := 10) (q0 := 0) C0 (mX10_next l g a_t p_t n o_t_56 f_t_1 u_4 u_10 u_11 hu_12) (cwV 0 hts gX10_drawsLine_X10_next rfl rfl rfl (by decide +kernel) ⟨Nat.le_of_ble_eq_true rfl, Nat.le_of_ble_eq_true rfl⟩) hP hD hS [1, 0, 2] [3] rfl rfl rfl rfl rfl (by decide) rfl rfl hl.1 rfl rfl (Nat.le_of_ble_eq_true rfl) ⟨Nat.zero_le _, Nat.zero_le _⟩ dX10_drawsLine_65 ?_
        intro H locs hP hD hS
        refine lv_aload_n hx hb dX10_drawsLine_68 rfl (lv_at hl 0 rfl) ?_
        refine va_ldcS (own := RX10) (index := 238) (q := gK g 17) hx hb hown (hK.2.2 17 (by decide)) dX10_drawsLine_69 ?_
        refine lv_iconst (v := (1 : Int32)) hx hb dX10_drawsLine_71 (by decide) ?_
        refine lv_bipush (v := (20 : Int32)) hx hb dX10_drawsLine_72 (by decide) ?_
        obtain ⟨u_13, u_14, u_15, hu_16, hF⟩ := ob3_some hF
        refine call_i (wr := [aI g (p_t 16) 266 f_t_16]) (As := [.ref (gK g 17), .int (1 : Int32), .int (20 : Int32)]) (rest := []) (ci := 10) (q0 := 0) C0 (mX10_after l g a_t p_t n 17 (1 : Int32) (20 : Int32) u_10 f_t_1 u_11 u_13 u_14 u_15 (by decide) hu_16) (cwV 3 hts gX10_drawsLine_X10_after rfl rfl rfl (by decide +kernel) ⟨Nat.le_of_ble_eq_true rfl, Nat.le_of_ble_eq_true rfl⟩) hP hD hS [1, 2, 3] [0] rfl rfl rfl rfl rfl (by decide) rfl rfl hl.1 rfl rfl (Nat.le_of_ble_eq_true rfl) ⟨Nat.zero_le _, Nat.zero_le _⟩ dX10_drawsLine_74 ?_
        intro H locs hP hD hS
        refine lv_istore_n (lv' := [(3, .int u_13), (0, .ref a_t), (1, .int u_2), (2, .int u_6)]) hx hb dX10_drawsLine_77 rfl hl (by decide) rfl (fun ls hl => ?_)
        refine lv_aload_n hx hb dX10_drawsLine_78 rfl (lv_at hl 1 rfl) ?_
        refine va_get (D := g.1) (ci := 10) (v := .int (u_14 13)) (C := RX10) (T := TX10) (N := 35) hx hb hts iX10_drawsLine_X10 hown hK.1 hP 1 rfl rfl 13 (by decide) (hts _ kX10_drawsLine_91) (fun _ h9 => h9) rfl dX10_drawsLine_79 ?_
        refine lv_if_eq (tgt := 86) hx hb dX10_drawsLine_82 (by decide) (fun c_17 => ?_) (fun c_17 => ?_)
        · have hF := it_p c_17 hF
          refine lv_aload_n hx hb dX10_drawsLine_86 rfl (lv_at hl 1 rfl) ?_
          refine va_get (D := g.1) (ci := 10) (v := .ref (p_t 16)) (C := RX10) (T := TX10) (N := 35) hx hb hts iX10_drawsLine_X10 hown hK.1 hP 1 rfl rfl 16 (by decide) (hts _ kX10_drawsLine_23) (fun _ h9 => h9) rfl dX10_drawsLine_87 ?_
          refine lv_bipush (v := (37 : Int32)) hx hb dX10_drawsLine_90 (by decide) ?_
          refine lv_bipush (v := (7 : Int32)) hx hb dX10_drawsLine_92 (by decide) ?_
          refine lv_iload_n hx hb dX10_drawsLine_94 rfl (lv_at hl 2 rfl) ?_
          refine lv_imul hx hb dX10_drawsLine_95 ?_
          refine lv_iadd hx hb dX10_drawsLine_96 ?_
          refine lv_iload_n hx hb dX10_drawsLine_97 rfl (lv_at hl 3 rfl) ?_
          refine lv_iadd hx hb dX10_drawsLine_98 ?_
          refine lv_iload_n hx hb dX10_drawsLine_99 rfl (lv_at hl 0 rfl) ?_
          obtain ⟨h_18, hF⟩ := it_ck hF
          refine va_iast hx hb hK.1 hP hD hS 0 0 rfl rfl h_18 dX10_drawsLine_100 (fun H locs hP hD hS => ?_)
          have hP : va_P g.1 vwCl [aI g (p_t 16) 266 (upd f_t_16 ((((37 : Int32) + ((7 : Int32) * u_2)) + u_6)).toNatClampNeg u_13), oX10 a_t p_t u_14, aI g (p_t 1) 800 f_t_1, aI g (p_t 12) 8 u_15] H := hP
          have hD : va_D A [aI g (p_t 16) 266 (upd f_t_16 ((((37 : Int32) + ((7 : Int32) * u_2)) + u_6)).toNatClampNeg u_13), oX10 a_t p_t u_14, aI g (p_t 1) 800 f_t_1, aI g (p_t 12) 8 u_15] := hD
          refine lv_aload_n hx hb dX10_drawsLine_101 rfl (lv_at hl 1 rfl) ?_
          refine va_get (D := g.1) (ci := 10) (v := .ref (p_t 16)) (C := RX10) (T := TX10) (N := 35) hx hb hts iX10_drawsLine_X10 hown hK.1 hP 1 rfl rfl 16 (by decide) (hts _ kX10_drawsLine_23) (fun _ h9 => h9) rfl dX10_drawsLine_102 ?_
          refine lv_iconst (v := (5 : Int32)) hx hb dX10_drawsLine_105 (by decide) ?_
          refine lv_dup2_11 hx hb dX10_drawsLine_106 rfl rfl ?_
          refine va_iald_k (j := 5) hx hb hK.1 hP 0 0 rfl rfl (by unfold vp_in; decide) rfl dX10_drawsLine_107 ?_
          refine lv_iconst (v := (1 : Int32)) hx hb dX10_drawsLine_108 (by decide) ?_
          refine lv_iadd hx hb dX10_drawsLine_109 ?_
          refine va_iast hx hb hK.1 hP hD hS 0 0 rfl rfl (by unfold vp_in; decide) dX10_drawsLine_110 (fun H locs hP hD hS => ?_)
          have hP : va_P g.1 vwCl [aI g (p_t 16) 266 (upd (upd f_t_16 ((((37 : Int32) + ((7 : Int32) * u_2)) + u_6)).toNatClampNeg u_13) 5 (((upd f_t_16 ((((37 : Int32) + ((7 : Int32) * u_2)) + u_6)).toNatClampNeg u_13) 5) + (1 : Int32))), oX10 a_t p_t u_14, aI g (p_t 1) 800 f_t_1, aI g (p_t 12) 8 u_15] H := hP
          have hD : va_D A [aI g (p_t 16) 266 (upd (upd f_t_16 ((((37 : Int32) + ((7 : Int32) * u_2)) + u_6)).toNatClampNeg u_13) 5 (((upd f_t_16 ((((37 : Int32) + ((7 : Int32) * u_2)) + u_6)).toNatClampNeg u_13) 5) + (1 : Int32))), oX10 a_t p_t u_14, aI g (p_t 1) 800 f_t_1, aI g (p_t 12) 8 u_15] := hD
          cases hF
          exact ret_v C0 hP hD hS [1, 2, 3, 0] rfl rfl rfl dX10_drawsLine_111
        · have hF := it_n c_17 hF
          cases hF
          exact ret_v C0 hP hD hS [1, 2, 3, 0] rfl rfl rfl dX10_drawsLine_85
      · have hF := it_n c_9 hF
        cases hF
        exact ret_v C0 hP hD hS [1, 0, 2, 3] rfl rfl rfl dX10_drawsLine_63
    refine lv_if_ne (tgt := 56) hx hb dX10_drawsLine_22 (by decide) (fun c_19 => ?_) (fun c_19 => ?_)
    · have hF := it_n c_19 hF
      exact hJ56 u_7 _ _ _ hF (hP.sub [0, 1, 2, 3] rfl) (hD.sub [0, 1, 2, 3] rfl rfl) hS (lv_sub hl [2, 1, 0] rfl)
    · have hF := it_p c_19 hF
      refine lv_iload_n hx hb dX10_drawsLine_25 rfl (lv_at hl 1 rfl) ?_
      refine lv_iload_n hx hb dX10_drawsLine_26 rfl (lv_at hl 0 rfl) ?_
      refine lv_icmp_eq (tgt := 47) hx hb dX10_drawsLine_27 (by decide) (fun c_20 => ?_) (fun c_20 => ?_)
      · have hF := it_p c_20 hF
        refine lv_aload_n hx hb dX10_drawsLine_47 rfl (lv_at hl 2 rfl) ?_
        refine lv_iconst (v := (3 : Int32)) hx hb dX10_drawsLine_48 (by decide) ?_
        refine lv_aload_n hx hb dX10_drawsLine_49 rfl (lv_at hl 2 rfl) ?_
        refine va_get (D := g.1) (ci := 10) (v := .int (u_7 4)) (C := RX10) (T := TX10) (N := 35) hx hb hts iX10_drawsLine_X10 hown hK.1 hP 1 rfl rfl 4 (by decide) (hts _ kX10_drawsLine_72) (fun _ h9 => h9) rfl dX10_drawsLine_50 ?_
        obtain ⟨u_21, hu_22, hF⟩ := ob1_some hF
        refine call_v (wr := [aI g (p_t 1) 800 f_t_1, aI g (p_t 12) 8 u_4, aI g (p_t 16) 266 f_t_16]) (As := [.int (3 : Int32), .int (u_7 4)]) (rest := []) (ci := 10) (q0 := 0) C0 (mX10_wrong l g a_t p_t n (3 : Int32) (u_7 4) u_7 u_21 hu_22) (cwV 2 hts gX10_drawsLine_X10_wrong rfl rfl rfl (by decide +kernel) ⟨Nat.le_of_ble_eq_true rfl, Nat.le_of_ble_eq_true rfl⟩) hP hD hS [1] [0, 2, 3] rfl rfl rfl rfl rfl (by decide) rfl rfl hl.1 rfl rfl (Nat.le_of_ble_eq_true rfl) ⟨Nat.zero_le _, Nat.zero_le _⟩ dX10_drawsLine_53 ?_
        intro H locs hP hD hS
        exact hJ56 u_21 _ _ _ hF (hP.sub [0, 3, 1, 2] rfl) (hD.sub [0, 3, 1, 2] rfl rfl) hS (lv_sub hl [2, 1, 0] rfl)
      · have hF := it_n c_20 hF
        refine lv_aload_n hx hb dX10_drawsLine_30 rfl (lv_at hl 2 rfl) ?_
        refine va_get (D := g.1) (ci := 10) (v := .ref (p_t 16)) (C := RX10) (T := TX10) (N := 35) hx hb hts iX10_drawsLine_X10 hown hK.1 hP 1 rfl rfl 16 (by decide) (hts _ kX10_drawsLine_23) (fun _ h9 => h9) rfl dX10_drawsLine_31 ?_
        refine lv_bipush (v := (37 : Int32)) hx hb dX10_drawsLine_34 (by decide) ?_
        refine lv_bipush (v := (7 : Int32)) hx hb dX10_drawsLine_36 (by decide) ?_
        refine lv_iload_n hx hb dX10_drawsLine_38 rfl (lv_at hl 1 rfl) ?_
        refine lv_imul hx hb dX10_drawsLine_39 ?_
        refine lv_iadd hx hb dX10_drawsLine_40 ?_
        refine lv_iload_n hx hb dX10_drawsLine_41 rfl (lv_at hl 0 rfl) ?_
        refine lv_iadd hx hb dX10_drawsLine_42 ?_
        obtain ⟨h_23, hF⟩ := it_ck hF
        refine va_iald hx hb hK.1 hP 3 0 rfl rfl h_23 dX10_drawsLine_43 ?_
        refine lv_if_le (tgt := 56) hx hb dX10_drawsLine_44 (by decide) (fun c_24 => ?_) (fun c_24 => ?_)
        · have hF := it_p c_24 hF
          exact hJ56 u_7 _ _ _ hF (hP.sub [0, 1, 2, 3] rfl) (hD.sub [0, 1, 2, 3] rfl rfl) hS (lv_sub hl [2, 1, 0] rfl)
        · have hF := it_n c_24 hF
          refine lv_aload_n hx hb dX10_drawsLine_47 rfl (lv_at hl 2 rfl) ?_
          refine lv_iconst (v := (3 : Int32)) hx hb dX10_drawsLine_48 (by decide) ?_
          refine lv_aload_n hx hb dX10_drawsLine_49 rfl (lv_at hl 2 rfl) ?_
          refine va_get (D := g.1) (ci := 10) (v := .int (u_7 4)) (C := RX10) (T := TX10) (N := 35) hx hb hts iX10_drawsLine_X10 hown hK.1 hP 1 rfl rfl 4 (by decide) (hts _ kX10_drawsLine_72) (fun _ h9 => h9) rfl dX10_drawsLine_50 ?_
          obtain ⟨u_25, hu_26, hF⟩ := ob1_some hF
          refine call_v (wr := [aI g (p_t 1) 800 f_t_1, aI g (p_t 12) 8 u_4, aI g (p_t 16) 266 f_t_16]) (As := [.int (3 : Int32), .int (u_7 4)]) (rest := []) (ci := 10) (q0 := 0) C0 (mX10_wrong l g a_t p_t n (3 : Int32) (u_7 4) u_7 u_25 hu_26) (cwV 2 hts gX10_drawsLine_X10_wrong rfl rfl rfl (by decide +kernel) ⟨Nat.le_of_ble_eq_true rfl, Nat.le_of_ble_eq_true rfl⟩) hP hD hS [1] [0, 2, 3] rfl rfl rfl rfl rfl (by decide) rfl rfl hl.1 rfl rfl (Nat.le_of_ble_eq_true rfl) ⟨Nat.zero_le _, Nat.zero_le _⟩ dX10_drawsLine_53 ?_
          intro H locs hP hD hS
          exact hJ56 u_25 _ _ _ hF (hP.sub [0, 3, 1, 2] rfl) (hD.sub [0, 3, 1, 2] rfl rfl) hS (lv_sub hl [2, 1, 0] rfl)
  · have hF := it_n c_1 hF
    cases hF
    exact ret_v C0 hP hD hS [0, 1, 2, 3] rfl rfl rfl dX10_drawsLine_7

