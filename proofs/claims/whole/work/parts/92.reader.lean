theorem dAX5_putNumber : ∀ q ∈ ([(0, (.bipush 24, 2)), (2, (.istore_n 2, 1)), (3, (.iload_n 2, 1)), (4, (.ifCond .lt 45, 3)), (7, (.aload_n 0, 1)), (8, (.getfield 15, 3)), (11, (.sipush 800, 3)), (14, (.if_icmp .ge 35, 3)), (17, (.aload_n 0, 1)), (18, (.getfield 9, 3)), (21, (.aload_n 0, 1)), (22, (.getfield 15, 3)), (25, (.iload_n 1, 1)), (26, (.iload_n 2, 1)), (27, (.iushr, 1)), (28, (.sipush 255, 3)), (31, (.iand, 1)), (32, (.iastore, 1)), (33, (.aload_n 0, 1)), (34, (.dup, 1)), (35, (.getfield 15, 3)), (38, (.iconst 1, 1)), (39, (.iadd, 1)), (40, (.putfield 15, 3)), (43, (.iinc 2 (-8), 3)), (46, (.goto (-43), 3)), (49, (.return_, 1))] : List (Nat × (Instr × Nat))), decode cX5_putNumber q.1 = .ok q.2 := by decide +kernel
theorem dX5_putNumber_0 : decode cX5_putNumber 0 = .ok (.bipush 24, 2) := dAX5_putNumber (0, (.bipush 24, 2)) (List.mem_of_getElem? (i := 0) rfl)
theorem dX5_putNumber_2 : decode cX5_putNumber 2 = .ok (.istore_n 2, 1) := dAX5_putNumber (2, (.istore_n 2, 1)) (List.mem_of_getElem? (i := 1) rfl)
theorem dX5_putNumber_3 : decode cX5_putNumber 3 = .ok (.iload_n 2, 1) := dAX5_putNumber (3, (.iload_n 2, 1)) (List.mem_of_getElem? (i := 2) rfl)
theorem dX5_putNumber_4 : decode cX5_putNumber 4 = .ok (.ifCond .lt 45, 3) := dAX5_putNumber (4, (.ifCond .lt 45, 3)) (List.mem_of_getElem? (i := 3) rfl)
theorem dX5_putNumber_7 : decode cX5_putNumber 7 = .ok (.aload_n 0, 1) := dAX5_putNumber (7, (.aload_n 0, 1)) (List.mem_of_getElem? (i := 4) rfl)
theorem dX5_putNumber_8 : decode cX5_putNumber 8 = .ok (.getfield 15, 3) := dAX5_putNumber (8, (.getfield 15, 3)) (List.mem_of_getElem? (i := 5) rfl)
theorem dX5_putNumber_11 : decode cX5_putNumber 11 = .ok (.sipush 800, 3) := dAX5_putNumber (11, (.sipush 800, 3)) (List.mem_of_getElem? (i := 6) rfl)
theorem dX5_putNumber_14 : decode cX5_putNumber 14 = .ok (.if_icmp .ge 35, 3) := dAX5_putNumber (14, (.if_icmp .ge 35, 3)) (List.mem_of_getElem? (i := 7) rfl)
theorem dX5_putNumber_17 : decode cX5_putNumber 17 = .ok (.aload_n 0, 1) := dAX5_putNumber (17, (.aload_n 0, 1)) (List.mem_of_getElem? (i := 8) rfl)
theorem dX5_putNumber_18 : decode cX5_putNumber 18 = .ok (.getfield 9, 3) := dAX5_putNumber (18, (.getfield 9, 3)) (List.mem_of_getElem? (i := 9) rfl)
theorem dX5_putNumber_21 : decode cX5_putNumber 21 = .ok (.aload_n 0, 1) := dAX5_putNumber (21, (.aload_n 0, 1)) (List.mem_of_getElem? (i := 10) rfl)
theorem dX5_putNumber_22 : decode cX5_putNumber 22 = .ok (.getfield 15, 3) := dAX5_putNumber (22, (.getfield 15, 3)) (List.mem_of_getElem? (i := 11) rfl)
theorem dX5_putNumber_25 : decode cX5_putNumber 25 = .ok (.iload_n 1, 1) := dAX5_putNumber (25, (.iload_n 1, 1)) (List.mem_of_getElem? (i := 12) rfl)
theorem dX5_putNumber_26 : decode cX5_putNumber 26 = .ok (.iload_n 2, 1) := dAX5_putNumber (26, (.iload_n 2, 1)) (List.mem_of_getElem? (i := 13) rfl)
theorem dX5_putNumber_27 : decode cX5_putNumber 27 = .ok (.iushr, 1) := dAX5_putNumber (27, (.iushr, 1)) (List.mem_of_getElem? (i := 14) rfl)
theorem dX5_putNumber_28 : decode cX5_putNumber 28 = .ok (.sipush 255, 3) := dAX5_putNumber (28, (.sipush 255, 3)) (List.mem_of_getElem? (i := 15) rfl)
theorem dX5_putNumber_31 : decode cX5_putNumber 31 = .ok (.iand, 1) := dAX5_putNumber (31, (.iand, 1)) (List.mem_of_getElem? (i := 16) rfl)
theorem dX5_putNumber_32 : decode cX5_putNumber 32 = .ok (.iastore, 1) := dAX5_putNumber (32, (.iastore, 1)) (List.mem_of_getElem? (i := 17) rfl)
theorem dX5_putNumber_33 : decode cX5_putNumber 33 = .ok (.aload_n 0, 1) := dAX5_putNumber (33, (.aload_n 0, 1)) (List.mem_of_getElem? (i := 18) rfl)
theorem dX5_putNumber_34 : decode cX5_putNumber 34 = .ok (.dup, 1) := dAX5_putNumber (34, (.dup, 1)) (List.mem_of_getElem? (i := 19) rfl)
theorem dX5_putNumber_35 : decode cX5_putNumber 35 = .ok (.getfield 15, 3) := dAX5_putNumber (35, (.getfield 15, 3)) (List.mem_of_getElem? (i := 20) rfl)
theorem dX5_putNumber_38 : decode cX5_putNumber 38 = .ok (.iconst 1, 1) := dAX5_putNumber (38, (.iconst 1, 1)) (List.mem_of_getElem? (i := 21) rfl)
theorem dX5_putNumber_39 : decode cX5_putNumber 39 = .ok (.iadd, 1) := dAX5_putNumber (39, (.iadd, 1)) (List.mem_of_getElem? (i := 22) rfl)
theorem dX5_putNumber_40 : decode cX5_putNumber 40 = .ok (.putfield 15, 3) := dAX5_putNumber (40, (.putfield 15, 3)) (List.mem_of_getElem? (i := 23) rfl)
theorem dX5_putNumber_43 : decode cX5_putNumber 43 = .ok (.iinc 2 (-8), 3) := dAX5_putNumber (43, (.iinc 2 (-8), 3)) (List.mem_of_getElem? (i := 24) rfl)
theorem dX5_putNumber_46 : decode cX5_putNumber 46 = .ok (.goto (-43), 3) := dAX5_putNumber (46, (.goto (-43), 3)) (List.mem_of_getElem? (i := 25) rfl)
theorem dX5_putNumber_49 : decode cX5_putNumber 49 = .ok (.return_, 1) := dAX5_putNumber (49, (.return_, 1)) (List.mem_of_getElem? (i := 26) rfl)
theorem kX5_putNumber_15 : Cond.fieldLink RX5 15 "EveningVow$Reader" "tapeBytes" "I" ∈ wsX5_putNumber := List.mem_of_getElem? (i := 1) rfl
theorem iX5_putNumber_X5 : ∀ w ∈ u_ws RX5 TX5 15, w ∈ wsX5_putNumber := fun w h => (List.mem_cons_of_mem _ (List.mem_append_right _ h))
theorem kX5_putNumber_9 : Cond.fieldLink RX5 9 "EveningVow$Reader" "tape" "[I" ∈ wsX5_putNumber := List.mem_of_getElem? (i := 2) rfl
set_option maxHeartbeats 4000000 in
set_option maxRecDepth 100000 in
theorem wX5_putNumber_L3 {p : Program} {l : Launch} {e : Env} {s : State} {m : MethodId} {args : Array Value} {below : List Frame} {meth : Method} {c : Code} {g : GG} {A : Nat → Prop} (C0 : Cx p s m args meth c cX5_putNumber 3 none RX5 wsX5_putNumber g A) (a_t : Nat) (p_t : Nat → Nat) (n : Nat) (x1 : Int32)  (o_t' : Nat → Int32) (c_t' : Int64) (f_t_0' : Nat → Int32) (K : (Nat → Int32) → Int64 → (Nat → Int32) → Option ((Nat → Int32) × Int64 × (Nat → Int32))) (hKx : ∀ (o_t : Nat → Int32) (c_t : Int64) (f_t_0 : Nat → Int32) (H : Heap) (locs : List Loc) (ls : Array Slot), K o_t c_t f_t_0 = some (o_t', c_t', f_t_0') → va_P g.1 vwCl [oX5 a_t p_t o_t c_t, aI g (p_t 0) 800 f_t_0] H → va_D A [oX5 a_t p_t o_t c_t, aI g (p_t 0) 800 f_t_0] → va_S A s.heap H locs → lv_has ls 3 [] → W p l e ({ frames := 0, cells := 0, slots := 0, locals := 0 } : Room) s m args below meth c H locs 0 0 (MQ below (EndV g [oX5 a_t p_t o_t' c_t', aI g (p_t 0) 800 f_t_0'] A) args s 0 0 A) (F0 m 49 ls [])) : ∀ (k : Nat) (x2 : Int32) (o_t : Nat → Int32) (c_t : Int64) (f_t_0 : Nat → Int32), fX5_putNumber_L3 n x1 K k x2 o_t c_t f_t_0 = some (o_t', c_t', f_t_0') → ∀ (H : Heap) (locs : List Loc) (ls : Array Slot), va_P g.1 vwCl [oX5 a_t p_t o_t c_t, aI g (p_t 0) 800 f_t_0] H → va_D A [oX5 a_t p_t o_t c_t, aI g (p_t 0) 800 f_t_0] → va_S A s.heap H locs → lv_has ls 3 [(0, .ref a_t), (1, .int x1), (2, .int x2)] → W p l e ({ frames := 0, cells := 0, slots := 0, locals := 0 } : Room) s m args below meth c H locs 0 0 (MQ below (EndV g [oX5 a_t p_t o_t' c_t', aI g (p_t 0) 800 f_t_0'] A) args s 0 0 A) (F0 m 3 ls []) := by
  obtain ⟨hx, hb, hml, hown, hts, hr, hlk, hK, hA, hSW⟩ := id C0
  intro k
  induction k with
  | zero =>
    intro x2 o_t c_t f_t_0 hF
    exact absurd hF (by simp [fX5_putNumber_L3])
  | succ k ih =>
    intro x2 o_t c_t f_t_0 hF H locs ls hP hD hS hl
    rw [fX5_putNumber_L3] at hF
    refine lv_iload_n hx hb dX5_putNumber_3 rfl (lv_at hl 2 rfl) ?_
    refine lv_if_lt (tgt := 49) hx hb dX5_putNumber_4 (by decide) (fun c_1 => ?_) (fun c_1 => ?_)
    · have hF := it_p c_1 hF
      exact hKx o_t c_t f_t_0 _ _ _ hF (hP.sub [0, 1] rfl) (hD.sub [0, 1] rfl rfl) hS (lv_sub hl [] rfl)
    · have hF := it_n c_1 hF
      refine lv_aload_n hx hb dX5_putNumber_7 rfl (lv_at hl 0 rfl) ?_
      refine va_get (D := g.1) (ci := 5) (v := .int (o_t 1)) (C := RX5) (T := TX5) (N := 15) hx hb hts iX5_putNumber_X5 hown hK.1 hP 0 rfl rfl 1 (by decide) (hts _ kX5_putNumber_15) (fun _ h9 => h9) rfl dX5_putNumber_8 ?_
      refine lv_sipush (v := (800 : Int32)) hx hb dX5_putNumber_11 (by decide) ?_
      refine lv_icmp_ge (tgt := 49) hx hb dX5_putNumber_14 (by decide) (fun c_2 => ?_) (fun c_2 => ?_)
      · have hF := it_p c_2 hF
        exact hKx o_t c_t f_t_0 _ _ _ hF (hP.sub [0, 1] rfl) (hD.sub [0, 1] rfl rfl) hS (lv_sub hl [] rfl)
      · have hF := it_n c_2 hF
        refine lv_aload_n hx hb dX5_putNumber_17 rfl (lv_at hl 0 rfl) ?_
        refine va_get (D := g.1) (ci := 5) (v := .ref (p_t 0)) (C := RX5) (T := TX5) (N := 15) hx hb hts iX5_putNumber_X5 hown hK.1 hP 0 rfl rfl 0 (by decide) (hts _ kX5_putNumber_9) (fun _ h9 => h9) rfl dX5_putNumber_18 ?_
        refine lv_aload_n hx hb dX5_putNumber_21 rfl (lv_at hl 0 rfl) ?_
        refine va_get (D := g.1) (ci := 5) (v := .int (o_t 1)) (C := RX5) (T := TX5) (N := 15) hx hb hts iX5_putNumber_X5 hown hK.1 hP 0 rfl rfl 1 (by decide) (hts _ kX5_putNumber_15) (fun _ h9 => h9) rfl dX5_putNumber_22 ?_
        refine lv_iload_n hx hb dX5_putNumber_25 rfl (lv_at hl 1 rfl) ?_
        refine lv_iload_n hx hb dX5_putNumber_26 rfl (lv_at hl 2 rfl) ?_
        refine lv_iushr (v := (((x1).toUInt32 >>> ((x2).toUInt32 &&& Int32.toUInt32 31)).toInt32)) hx hb dX5_putNumber_27 rfl ?_
        refine lv_sipush (v := (255 : Int32)) hx hb dX5_putNumber_28 (by decide) ?_
        refine lv_iand hx hb dX5_putNumber_31 ?_
        obtain ⟨h_3, hF⟩ := it_ck hF
        refine va_iast hx hb hK.1 hP hD hS 1 0 rfl rfl h_3 dX5_putNumber_32 (fun H locs hP hD hS => ?_)
        have hP : va_P g.1 vwCl [oX5 a_t p_t o_t c_t, aI g (p_t 0) 800 (upd f_t_0 ((o_t 1)).toNatClampNeg ((((x1).toUInt32 >>> ((x2).toUInt32 &&& Int32.toUInt32 31)).toInt32) &&& (255 : Int32)))] H := hP
        have hD : va_D A [oX5 a_t p_t o_t c_t, aI g (p_t 0) 800 (upd f_t_0 ((o_t 1)).toNatClampNeg ((((x1).toUInt32 >>> ((x2).toUInt32 &&& Int32.toUInt32 31)).toInt32) &&& (255 : Int32)))] := hD
        refine lv_aload_n hx hb dX5_putNumber_33 rfl (lv_at hl 0 rfl) ?_
        refine lv_dup hx hb dX5_putNumber_34 rfl ?_
        refine va_get (D := g.1) (ci := 5) (v := .int (o_t 1)) (C := RX5) (T := TX5) (N := 15) hx hb hts iX5_putNumber_X5 hown hK.1 hP 0 rfl rfl 1 (by decide) (hts _ kX5_putNumber_15) (fun _ h9 => h9) rfl dX5_putNumber_35 ?_
        refine lv_iconst (v := (1 : Int32)) hx hb dX5_putNumber_38 (by decide) ?_
        refine lv_iadd hx hb dX5_putNumber_39 ?_
        refine va_put (D := g.1) (ci := 5) (v := .int ((o_t 1) + (1 : Int32))) (ty := .int) (C := RX5) (T := TX5) (N := 15) hx hb hts iX5_putNumber_X5 tyX5 tyX5_ok nmX5 hown hK.1 hP hD hS 0 rfl rfl 1 (by decide) (hts _ kX5_putNumber_15) (fun _ h9 => h9) rfl (by decide +kernel) rfl rfl (Nat.le_of_ble_eq_true rfl) dX5_putNumber_40 (fun H locs hP hD hS => ?_)
        have hP : va_P g.1 vwCl [oX5 a_t p_t (upd o_t 1 ((o_t 1) + (1 : Int32))) c_t, aI g (p_t 0) 800 (upd f_t_0 ((o_t 1)).toNatClampNeg ((((x1).toUInt32 >>> ((x2).toUInt32 &&& Int32.toUInt32 31)).toInt32) &&& (255 : Int32)))] H := hP
        have hD : va_D A [oX5 a_t p_t (upd o_t 1 ((o_t 1) + (1 : Int32))) c_t, aI g (p_t 0) 800 (upd f_t_0 ((o_t 1)).toNatClampNeg ((((x1).toUInt32 >>> ((x2).toUInt32 &&& Int32.toUInt32 31)).toInt32) &&& (255 : Int32)))] := hD
        refine lv_iinc (v := (x2 + (-8 : Int32))) (lv' := [(2, .int (x2 + (-8 : Int32))), (0, .ref a_t), (1, .int x1)]) hx hb dX5_putNumber_43 hl (k := 2) rfl rfl (by decide) rfl (fun ls hl => ?_)
        refine lv_goto (tgt := 3) hx hb dX5_putNumber_46 (by decide) ?_
        exact ih (x2 + (-8 : Int32)) (upd o_t 1 ((o_t 1) + (1 : Int32))) c_t (upd f_t_0 ((o_t 1)).toNatClampNeg ((((x1).toUInt32 >>> ((x2).toUInt32 &&& Int32.toUInt32 31)).toInt32) &&& (255 : Int32))) hF _ _ _ (hP.sub [0, 1] rfl) (hD.sub [0, 1] rfl rfl) hS (lv_sub hl [1, 2, 0] rfl)
set_option maxHeartbeats 4000000 in
set_option maxRecDepth 100000 in
theorem mX5_putNumber (l : Launch) (g : GG) (a_t : Nat) (p_t : Nat → Nat) (n : Nat) (x1 : Int32) (o_t : Nat → Int32) (c_t : Int64) (f_t_0 : Nat → Int32) (o_t' : Nat → Int32) (c_t' : Int64) (f_t_0' : Nat → Int32) (hF : fX5_putNumber n x1 o_t c_t f_t_0 = some (o_t', c_t', f_t_0')) : MV l g yX5_putNumber wsX5_putNumber ({ frames := 0, cells := 0, slots := 0, locals := 0 } : Room) [.ref a_t, .int x1] [oX5 a_t p_t o_t c_t, aI g (p_t 0) 800 f_t_0] [oX5 a_t p_t o_t' c_t', aI g (p_t 0) 800 f_t_0'] := by
  refine MV.of (cc := cX5_putNumber) (maxL := 3) (own := RX5) rfl rfl (by decide) (Nat.le_of_ble_eq_true rfl) ?_
  intro p e s m args below meth c A C0 hP hD hS ls hl
  obtain ⟨hx, hb, hml, hown, hts, hr, hlk, hK, hA, hSW⟩ := id C0
  have hl : lv_has ls 3 [(0, .ref a_t), (1, .int x1)] := hl
  rw [fX5_putNumber] at hF
  refine lv_bipush (v := (24 : Int32)) hx hb dX5_putNumber_0 (by decide) ?_
  refine lv_istore_n (lv' := [(2, .int (24 : Int32)), (0, .ref a_t), (1, .int x1)]) hx hb dX5_putNumber_2 rfl hl (by decide) rfl (fun ls hl => ?_)
  refine wX5_putNumber_L3 C0 a_t p_t n x1 o_t' c_t' f_t_0' _ ?_ n (24 : Int32) o_t c_t f_t_0 hF _ _ _ (hP.sub [0, 1] rfl) (hD.sub [0, 1] rfl rfl) hS (lv_sub hl [1, 2, 0] rfl)
  · intro o_t_x3 c_t_x3 f_t_0_x3 H locs ls hF hP hD hS hl
    cases hF
    exact ret_v C0 hP hD hS [0, 1] rfl rfl rfl dX5_putNumber_49

theorem dAX5_stepWord : ∀ q ∈ ([(0, (.aload_n 0, 1)), (1, (.lconst 0, 1)), (2, (.putfield 40, 3)), (5, (.aload_n 0, 1)), (6, (.getfield 34, 3)), (9, (.aload_n 0, 1)), (10, (.getfield 25, 3)), (13, (.if_icmp .ge 66, 3)), (16, (.aload_n 0, 1)), (17, (.getfield 9, 3)), (20, (.aload_n 0, 1)), (21, (.getfield 34, 3)), (24, (.iaload, 1)), (25, (.bipush 97, 2)), (27, (.if_icmp .lt 52, 3)), (30, (.aload_n 0, 1)), (31, (.getfield 9, 3)), (34, (.aload_n 0, 1)), (35, (.getfield 34, 3)), (38, (.iaload, 1)), (39, (.bipush 122, 2)), (41, (.if_icmp .gt 38, 3)), (44, (.aload_n 0, 1)), (45, (.aload_n 0, 1)), (46, (.getfield 40, 3)), (49, (.bipush 8, 2)), (51, (.lshl, 1)), (52, (.aload_n 0, 1)), (53, (.getfield 9, 3)), (56, (.aload_n 0, 1)), (57, (.getfield 34, 3)), (60, (.iaload, 1)), (61, (.i2l, 1)), (62, (.lor, 1)), (63, (.putfield 40, 3)), (66, (.aload_n 0, 1)), (67, (.dup, 1)), (68, (.getfield 34, 3)), (71, (.iconst 1, 1)), (72, (.iadd, 1)), (73, (.putfield 34, 3)), (76, (.goto (-71), 3)), (79, (.aload_n 0, 1)), (80, (.aload_n 0, 1)), (81, (.getfield 34, 3)), (84, (.aload_n 0, 1)), (85, (.getfield 31, 3)), (88, (.isub, 1)), (89, (.bipush 8, 2)), (91, (.if_icmp .le 7, 3)), (94, (.iconst 4, 1)), (95, (.goto 4, 3)), (98, (.iconst 1, 1)), (99, (.putfield 28, 3)), (102, (.return_, 1))] : List (Nat × (Instr × Nat))), decode cX5_stepWord q.1 = .ok q.2 := by decide +kernel
theorem dX5_stepWord_0 : decode cX5_stepWord 0 = .ok (.aload_n 0, 1) := dAX5_stepWord (0, (.aload_n 0, 1)) (List.mem_of_getElem? (i := 0) rfl)
theorem dX5_stepWord_1 : decode cX5_stepWord 1 = .ok (.lconst 0, 1) := dAX5_stepWord (1, (.lconst 0, 1)) (List.mem_of_getElem? (i := 1) rfl)
theorem dX5_stepWord_2 : decode cX5_stepWord 2 = .ok (.putfield 40, 3) := dAX5_stepWord (2, (.putfield 40, 3)) (List.mem_of_getElem? (i := 2) rfl)
theorem dX5_stepWord_5 : decode cX5_stepWord 5 = .ok (.aload_n 0, 1) := dAX5_stepWord (5, (.aload_n 0, 1)) (List.mem_of_getElem? (i := 3) rfl)
theorem dX5_stepWord_6 : decode cX5_stepWord 6 = .ok (.getfield 34, 3) := dAX5_stepWord (6, (.getfield 34, 3)) (List.mem_of_getElem? (i := 4) rfl)
theorem dX5_stepWord_9 : decode cX5_stepWord 9 = .ok (.aload_n 0, 1) := dAX5_stepWord (9, (.aload_n 0, 1)) (List.mem_of_getElem? (i := 5) rfl)
theorem dX5_stepWord_10 : decode cX5_stepWord 10 = .ok (.getfield 25, 3) := dAX5_stepWord (10, (.getfield 25, 3)) (List.mem_of_getElem? (i := 6) rfl)
theorem dX5_stepWord_13 : decode cX5_stepWord 13 = .ok (.if_icmp .ge 66, 3) := dAX5_stepWord (13, (.if_icmp .ge 66, 3)) (List.mem_of_getElem? (i := 7) rfl)
theorem dX5_stepWord_16 : decode cX5_stepWord 16 = .ok (.aload_n 0, 1) := dAX5_stepWord (16, (.aload_n 0, 1)) (List.mem_of_getElem? (i := 8) rfl)
theorem dX5_stepWord_17 : decode cX5_stepWord 17 = .ok (.getfield 9, 3) := dAX5_stepWord (17, (.getfield 9, 3)) (List.mem_of_getElem? (i := 9) rfl)
theorem dX5_stepWord_20 : decode cX5_stepWord 20 = .ok (.aload_n 0, 1) := dAX5_stepWord (20, (.aload_n 0, 1)) (List.mem_of_getElem? (i := 10) rfl)
theorem dX5_stepWord_21 : decode cX5_stepWord 21 = .ok (.getfield 34, 3) := dAX5_stepWord (21, (.getfield 34, 3)) (List.mem_of_getElem? (i := 11) rfl)
theorem dX5_stepWord_24 : decode cX5_stepWord 24 = .ok (.iaload, 1) := dAX5_stepWord (24, (.iaload, 1)) (List.mem_of_getElem? (i := 12) rfl)
theorem dX5_stepWord_25 : decode cX5_stepWord 25 = .ok (.bipush 97, 2) := dAX5_stepWord (25, (.bipush 97, 2)) (List.mem_of_getElem? (i := 13) rfl)
theorem dX5_stepWord_27 : decode cX5_stepWord 27 = .ok (.if_icmp .lt 52, 3) := dAX5_stepWord (27, (.if_icmp .lt 52, 3)) (List.mem_of_getElem? (i := 14) rfl)
theorem dX5_stepWord_30 : decode cX5_stepWord 30 = .ok (.aload_n 0, 1) := dAX5_stepWord (30, (.aload_n 0, 1)) (List.mem_of_getElem? (i := 15) rfl)
theorem dX5_stepWord_31 : decode cX5_stepWord 31 = .ok (.getfield 9, 3) := dAX5_stepWord (31, (.getfield 9, 3)) (List.mem_of_getElem? (i := 16) rfl)
theorem dX5_stepWord_34 : decode cX5_stepWord 34 = .ok (.aload_n 0, 1) := dAX5_stepWord (34, (.aload_n 0, 1)) (List.mem_of_getElem? (i := 17) rfl)
theorem dX5_stepWord_35 : decode cX5_stepWord 35 = .ok (.getfield 34, 3) := dAX5_stepWord (35, (.getfield 34, 3)) (List.mem_of_getElem? (i := 18) rfl)
theorem dX5_stepWord_38 : decode cX5_stepWord 38 = .ok (.iaload, 1) := dAX5_stepWord (38, (.iaload, 1)) (List.mem_of_getElem? (i := 19) rfl)
theorem dX5_stepWord_39 : decode cX5_stepWord 39 = .ok (.bipush 122, 2) := dAX5_stepWord (39, (.bipush 122, 2)) (List.mem_of_getElem? (i := 20) rfl)
theorem dX5_stepWord_41 : decode cX5_stepWord 41 = .ok (.if_icmp .gt 38, 3) := dAX5_stepWord (41, (.if_icmp .gt 38, 3)) (List.mem_of_getElem? (i := 21) rfl)
theorem dX5_stepWord_44 : decode cX5_stepWord 44 = .ok (.aload_n 0, 1) := dAX5_stepWord (44, (.aload_n 0, 1)) (List.mem_of_getElem? (i := 22) rfl)
theorem dX5_stepWord_45 : decode cX5_stepWord 45 = .ok (.aload_n 0, 1) := dAX5_stepWord (45, (.aload_n 0, 1)) (List.mem_of_getElem? (i := 23) rfl)
theorem dX5_stepWord_46 : decode cX5_stepWord 46 = .ok (.getfield 40, 3) := dAX5_stepWord (46, (.getfield 40, 3)) (List.mem_of_getElem? (i := 24) rfl)
theorem dX5_stepWord_49 : decode cX5_stepWord 49 = .ok (.bipush 8, 2) := dAX5_stepWord (49, (.bipush 8, 2)) (List.mem_of_getElem? (i := 25) rfl)
theorem dX5_stepWord_51 : decode cX5_stepWord 51 = .ok (.lshl, 1) := dAX5_stepWord (51, (.lshl, 1)) (List.mem_of_getElem? (i := 26) rfl)
theorem dX5_stepWord_52 : decode cX5_stepWord 52 = .ok (.aload_n 0, 1) := dAX5_stepWord (52, (.aload_n 0, 1)) (List.mem_of_getElem? (i := 27) rfl)
theorem dX5_stepWord_53 : decode cX5_stepWord 53 = .ok (.getfield 9, 3) := dAX5_stepWord (53, (.getfield 9, 3)) (List.mem_of_getElem? (i := 28) rfl)
theorem dX5_stepWord_56 : decode cX5_stepWord 56 = .ok (.aload_n 0, 1) := dAX5_stepWord (56, (.aload_n 0, 1)) (List.mem_of_getElem? (i := 29) rfl)
theorem dX5_stepWord_57 : decode cX5_stepWord 57 = .ok (.getfield 34, 3) := dAX5_stepWord (57, (.getfield 34, 3)) (List.mem_of_getElem? (i := 30) rfl)
theorem dX5_stepWord_60 : decode cX5_stepWord 60 = .ok (.iaload, 1) := dAX5_stepWord (60, (.iaload, 1)) (List.mem_of_getElem? (i := 31) rfl)
theorem dX5_stepWord_61 : decode cX5_stepWord 61 = .ok (.i2l, 1) := dAX5_stepWord (61, (.i2l, 1)) (List.mem_of_getElem? (i := 32) rfl)
theorem dX5_stepWord_62 : decode cX5_stepWord 62 = .ok (.lor, 1) := dAX5_stepWord (62, (.lor, 1)) (List.mem_of_getElem? (i := 33) rfl)
theorem dX5_stepWord_63 : decode cX5_stepWord 63 = .ok (.putfield 40, 3) := dAX5_stepWord (63, (.putfield 40, 3)) (List.mem_of_getElem? (i := 34) rfl)
theorem dX5_stepWord_66 : decode cX5_stepWord 66 = .ok (.aload_n 0, 1) := dAX5_stepWord (66, (.aload_n 0, 1)) (List.mem_of_getElem? (i := 35) rfl)
theorem dX5_stepWord_67 : decode cX5_stepWord 67 = .ok (.dup, 1) := dAX5_stepWord (67, (.dup, 1)) (List.mem_of_getElem? (i := 36) rfl)
theorem dX5_stepWord_68 : decode cX5_stepWord 68 = .ok (.getfield 34, 3) := dAX5_stepWord (68, (.getfield 34, 3)) (List.mem_of_getElem? (i := 37) rfl)
theorem dX5_stepWord_71 : decode cX5_stepWord 71 = .ok (.iconst 1, 1) := dAX5_stepWord (71, (.iconst 1, 1)) (List.mem_of_getElem? (i := 38) rfl)
theorem dX5_stepWord_72 : decode cX5_stepWord 72 = .ok (.iadd, 1) := dAX5_stepWord (72, (.iadd, 1)) (List.mem_of_getElem? (i := 39) rfl)
theorem dX5_stepWord_73 : decode cX5_stepWord 73 = .ok (.putfield 34, 3) := dAX5_stepWord (73, (.putfield 34, 3)) (List.mem_of_getElem? (i := 40) rfl)
theorem dX5_stepWord_76 : decode cX5_stepWord 76 = .ok (.goto (-71), 3) := dAX5_stepWord (76, (.goto (-71), 3)) (List.mem_of_getElem? (i := 41) rfl)
theorem dX5_stepWord_79 : decode cX5_stepWord 79 = .ok (.aload_n 0, 1) := dAX5_stepWord (79, (.aload_n 0, 1)) (List.mem_of_getElem? (i := 42) rfl)
theorem dX5_stepWord_80 : decode cX5_stepWord 80 = .ok (.aload_n 0, 1) := dAX5_stepWord (80, (.aload_n 0, 1)) (List.mem_of_getElem? (i := 43) rfl)
theorem dX5_stepWord_81 : decode cX5_stepWord 81 = .ok (.getfield 34, 3) := dAX5_stepWord (81, (.getfield 34, 3)) (List.mem_of_getElem? (i := 44) rfl)
theorem dX5_stepWord_84 : decode cX5_stepWord 84 = .ok (.aload_n 0, 1) := dAX5_stepWord (84, (.aload_n 0, 1)) (List.mem_of_getElem? (i := 45) rfl)
theorem dX5_stepWord_85 : decode cX5_stepWord 85 = .ok (.getfield 31, 3) := dAX5_stepWord (85, (.getfield 31, 3)) (List.mem_of_getElem? (i := 46) rfl)
theorem dX5_stepWord_88 : decode cX5_stepWord 88 = .ok (.isub, 1) := dAX5_stepWord (88, (.isub, 1)) (List.mem_of_getElem? (i := 47) rfl)
theorem dX5_stepWord_89 : decode cX5_stepWord 89 = .ok (.bipush 8, 2) := dAX5_stepWord (89, (.bipush 8, 2)) (List.mem_of_getElem? (i := 48) rfl)
theorem dX5_stepWord_91 : decode cX5_stepWord 91 = .ok (.if_icmp .le 7, 3) := dAX5_stepWord (91, (.if_icmp .le 7, 3)) (List.mem_of_getElem? (i := 49) rfl)
theorem dX5_stepWord_94 : decode cX5_stepWord 94 = .ok (.iconst 4, 1) := dAX5_stepWord (94, (.iconst 4, 1)) (List.mem_of_getElem? (i := 50) rfl)
theorem dX5_stepWord_95 : decode cX5_stepWord 95 = .ok (.goto 4, 3) := dAX5_stepWord (95, (.goto 4, 3)) (List.mem_of_getElem? (i := 51) rfl)
theorem dX5_stepWord_98 : decode cX5_stepWord 98 = .ok (.iconst 1, 1) := dAX5_stepWord (98, (.iconst 1, 1)) (List.mem_of_getElem? (i := 52) rfl)
theorem dX5_stepWord_99 : decode cX5_stepWord 99 = .ok (.putfield 28, 3) := dAX5_stepWord (99, (.putfield 28, 3)) (List.mem_of_getElem? (i := 53) rfl)
theorem dX5_stepWord_102 : decode cX5_stepWord 102 = .ok (.return_, 1) := dAX5_stepWord (102, (.return_, 1)) (List.mem_of_getElem? (i := 54) rfl)
theorem kX5_stepWord_40 : Cond.fieldLink RX5 40 "EveningVow$Reader" "code" "J" ∈ wsX5_stepWord := List.mem_of_getElem? (i := 1) rfl
theorem iX5_stepWord_X5 : ∀ w ∈ u_ws RX5 TX5 15, w ∈ wsX5_stepWord := fun w h => (List.mem_cons_of_mem _ (List.mem_append_right _ h))
theorem kX5_stepWord_34 : Cond.fieldLink RX5 34 "EveningVow$Reader" "to" "I" ∈ wsX5_stepWord := List.mem_of_getElem? (i := 2) rfl
theorem kX5_stepWord_25 : Cond.fieldLink RX5 25 "EveningVow$Reader" "length" "I" ∈ wsX5_stepWord := List.mem_of_getElem? (i := 3) rfl
theorem kX5_stepWord_9 : Cond.fieldLink RX5 9 "EveningVow$Reader" "tape" "[I" ∈ wsX5_stepWord := List.mem_of_getElem? (i := 4) rfl
theorem kX5_stepWord_31 : Cond.fieldLink RX5 31 "EveningVow$Reader" "from" "I" ∈ wsX5_stepWord := List.mem_of_getElem? (i := 5) rfl
theorem kX5_stepWord_28 : Cond.fieldLink RX5 28 "EveningVow$Reader" "sort" "I" ∈ wsX5_stepWord := List.mem_of_getElem? (i := 6) rfl
set_option maxHeartbeats 4000000 in
set_option maxRecDepth 100000 in
theorem wX5_stepWord_L5 {p : Program} {l : Launch} {e : Env} {s : State} {m : MethodId} {args : Array Value} {below : List Frame} {meth : Method} {c : Code} {g : GG} {A : Nat → Prop} (C0 : Cx p s m args meth c cX5_stepWord 1 none RX5 wsX5_stepWord g A) (a_t : Nat) (p_t : Nat → Nat) (n : Nat) (f_t_0 : Nat → Int32)  (o_t' : Nat → Int32) (c_t' : Int64) (K : (Nat → Int32) → Int64 → Option ((Nat → Int32) × Int64)) (hKx : ∀ (o_t : Nat → Int32) (c_t : Int64) (H : Heap) (locs : List Loc) (ls : Array Slot), K o_t c_t = some (o_t', c_t') → va_P g.1 vwCl [oX5 a_t p_t o_t c_t, aI g (p_t 0) 800 f_t_0] H → va_D A [oX5 a_t p_t o_t c_t, aI g (p_t 0) 800 f_t_0] → va_S A s.heap H locs → lv_has ls 1 [(0, .ref a_t)] → W p l e ({ frames := 0, cells := 0, slots := 0, locals := 0 } : Room) s m args below meth c H locs 0 0 (MQ below (EndV g [oX5 a_t p_t o_t' c_t', aI g (p_t 0) 800 f_t_0] A) args s 0 0 A) (F0 m 79 ls [])) : ∀ (k : Nat) (o_t : Nat → Int32) (c_t : Int64), fX5_stepWord_L5 n f_t_0 K k o_t c_t = some (o_t', c_t') → ∀ (H : Heap) (locs : List Loc) (ls : Array Slot), va_P g.1 vwCl [oX5 a_t p_t o_t c_t, aI g (p_t 0) 800 f_t_0] H → va_D A [oX5 a_t p_t o_t c_t, aI g (p_t 0) 800 f_t_0] → va_S A s.heap H locs → lv_has ls 1 [(0, .ref a_t)] → W p l e ({ frames := 0, cells := 0, slots := 0, locals := 0 } : Room) s m args below meth c H locs 0 0 (MQ below (EndV g [oX5 a_t p_t o_t' c_t', aI g (p_t 0) 800 f_t_0] A) args s 0 0 A) (F0 m 5 ls []) := by
  obtain ⟨hx, hb, hml, hown, hts, hr, hlk, hK, hA, hSW⟩ := id C0
  intro k
  induction k with
  | zero =>
    intro o_t c_t hF
    exact absurd hF (by simp [fX5_stepWord_L5])
  | succ k ih =>
    intro o_t c_t hF H locs ls hP hD hS hl
    rw [fX5_stepWord_L5] at hF
    refine lv_aload_n hx hb dX5_stepWord_5 rfl (lv_at hl 0 rfl) ?_
    refine va_get (D := g.1) (ci := 5) (v := .int (o_t 7)) (C := RX5) (T := TX5) (N := 15) hx hb hts iX5_stepWord_X5 hown hK.1 hP 0 rfl rfl 7 (by decide) (hts _ kX5_stepWord_34) (fun _ h9 => h9) rfl dX5_stepWord_6 ?_
    refine lv_aload_n hx hb dX5_stepWord_9 rfl (lv_at hl 0 rfl) ?_
    refine va_get (D := g.1) (ci := 5) (v := .int (o_t 4)) (C := RX5) (T := TX5) (N := 15) hx hb hts iX5_stepWord_X5 hown hK.1 hP 0 rfl rfl 4 (by decide) (hts _ kX5_stepWord_25) (fun _ h9 => h9) rfl dX5_stepWord_10 ?_
    refine lv_icmp_ge (tgt := 79) hx hb dX5_stepWord_13 (by decide) (fun c_1 => ?_) (fun c_1 => ?_)
    · have hF := it_p c_1 hF
      exact hKx o_t c_t _ _ _ hF (hP.sub [0, 1] rfl) (hD.sub [0, 1] rfl rfl) hS (lv_sub hl [0] rfl)
    · have hF := it_n c_1 hF
      refine lv_aload_n hx hb dX5_stepWord_16 rfl (lv_at hl 0 rfl) ?_
      refine va_get (D := g.1) (ci := 5) (v := .ref (p_t 0)) (C := RX5) (T := TX5) (N := 15) hx hb hts iX5_stepWord_X5 hown hK.1 hP 0 rfl rfl 0 (by decide) (hts _ kX5_stepWord_9) (fun _ h9 => h9) rfl dX5_stepWord_17 ?_
      refine lv_aload_n hx hb dX5_stepWord_20 rfl (lv_at hl 0 rfl) ?_
      refine va_get (D := g.1) (ci := 5) (v := .int (o_t 7)) (C := RX5) (T := TX5) (N := 15) hx hb hts iX5_stepWord_X5 hown hK.1 hP 0 rfl rfl 7 (by decide) (hts _ kX5_stepWord_34) (fun _ h9 => h9) rfl dX5_stepWord_21 ?_
      obtain ⟨h_2, hF⟩ := it_ck hF
      refine va_iald hx hb hK.1 hP 1 0 rfl rfl h_2 dX5_stepWord_24 ?_
      refine lv_bipush (v := (97 : Int32)) hx hb dX5_stepWord_25 (by decide) ?_
      refine lv_icmp_lt (tgt := 79) hx hb dX5_stepWord_27 (by decide) (fun c_3 => ?_) (fun c_3 => ?_)
      · have hF := it_p c_3 hF
        exact hKx o_t c_t _ _ _ hF (hP.sub [0, 1] rfl) (hD.sub [0, 1] rfl rfl) hS (lv_sub hl [0] rfl)
      · have hF := it_n c_3 hF
        refine lv_aload_n hx hb dX5_stepWord_30 rfl (lv_at hl 0 rfl) ?_
        refine va_get (D := g.1) (ci := 5) (v := .ref (p_t 0)) (C := RX5) (T := TX5) (N := 15) hx hb hts iX5_stepWord_X5 hown hK.1 hP 0 rfl rfl 0 (by decide) (hts _ kX5_stepWord_9) (fun _ h9 => h9) rfl dX5_stepWord_31 ?_
        refine lv_aload_n hx hb dX5_stepWord_34 rfl (lv_at hl 0 rfl) ?_
        refine va_get (D := g.1) (ci := 5) (v := .int (o_t 7)) (C := RX5) (T := TX5) (N := 15) hx hb hts iX5_stepWord_X5 hown hK.1 hP 0 rfl rfl 7 (by decide) (hts _ kX5_stepWord_34) (fun _ h9 => h9) rfl dX5_stepWord_35 ?_
        obtain ⟨h_4, hF⟩ := it_ck hF
        refine va_iald hx hb hK.1 hP 1 0 rfl rfl h_4 dX5_stepWord_38 ?_
        refine lv_bipush (v := (122 : Int32)) hx hb dX5_stepWord_39 (by decide) ?_
        refine lv_icmp_gt (tgt := 79) hx hb dX5_stepWord_41 (by decide) (fun c_5 => ?_) (fun c_5 => ?_)
        · have hF := it_p c_5 hF
          exact hKx o_t c_t _ _ _ hF (hP.sub [0, 1] rfl) (hD.sub [0, 1] rfl rfl) hS (lv_sub hl [0] rfl)
        · have hF := it_n c_5 hF
          refine lv_aload_n hx hb dX5_stepWord_44 rfl (lv_at hl 0 rfl) ?_
          refine lv_aload_n hx hb dX5_stepWord_45 rfl (lv_at hl 0 rfl) ?_
          refine va_get (D := g.1) (ci := 5) (v := .long c_t) (C := RX5) (T := TX5) (N := 15) hx hb hts iX5_stepWord_X5 hown hK.1 hP 0 rfl rfl 9 (by decide) (hts _ kX5_stepWord_40) (fun _ h9 => h9) rfl dX5_stepWord_46 ?_
          refine lv_bipush (v := (8 : Int32)) hx hb dX5_stepWord_49 (by decide) ?_
          refine lv_lshl (v := (c_t <<< (((8 : Int32)).toInt64 &&& 63))) hx hb dX5_stepWord_51 rfl ?_
          refine lv_aload_n hx hb dX5_stepWord_52 rfl (lv_at hl 0 rfl) ?_
          refine va_get (D := g.1) (ci := 5) (v := .ref (p_t 0)) (C := RX5) (T := TX5) (N := 15) hx hb hts iX5_stepWord_X5 hown hK.1 hP 0 rfl rfl 0 (by decide) (hts _ kX5_stepWord_9) (fun _ h9 => h9) rfl dX5_stepWord_53 ?_
          refine lv_aload_n hx hb dX5_stepWord_56 rfl (lv_at hl 0 rfl) ?_
          refine va_get (D := g.1) (ci := 5) (v := .int (o_t 7)) (C := RX5) (T := TX5) (N := 15) hx hb hts iX5_stepWord_X5 hown hK.1 hP 0 rfl rfl 7 (by decide) (hts _ kX5_stepWord_34) (fun _ h9 => h9) rfl dX5_stepWord_57 ?_
          obtain ⟨h_6, hF⟩ := it_ck hF
          refine va_iald hx hb hK.1 hP 1 0 rfl rfl h_6 dX5_stepWord_60 ?_
          refine lv_i2l (v := (((f_t_0 ((o_t 7)).toNatClampNeg)).toInt64)) hx hb dX5_stepWord_61 rfl ?_
          refine lv_lor hx hb dX5_stepWord_62 ?_
          refine va_put (D := g.1) (ci := 5) (v := .long ((c_t <<< (((8 : Int32)).toInt64 &&& 63)) ||| (((f_t_0 ((o_t 7)).toNatClampNeg)).toInt64))) (ty := .long) (C := RX5) (T := TX5) (N := 15) hx hb hts iX5_stepWord_X5 tyX5 tyX5_ok nmX5 hown hK.1 hP hD hS 0 rfl rfl 9 (by decide) (hts _ kX5_stepWord_40) (fun _ h9 => h9) rfl (by decide +kernel) rfl rfl (Nat.le_of_ble_eq_true rfl) dX5_stepWord_63 (fun H locs hP hD hS => ?_)
          have hP : va_P g.1 vwCl [oX5 a_t p_t o_t ((c_t <<< (((8 : Int32)).toInt64 &&& 63)) ||| (((f_t_0 ((o_t 7)).toNatClampNeg)).toInt64)), aI g (p_t 0) 800 f_t_0] H := hP
          have hD : va_D A [oX5 a_t p_t o_t ((c_t <<< (((8 : Int32)).toInt64 &&& 63)) ||| (((f_t_0 ((o_t 7)).toNatClampNeg)).toInt64)), aI g (p_t 0) 800 f_t_0] := hD
          refine lv_aload_n hx hb dX5_stepWord_66 rfl (lv_at hl 0 rfl) ?_
          refine lv_dup hx hb dX5_stepWord_67 rfl ?_
          refine va_get (D := g.1) (ci := 5) (v := .int (o_t 7)) (C := RX5) (T := TX5) (N := 15) hx hb hts iX5_stepWord_X5 hown hK.1 hP 0 rfl rfl 7 (by decide) (hts _ kX5_stepWord_34) (fun _ h9 => h9) rfl dX5_stepWord_68 ?_
          refine lv_iconst (v := (1 : Int32)) hx hb dX5_stepWord_71 (by decide) ?_
          refine lv_iadd hx hb dX5_stepWord_72 ?_
          refine va_put (D := g.1) (ci := 5) (v := .int ((o_t 7) + (1 : Int32))) (ty := .int) (C := RX5) (T := TX5) (N := 15) hx hb hts iX5_stepWord_X5 tyX5 tyX5_ok nmX5 hown hK.1 hP hD hS 0 rfl rfl 7 (by decide) (hts _ kX5_stepWord_34) (fun _ h9 => h9) rfl (by decide +kernel) rfl rfl (Nat.le_of_ble_eq_true rfl) dX5_stepWord_73 (fun H locs hP hD hS => ?_)
          have hP : va_P g.1 vwCl [oX5 a_t p_t (upd o_t 7 ((o_t 7) + (1 : Int32))) ((c_t <<< (((8 : Int32)).toInt64 &&& 63)) ||| (((f_t_0 ((o_t 7)).toNatClampNeg)).toInt64)), aI g (p_t 0) 800 f_t_0] H := hP
          have hD : va_D A [oX5 a_t p_t (upd o_t 7 ((o_t 7) + (1 : Int32))) ((c_t <<< (((8 : Int32)).toInt64 &&& 63)) ||| (((f_t_0 ((o_t 7)).toNatClampNeg)).toInt64)), aI g (p_t 0) 800 f_t_0] := hD
          refine lv_goto (tgt := 5) hx hb dX5_stepWord_76 (by decide) ?_
          exact ih (upd o_t 7 ((o_t 7) + (1 : Int32))) ((c_t <<< (((8 : Int32)).toInt64 &&& 63)) ||| (((f_t_0 ((o_t 7)).toNatClampNeg)).toInt64)) hF _ _ _ (hP.sub [0, 1] rfl) (hD.sub [0, 1] rfl rfl) hS (lv_sub hl [0] rfl)
set_option maxHeartbeats 4000000 in
set_option maxRecDepth 100000 in
theorem mX5_stepWord (l : Launch) (g : GG) (a_t : Nat) (p_t : Nat → Nat) (n : Nat) (o_t : Nat → Int32) (c_t : Int64) (f_t_0 : Nat → Int32) (o_t' : Nat → Int32) (c_t' : Int64) (hF : fX5_stepWord n o_t c_t f_t_0 = some (o_t', c_t')) : MV l g yX5_stepWord wsX5_stepWord ({ frames := 0, cells := 0, slots := 0, locals := 0 } : Room) [.ref a_t] [oX5 a_t p_t o_t c_t, aI g (p_t 0) 800 f_t_0] [oX5 a_t p_t o_t' c_t', aI g (p_t 0) 800 f_t_0] := by
  refine MV.of (cc := cX5_stepWord) (maxL := 1) (own := RX5) rfl rfl (by decide) (Nat.le_of_ble_eq_true rfl) ?_
  intro p e s m args below meth c A C0 hP hD hS ls hl
  obtain ⟨hx, hb, hml, hown, hts, hr, hlk, hK, hA, hSW⟩ := id C0
  have hl : lv_has ls 1 [(0, .ref a_t)] := hl
  rw [fX5_stepWord] at hF
  refine lv_aload_n hx hb dX5_stepWord_0 rfl (lv_at hl 0 rfl) ?_
  refine lv_lconst (v := (0 : Int64)) hx hb dX5_stepWord_1 (by decide) ?_
  refine va_put (D := g.1) (ci := 5) (v := .long (0 : Int64)) (ty := .long) (C := RX5) (T := TX5) (N := 15) hx hb hts iX5_stepWord_X5 tyX5 tyX5_ok nmX5 hown hK.1 hP hD hS 0 rfl rfl 9 (by decide) (hts _ kX5_stepWord_40) (fun _ h9 => h9) rfl (by decide +kernel) rfl rfl (Nat.le_of_ble_eq_true rfl) dX5_stepWord_2 (fun H locs hP hD hS => ?_)
  have hP : va_P g.1 vwCl [oX5 a_t p_t o_t (0 : Int64), aI g (p_t 0) 800 f_t_0] H := hP
  have hD : va_D A [oX5 a_t p_t o_t (0 : Int64), aI g (p_t 0) 800 f_t_0] := hD
  refine wX5_stepWord_L5 C0 a_t p_t n f_t_0 o_t' c_t' _ ?_ n o_t (0 : Int64) hF _ _ _ (hP.sub [0, 1] rfl) (hD.sub [0, 1] rfl rfl) hS (lv_sub hl [0] rfl)
  · intro o_t_x5 c_t_x5 H locs ls hF hP hD hS hl
    refine lv_aload_n hx hb dX5_stepWord_79 rfl (lv_at hl 0 rfl) ?_
    refine lv_aload_n hx hb dX5_stepWord_80 rfl (lv_at hl 0 rfl) ?_
    refine va_get (D := g.1) (ci := 5) (v := .int (o_t_x5 7)) (C := RX5) (T := TX5) (N := 15) hx hb hts iX5_stepWord_X5 hown hK.1 hP 0 rfl rfl 7 (by decide) (hts _ kX5_stepWord_34) (fun _ h9 => h9) rfl dX5_stepWord_81 ?_
    refine lv_aload_n hx hb dX5_stepWord_84 rfl (lv_at hl 0 rfl) ?_
    refine va_get (D := g.1) (ci := 5) (v := .int (o_t_x5 6)) (C := RX5) (T := TX5) (N := 15) hx hb hts iX5_stepWord_X5 hown hK.1 hP 0 rfl rfl 6 (by decide) (hts _ kX5_stepWord_31) (fun _ h9 => h9) rfl dX5_stepWord_85 ?_
    refine lv_isub hx hb dX5_stepWord_88 ?_
    refine lv_bipush (v := (8 : Int32)) hx hb dX5_stepWord_89 (by decide) ?_
    refine lv_icmp_le (tgt := 98) hx hb dX5_stepWord_91 (by decide) (fun c_7 => ?_) (fun c_7 => ?_)
    · have hF := it_p c_7 hF
      refine lv_iconst (v := (1 : Int32)) hx hb dX5_stepWord_98 (by decide) ?_
      refine va_put (D := g.1) (ci := 5) (v := .int (1 : Int32)) (ty := .int) (C := RX5) (T := TX5) (N := 15) hx hb hts iX5_stepWord_X5 tyX5 tyX5_ok nmX5 hown hK.1 hP hD hS 0 rfl rfl 5 (by decide) (hts _ kX5_stepWord_28) (fun _ h9 => h9) rfl (by decide +kernel) rfl rfl (Nat.le_of_ble_eq_true rfl) dX5_stepWord_99 (fun H locs hP hD hS => ?_)
      have hP : va_P g.1 vwCl [oX5 a_t p_t (upd o_t_x5 5 (1 : Int32)) c_t_x5, aI g (p_t 0) 800 f_t_0] H := hP
      have hD : va_D A [oX5 a_t p_t (upd o_t_x5 5 (1 : Int32)) c_t_x5, aI g (p_t 0) 800 f_t_0] := hD
      cases hF
      exact ret_v C0 hP hD hS [0, 1] rfl rfl rfl dX5_stepWord_102
    · have hF := it_n c_7 hF
      refine lv_iconst (v := (4 : Int32)) hx hb dX5_stepWord_94 (by decide) ?_
      refine lv_goto (tgt := 99) hx hb dX5_stepWord_95 (by decide) ?_
      refine va_put (D := g.1) (ci := 5) (v := .int (4 : Int32)) (ty := .int) (C := RX5) (T := TX5) (N := 15) hx hb hts iX5_stepWord_X5 tyX5 tyX5_ok nmX5 hown hK.1 hP hD hS 0 rfl rfl 5 (by decide) (hts _ kX5_stepWord_28) (fun _ h9 => h9) rfl (by decide +kernel) rfl rfl (Nat.le_of_ble_eq_true rfl) dX5_stepWord_99 (fun H locs hP hD hS => ?_)
      have hP : va_P g.1 vwCl [oX5 a_t p_t (upd o_t_x5 5 (4 : Int32)) c_t_x5, aI g (p_t 0) 800 f_t_0] H := hP
      have hD : va_D A [oX5 a_t p_t (upd o_t_x5 5 (4 : Int32)) c_t_x5, aI g (p_t 0) 800 f_t_0] := hD
      cases hF
      exact ret_v C0 hP hD hS [0, 1] rfl rfl rfl dX5_stepWord_102

theorem dAX5_stepWhole : ∀ q ∈ ([(0, (.aload_n 0, 1)), (1, (.iconst 0, 1)), (2, (.putfield 37, 3)), (5, (.aload_n 0, 1)), (6, (.getfield 34, 3)), (9, (.aload_n 0, 1)), (10, (.getfield 25, 3)), (13, (.if_icmp .ge 68, 3)), (16, (.aload_n 0, 1)), (17, (.getfield 9, 3)), (20, (.aload_n 0, 1)), (21, (.getfield 34, 3)), (24, (.iaload, 1)), (25, (.bipush 48, 2)), (27, (.if_icmp .lt 54, 3)), (30, (.aload_n 0, 1)), (31, (.getfield 9, 3)), (34, (.aload_n 0, 1)), (35, (.getfield 34, 3)), (38, (.iaload, 1)), (39, (.bipush 57, 2)), (41, (.if_icmp .gt 40, 3)), (44, (.aload_n 0, 1)), (45, (.bipush 10, 2)), (47, (.aload_n 0, 1)), (48, (.getfield 37, 3)), (51, (.imul, 1)), (52, (.aload_n 0, 1)), (53, (.getfield 9, 3)), (56, (.aload_n 0, 1)), (57, (.getfield 34, 3)), (60, (.iaload, 1)), (61, (.iadd, 1)), (62, (.bipush 48, 2)), (64, (.isub, 1)), (65, (.putfield 37, 3)), (68, (.aload_n 0, 1)), (69, (.dup, 1)), (70, (.getfield 34, 3)), (73, (.iconst 1, 1)), (74, (.iadd, 1)), (75, (.putfield 34, 3)), (78, (.goto (-73), 3)), (81, (.aload_n 0, 1)), (82, (.aload_n 0, 1)), (83, (.getfield 34, 3)), (86, (.aload_n 0, 1)), (87, (.getfield 31, 3)), (90, (.isub, 1)), (91, (.iconst 3, 1)), (92, (.if_icmp .le 7, 3)), (95, (.iconst 4, 1)), (96, (.goto 4, 3)), (99, (.iconst 2, 1)), (100, (.putfield 28, 3)), (103, (.return_, 1))] : List (Nat × (Instr × Nat))), decode cX5_stepWhole q.1 = .ok q.2 := by decide +kernel
theorem dX5_stepWhole_0 : decode cX5_stepWhole 0 = .ok (.aload_n 0, 1) := dAX5_stepWhole (0, (.aload_n 0, 1)) (List.mem_of_getElem? (i := 0) rfl)
theorem dX5_stepWhole_1 : decode cX5_stepWhole 1 = .ok (.iconst 0, 1) := dAX5_stepWhole (1, (.iconst 0, 1)) (List.mem_of_getElem? (i := 1) rfl)
theorem dX5_stepWhole_2 : decode cX5_stepWhole 2 = .ok (.putfield 37, 3) := dAX5_stepWhole (2, (.putfield 37, 3)) (List.mem_of_getElem? (i := 2) rfl)
theorem dX5_stepWhole_5 : decode cX5_stepWhole 5 = .ok (.aload_n 0, 1) := dAX5_stepWhole (5, (.aload_n 0, 1)) (List.mem_of_getElem? (i := 3) rfl)
theorem dX5_stepWhole_6 : decode cX5_stepWhole 6 = .ok (.getfield 34, 3) := dAX5_stepWhole (6, (.getfield 34, 3)) (List.mem_of_getElem? (i := 4) rfl)
theorem dX5_stepWhole_9 : decode cX5_stepWhole 9 = .ok (.aload_n 0, 1) := dAX5_stepWhole (9, (.aload_n 0, 1)) (List.mem_of_getElem? (i := 5) rfl)
theorem dX5_stepWhole_10 : decode cX5_stepWhole 10 = .ok (.getfield 25, 3) := dAX5_stepWhole (10, (.getfield 25, 3)) (List.mem_of_getElem? (i := 6) rfl)
theorem dX5_stepWhole_13 : decode cX5_stepWhole 13 = .ok (.if_icmp .ge 68, 3) := dAX5_stepWhole (13, (.if_icmp .ge 68, 3)) (List.mem_of_getElem? (i := 7) rfl)
theorem dX5_stepWhole_16 : decode cX5_stepWhole 16 = .ok (.aload_n 0, 1) := dAX5_stepWhole (16, (.aload_n 0, 1)) (List.mem_of_getElem? (i := 8) rfl)
theorem dX5_stepWhole_17 : decode cX5_stepWhole 17 = .ok (.getfield 9, 3) := dAX5_stepWhole (17, (.getfield 9, 3)) (List.mem_of_getElem? (i := 9) rfl)
theorem dX5_stepWhole_20 : decode cX5_stepWhole 20 = .ok (.aload_n 0, 1) := dAX5_stepWhole (20, (.aload_n 0, 1)) (List.mem_of_getElem? (i := 10) rfl)
theorem dX5_stepWhole_21 : decode cX5_stepWhole 21 = .ok (.getfield 34, 3) := dAX5_stepWhole (21, (.getfield 34, 3)) (List.mem_of_getElem? (i := 11) rfl)
theorem dX5_stepWhole_24 : decode cX5_stepWhole 24 = .ok (.iaload, 1) := dAX5_stepWhole (24, (.iaload, 1)) (List.mem_of_getElem? (i := 12) rfl)
theorem dX5_stepWhole_25 : decode cX5_stepWhole 25 = .ok (.bipush 48, 2) := dAX5_stepWhole (25, (.bipush 48, 2)) (List.mem_of_getElem? (i := 13) rfl)
theorem dX5_stepWhole_27 : decode cX5_stepWhole 27 = .ok (.if_icmp .lt 54, 3) := dAX5_stepWhole (27, (.if_icmp .lt 54, 3)) (List.mem_of_getElem? (i := 14) rfl)
theorem dX5_stepWhole_30 : decode cX5_stepWhole 30 = .ok (.aload_n 0, 1) := dAX5_stepWhole (30, (.aload_n 0, 1)) (List.mem_of_getElem? (i := 15) rfl)
theorem dX5_stepWhole_31 : decode cX5_stepWhole 31 = .ok (.getfield 9, 3) := dAX5_stepWhole (31, (.getfield 9, 3)) (List.mem_of_getElem? (i := 16) rfl)
theorem dX5_stepWhole_34 : decode cX5_stepWhole 34 = .ok (.aload_n 0, 1) := dAX5_stepWhole (34, (.aload_n 0, 1)) (List.mem_of_getElem? (i := 17) rfl)
theorem dX5_stepWhole_35 : decode cX5_stepWhole 35 = .ok (.getfield 34, 3) := dAX5_stepWhole (35, (.getfield 34, 3)) (List.mem_of_getElem? (i := 18) rfl)
theorem dX5_stepWhole_38 : decode cX5_stepWhole 38 = .ok (.iaload, 1) := dAX5_stepWhole (38, (.iaload, 1)) (List.mem_of_getElem? (i := 19) rfl)
theorem dX5_stepWhole_39 : decode cX5_stepWhole 39 = .ok (.bipush 57, 2) := dAX5_stepWhole (39, (.bipush 57, 2)) (List.mem_of_getElem? (i := 20) rfl)
theorem dX5_stepWhole_41 : decode cX5_stepWhole 41 = .ok (.if_icmp .gt 40, 3) := dAX5_stepWhole (41, (.if_icmp .gt 40, 3)) (List.mem_of_getElem? (i := 21) rfl)
theorem dX5_stepWhole_44 : decode cX5_stepWhole 44 = .ok (.aload_n 0, 1) := dAX5_stepWhole (44, (.aload_n 0, 1)) (List.mem_of_getElem? (i := 22) rfl)
theorem dX5_stepWhole_45 : decode cX5_stepWhole 45 = .ok (.bipush 10, 2) := dAX5_stepWhole (45, (.bipush 10, 2)) (List.mem_of_getElem? (i := 23) rfl)
theorem dX5_stepWhole_47 : decode cX5_stepWhole 47 = .ok (.aload_n 0, 1) := dAX5_stepWhole (47, (.aload_n 0, 1)) (List.mem_of_getElem? (i := 24) rfl)
theorem dX5_stepWhole_48 : decode cX5_stepWhole 48 = .ok (.getfield 37, 3) := dAX5_stepWhole (48, (.getfield 37, 3)) (List.mem_of_getElem? (i := 25) rfl)
theorem dX5_stepWhole_51 : decode cX5_stepWhole 51 = .ok (.imul, 1) := dAX5_stepWhole (51, (.imul, 1)) (List.mem_of_getElem? (i := 26) rfl)
theorem dX5_stepWhole_52 : decode cX5_stepWhole 52 = .ok (.aload_n 0, 1) := dAX5_stepWhole (52, (.aload_n 0, 1)) (List.mem_of_getElem? (i := 27) rfl)
theorem dX5_stepWhole_53 : decode cX5_stepWhole 53 = .ok (.getfield 9, 3) := dAX5_stepWhole (53, (.getfield 9, 3)) (List.mem_of_getElem? (i := 28) rfl)
theorem dX5_stepWhole_56 : decode cX5_stepWhole 56 = .ok (.aload_n 0, 1) := dAX5_stepWhole (56, (.aload_n 0, 1)) (List.mem_of_getElem? (i := 29) rfl)
theorem dX5_stepWhole_57 : decode cX5_stepWhole 57 = .ok (.getfield 34, 3) := dAX5_stepWhole (57, (.getfield 34, 3)) (List.mem_of_getElem? (i := 30) rfl)
theorem dX5_stepWhole_60 : decode cX5_stepWhole 60 = .ok (.iaload, 1) := dAX5_stepWhole (60, (.iaload, 1)) (List.mem_of_getElem? (i := 31) rfl)
theorem dX5_stepWhole_61 : decode cX5_stepWhole 61 = .ok (.iadd, 1) := dAX5_stepWhole (61, (.iadd, 1)) (List.mem_of_getElem? (i := 32) rfl)
theorem dX5_stepWhole_62 : decode cX5_stepWhole 62 = .ok (.bipush 48, 2) := dAX5_stepWhole (62, (.bipush 48, 2)) (List.mem_of_getElem? (i := 33) rfl)
theorem dX5_stepWhole_64 : decode cX5_stepWhole 64 = .ok (.isub, 1) := dAX5_stepWhole (64, (.isub, 1)) (List.mem_of_getElem? (i := 34) rfl)
theorem dX5_stepWhole_65 : decode cX5_stepWhole 65 = .ok (.putfield 37, 3) := dAX5_stepWhole (65, (.putfield 37, 3)) (List.mem_of_getElem? (i := 35) rfl)
theorem dX5_stepWhole_68 : decode cX5_stepWhole 68 = .ok (.aload_n 0, 1) := dAX5_stepWhole (68, (.aload_n 0, 1)) (List.mem_of_getElem? (i := 36) rfl)
theorem dX5_stepWhole_69 : decode cX5_stepWhole 69 = .ok (.dup, 1) := dAX5_stepWhole (69, (.dup, 1)) (List.mem_of_getElem? (i := 37) rfl)
theorem dX5_stepWhole_70 : decode cX5_stepWhole 70 = .ok (.getfield 34, 3) := dAX5_stepWhole (70, (.getfield 34, 3)) (List.mem_of_getElem? (i := 38) rfl)
theorem dX5_stepWhole_73 : decode cX5_stepWhole 73 = .ok (.iconst 1, 1) := dAX5_stepWhole (73, (.iconst 1, 1)) (List.mem_of_getElem? (i := 39) rfl)
theorem dX5_stepWhole_74 : decode cX5_stepWhole 74 = .ok (.iadd, 1) := dAX5_stepWhole (74, (.iadd, 1)) (List.mem_of_getElem? (i := 40) rfl)
theorem dX5_stepWhole_75 : decode cX5_stepWhole 75 = .ok (.putfield 34, 3) := dAX5_stepWhole (75, (.putfield 34, 3)) (List.mem_of_getElem? (i := 41) rfl)
theorem dX5_stepWhole_78 : decode cX5_stepWhole 78 = .ok (.goto (-73), 3) := dAX5_stepWhole (78, (.goto (-73), 3)) (List.mem_of_getElem? (i := 42) rfl)
theorem dX5_stepWhole_81 : decode cX5_stepWhole 81 = .ok (.aload_n 0, 1) := dAX5_stepWhole (81, (.aload_n 0, 1)) (List.mem_of_getElem? (i := 43) rfl)
theorem dX5_stepWhole_82 : decode cX5_stepWhole 82 = .ok (.aload_n 0, 1) := dAX5_stepWhole (82, (.aload_n 0, 1)) (List.mem_of_getElem? (i := 44) rfl)
theorem dX5_stepWhole_83 : decode cX5_stepWhole 83 = .ok (.getfield 34, 3) := dAX5_stepWhole (83, (.getfield 34, 3)) (List.mem_of_getElem? (i := 45) rfl)
theorem dX5_stepWhole_86 : decode cX5_stepWhole 86 = .ok (.aload_n 0, 1) := dAX5_stepWhole (86, (.aload_n 0, 1)) (List.mem_of_getElem? (i := 46) rfl)
theorem dX5_stepWhole_87 : decode cX5_stepWhole 87 = .ok (.getfield 31, 3) := dAX5_stepWhole (87, (.getfield 31, 3)) (List.mem_of_getElem? (i := 47) rfl)
theorem dX5_stepWhole_90 : decode cX5_stepWhole 90 = .ok (.isub, 1) := dAX5_stepWhole (90, (.isub, 1)) (List.mem_of_getElem? (i := 48) rfl)
theorem dX5_stepWhole_91 : decode cX5_stepWhole 91 = .ok (.iconst 3, 1) := dAX5_stepWhole (91, (.iconst 3, 1)) (List.mem_of_getElem? (i := 49) rfl)
theorem dX5_stepWhole_92 : decode cX5_stepWhole 92 = .ok (.if_icmp .le 7, 3) := dAX5_stepWhole (92, (.if_icmp .le 7, 3)) (List.mem_of_getElem? (i := 50) rfl)
theorem dX5_stepWhole_95 : decode cX5_stepWhole 95 = .ok (.iconst 4, 1) := dAX5_stepWhole (95, (.iconst 4, 1)) (List.mem_of_getElem? (i := 51) rfl)
theorem dX5_stepWhole_96 : decode cX5_stepWhole 96 = .ok (.goto 4, 3) := dAX5_stepWhole (96, (.goto 4, 3)) (List.mem_of_getElem? (i := 52) rfl)
theorem dX5_stepWhole_99 : decode cX5_stepWhole 99 = .ok (.iconst 2, 1) := dAX5_stepWhole (99, (.iconst 2, 1)) (List.mem_of_getElem? (i := 53) rfl)
theorem dX5_stepWhole_100 : decode cX5_stepWhole 100 = .ok (.putfield 28, 3) := dAX5_stepWhole (100, (.putfield 28, 3)) (List.mem_of_getElem? (i := 54) rfl)
theorem dX5_stepWhole_103 : decode cX5_stepWhole 103 = .ok (.return_, 1) := dAX5_stepWhole (103, (.return_, 1)) (List.mem_of_getElem? (i := 55) rfl)
theorem kX5_stepWhole_37 : Cond.fieldLink RX5 37 "EveningVow$Reader" "number" "I" ∈ wsX5_stepWhole := List.mem_of_getElem? (i := 1) rfl
theorem iX5_stepWhole_X5 : ∀ w ∈ u_ws RX5 TX5 15, w ∈ wsX5_stepWhole := fun w h => (List.mem_cons_of_mem _ (List.mem_append_right _ h))
theorem kX5_stepWhole_34 : Cond.fieldLink RX5 34 "EveningVow$Reader" "to" "I" ∈ wsX5_stepWhole := List.mem_of_getElem? (i := 2) rfl
theorem kX5_stepWhole_25 : Cond.fieldLink RX5 25 "EveningVow$Reader" "length" "I" ∈ wsX5_stepWhole := List.mem_of_getElem? (i := 3) rfl
theorem kX5_stepWhole_9 : Cond.fieldLink RX5 9 "EveningVow$Reader" "tape" "[I" ∈ wsX5_stepWhole := List.mem_of_getElem? (i := 4) rfl
theorem kX5_stepWhole_31 : Cond.fieldLink RX5 31 "EveningVow$Reader" "from" "I" ∈ wsX5_stepWhole := List.mem_of_getElem? (i := 5) rfl
theorem kX5_stepWhole_28 : Cond.fieldLink RX5 28 "EveningVow$Reader" "sort" "I" ∈ wsX5_stepWhole := List.mem_of_getElem? (i := 6) rfl
set_option maxHeartbeats 4000000 in
set_option maxRecDepth 100000 in
theorem wX5_stepWhole_L5 {p : Program} {l : Launch} {e : Env} {s : State} {m : MethodId} {args : Array Value} {below : List Frame} {meth : Method} {c : Code} {g : GG} {A : Nat → Prop} (C0 : Cx p s m args meth c cX5_stepWhole 1 none RX5 wsX5_stepWhole g A) (a_t : Nat) (p_t : Nat → Nat) (n : Nat) (f_t_0 : Nat → Int32)  (o_t' : Nat → Int32) (c_t' : Int64) (K : (Nat → Int32) → Int64 → Option ((Nat → Int32) × Int64)) (hKx : ∀ (o_t : Nat → Int32) (c_t : Int64) (H : Heap) (locs : List Loc) (ls : Array Slot), K o_t c_t = some (o_t', c_t') → va_P g.1 vwCl [oX5 a_t p_t o_t c_t, aI g (p_t 0) 800 f_t_0] H → va_D A [oX5 a_t p_t o_t c_t, aI g (p_t 0) 800 f_t_0] → va_S A s.heap H locs → lv_has ls 1 [(0, .ref a_t)] → W p l e ({ frames := 0, cells := 0, slots := 0, locals := 0 } : Room) s m args below meth c H locs 0 0 (MQ below (EndV g [oX5 a_t p_t o_t' c_t', aI g (p_t 0) 800 f_t_0] A) args s 0 0 A) (F0 m 81 ls [])) : ∀ (k : Nat) (o_t : Nat → Int32) (c_t : Int64), fX5_stepWhole_L5 n f_t_0 K k o_t c_t = some (o_t', c_t') → ∀ (H : Heap) (locs : List Loc) (ls : Array Slot), va_P g.1 vwCl [oX5 a_t p_t o_t c_t, aI g (p_t 0) 800 f_t_0] H → va_D A [oX5 a_t p_t o_t c_t, aI g (p_t 0) 800 f_t_0] → va_S A s.heap H locs → lv_has ls 1 [(0, .ref a_t)] → W p l e ({ frames := 0, cells := 0, slots := 0, locals := 0 } : Room) s m args below meth c H locs 0 0 (MQ below (EndV g [oX5 a_t p_t o_t' c_t', aI g (p_t 0) 800 f_t_0] A) args s 0 0 A) (F0 m 5 ls []) := by
  obtain ⟨hx, hb, hml, hown, hts, hr, hlk, hK, hA, hSW⟩ := id C0
  intro k
  induction k with
  | zero =>
    intro o_t c_t hF
    exact absurd hF (by simp [fX5_stepWhole_L5])
  | succ k ih =>
    intro o_t c_t hF H locs ls hP hD hS hl
    rw [fX5_stepWhole_L5] at hF
    refine lv_aload_n hx hb dX5_stepWhole_5 rfl (lv_at hl 0 rfl) ?_
    refine va_get (D := g.1) (ci := 5) (v := .int (o_t 7)) (C := RX5) (T := TX5) (N := 15) hx hb hts iX5_stepWhole_X5 hown hK.1 hP 0 rfl rfl 7 (by decide) (hts _ kX5_stepWhole_34) (fun _ h9 => h9) rfl dX5_stepWhole_6 ?_
    refine lv_aload_n hx hb dX5_stepWhole_9 rfl (lv_at hl 0 rfl) ?_
    refine va_get (D := g.1) (ci := 5) (v := .int (o_t 4)) (C := RX5) (T := TX5) (N := 15) hx hb hts iX5_stepWhole_X5 hown hK.1 hP 0 rfl rfl 4 (by decide) (hts _ kX5_stepWhole_25) (fun _ h9 => h9) rfl dX5_stepWhole_10 ?_
    refine lv_icmp_ge (tgt := 81) hx hb dX5_stepWhole_13 (by decide) (fun c_1 => ?_) (fun c_1 => ?_)
    · have hF := it_p c_1 hF
      exact hKx o_t c_t _ _ _ hF (hP.sub [0, 1] rfl) (hD.sub [0, 1] rfl rfl) hS (lv_sub hl [0] rfl)
    · have hF := it_n c_1 hF
      refine lv_aload_n hx hb dX5_stepWhole_16 rfl (lv_at hl 0 rfl) ?_
      refine va_get (D := g.1) (ci := 5) (v := .ref (p_t 0)) (C := RX5) (T := TX5) (N := 15) hx hb hts iX5_stepWhole_X5 hown hK.1 hP 0 rfl rfl 0 (by decide) (hts _ kX5_stepWhole_9) (fun _ h9 => h9) rfl dX5_stepWhole_17 ?_
      refine lv_aload_n hx hb dX5_stepWhole_20 rfl (lv_at hl 0 rfl) ?_
      refine va_get (D := g.1) (ci := 5) (v := .int (o_t 7)) (C := RX5) (T := TX5) (N := 15) hx hb hts iX5_stepWhole_X5 hown hK.1 hP 0 rfl rfl 7 (by decide) (hts _ kX5_stepWhole_34) (fun _ h9 => h9) rfl dX5_stepWhole_21 ?_
      obtain ⟨h_2, hF⟩ := it_ck hF
      refine va_iald hx hb hK.1 hP 1 0 rfl rfl h_2 dX5_stepWhole_24 ?_
      refine lv_bipush (v := (48 : Int32)) hx hb dX5_stepWhole_25 (by decide) ?_
      refine lv_icmp_lt (tgt := 81) hx hb dX5_stepWhole_27 (by decide) (fun c_3 => ?_) (fun c_3 => ?_)
      · have hF := it_p c_3 hF
        exact hKx o_t c_t _ _ _ hF (hP.sub [0, 1] rfl) (hD.sub [0, 1] rfl rfl) hS (lv_sub hl [0] rfl)
      · have hF := it_n c_3 hF
        refine lv_aload_n hx hb dX5_stepWhole_30 rfl (lv_at hl 0 rfl) ?_
        refine va_get (D := g.1) (ci := 5) (v := .ref (p_t 0)) (C := RX5) (T := TX5) (N := 15) hx hb hts iX5_stepWhole_X5 hown hK.1 hP 0 rfl rfl 0 (by decide) (hts _ kX5_stepWhole_9) (fun _ h9 => h9) rfl dX5_stepWhole_31 ?_
        refine lv_aload_n hx hb dX5_stepWhole_34 rfl (lv_at hl 0 rfl) ?_
        refine va_get (D := g.1) (ci := 5) (v := .int (o_t 7)) (C := RX5) (T := TX5) (N := 15) hx hb hts iX5_stepWhole_X5 hown hK.1 hP 0 rfl rfl 7 (by decide) (hts _ kX5_stepWhole_34) (fun _ h9 => h9) rfl dX5_stepWhole_35 ?_
        obtain ⟨h_4, hF⟩ := it_ck hF
        refine va_iald hx hb hK.1 hP 1 0 rfl rfl h_4 dX5_stepWhole_38 ?_
        refine lv_bipush (v := (57 : Int32)) hx hb dX5_stepWhole_39 (by decide) ?_
        refine lv_icmp_gt (tgt := 81) hx hb dX5_stepWhole_41 (by decide) (fun c_5 => ?_) (fun c_5 => ?_)
        · have hF := it_p c_5 hF
          exact hKx o_t c_t _ _ _ hF (hP.sub [0, 1] rfl) (hD.sub [0, 1] rfl rfl) hS (lv_sub hl [0] rfl)
        · have hF := it_n c_5 hF
          refine lv_aload_n hx hb dX5_stepWhole_44 rfl (lv_at hl 0 rfl) ?_
          refine lv_bipush (v := (10 : Int32)) hx hb dX5_stepWhole_45 (by decide) ?_
          refine lv_aload_n hx hb dX5_stepWhole_47 rfl (lv_at hl 0 rfl) ?_
          refine va_get (D := g.1) (ci := 5) (v := .int (o_t 8)) (C := RX5) (T := TX5) (N := 15) hx hb hts iX5_stepWhole_X5 hown hK.1 hP 0 rfl rfl 8 (by decide) (hts _ kX5_stepWhole_37) (fun _ h9 => h9) rfl dX5_stepWhole_48 ?_
          refine lv_imul hx hb dX5_stepWhole_51 ?_
          refine lv_aload_n hx hb dX5_stepWhole_52 rfl (lv_at hl 0 rfl) ?_
          refine va_get (D := g.1) (ci := 5) (v := .ref (p_t 0)) (C := RX5) (T := TX5) (N := 15) hx hb hts iX5_stepWhole_X5 hown hK.1 hP 0 rfl rfl 0 (by decide) (hts _ kX5_stepWhole_9) (fun _ h9 => h9) rfl dX5_stepWhole_53 ?_
          refine lv_aload_n hx hb dX5_stepWhole_56 rfl (lv_at hl 0 rfl) ?_
          refine va_get (D := g.1) (ci := 5) (v := .int (o_t 7)) (C := RX5) (T := TX5) (N := 15) hx hb hts iX5_stepWhole_X5 hown hK.1 hP 0 rfl rfl 7 (by decide) (hts _ kX5_stepWhole_34) (fun _ h9 => h9) rfl dX5_stepWhole_57 ?_
          obtain ⟨h_6, hF⟩ := it_ck hF
          refine va_iald hx hb hK.1 hP 1 0 rfl rfl h_6 dX5_stepWhole_60 ?_
          refine lv_iadd hx hb dX5_stepWhole_61 ?_
          refine lv_bipush (v := (48 : Int32)) hx hb dX5_stepWhole_62 (by decide) ?_
          refine lv_isub hx hb dX5_stepWhole_64 ?_
          refine va_put (D := g.1) (ci := 5) (v := .int ((((10 : Int32) * (o_t 8)) + (f_t_0 ((o_t 7)).toNatClampNeg)) - (48 : Int32))) (ty := .int) (C := RX5) (T := TX5) (N := 15) hx hb hts iX5_stepWhole_X5 tyX5 tyX5_ok nmX5 hown hK.1 hP hD hS 0 rfl rfl 8 (by decide) (hts _ kX5_stepWhole_37) (fun _ h9 => h9) rfl (by decide +kernel) rfl rfl (Nat.le_of_ble_eq_true rfl) dX5_stepWhole_65 (fun H locs hP hD hS => ?_)
          have hP : va_P g.1 vwCl [oX5 a_t p_t (upd o_t 8 ((((10 : Int32) * (o_t 8)) + (f_t_0 ((o_t 7)).toNatClampNeg)) - (48 : Int32))) c_t, aI g (p_t 0) 800 f_t_0] H := hP
          have hD : va_D A [oX5 a_t p_t (upd o_t 8 ((((10 : Int32) * (o_t 8)) + (f_t_0 ((o_t 7)).toNatClampNeg)) - (48 : Int32))) c_t, aI g (p_t 0) 800 f_t_0] := hD
          refine lv_aload_n hx hb dX5_stepWhole_68 rfl (lv_at hl 0 rfl) ?_
          refine lv_dup hx hb dX5_stepWhole_69 rfl ?_
          refine va_get (D := g.1) (ci := 5) (v := .int (o_t 7)) (C := RX5) (T := TX5) (N := 15) hx hb hts iX5_stepWhole_X5 hown hK.1 hP 0 rfl rfl 7 (by decide) (hts _ kX5_stepWhole_34) (fun _ h9 => h9) rfl dX5_stepWhole_70 ?_
          refine lv_iconst (v := (1 : Int32)) hx hb dX5_stepWhole_73 (by decide) ?_
          refine lv_iadd hx hb dX5_stepWhole_74 ?_
          refine va_put (D := g.1) (ci := 5) (v := .int ((o_t 7) + (1 : Int32))) (ty := .int) (C := RX5) (T := TX5) (N := 15) hx hb hts iX5_stepWhole_X5 tyX5 tyX5_ok nmX5 hown hK.1 hP hD hS 0 rfl rfl 7 (by decide) (hts _ kX5_stepWhole_34) (fun _ h9 => h9) rfl (by decide +kernel) rfl rfl (Nat.le_of_ble_eq_true rfl) dX5_stepWhole_75 (fun H locs hP hD hS => ?_)
          have hP : va_P g.1 vwCl [oX5 a_t p_t (upd (upd o_t 8 ((((10 : Int32) * (o_t 8)) + (f_t_0 ((o_t 7)).toNatClampNeg)) - (48 : Int32))) 7 ((o_t 7) + (1 : Int32))) c_t, aI g (p_t 0) 800 f_t_0] H := hP
          have hD : va_D A [oX5 a_t p_t (upd (upd o_t 8 ((((10 : Int32) * (o_t 8)) + (f_t_0 ((o_t 7)).toNatClampNeg)) - (48 : Int32))) 7 ((o_t 7) + (1 : Int32))) c_t, aI g (p_t 0) 800 f_t_0] := hD
          refine lv_goto (tgt := 5) hx hb dX5_stepWhole_78 (by decide) ?_
          exact ih (upd (upd o_t 8 ((((10 : Int32) * (o_t 8)) + (f_t_0 ((o_t 7)).toNatClampNeg)) - (48 : Int32))) 7 ((o_t 7) + (1 : Int32))) c_t hF _ _ _ (hP.sub [0, 1] rfl) (hD.sub [0, 1] rfl rfl) hS (lv_sub hl [0] rfl)
set_option maxHeartbeats 4000000 in
set_option maxRecDepth 100000 in
theorem mX5_stepWhole (l : Launch) (g : GG) (a_t : Nat) (p_t : Nat → Nat) (n : Nat) (o_t : Nat → Int32) (c_t : Int64) (f_t_0 : Nat → Int32) (o_t' : Nat → Int32) (c_t' : Int64) (hF : fX5_stepWhole n o_t c_t f_t_0 = some (o_t', c_t')) : MV l g yX5_stepWhole wsX5_stepWhole ({ frames := 0, cells := 0, slots := 0, locals := 0 } : Room) [.ref a_t] [oX5 a_t p_t o_t c_t, aI g (p_t 0) 800 f_t_0] [oX5 a_t p_t o_t' c_t', aI g (p_t 0) 800 f_t_0] := by
  refine MV.of (cc := cX5_stepWhole) (maxL := 1) (own := RX5) rfl rfl (by decide) (Nat.le_of_ble_eq_true rfl) ?_
  intro p e s m args below meth c A C0 hP hD hS ls hl
  obtain ⟨hx, hb, hml, hown, hts, hr, hlk, hK, hA, hSW⟩ := id C0
  have hl : lv_has ls 1 [(0, .ref a_t)] := hl
  rw [fX5_stepWhole] at hF
  refine lv_aload_n hx hb dX5_stepWhole_0 rfl (lv_at hl 0 rfl) ?_
  refine lv_iconst (v := (0 : Int32)) hx hb dX5_stepWhole_1 (by decide) ?_
  refine va_put (D := g.1) (ci := 5) (v := .int (0 : Int32)) (ty := .int) (C := RX5) (T := TX5) (N := 15) hx hb hts iX5_stepWhole_X5 tyX5 tyX5_ok nmX5 hown hK.1 hP hD hS 0 rfl rfl 8 (by decide) (hts _ kX5_stepWhole_37) (fun _ h9 => h9) rfl (by decide +kernel) rfl rfl (Nat.le_of_ble_eq_true rfl) dX5_stepWhole_2 (fun H locs hP hD hS => ?_)
  have hP : va_P g.1 vwCl [oX5 a_t p_t (upd o_t 8 (0 : Int32)) c_t, aI g (p_t 0) 800 f_t_0] H := hP
  have hD : va_D A [oX5 a_t p_t (upd o_t 8 (0 : Int32)) c_t, aI g (p_t 0) 800 f_t_0] := hD
  refine wX5_stepWhole_L5 C0 a_t p_t n f_t_0 o_t' c_t' _ ?_ n (upd o_t 8 (0 : Int32)) c_t hF _ _ _ (hP.sub [0, 1] rfl) (hD.sub [0, 1] rfl rfl) hS (lv_sub hl [0] rfl)
  · intro o_t_x5 c_t_x5 H locs ls hF hP hD hS hl
    refine lv_aload_n hx hb dX5_stepWhole_81 rfl (lv_at hl 0 rfl) ?_
    refine lv_aload_n hx hb dX5_stepWhole_82 rfl (lv_at hl 0 rfl) ?_
    refine va_get (D := g.1) (ci := 5) (v := .int (o_t_x5 7)) (C := RX5) (T := TX5) (N := 15) hx hb hts iX5_stepWhole_X5 hown hK.1 hP 0 rfl rfl 7 (by decide) (hts _ kX5_stepWhole_34) (fun _ h9 => h9) rfl dX5_stepWhole_83 ?_
    refine lv_aload_n hx hb dX5_stepWhole_86 rfl (lv_at hl 0 rfl) ?_
    refine va_get (D := g.1) (ci := 5) (v := .int (o_t_x5 6)) (C := RX5) (T := TX5) (N := 15) hx hb hts iX5_stepWhole_X5 hown hK.1 hP 0 rfl rfl 6 (by decide) (hts _ kX5_stepWhole_31) (fun _ h9 => h9) rfl dX5_stepWhole_87 ?_
    refine lv_isub hx hb dX5_stepWhole_90 ?_
    refine lv_iconst (v := (3 : Int32)) hx hb dX5_stepWhole_91 (by decide) ?_
    refine lv_icmp_le (tgt := 99) hx hb dX5_stepWhole_92 (by decide) (fun c_7 => ?_) (fun c_7 => ?_)
    · have hF := it_p c_7 hF
      refine lv_iconst (v := (2 : Int32)) hx hb dX5_stepWhole_99 (by decide) ?_
      refine va_put (D := g.1) (ci := 5) (v := .int (2 : Int32)) (ty := .int) (C := RX5) (T := TX5) (N := 15) hx hb hts iX5_stepWhole_X5 tyX5 tyX5_ok nmX5 hown hK.1 hP hD hS 0 rfl rfl 5 (by decide) (hts _ kX5_stepWhole_28) (fun _ h9 => h9) rfl (by decide +kernel) rfl rfl (Nat.le_of_ble_eq_true rfl) dX5_stepWhole_100 (fun H locs hP hD hS => ?_)
      have hP : va_P g.1 vwCl [oX5 a_t p_t (upd o_t_x5 5 (2 : Int32)) c_t_x5, aI g (p_t 0) 800 f_t_0] H := hP
      have hD : va_D A [oX5 a_t p_t (upd o_t_x5 5 (2 : Int32)) c_t_x5, aI g (p_t 0) 800 f_t_0] := hD
      cases hF
      exact ret_v C0 hP hD hS [0, 1] rfl rfl rfl dX5_stepWhole_103
    · have hF := it_n c_7 hF
      refine lv_iconst (v := (4 : Int32)) hx hb dX5_stepWhole_95 (by decide) ?_
      refine lv_goto (tgt := 100) hx hb dX5_stepWhole_96 (by decide) ?_
      refine va_put (D := g.1) (ci := 5) (v := .int (4 : Int32)) (ty := .int) (C := RX5) (T := TX5) (N := 15) hx hb hts iX5_stepWhole_X5 tyX5 tyX5_ok nmX5 hown hK.1 hP hD hS 0 rfl rfl 5 (by decide) (hts _ kX5_stepWhole_28) (fun _ h9 => h9) rfl (by decide +kernel) rfl rfl (Nat.le_of_ble_eq_true rfl) dX5_stepWhole_100 (fun H locs hP hD hS => ?_)
      have hP : va_P g.1 vwCl [oX5 a_t p_t (upd o_t_x5 5 (4 : Int32)) c_t_x5, aI g (p_t 0) 800 f_t_0] H := hP
      have hD : va_D A [oX5 a_t p_t (upd o_t_x5 5 (4 : Int32)) c_t_x5, aI g (p_t 0) 800 f_t_0] := hD
      cases hF
      exact ret_v C0 hP hD hS [0, 1] rfl rfl rfl dX5_stepWhole_103

theorem dAX5_step : ∀ q ∈ ([(0, (.aload_n 0, 1)), (1, (.aload_n 0, 1)), (2, (.getfield 34, 3)), (5, (.putfield 31, 3)), (8, (.aload_n 0, 1)), (9, (.getfield 31, 3)), (12, (.aload_n 0, 1)), (13, (.getfield 25, 3)), (16, (.if_icmp .ge 30, 3)), (19, (.aload_n 0, 1)), (20, (.getfield 9, 3)), (23, (.aload_n 0, 1)), (24, (.getfield 31, 3)), (27, (.iaload, 1)), (28, (.bipush 32, 2)), (30, (.if_icmp .ne 16, 3)), (33, (.aload_n 0, 1)), (34, (.dup, 1)), (35, (.getfield 31, 3)), (38, (.iconst 1, 1)), (39, (.iadd, 1)), (40, (.putfield 31, 3)), (43, (.goto (-35), 3)), (46, (.aload_n 0, 1)), (47, (.aload_n 0, 1)), (48, (.getfield 31, 3)), (51, (.putfield 34, 3)), (54, (.aload_n 0, 1)), (55, (.getfield 31, 3)), (58, (.aload_n 0, 1)), (59, (.getfield 25, 3)), (62, (.if_icmp .lt 11, 3)), (65, (.aload_n 0, 1)), (66, (.iconst 0, 1)), (67, (.putfield 28, 3)), (70, (.goto 106, 3)), (73, (.aload_n 0, 1)), (74, (.getfield 9, 3)), (77, (.aload_n 0, 1)), (78, (.getfield 31, 3)), (81, (.iaload, 1)), (82, (.bipush 97, 2)), (84, (.if_icmp .lt 24, 3)), (87, (.aload_n 0, 1)), (88, (.getfield 9, 3)), (91, (.aload_n 0, 1)), (92, (.getfield 31, 3)), (95, (.iaload, 1)), (96, (.bipush 122, 2)), (98, (.if_icmp .gt 10, 3)), (101, (.aload_n 0, 1)), (102, (.invokevirtual 277, 3)), (105, (.goto 71, 3)), (108, (.aload_n 0, 1)), (109, (.getfield 9, 3)), (112, (.aload_n 0, 1)), (113, (.getfield 31, 3)), (116, (.iaload, 1)), (117, (.bipush 48, 2)), (119, (.if_icmp .lt 24, 3)), (122, (.aload_n 0, 1)), (123, (.getfield 9, 3)), (126, (.aload_n 0, 1)), (127, (.getfield 31, 3)), (130, (.iaload, 1)), (131, (.bipush 57, 2)), (133, (.if_icmp .gt 10, 3)), (136, (.aload_n 0, 1)), (137, (.invokevirtual 280, 3)), (140, (.goto 36, 3)), (143, (.aload_n 0, 1)), (144, (.aload_n 0, 1)), (145, (.getfield 9, 3)), (148, (.aload_n 0, 1)), (149, (.getfield 31, 3)), (152, (.iaload, 1)), (153, (.bipush 59, 2)), (155, (.if_icmp .ne 7, 3)), (158, (.iconst 3, 1)), (159, (.goto 4, 3)), (162, (.iconst 4, 1)), (163, (.putfield 28, 3)), (166, (.aload_n 0, 1)), (167, (.dup, 1)), (168, (.getfield 34, 3)), (171, (.iconst 1, 1)), (172, (.iadd, 1)), (173, (.putfield 34, 3)), (176, (.return_, 1))] : List (Nat × (Instr × Nat))), decode cX5_step q.1 = .ok q.2 := by decide +kernel
theorem dX5_step_0 : decode cX5_step 0 = .ok (.aload_n 0, 1) := dAX5_step (0, (.aload_n 0, 1)) (List.mem_of_getElem? (i := 0) rfl)
theorem dX5_step_1 : decode cX5_step 1 = .ok (.aload_n 0, 1) := dAX5_step (1, (.aload_n 0, 1)) (List.mem_of_getElem? (i := 1) rfl)
theorem dX5_step_2 : decode cX5_step 2 = .ok (.getfield 34, 3) := dAX5_step (2, (.getfield 34, 3)) (List.mem_of_getElem? (i := 2) rfl)
theorem dX5_step_5 : decode cX5_step 5 = .ok (.putfield 31, 3) := dAX5_step (5, (.putfield 31, 3)) (List.mem_of_getElem? (i := 3) rfl)
theorem dX5_step_8 : decode cX5_step 8 = .ok (.aload_n 0, 1) := dAX5_step (8, (.aload_n 0, 1)) (List.mem_of_getElem? (i := 4) rfl)
theorem dX5_step_9 : decode cX5_step 9 = .ok (.getfield 31, 3) := dAX5_step (9, (.getfield 31, 3)) (List.mem_of_getElem? (i := 5) rfl)
theorem dX5_step_12 : decode cX5_step 12 = .ok (.aload_n 0, 1) := dAX5_step (12, (.aload_n 0, 1)) (List.mem_of_getElem? (i := 6) rfl)
theorem dX5_step_13 : decode cX5_step 13 = .ok (.getfield 25, 3) := dAX5_step (13, (.getfield 25, 3)) (List.mem_of_getElem? (i := 7) rfl)
theorem dX5_step_16 : decode cX5_step 16 = .ok (.if_icmp .ge 30, 3) := dAX5_step (16, (.if_icmp .ge 30, 3)) (List.mem_of_getElem? (i := 8) rfl)
theorem dX5_step_19 : decode cX5_step 19 = .ok (.aload_n 0, 1) := dAX5_step (19, (.aload_n 0, 1)) (List.mem_of_getElem? (i := 9) rfl)
theorem dX5_step_20 : decode cX5_step 20 = .ok (.getfield 9, 3) := dAX5_step (20, (.getfield 9, 3)) (List.mem_of_getElem? (i := 10) rfl)
theorem dX5_step_23 : decode cX5_step 23 = .ok (.aload_n 0, 1) := dAX5_step (23, (.aload_n 0, 1)) (List.mem_of_getElem? (i := 11) rfl)
theorem dX5_step_24 : decode cX5_step 24 = .ok (.getfield 31, 3) := dAX5_step (24, (.getfield 31, 3)) (List.mem_of_getElem? (i := 12) rfl)
theorem dX5_step_27 : decode cX5_step 27 = .ok (.iaload, 1) := dAX5_step (27, (.iaload, 1)) (List.mem_of_getElem? (i := 13) rfl)
theorem dX5_step_28 : decode cX5_step 28 = .ok (.bipush 32, 2) := dAX5_step (28, (.bipush 32, 2)) (List.mem_of_getElem? (i := 14) rfl)
theorem dX5_step_30 : decode cX5_step 30 = .ok (.if_icmp .ne 16, 3) := dAX5_step (30, (.if_icmp .ne 16, 3)) (List.mem_of_getElem? (i := 15) rfl)
theorem dX5_step_33 : decode cX5_step 33 = .ok (.aload_n 0, 1) := dAX5_step (33, (.aload_n 0, 1)) (List.mem_of_getElem? (i := 16) rfl)
theorem dX5_step_34 : decode cX5_step 34 = .ok (.dup, 1) := dAX5_step (34, (.dup, 1)) (List.mem_of_getElem? (i := 17) rfl)
theorem dX5_step_35 : decode cX5_step 35 = .ok (.getfield 31, 3) := dAX5_step (35, (.getfield 31, 3)) (List.mem_of_getElem? (i := 18) rfl)
theorem dX5_step_38 : decode cX5_step 38 = .ok (.iconst 1, 1) := dAX5_step (38, (.iconst 1, 1)) (List.mem_of_getElem? (i := 19) rfl)
theorem dX5_step_39 : decode cX5_step 39 = .ok (.iadd, 1) := dAX5_step (39, (.iadd, 1)) (List.mem_of_getElem? (i := 20) rfl)
theorem dX5_step_40 : decode cX5_step 40 = .ok (.putfield 31, 3) := dAX5_step (40, (.putfield 31, 3)) (List.mem_of_getElem? (i := 21) rfl)
theorem dX5_step_43 : decode cX5_step 43 = .ok (.goto (-35), 3) := dAX5_step (43, (.goto (-35), 3)) (List.mem_of_getElem? (i := 22) rfl)
theorem dX5_step_46 : decode cX5_step 46 = .ok (.aload_n 0, 1) := dAX5_step (46, (.aload_n 0, 1)) (List.mem_of_getElem? (i := 23) rfl)
theorem dX5_step_47 : decode cX5_step 47 = .ok (.aload_n 0, 1) := dAX5_step (47, (.aload_n 0, 1)) (List.mem_of_getElem? (i := 24) rfl)
theorem dX5_step_48 : decode cX5_step 48 = .ok (.getfield 31, 3) := dAX5_step (48, (.getfield 31, 3)) (List.mem_of_getElem? (i := 25) rfl)
theorem dX5_step_51 : decode cX5_step 51 = .ok (.putfield 34, 3) := dAX5_step (51, (.putfield 34, 3)) (List.mem_of_getElem? (i := 26) rfl)
theorem dX5_step_54 : decode cX5_step 54 = .ok (.aload_n 0, 1) := dAX5_step (54, (.aload_n 0, 1)) (List.mem_of_getElem? (i := 27) rfl)
theorem dX5_step_55 : decode cX5_step 55 = .ok (.getfield 31, 3) := dAX5_step (55, (.getfield 31, 3)) (List.mem_of_getElem? (i := 28) rfl)
theorem dX5_step_58 : decode cX5_step 58 = .ok (.aload_n 0, 1) := dAX5_step (58, (.aload_n 0, 1)) (List.mem_of_getElem? (i := 29) rfl)
theorem dX5_step_59 : decode cX5_step 59 = .ok (.getfield 25, 3) := dAX5_step (59, (.getfield 25, 3)) (List.mem_of_getElem? (i := 30) rfl)
theorem dX5_step_62 : decode cX5_step 62 = .ok (.if_icmp .lt 11, 3) := dAX5_step (62, (.if_icmp .lt 11, 3)) (List.mem_of_getElem? (i := 31) rfl)
theorem dX5_step_65 : decode cX5_step 65 = .ok (.aload_n 0, 1) := dAX5_step (65, (.aload_n 0, 1)) (List.mem_of_getElem? (i := 32) rfl)
theorem dX5_step_66 : decode cX5_step 66 = .ok (.iconst 0, 1) := dAX5_step (66, (.iconst 0, 1)) (List.mem_of_getElem? (i := 33) rfl)
theorem dX5_step_67 : decode cX5_step 67 = .ok (.putfield 28, 3) := dAX5_step (67, (.putfield 28, 3)) (List.mem_of_getElem? (i := 34) rfl)
theorem dX5_step_70 : decode cX5_step 70 = .ok (.goto 106, 3) := dAX5_step (70, (.goto 106, 3)) (List.mem_of_getElem? (i := 35) rfl)
theorem dX5_step_73 : decode cX5_step 73 = .ok (.aload_n 0, 1) := dAX5_step (73, (.aload_n 0, 1)) (List.mem_of_getElem? (i := 36) rfl)
theorem dX5_step_74 : decode cX5_step 74 = .ok (.getfield 9, 3) := dAX5_step (74, (.getfield 9, 3)) (List.mem_of_getElem? (i := 37) rfl)
theorem dX5_step_77 : decode cX5_step 77 = .ok (.aload_n 0, 1) := dAX5_step (77, (.aload_n 0, 1)) (List.mem_of_getElem? (i := 38) rfl)
theorem dX5_step_78 : decode cX5_step 78 = .ok (.getfield 31, 3) := dAX5_step (78, (.getfield 31, 3)) (List.mem_of_getElem? (i := 39) rfl)
theorem dX5_step_81 : decode cX5_step 81 = .ok (.iaload, 1) := dAX5_step (81, (.iaload, 1)) (List.mem_of_getElem? (i := 40) rfl)
theorem dX5_step_82 : decode cX5_step 82 = .ok (.bipush 97, 2) := dAX5_step (82, (.bipush 97, 2)) (List.mem_of_getElem? (i := 41) rfl)
theorem dX5_step_84 : decode cX5_step 84 = .ok (.if_icmp .lt 24, 3) := dAX5_step (84, (.if_icmp .lt 24, 3)) (List.mem_of_getElem? (i := 42) rfl)
theorem dX5_step_87 : decode cX5_step 87 = .ok (.aload_n 0, 1) := dAX5_step (87, (.aload_n 0, 1)) (List.mem_of_getElem? (i := 43) rfl)
theorem dX5_step_88 : decode cX5_step 88 = .ok (.getfield 9, 3) := dAX5_step (88, (.getfield 9, 3)) (List.mem_of_getElem? (i := 44) rfl)
theorem dX5_step_91 : decode cX5_step 91 = .ok (.aload_n 0, 1) := dAX5_step (91, (.aload_n 0, 1)) (List.mem_of_getElem? (i := 45) rfl)
theorem dX5_step_92 : decode cX5_step 92 = .ok (.getfield 31, 3) := dAX5_step (92, (.getfield 31, 3)) (List.mem_of_getElem? (i := 46) rfl)
theorem dX5_step_95 : decode cX5_step 95 = .ok (.iaload, 1) := dAX5_step (95, (.iaload, 1)) (List.mem_of_getElem? (i := 47) rfl)
theorem dX5_step_96 : decode cX5_step 96 = .ok (.bipush 122, 2) := dAX5_step (96, (.bipush 122, 2)) (List.mem_of_getElem? (i := 48) rfl)
theorem dX5_step_98 : decode cX5_step 98 = .ok (.if_icmp .gt 10, 3) := dAX5_step (98, (.if_icmp .gt 10, 3)) (List.mem_of_getElem? (i := 49) rfl)
theorem dX5_step_101 : decode cX5_step 101 = .ok (.aload_n 0, 1) := dAX5_step (101, (.aload_n 0, 1)) (List.mem_of_getElem? (i := 50) rfl)
theorem dX5_step_102 : decode cX5_step 102 = .ok (.invokevirtual 277, 3) := dAX5_step (102, (.invokevirtual 277, 3)) (List.mem_of_getElem? (i := 51) rfl)
theorem dX5_step_105 : decode cX5_step 105 = .ok (.goto 71, 3) := dAX5_step (105, (.goto 71, 3)) (List.mem_of_getElem? (i := 52) rfl)
theorem dX5_step_108 : decode cX5_step 108 = .ok (.aload_n 0, 1) := dAX5_step (108, (.aload_n 0, 1)) (List.mem_of_getElem? (i := 53) rfl)
theorem dX5_step_109 : decode cX5_step 109 = .ok (.getfield 9, 3) := dAX5_step (109, (.getfield 9, 3)) (List.mem_of_getElem? (i := 54) rfl)
theorem dX5_step_112 : decode cX5_step 112 = .ok (.aload_n 0, 1) := dAX5_step (112, (.aload_n 0, 1)) (List.mem_of_getElem? (i := 55) rfl)
theorem dX5_step_113 : decode cX5_step 113 = .ok (.getfield 31, 3) := dAX5_step (113, (.getfield 31, 3)) (List.mem_of_getElem? (i := 56) rfl)
theorem dX5_step_116 : decode cX5_step 116 = .ok (.iaload, 1) := dAX5_step (116, (.iaload, 1)) (List.mem_of_getElem? (i := 57) rfl)
theorem dX5_step_117 : decode cX5_step 117 = .ok (.bipush 48, 2) := dAX5_step (117, (.bipush 48, 2)) (List.mem_of_getElem? (i := 58) rfl)
theorem dX5_step_119 : decode cX5_step 119 = .ok (.if_icmp .lt 24, 3) := dAX5_step (119, (.if_icmp .lt 24, 3)) (List.mem_of_getElem? (i := 59) rfl)
theorem dX5_step_122 : decode cX5_step 122 = .ok (.aload_n 0, 1) := dAX5_step (122, (.aload_n 0, 1)) (List.mem_of_getElem? (i := 60) rfl)
theorem dX5_step_123 : decode cX5_step 123 = .ok (.getfield 9, 3) := dAX5_step (123, (.getfield 9, 3)) (List.mem_of_getElem? (i := 61) rfl)
theorem dX5_step_126 : decode cX5_step 126 = .ok (.aload_n 0, 1) := dAX5_step (126, (.aload_n 0, 1)) (List.mem_of_getElem? (i := 62) rfl)
theorem dX5_step_127 : decode cX5_step 127 = .ok (.getfield 31, 3) := dAX5_step (127, (.getfield 31, 3)) (List.mem_of_getElem? (i := 63) rfl)
theorem dX5_step_130 : decode cX5_step 130 = .ok (.iaload, 1) := dAX5_step (130, (.iaload, 1)) (List.mem_of_getElem? (i := 64) rfl)
theorem dX5_step_131 : decode cX5_step 131 = .ok (.bipush 57, 2) := dAX5_step (131, (.bipush 57, 2)) (List.mem_of_getElem? (i := 65) rfl)
theorem dX5_step_133 : decode cX5_step 133 = .ok (.if_icmp .gt 10, 3) := dAX5_step (133, (.if_icmp .gt 10, 3)) (List.mem_of_getElem? (i := 66) rfl)
theorem dX5_step_136 : decode cX5_step 136 = .ok (.aload_n 0, 1) := dAX5_step (136, (.aload_n 0, 1)) (List.mem_of_getElem? (i := 67) rfl)
theorem dX5_step_137 : decode cX5_step 137 = .ok (.invokevirtual 280, 3) := dAX5_step (137, (.invokevirtual 280, 3)) (List.mem_of_getElem? (i := 68) rfl)
theorem dX5_step_140 : decode cX5_step 140 = .ok (.goto 36, 3) := dAX5_step (140, (.goto 36, 3)) (List.mem_of_getElem? (i := 69) rfl)
theorem dX5_step_143 : decode cX5_step 143 = .ok (.aload_n 0, 1) := dAX5_step (143, (.aload_n 0, 1)) (List.mem_of_getElem? (i := 70) rfl)
theorem dX5_step_144 : decode cX5_step 144 = .ok (.aload_n 0, 1) := dAX5_step (144, (.aload_n 0, 1)) (List.mem_of_getElem? (i := 71) rfl)
theorem dX5_step_145 : decode cX5_step 145 = .ok (.getfield 9, 3) := dAX5_step (145, (.getfield 9, 3)) (List.mem_of_getElem? (i := 72) rfl)
theorem dX5_step_148 : decode cX5_step 148 = .ok (.aload_n 0, 1) := dAX5_step (148, (.aload_n 0, 1)) (List.mem_of_getElem? (i := 73) rfl)
theorem dX5_step_149 : decode cX5_step 149 = .ok (.getfield 31, 3) := dAX5_step (149, (.getfield 31, 3)) (List.mem_of_getElem? (i := 74) rfl)
theorem dX5_step_152 : decode cX5_step 152 = .ok (.iaload, 1) := dAX5_step (152, (.iaload, 1)) (List.mem_of_getElem? (i := 75) rfl)
theorem dX5_step_153 : decode cX5_step 153 = .ok (.bipush 59, 2) := dAX5_step (153, (.bipush 59, 2)) (List.mem_of_getElem? (i := 76) rfl)
theorem dX5_step_155 : decode cX5_step 155 = .ok (.if_icmp .ne 7, 3) := dAX5_step (155, (.if_icmp .ne 7, 3)) (List.mem_of_getElem? (i := 77) rfl)
theorem dX5_step_158 : decode cX5_step 158 = .ok (.iconst 3, 1) := dAX5_step (158, (.iconst 3, 1)) (List.mem_of_getElem? (i := 78) rfl)
theorem dX5_step_159 : decode cX5_step 159 = .ok (.goto 4, 3) := dAX5_step (159, (.goto 4, 3)) (List.mem_of_getElem? (i := 79) rfl)
theorem dX5_step_162 : decode cX5_step 162 = .ok (.iconst 4, 1) := dAX5_step (162, (.iconst 4, 1)) (List.mem_of_getElem? (i := 80) rfl)
theorem dX5_step_163 : decode cX5_step 163 = .ok (.putfield 28, 3) := dAX5_step (163, (.putfield 28, 3)) (List.mem_of_getElem? (i := 81) rfl)
theorem dX5_step_166 : decode cX5_step 166 = .ok (.aload_n 0, 1) := dAX5_step (166, (.aload_n 0, 1)) (List.mem_of_getElem? (i := 82) rfl)
theorem dX5_step_167 : decode cX5_step 167 = .ok (.dup, 1) := dAX5_step (167, (.dup, 1)) (List.mem_of_getElem? (i := 83) rfl)
theorem dX5_step_168 : decode cX5_step 168 = .ok (.getfield 34, 3) := dAX5_step (168, (.getfield 34, 3)) (List.mem_of_getElem? (i := 84) rfl)
theorem dX5_step_171 : decode cX5_step 171 = .ok (.iconst 1, 1) := dAX5_step (171, (.iconst 1, 1)) (List.mem_of_getElem? (i := 85) rfl)
theorem dX5_step_172 : decode cX5_step 172 = .ok (.iadd, 1) := dAX5_step (172, (.iadd, 1)) (List.mem_of_getElem? (i := 86) rfl)
theorem dX5_step_173 : decode cX5_step 173 = .ok (.putfield 34, 3) := dAX5_step (173, (.putfield 34, 3)) (List.mem_of_getElem? (i := 87) rfl)
theorem dX5_step_176 : decode cX5_step 176 = .ok (.return_, 1) := dAX5_step (176, (.return_, 1)) (List.mem_of_getElem? (i := 88) rfl)
set_option maxRecDepth 20000 in
theorem ggX5_step_X5_stepWord : GoodIn wsX5_step wsX5_stepWord := goodIn_r _ [10, 11, 1, 3, 4, 2, 5, 17, 18, 19, 20, 21, 22, 23, 24, 25, 26, 27, 28, 29, 30, 31] rfl (by decide +kernel)
set_option maxRecDepth 20000 in
theorem gX5_step_X5_stepWord : GoodIn wsX5_step (wsV RX5 277 RX5 yX5_stepWord wsX5_stepWord) := goodIn_app (goodIn_of _ (by decide +kernel)) ggX5_step_X5_stepWord
set_option maxRecDepth 20000 in
theorem ggX5_step_X5_stepWhole : GoodIn wsX5_step wsX5_stepWhole := goodIn_r _ [15, 16, 1, 3, 4, 2, 5, 17, 18, 19, 20, 21, 22, 23, 24, 25, 26, 27, 28, 29, 30, 31] rfl (by decide +kernel)
set_option maxRecDepth 20000 in
theorem gX5_step_X5_stepWhole : GoodIn wsX5_step (wsV RX5 280 RX5 yX5_stepWhole wsX5_stepWhole) := goodIn_app (goodIn_of _ (by decide +kernel)) ggX5_step_X5_stepWhole
theorem kX5_step_34 : Cond.fieldLink RX5 34 "EveningVow$Reader" "to" "I" ∈ wsX5_step := List.mem_of_getElem? (i := 1) rfl
theorem iX5_step_X5 : ∀ w ∈ u_ws RX5 TX5 15, w ∈ wsX5_step := fun w h => (List.mem_cons_of_mem _ (List.mem_append_right _ h))
theorem kX5_step_31 : Cond.fieldLink RX5 31 "EveningVow$Reader" "from" "I" ∈ wsX5_step := List.mem_of_getElem? (i := 2) rfl
theorem kX5_step_25 : Cond.fieldLink RX5 25 "EveningVow$Reader" "length" "I" ∈ wsX5_step := List.mem_of_getElem? (i := 3) rfl
theorem kX5_step_9 : Cond.fieldLink RX5 9 "EveningVow$Reader" "tape" "[I" ∈ wsX5_step := List.mem_of_getElem? (i := 4) rfl
theorem kX5_step_28 : Cond.fieldLink RX5 28 "EveningVow$Reader" "sort" "I" ∈ wsX5_step := List.mem_of_getElem? (i := 5) rfl
set_option maxHeartbeats 4000000 in
set_option maxRecDepth 100000 in
theorem wX5_step_L8 {p : Program} {l : Launch} {e : Env} {s : State} {m : MethodId} {args : Array Value} {below : List Frame} {meth : Method} {c : Code} {g : GG} {A : Nat → Prop} (C0 : Cx p s m args meth c cX5_step 1 none RX5 wsX5_step g A) (a_t : Nat) (p_t : Nat → Nat) (n : Nat) (f_t_0 : Nat → Int32)  (o_t' : Nat → Int32) (c_t' : Int64) (K : (Nat → Int32) → Int64 → Option ((Nat → Int32) × Int64)) (hKx : ∀ (o_t : Nat → Int32) (c_t : Int64) (H : Heap) (locs : List Loc) (ls : Array Slot), K o_t c_t = some (o_t', c_t') → va_P g.1 vwCl [oX5 a_t p_t o_t c_t, aI g (p_t 0) 800 f_t_0] H → va_D A [oX5 a_t p_t o_t c_t, aI g (p_t 0) 800 f_t_0] → va_S A s.heap H locs → lv_has ls 1 [(0, .ref a_t)] → W p l e ({ frames := 1, cells := 0, slots := 0, locals := 20 } : Room) s m args below meth c H locs 0 0 (MQ below (EndV g [oX5 a_t p_t o_t' c_t', aI g (p_t 0) 800 f_t_0] A) args s 0 0 A) (F0 m 46 ls [])) : ∀ (k : Nat) (o_t : Nat → Int32) (c_t : Int64), fX5_step_L8 n f_t_0 K k o_t c_t = some (o_t', c_t') → ∀ (H : Heap) (locs : List Loc) (ls : Array Slot), va_P g.1 vwCl [oX5 a_t p_t o_t c_t, aI g (p_t 0) 800 f_t_0] H → va_D A [oX5 a_t p_t o_t c_t, aI g (p_t 0) 800 f_t_0] → va_S A s.heap H locs → lv_has ls 1 [(0, .ref a_t)] → W p l e ({ frames := 1, cells := 0, slots := 0, locals := 20 } : Room) s m args below meth c H locs 0 0 (MQ below (EndV g [oX5 a_t p_t o_t' c_t', aI g (p_t 0) 800 f_t_0] A) args s 0 0 A) (F0 m 8 ls []) := by
  obtain ⟨hx, hb, hml, hown, hts, hr, hlk, hK, hA, hSW⟩ := id C0
  intro k
  induction k with
  | zero =>
    intro o_t c_t hF
    exact absurd hF (by simp [fX5_step_L8])
  | succ k ih =>
    intro o_t c_t hF H locs ls hP hD hS hl
    rw [fX5_step_L8] at hF
    refine lv_aload_n hx hb dX5_step_8 rfl (lv_at hl 0 rfl) ?_
    refine va_get (D := g.1) (ci := 5) (v := .int (o_t 6)) (C := RX5) (T := TX5) (N := 15) hx hb hts iX5_step_X5 hown hK.1 hP 0 rfl rfl 6 (by decide) (hts _ kX5_step_31) (fun _ h9 => h9) rfl dX5_step_9 ?_
    refine lv_aload_n hx hb dX5_step_12 rfl (lv_at hl 0 rfl) ?_
    refine va_get (D := g.1) (ci := 5) (v := .int (o_t 4)) (C := RX5) (T := TX5) (N := 15) hx hb hts iX5_step_X5 hown hK.1 hP 0 rfl rfl 4 (by decide) (hts _ kX5_step_25) (fun _ h9 => h9) rfl dX5_step_13 ?_
    refine lv_icmp_ge (tgt := 46) hx hb dX5_step_16 (by decide) (fun c_1 => ?_) (fun c_1 => ?_)
    · have hF := it_p c_1 hF
      exact hKx o_t c_t _ _ _ hF (hP.sub [0, 1] rfl) (hD.sub [0, 1] rfl rfl) hS (lv_sub hl [0] rfl)
    · have hF := it_n c_1 hF
      refine lv_aload_n hx hb dX5_step_19 rfl (lv_at hl 0 rfl) ?_
      refine va_get (D := g.1) (ci := 5) (v := .ref (p_t 0)) (C := RX5) (T := TX5) (N := 15) hx hb hts iX5_step_X5 hown hK.1 hP 0 rfl rfl 0 (by decide) (hts _ kX5_step_9) (fun _ h9 => h9) rfl dX5_step_20 ?_
      refine lv_aload_n hx hb dX5_step_23 rfl (lv_at hl 0 rfl) ?_
      refine va_get (D := g.1) (ci := 5) (v := .int (o_t 6)) (C := RX5) (T := TX5) (N := 15) hx hb hts iX5_step_X5 hown hK.1 hP 0 rfl rfl 6 (by decide) (hts _ kX5_step_31) (fun _ h9 => h9) rfl dX5_step_24 ?_
      obtain ⟨h_2, hF⟩ := it_ck hF
      refine va_iald hx hb hK.1 hP 1 0 rfl rfl h_2 dX5_step_27 ?_
      refine lv_bipush (v := (32 : Int32)) hx hb dX5_step_28 (by decide) ?_
      refine lv_icmp_ne (tgt := 46) hx hb dX5_step_30 (by decide) (fun c_3 => ?_) (fun c_3 => ?_)
      · have hF := it_n c_3 hF
        exact hKx o_t c_t _ _ _ hF (hP.sub [0, 1] rfl) (hD.sub [0, 1] rfl rfl) hS (lv_sub hl [0] rfl)
      · have hF := it_p c_3 hF
        refine lv_aload_n hx hb dX5_step_33 rfl (lv_at hl 0 rfl) ?_
        refine lv_dup hx hb dX5_step_34 rfl ?_
        refine va_get (D := g.1) (ci := 5) (v := .int (o_t 6)) (C := RX5) (T := TX5) (N := 15) hx hb hts iX5_step_X5 hown hK.1 hP 0 rfl rfl 6 (by decide) (hts _ kX5_step_31) (fun _ h9 => h9) rfl dX5_step_35 ?_
        refine lv_iconst (v := (1 : Int32)) hx hb dX5_step_38 (by decide) ?_
        refine lv_iadd hx hb dX5_step_39 ?_
        refine va_put (D := g.1) (ci := 5) (v := .int ((o_t 6) + (1 : Int32))) (ty := .int) (C := RX5) (T := TX5) (N := 15) hx hb hts iX5_step_X5 tyX5 tyX5_ok nmX5 hown hK.1 hP hD hS 0 rfl rfl 6 (by decide) (hts _ kX5_step_31) (fun _ h9 => h9) rfl (by decide +kernel) rfl rfl (Nat.le_of_ble_eq_true rfl) dX5_step_40 (fun H locs hP hD hS => ?_)
        have hP : va_P g.1 vwCl [oX5 a_t p_t (upd o_t 6 ((o_t 6) + (1 : Int32))) c_t, aI g (p_t 0) 800 f_t_0] H := hP
        have hD : va_D A [oX5 a_t p_t (upd o_t 6 ((o_t 6) + (1 : Int32))) c_t, aI g (p_t 0) 800 f_t_0] := hD
        refine lv_goto (tgt := 8) hx hb dX5_step_43 (by decide) ?_
        exact ih (upd o_t 6 ((o_t 6) + (1 : Int32))) c_t hF _ _ _ (hP.sub [0, 1] rfl) (hD.sub [0, 1] rfl rfl) hS (lv_sub hl [0] rfl)
set_option maxHeartbeats 4000000 in
set_option maxRecDepth 100000 in
theorem mX5_step (l : Launch) (g : GG) (a_t : Nat) (p_t : Nat → Nat) (n : Nat) (o_t : Nat → Int32) (c_t : Int64) (f_t_0 : Nat → Int32) (o_t' : Nat → Int32) (c_t' : Int64) (hF : fX5_step n o_t c_t f_t_0 = some (o_t', c_t')) : MV l g yX5_step wsX5_step ({ frames := 1, cells := 0, slots := 0, locals := 20 } : Room) [.ref a_t] [oX5 a_t p_t o_t c_t, aI g (p_t 0) 800 f_t_0] [oX5 a_t p_t o_t' c_t', aI g (p_t 0) 800 f_t_0] := by
  refine MV.of (cc := cX5_step) (maxL := 1) (own := RX5) rfl rfl (by decide) (Nat.le_of_ble_eq_true rfl) ?_
  intro p e s m args below meth c A C0 hP hD hS ls hl
  obtain ⟨hx, hb, hml, hown, hts, hr, hlk, hK, hA, hSW⟩ := id C0
  have hl : lv_has ls 1 [(0, .ref a_t)] := hl
  rw [fX5_step] at hF
  refine lv_aload_n hx hb dX5_step_0 rfl (lv_at hl 0 rfl) ?_
  refine lv_aload_n hx hb dX5_step_1 rfl (lv_at hl 0 rfl) ?_
  refine va_get (D := g.1) (ci := 5) (v := .int (o_t 7)) (C := RX5) (T := TX5) (N := 15) hx hb hts iX5_step_X5 hown hK.1 hP 0 rfl rfl 7 (by decide) (hts _ kX5_step_34) (fun _ h9 => h9) rfl dX5_step_2 ?_
  refine va_put (D := g.1) (ci := 5) (v := .int (o_t 7)) (ty := .int) (C := RX5) (T := TX5) (N := 15) hx hb hts iX5_step_X5 tyX5 tyX5_ok nmX5 hown hK.1 hP hD hS 0 rfl rfl 6 (by decide) (hts _ kX5_step_31) (fun _ h9 => h9) rfl (by decide +kernel) rfl rfl (Nat.le_of_ble_eq_true rfl) dX5_step_5 (fun H locs hP hD hS => ?_)
  have hP : va_P g.1 vwCl [oX5 a_t p_t (upd o_t 6 (o_t 7)) c_t, aI g (p_t 0) 800 f_t_0] H := hP
  have hD : va_D A [oX5 a_t p_t (upd o_t 6 (o_t 7)) c_t, aI g (p_t 0) 800 f_t_0] := hD
  refine wX5_step_L8 C0 a_t p_t n f_t_0 o_t' c_t' _ ?_ n (upd o_t 6 (o_t 7)) c_t hF _ _ _ (hP.sub [0, 1] rfl) (hD.sub [0, 1] rfl rfl) hS (lv_sub hl [0] rfl)
  · intro o_t_x8 c_t_x8 H locs ls hF hP hD hS hl
    refine lv_aload_n hx hb dX5_step_46 rfl (lv_at hl 0 rfl) ?_
    refine lv_aload_n hx hb dX5_step_47 rfl (lv_at hl 0 rfl) ?_
    refine va_get (D := g.1) (ci := 5) (v := .int (o_t_x8 6)) (C := RX5) (T := TX5) (N := 15) hx hb hts iX5_step_X5 hown hK.1 hP 0 rfl rfl 6 (by decide) (hts _ kX5_step_31) (fun _ h9 => h9) rfl dX5_step_48 ?_
    refine va_put (D := g.1) (ci := 5) (v := .int (o_t_x8 6)) (ty := .int) (C := RX5) (T := TX5) (N := 15) hx hb hts iX5_step_X5 tyX5 tyX5_ok nmX5 hown hK.1 hP hD hS 0 rfl rfl 7 (by decide) (hts _ kX5_step_34) (fun _ h9 => h9) rfl (by decide +kernel) rfl rfl (Nat.le_of_ble_eq_true rfl) dX5_step_51 (fun H locs hP hD hS => ?_)
    have hP : va_P g.1 vwCl [oX5 a_t p_t (upd o_t_x8 7 (o_t_x8 6)) c_t_x8, aI g (p_t 0) 800 f_t_0] H := hP
    have hD : va_D A [oX5 a_t p_t (upd o_t_x8 7 (o_t_x8 6)) c_t_x8, aI g (p_t 0) 800 f_t_0] := hD
    refine lv_aload_n hx hb dX5_step_54 rfl (lv_at hl 0 rfl) ?_
    refine va_get (D := g.1) (ci := 5) (v := .int (o_t_x8 6)) (C := RX5) (T := TX5) (N := 15) hx hb hts iX5_step_X5 hown hK.1 hP 0 rfl rfl 6 (by decide) (hts _ kX5_step_31) (fun _ h9 => h9) rfl dX5_step_55 ?_
    refine lv_aload_n hx hb dX5_step_58 rfl (lv_at hl 0 rfl) ?_
    refine va_get (D := g.1) (ci := 5) (v := .int (o_t_x8 4)) (C := RX5) (T := TX5) (N := 15) hx hb hts iX5_step_X5 hown hK.1 hP 0 rfl rfl 4 (by decide) (hts _ kX5_step_25) (fun _ h9 => h9) rfl dX5_step_59 ?_
    refine lv_icmp_lt (tgt := 73) hx hb dX5_step_62 (by decide) (fun c_4 => ?_) (fun c_4 => ?_)
    · have hF := it_p c_4 hF
      refine lv_aload_n hx hb dX5_step_73 rfl (lv_at hl 0 rfl) ?_
      refine va_get (D := g.1) (ci := 5) (v := .ref (p_t 0)) (C := RX5) (T := TX5) (N := 15) hx hb hts iX5_step_X5 hown hK.1 hP 0 rfl rfl 0 (by decide) (hts _ kX5_step_9) (fun _ h9 => h9) rfl dX5_step_74 ?_
      refine lv_aload_n hx hb dX5_step_77 rfl (lv_at hl 0 rfl) ?_
      refine va_get (D := g.1) (ci := 5) (v := .int (o_t_x8 6)) (C := RX5) (T := TX5) (N := 15) hx hb hts iX5_step_X5 hown hK.1 hP 0 rfl rfl 6 (by decide) (hts _ kX5_step_31) (fun _ h9 => h9) rfl dX5_step_78 ?_
      obtain ⟨h_5, hF⟩ := it_ck hF
      refine va_iald hx hb hK.1 hP 1 0 rfl rfl h_5 dX5_step_81 ?_
      refine lv_bipush (v := (97 : Int32)) hx hb dX5_step_82 (by decide) ?_
      obtain ⟨J108, eJ108, hF⟩ := jn_some hF
      have hJ108 : ∀  (H : Heap) (locs : List Loc) (ls : Array Slot), J108 () = some (o_t', c_t') → va_P g.1 vwCl [oX5 a_t p_t (upd o_t_x8 7 (o_t_x8 6)) c_t_x8, aI g (p_t 0) 800 f_t_0] H → va_D A [oX5 a_t p_t (upd o_t_x8 7 (o_t_x8 6)) c_t_x8, aI g (p_t 0) 800 f_t_0] → va_S A s.heap H locs → lv_has ls 1 [(0, .ref a_t)] → W p l e ({ frames := 1, cells := 0, slots := 0, locals := 20 } : Room) s m args below meth c H locs 0 0 (MQ below (EndV g [oX5 a_t p_t o_t' c_t', aI g (p_t 0) 800 f_t_0] A) args s 0 0 A) (F0 m 108 ls []) := by
        intro  H locs ls hF hP hD hS hl
        have hF := jj1 eJ108 hF
        refine lv_aload_n hx hb dX5_step_108 rfl (lv_at hl 0 rfl) ?_
        refine va_get (D := g.1) (ci := 5) (v := .ref (p_t 0)) (C := RX5) (T := TX5) (N := 15) hx hb hts iX5_step_X5 hown hK.1 hP 0 rfl rfl 0 (by decide) (hts _ kX5_step_9) (fun _ h9 => h9) rfl dX5_step_109 ?_
        refine lv_aload_n hx hb dX5_step_112 rfl (lv_at hl 0 rfl) ?_
        refine va_get (D := g.1) (ci := 5) (v := .int (o_t_x8 6)) (C := RX5) (T := TX5) (N := 15) hx hb hts iX5_step_X5 hown hK.1 hP 0 rfl rfl 6 (by decide) (hts _ kX5_step_31) (fun _ h9 => h9) rfl dX5_step_113 ?_
        obtain ⟨h_6, hF⟩ := it_ck hF
        refine va_iald hx hb hK.1 hP 1 0 rfl rfl h_6 dX5_step_116 ?_
        refine lv_bipush (v := (48 : Int32)) hx hb dX5_step_117 (by decide) ?_
        refine lv_icmp_lt (tgt := 143) hx hb dX5_step_119 (by decide) (fun c_7 => ?_) (fun c_7 => ?_)
        · have hF := it_p c_7 hF
          refine lv_aload_n hx hb dX5_step_143 rfl (lv_at hl 0 rfl) ?_
          refine lv_aload_n hx hb dX5_step_144 rfl (lv_at hl 0 rfl) ?_
          refine va_get (D := g.1) (ci := 5) (v := .ref (p_t 0)) (C := RX5) (T := TX5) (N := 15) hx hb hts iX5_step_X5 hown hK.1 hP 0 rfl rfl 0 (by decide) (hts _ kX5_step_9) (fun _ h9 => h9) rfl dX5_step_145 ?_
          refine lv_aload_n hx hb dX5_step_148 rfl (lv_at hl 0 rfl) ?_
          refine va_get (D := g.1) (ci := 5) (v := .int (o_t_x8 6)) (C := RX5) (T := TX5) (N := 15) hx hb hts iX5_step_X5 hown hK.1 hP 0 rfl rfl 6 (by decide) (hts _ kX5_step_31) (fun _ h9 => h9) rfl dX5_step_149 ?_
          obtain ⟨h_8, hF⟩ := it_ck hF
          refine va_iald hx hb hK.1 hP 1 0 rfl rfl h_8 dX5_step_152 ?_
          refine lv_bipush (v := (59 : Int32)) hx hb dX5_step_153 (by decide) ?_
          refine lv_icmp_ne (tgt := 162) hx hb dX5_step_155 (by decide) (fun c_9 => ?_) (fun c_9 => ?_)
          · have hF := it_n c_9 hF
            refine lv_iconst (v := (4 : Int32)) hx hb dX5_step_162 (by decide) ?_
            refine va_put (D := g.1) (ci := 5) (v := .int (4 : Int32)) (ty := .int) (C := RX5) (T := TX5) (N := 15) hx hb hts iX5_step_X5 tyX5 tyX5_ok nmX5 hown hK.1 hP hD hS 0 rfl rfl 5 (by decide) (hts _ kX5_step_28) (fun _ h9 => h9) rfl (by decide +kernel) rfl rfl (Nat.le_of_ble_eq_true rfl) dX5_step_163 (fun H locs hP hD hS => ?_)
            have hP : va_P g.1 vwCl [oX5 a_t p_t (upd (upd o_t_x8 7 (o_t_x8 6)) 5 (4 : Int32)) c_t_x8, aI g (p_t 0) 800 f_t_0] H := hP
            have hD : va_D A [oX5 a_t p_t (upd (upd o_t_x8 7 (o_t_x8 6)) 5 (4 : Int32)) c_t_x8, aI g (p_t 0) 800 f_t_0] := hD
            refine lv_aload_n hx hb dX5_step_166 rfl (lv_at hl 0 rfl) ?_
            refine lv_dup hx hb dX5_step_167 rfl ?_
            refine va_get (D := g.1) (ci := 5) (v := .int (o_t_x8 6)) (C := RX5) (T := TX5) (N := 15) hx hb hts iX5_step_X5 hown hK.1 hP 0 rfl rfl 7 (by decide) (hts _ kX5_step_34) (fun _ h9 => h9) rfl dX5_step_168 ?_
            refine lv_iconst (v := (1 : Int32)) hx hb dX5_step_171 (by decide) ?_
            refine lv_iadd hx hb dX5_step_172 ?_
            refine va_put (D := g.1) (ci := 5) (v := .int ((o_t_x8 6) + (1 : Int32))) (ty := .int) (C := RX5) (T := TX5) (N := 15) hx hb hts iX5_step_X5 tyX5 tyX5_ok nmX5 hown hK.1 hP hD hS 0 rfl rfl 7 (by decide) (hts _ kX5_step_34) (fun _ h9 => h9) rfl (by decide +kernel) rfl rfl (Nat.le_of_ble_eq_true rfl) dX5_step_173 (fun H locs hP hD hS => ?_)
            have hP : va_P g.1 vwCl [oX5 a_t p_t (upd (upd o_t_x8 5 (4 : Int32)) 7 ((o_t_x8 6) + (1 : Int32))) c_t_x8, aI g (p_t 0) 800 f_t_0] H := hP
            have hD : va_D A [oX5 a_t p_t (upd (upd o_t_x8 5 (4 : Int32)) 7 ((o_t_x8 6) + (1 : Int32))) c_t_x8, aI g (p_t 0) 800 f_t_0] := hD
            cases hF
            exact ret_v C0 hP hD hS [0, 1] rfl rfl rfl dX5_step_176
          · have hF := it_p c_9 hF
            refine lv_iconst (v := (3 : Int32)) hx hb dX5_step_158 (by decide) ?_
            refine lv_goto (tgt := 163) hx hb dX5_step_159 (by decide) ?_
            refine va_put (D := g.1) (ci := 5) (v := .int (3 : Int32)) (ty := .int) (C := RX5) (T := TX5) (N := 15) hx hb hts iX5_step_X5 tyX5 tyX5_ok nmX5 hown hK.1 hP hD hS 0 rfl rfl 5 (by decide) (hts _ kX5_step_28) (fun _ h9 => h9) rfl (by decide +kernel) rfl rfl (Nat.le_of_ble_eq_true rfl) dX5_step_163 (fun H locs hP hD hS => ?_)
            have hP : va_P g.1 vwCl [oX5 a_t p_t (upd (upd o_t_x8 7 (o_t_x8 6)) 5 (3 : Int32)) c_t_x8, aI g (p_t 0) 800 f_t_0] H := hP
            have hD : va_D A [oX5 a_t p_t (upd (upd o_t_x8 7 (o_t_x8 6)) 5 (3 : Int32)) c_t_x8, aI g (p_t 0) 800 f_t_0] := hD
            refine lv_aload_n hx hb dX5_step_166 rfl (lv_at hl 0 rfl) ?_
            refine lv_dup hx hb dX5_step_167 rfl ?_
            refine va_get (D := g.1) (ci := 5) (v := .int (o_t_x8 6)) (C := RX5) (T := TX5) (N := 15) hx hb hts iX5_step_X5 hown hK.1 hP 0 rfl rfl 7 (by decide) (hts _ kX5_step_34) (fun _ h9 => h9) rfl dX5_step_168 ?_
            refine lv_iconst (v := (1 : Int32)) hx hb dX5_step_171 (by decide) ?_
            refine lv_iadd hx hb dX5_step_172 ?_
            refine va_put (D := g.1) (ci := 5) (v := .int ((o_t_x8 6) + (1 : Int32))) (ty := .int) (C := RX5) (T := TX5) (N := 15) hx hb hts iX5_step_X5 tyX5 tyX5_ok nmX5 hown hK.1 hP hD hS 0 rfl rfl 7 (by decide) (hts _ kX5_step_34) (fun _ h9 => h9) rfl (by decide +kernel) rfl rfl (Nat.le_of_ble_eq_true rfl) dX5_step_173 (fun H locs hP hD hS => ?_)
            have hP : va_P g.1 vwCl [oX5 a_t p_t (upd (upd o_t_x8 5 (3 : Int32)) 7 ((o_t_x8 6) + (1 : Int32))) c_t_x8, aI g (p_t 0) 800 f_t_0] H := hP
            have hD : va_D A [oX5 a_t p_t (upd (upd o_t_x8 5 (3 : Int32)) 7 ((o_t_x8 6) + (1 : Int32))) c_t_x8, aI g (p_t 0) 800 f_t_0] := hD
            cases hF
            exact ret_v C0 hP hD hS [0, 1] rfl rfl rfl dX5_step_176
        · have hF := it_n c_7 hF
          refine lv_aload_n hx hb dX5_step_122 rfl (lv_at hl 0 rfl) ?_
          refine va_get (D := g.1) (ci := 5) (v := .ref (p_t 0)) (C := RX5) (T := TX5) (N := 15) hx hb hts iX5_step_X5 hown hK.1 hP 0 rfl rfl 0 (by decide) (hts _ kX5_step_9) (fun _ h9 => h9) rfl dX5_step_123 ?_
          refine lv_aload_n hx hb dX5_step_126 rfl (lv_at hl 0 rfl) ?_
          refine va_get (D := g.1) (ci := 5) (v := .int (o_t_x8 6)) (C := RX5) (T := TX5) (N := 15) hx hb hts iX5_step_X5 hown hK.1 hP 0 rfl rfl 6 (by decide) (hts _ kX5_step_31) (fun _ h9 => h9) rfl dX5_step_127 ?_
          obtain ⟨h_10, hF⟩ := it_ck hF
          refine va_iald hx hb hK.1 hP 1 0 rfl rfl h_10 dX5_step_130 ?_
          refine lv_bipush (v := (57 : Int32)) hx hb dX5_step_131 (by decide) ?_
          refine lv_icmp_gt (tgt := 143) hx hb dX5_step_133 (by decide) (fun c_11 => ?_) (fun c_11 => ?_)
          · have hF := it_p c_11 hF
            refine lv_aload_n hx hb dX5_step_143 rfl (lv_at hl 0 rfl) ?_
            refine lv_aload_n hx hb dX5_step_144 rfl (lv_at hl 0 rfl) ?_
            refine va_get (D := g.1) (ci := 5) (v := .ref (p_t 0)) (C := RX5) (T := TX5) (N := 15) hx hb hts iX5_step_X5 hown hK.1 hP 0 rfl rfl 0 (by decide) (hts _ kX5_step_9) (fun _ h9 => h9) rfl dX5_step_145 ?_
            refine lv_aload_n hx hb dX5_step_148 rfl (lv_at hl 0 rfl) ?_
            refine va_get (D := g.1) (ci := 5) (v := .int (o_t_x8 6)) (C := RX5) (T := TX5) (N := 15) hx hb hts iX5_step_X5 hown hK.1 hP 0 rfl rfl 6 (by decide) (hts _ kX5_step_31) (fun _ h9 => h9) rfl dX5_step_149 ?_
            obtain ⟨h_12, hF⟩ := it_ck hF
            refine va_iald hx hb hK.1 hP 1 0 rfl rfl h_12 dX5_step_152 ?_
            refine lv_bipush (v := (59 : Int32)) hx hb dX5_step_153 (by decide) ?_
            refine lv_icmp_ne (tgt := 162) hx hb dX5_step_155 (by decide) (fun c_13 => ?_) (fun c_13 => ?_)
            · have hF := it_n c_13 hF
              refine lv_iconst (v := (4 : Int32)) hx hb dX5_step_162 (by decide) ?_
              refine va_put (D := g.1) (ci := 5) (v := .int (4 : Int32)) (ty := .int) (C := RX5) (T := TX5) (N := 15) hx hb hts iX5_step_X5 tyX5 tyX5_ok nmX5 hown hK.1 hP hD hS 0 rfl rfl 5 (by decide) (hts _ kX5_step_28) (fun _ h9 => h9) rfl (by decide +kernel) rfl rfl (Nat.le_of_ble_eq_true rfl) dX5_step_163 (fun H locs hP hD hS => ?_)
              have hP : va_P g.1 vwCl [oX5 a_t p_t (upd (upd o_t_x8 7 (o_t_x8 6)) 5 (4 : Int32)) c_t_x8, aI g (p_t 0) 800 f_t_0] H := hP
              have hD : va_D A [oX5 a_t p_t (upd (upd o_t_x8 7 (o_t_x8 6)) 5 (4 : Int32)) c_t_x8, aI g (p_t 0) 800 f_t_0] := hD
              refine lv_aload_n hx hb dX5_step_166 rfl (lv_at hl 0 rfl) ?_
              refine lv_dup hx hb dX5_step_167 rfl ?_
              refine va_get (D := g.1) (ci := 5) (v := .int (o_t_x8 6)) (C := RX5) (T := TX5) (N := 15) hx hb hts iX5_step_X5 hown hK.1 hP 0 rfl rfl 7 (by decide) (hts _ kX5_step_34) (fun _ h9 => h9) rfl dX5_step_168 ?_
              refine lv_iconst (v := (1 : Int32)) hx hb dX5_step_171 (by decide) ?_
              refine lv_iadd hx hb dX5_step_172 ?_
              refine va_put (D := g.1) (ci := 5) (v := .int ((o_t_x8 6) + (1 : Int32))) (ty := .int) (C := RX5) (T := TX5) (N := 15) hx hb hts iX5_step_X5 tyX5 tyX5_ok nmX5 hown hK.1 hP hD hS 0 rfl rfl 7 (by decide) (hts _ kX5_step_34) (fun _ h9 => h9) rfl (by decide +kernel) rfl rfl (Nat.le_of_ble_eq_true rfl) dX5_step_173 (fun H locs hP hD hS => ?_)
              have hP : va_P g.1 vwCl [oX5 a_t p_t (upd (upd o_t_x8 5 (4 : Int32)) 7 ((o_t_x8 6) + (1 : Int32))) c_t_x8, aI g (p_t 0) 800 f_t_0] H := hP
              have hD : va_D A [oX5 a_t p_t (upd (upd o_t_x8 5 (4 : Int32)) 7 ((o_t_x8 6) + (1 : Int32))) c_t_x8, aI g (p_t 0) 800 f_t_0] := hD
              cases hF
              exact ret_v C0 hP hD hS [0, 1] rfl rfl rfl dX5_step_176
            · have hF := it_p c_13 hF
              refine lv_iconst (v := (3 : Int32)) hx hb dX5_step_158 (by decide) ?_
              refine lv_goto (tgt := 163) hx hb dX5_step_159 (by decide) ?_
              refine va_put (D := g.1) (ci := 5) (v := .int (3 : Int32)) (ty := .int) (C := RX5) (T := TX5) (N := 15) hx hb hts iX5_step_X5 tyX5 tyX5_ok nmX5 hown hK.1 hP hD hS 0 rfl rfl 5 (by decide) (hts _ kX5_step_28) (fun _ h9 => h9) rfl (by decide +kernel) rfl rfl (Nat.le_of_ble_eq_true rfl) dX5_step_163 (fun H locs hP hD hS => ?_)
              have hP : va_P g.1 vwCl [oX5 a_t p_t (upd (upd o_t_x8 7 (o_t_x8 6)) 5 (3 : Int32)) c_t_x8, aI g (p_t 0) 800 f_t_0] H := hP
              have hD : va_D A [oX5 a_t p_t (upd (upd o_t_x8 7 (o_t_x8 6)) 5 (3 : Int32)) c_t_x8, aI g (p_t 0) 800 f_t_0] := hD
              refine lv_aload_n hx hb dX5_step_166 rfl (lv_at hl 0 rfl) ?_
              refine lv_dup hx hb dX5_step_167 rfl ?_
              refine va_get (D := g.1) (ci := 5) (v := .int (o_t_x8 6)) (C := RX5) (T := TX5) (N := 15) hx hb hts iX5_step_X5 hown hK.1 hP 0 rfl rfl 7 (by decide) (hts _ kX5_step_34) (fun _ h9 => h9) rfl dX5_step_168 ?_
              refine lv_iconst (v := (1 : Int32)) hx hb dX5_step_171 (by decide) ?_
              refine lv_iadd hx hb dX5_step_172 ?_
              refine va_put (D := g.1) (ci := 5) (v := .int ((o_t_x8 6) + (1 : Int32))) (ty := .int) (C := RX5) (T := TX5) (N := 15) hx hb hts iX5_step_X5 tyX5 tyX5_ok nmX5 hown hK.1 hP hD hS 0 rfl rfl 7 (by decide) (hts _ kX5_step_34) (fun _ h9 => h9) rfl (by decide +kernel) rfl rfl (Nat.le_of_ble_eq_true rfl) dX5_step_173 (fun H locs hP hD hS => ?_)
              have hP : va_P g.1 vwCl [oX5 a_t p_t (upd (upd o_t_x8 5 (3 : Int32)) 7 ((o_t_x8 6) + (1 : Int32))) c_t_x8, aI g (p_t 0) 800 f_t_0] H := hP
              have hD : va_D A [oX5 a_t p_t (upd (upd o_t_x8 5 (3 : Int32)) 7 ((o_t_x8 6) + (1 : Int32))) c_t_x8, aI g (p_t 0) 800 f_t_0] := hD
              cases hF
              exact ret_v C0 hP hD hS [0, 1] rfl rfl rfl dX5_step_176
          · have hF := it_n c_11 hF
            refine lv_aload_n hx hb dX5_step_136 rfl (lv_at hl 0 rfl) ?_
            obtain ⟨u_14, u_15, hu_16, hF⟩ := ob2_some hF
            refine call_v (wr := []) (As := []) (rest := []) (ci := 5) (q0 := 0) C0 (mX5_stepWhole l g a_t p_t n (upd o_t_x8 7 (o_t_x8 6)) c_t_x8 f_t_0 u_14 u_15 hu_16) (cwV 0 hts gX5_step_X5_stepWhole rfl rfl rfl (by decide +kernel) ⟨Nat.le_of_ble_eq_true rfl, Nat.le_of_ble_eq_true rfl⟩) hP hD hS [0, 1] [] rfl rfl rfl rfl rfl (by decide) rfl rfl hl.1 rfl rfl (Nat.le_of_ble_eq_true rfl) ⟨Nat.zero_le _, Nat.zero_le _⟩ dX5_step_137 ?_
            intro H locs hP hD hS
            refine lv_goto (tgt := 176) hx hb dX5_step_140 (by decide) ?_
            cases hF
            exact ret_v C0 hP hD hS [0, 1] rfl rfl rfl dX5_step_176
      refine lv_icmp_lt (tgt := 108) hx hb dX5_step_84 (by decide) (fun c_17 => ?_) (fun c_17 => ?_)
      · have hF := it_p c_17 hF
        exact hJ108  _ _ _ hF (hP.sub [0, 1] rfl) (hD.sub [0, 1] rfl rfl) hS (lv_sub hl [0] rfl)
      · have hF := it_n c_17 hF
        refine lv_aload_n hx hb dX5_step_87 rfl (lv_at hl 0 rfl) ?_
        refine va_get (D := g.1) (ci := 5) (v := .ref (p_t 0)) (C := RX5) (T := TX5) (N := 15) hx hb hts iX5_step_X5 hown hK.1 hP 0 rfl rfl 0 (by decide) (hts _ kX5_step_9) (fun _ h9 => h9) rfl dX5_step_88 ?_
        refine lv_aload_n hx hb dX5_step_91 rfl (lv_at hl 0 rfl) ?_
        refine va_get (D := g.1) (ci := 5) (v := .int (o_t_x8 6)) (C := RX5) (T := TX5) (N := 15) hx hb hts iX5_step_X5 hown hK.1 hP 0 rfl rfl 6 (by decide) (hts _ kX5_step_31) (fun _ h9 => h9) rfl dX5_step_92 ?_
        obtain ⟨h_18, hF⟩ := it_ck hF
        refine va_iald hx hb hK.1 hP 1 0 rfl rfl h_18 dX5_step_95 ?_
        refine lv_bipush (v := (122 : Int32)) hx hb dX5_step_96 (by decide) ?_
        refine lv_icmp_gt (tgt := 108) hx hb dX5_step_98 (by decide) (fun c_19 => ?_) (fun c_19 => ?_)
        · have hF := it_p c_19 hF
          exact hJ108  _ _ _ hF (hP.sub [0, 1] rfl) (hD.sub [0, 1] rfl rfl) hS (lv_sub hl [0] rfl)
        · have hF := it_n c_19 hF
          refine lv_aload_n hx hb dX5_step_101 rfl (lv_at hl 0 rfl) ?_
          obtain ⟨u_20, u_21, hu_22, hF⟩ := ob2_some hF
          refine call_v (wr := []) (As := []) (rest := []) (ci := 5) (q0 := 0) C0 (mX5_stepWord l g a_t p_t n (upd o_t_x8 7 (o_t_x8 6)) c_t_x8 f_t_0 u_20 u_21 hu_22) (cwV 0 hts gX5_step_X5_stepWord rfl rfl rfl (by decide +kernel) ⟨Nat.le_of_ble_eq_true rfl, Nat.le_of_ble_eq_true rfl⟩) hP hD hS [0, 1] [] rfl rfl rfl rfl rfl (by decide) rfl rfl hl.1 rfl rfl (Nat.le_of_ble_eq_true rfl) ⟨Nat.zero_le _, Nat.zero_le _⟩ dX5_step_102 ?_
          intro H locs hP hD hS
          refine lv_goto (tgt := 176) hx hb dX5_step_105 (by decide) ?_
          cases hF
          exact ret_v C0 hP hD hS [0, 1] rfl rfl rfl dX5_step_176
    · have hF := it_n c_4 hF
      refine lv_aload_n hx hb dX5_step_65 rfl (lv_at hl 0 rfl) ?_
      refine lv_iconst (v := (0 : Int32)) hx hb dX5_step_66 (by decide) ?_
      refine va_put (D := g.1) (ci := 5) (v := .int (0 : Int32)) (ty := .int) (C := RX5) (T := TX5) (N := 15) hx hb hts iX5_step_X5 tyX5 tyX5_ok nmX5 hown hK.1 hP hD hS 0 rfl rfl 5 (by decide) (hts _ kX5_step_28) (fun _ h9 => h9) rfl (by decide +kernel) rfl rfl (Nat.le_of_ble_eq_true rfl) dX5_step_67 (fun H locs hP hD hS => ?_)
      have hP : va_P g.1 vwCl [oX5 a_t p_t (upd (upd o_t_x8 7 (o_t_x8 6)) 5 (0 : Int32)) c_t_x8, aI g (p_t 0) 800 f_t_0] H := hP
      have hD : va_D A [oX5 a_t p_t (upd (upd o_t_x8 7 (o_t_x8 6)) 5 (0 : Int32)) c_t_x8, aI g (p_t 0) 800 f_t_0] := hD
      refine lv_goto (tgt := 176) hx hb dX5_step_70 (by decide) ?_
      cases hF
      exact ret_v C0 hP hD hS [0, 1] rfl rfl rfl dX5_step_176

theorem dAX5_lineOfWord : ∀ q ∈ ([(0, (.aload_n 0, 1)), (1, (.getfield 28, 3)), (4, (.iconst 1, 1)), (5, (.if_icmp .eq 5, 3)), (8, (.iconst (-1), 1)), (9, (.ireturn, 1)), (10, (.aload_n 0, 1)), (11, (.getfield 40, 3)), (14, (.ldc2_w 253, 3)), (17, (.lcmp, 1)), (18, (.ifCond .ne 5, 3)), (21, (.iconst 0, 1)), (22, (.ireturn, 1)), (23, (.aload_n 0, 1)), (24, (.getfield 40, 3)), (27, (.ldc2_w 255, 3)), (30, (.lcmp, 1)), (31, (.ifCond .ne 5, 3)), (34, (.iconst 1, 1)), (35, (.ireturn, 1)), (36, (.aload_n 0, 1)), (37, (.getfield 40, 3)), (40, (.ldc2_w 257, 3)), (43, (.lcmp, 1)), (44, (.ifCond .ne 5, 3)), (47, (.iconst 2, 1)), (48, (.ireturn, 1)), (49, (.aload_n 0, 1)), (50, (.getfield 40, 3)), (53, (.ldc2_w 259, 3)), (56, (.lcmp, 1)), (57, (.ifCond .ne 5, 3)), (60, (.iconst 3, 1)), (61, (.ireturn, 1)), (62, (.aload_n 0, 1)), (63, (.getfield 40, 3)), (66, (.ldc2_w 261, 3)), (69, (.lcmp, 1)), (70, (.ifCond .ne 5, 3)), (73, (.iconst 4, 1)), (74, (.ireturn, 1)), (75, (.aload_n 0, 1)), (76, (.getfield 40, 3)), (79, (.ldc2_w 263, 3)), (82, (.lcmp, 1)), (83, (.ifCond .ne 5, 3)), (86, (.iconst 5, 1)), (87, (.ireturn, 1)), (88, (.aload_n 0, 1)), (89, (.getfield 40, 3)), (92, (.ldc2_w 265, 3)), (95, (.lcmp, 1)), (96, (.ifCond .ne 6, 3)), (99, (.bipush 6, 2)), (101, (.ireturn, 1)), (102, (.aload_n 0, 1)), (103, (.getfield 40, 3)), (106, (.ldc2_w 267, 3)), (109, (.lcmp, 1)), (110, (.ifCond .ne 8, 3)), (113, (.bipush 7, 2)), (115, (.goto 4, 3)), (118, (.iconst (-1), 1)), (119, (.ireturn, 1))] : List (Nat × (Instr × Nat))), decode cX5_lineOfWord q.1 = .ok q.2 := by decide +kernel
theorem dX5_lineOfWord_0 : decode cX5_lineOfWord 0 = .ok (.aload_n 0, 1) := dAX5_lineOfWord (0, (.aload_n 0, 1)) (List.mem_of_getElem? (i := 0) rfl)
theorem dX5_lineOfWord_1 : decode cX5_lineOfWord 1 = .ok (.getfield 28, 3) := dAX5_lineOfWord (1, (.getfield 28, 3)) (List.mem_of_getElem? (i := 1) rfl)
theorem dX5_lineOfWord_4 : decode cX5_lineOfWord 4 = .ok (.iconst 1, 1) := dAX5_lineOfWord (4, (.iconst 1, 1)) (List.mem_of_getElem? (i := 2) rfl)
theorem dX5_lineOfWord_5 : decode cX5_lineOfWord 5 = .ok (.if_icmp .eq 5, 3) := dAX5_lineOfWord (5, (.if_icmp .eq 5, 3)) (List.mem_of_getElem? (i := 3) rfl)
theorem dX5_lineOfWord_8 : decode cX5_lineOfWord 8 = .ok (.iconst (-1), 1) := dAX5_lineOfWord (8, (.iconst (-1), 1)) (List.mem_of_getElem? (i := 4) rfl)
theorem dX5_lineOfWord_9 : decode cX5_lineOfWord 9 = .ok (.ireturn, 1) := dAX5_lineOfWord (9, (.ireturn, 1)) (List.mem_of_getElem? (i := 5) rfl)
theorem dX5_lineOfWord_10 : decode cX5_lineOfWord 10 = .ok (.aload_n 0, 1) := dAX5_lineOfWord (10, (.aload_n 0, 1)) (List.mem_of_getElem? (i := 6) rfl)
theorem dX5_lineOfWord_11 : decode cX5_lineOfWord 11 = .ok (.getfield 40, 3) := dAX5_lineOfWord (11, (.getfield 40, 3)) (List.mem_of_getElem? (i := 7) rfl)
theorem dX5_lineOfWord_14 : decode cX5_lineOfWord 14 = .ok (.ldc2_w 253, 3) := dAX5_lineOfWord (14, (.ldc2_w 253, 3)) (List.mem_of_getElem? (i := 8) rfl)
theorem dX5_lineOfWord_17 : decode cX5_lineOfWord 17 = .ok (.lcmp, 1) := dAX5_lineOfWord (17, (.lcmp, 1)) (List.mem_of_getElem? (i := 9) rfl)
theorem dX5_lineOfWord_18 : decode cX5_lineOfWord 18 = .ok (.ifCond .ne 5, 3) := dAX5_lineOfWord (18, (.ifCond .ne 5, 3)) (List.mem_of_getElem? (i := 10) rfl)
theorem dX5_lineOfWord_21 : decode cX5_lineOfWord 21 = .ok (.iconst 0, 1) := dAX5_lineOfWord (21, (.iconst 0, 1)) (List.mem_of_getElem? (i := 11) rfl)
theorem dX5_lineOfWord_22 : decode cX5_lineOfWord 22 = .ok (.ireturn, 1) := dAX5_lineOfWord (22, (.ireturn, 1)) (List.mem_of_getElem? (i := 12) rfl)
theorem dX5_lineOfWord_23 : decode cX5_lineOfWord 23 = .ok (.aload_n 0, 1) := dAX5_lineOfWord (23, (.aload_n 0, 1)) (List.mem_of_getElem? (i := 13) rfl)
theorem dX5_lineOfWord_24 : decode cX5_lineOfWord 24 = .ok (.getfield 40, 3) := dAX5_lineOfWord (24, (.getfield 40, 3)) (List.mem_of_getElem? (i := 14) rfl)
theorem dX5_lineOfWord_27 : decode cX5_lineOfWord 27 = .ok (.ldc2_w 255, 3) := dAX5_lineOfWord (27, (.ldc2_w 255, 3)) (List.mem_of_getElem? (i := 15) rfl)
theorem dX5_lineOfWord_30 : decode cX5_lineOfWord 30 = .ok (.lcmp, 1) := dAX5_lineOfWord (30, (.lcmp, 1)) (List.mem_of_getElem? (i := 16) rfl)
theorem dX5_lineOfWord_31 : decode cX5_lineOfWord 31 = .ok (.ifCond .ne 5, 3) := dAX5_lineOfWord (31, (.ifCond .ne 5, 3)) (List.mem_of_getElem? (i := 17) rfl)
theorem dX5_lineOfWord_34 : decode cX5_lineOfWord 34 = .ok (.iconst 1, 1) := dAX5_lineOfWord (34, (.iconst 1, 1)) (List.mem_of_getElem? (i := 18) rfl)
theorem dX5_lineOfWord_35 : decode cX5_lineOfWord 35 = .ok (.ireturn, 1) := dAX5_lineOfWord (35, (.ireturn, 1)) (List.mem_of_getElem? (i := 19) rfl)
theorem dX5_lineOfWord_36 : decode cX5_lineOfWord 36 = .ok (.aload_n 0, 1) := dAX5_lineOfWord (36, (.aload_n 0, 1)) (List.mem_of_getElem? (i := 20) rfl)
theorem dX5_lineOfWord_37 : decode cX5_lineOfWord 37 = .ok (.getfield 40, 3) := dAX5_lineOfWord (37, (.getfield 40, 3)) (List.mem_of_getElem? (i := 21) rfl)
theorem dX5_lineOfWord_40 : decode cX5_lineOfWord 40 = .ok (.ldc2_w 257, 3) := dAX5_lineOfWord (40, (.ldc2_w 257, 3)) (List.mem_of_getElem? (i := 22) rfl)
theorem dX5_lineOfWord_43 : decode cX5_lineOfWord 43 = .ok (.lcmp, 1) := dAX5_lineOfWord (43, (.lcmp, 1)) (List.mem_of_getElem? (i := 23) rfl)
theorem dX5_lineOfWord_44 : decode cX5_lineOfWord 44 = .ok (.ifCond .ne 5, 3) := dAX5_lineOfWord (44, (.ifCond .ne 5, 3)) (List.mem_of_getElem? (i := 24) rfl)
theorem dX5_lineOfWord_47 : decode cX5_lineOfWord 47 = .ok (.iconst 2, 1) := dAX5_lineOfWord (47, (.iconst 2, 1)) (List.mem_of_getElem? (i := 25) rfl)
theorem dX5_lineOfWord_48 : decode cX5_lineOfWord 48 = .ok (.ireturn, 1) := dAX5_lineOfWord (48, (.ireturn, 1)) (List.mem_of_getElem? (i := 26) rfl)
theorem dX5_lineOfWord_49 : decode cX5_lineOfWord 49 = .ok (.aload_n 0, 1) := dAX5_lineOfWord (49, (.aload_n 0, 1)) (List.mem_of_getElem? (i := 27) rfl)
theorem dX5_lineOfWord_50 : decode cX5_lineOfWord 50 = .ok (.getfield 40, 3) := dAX5_lineOfWord (50, (.getfield 40, 3)) (List.mem_of_getElem? (i := 28) rfl)
theorem dX5_lineOfWord_53 : decode cX5_lineOfWord 53 = .ok (.ldc2_w 259, 3) := dAX5_lineOfWord (53, (.ldc2_w 259, 3)) (List.mem_of_getElem? (i := 29) rfl)
theorem dX5_lineOfWord_56 : decode cX5_lineOfWord 56 = .ok (.lcmp, 1) := dAX5_lineOfWord (56, (.lcmp, 1)) (List.mem_of_getElem? (i := 30) rfl)
theorem dX5_lineOfWord_57 : decode cX5_lineOfWord 57 = .ok (.ifCond .ne 5, 3) := dAX5_lineOfWord (57, (.ifCond .ne 5, 3)) (List.mem_of_getElem? (i := 31) rfl)
theorem dX5_lineOfWord_60 : decode cX5_lineOfWord 60 = .ok (.iconst 3, 1) := dAX5_lineOfWord (60, (.iconst 3, 1)) (List.mem_of_getElem? (i := 32) rfl)
theorem dX5_lineOfWord_61 : decode cX5_lineOfWord 61 = .ok (.ireturn, 1) := dAX5_lineOfWord (61, (.ireturn, 1)) (List.mem_of_getElem? (i := 33) rfl)
theorem dX5_lineOfWord_62 : decode cX5_lineOfWord 62 = .ok (.aload_n 0, 1) := dAX5_lineOfWord (62, (.aload_n 0, 1)) (List.mem_of_getElem? (i := 34) rfl)
theorem dX5_lineOfWord_63 : decode cX5_lineOfWord 63 = .ok (.getfield 40, 3) := dAX5_lineOfWord (63, (.getfield 40, 3)) (List.mem_of_getElem? (i := 35) rfl)
theorem dX5_lineOfWord_66 : decode cX5_lineOfWord 66 = .ok (.ldc2_w 261, 3) := dAX5_lineOfWord (66, (.ldc2_w 261, 3)) (List.mem_of_getElem? (i := 36) rfl)
theorem dX5_lineOfWord_69 : decode cX5_lineOfWord 69 = .ok (.lcmp, 1) := dAX5_lineOfWord (69, (.lcmp, 1)) (List.mem_of_getElem? (i := 37) rfl)
theorem dX5_lineOfWord_70 : decode cX5_lineOfWord 70 = .ok (.ifCond .ne 5, 3) := dAX5_lineOfWord (70, (.ifCond .ne 5, 3)) (List.mem_of_getElem? (i := 38) rfl)
theorem dX5_lineOfWord_73 : decode cX5_lineOfWord 73 = .ok (.iconst 4, 1) := dAX5_lineOfWord (73, (.iconst 4, 1)) (List.mem_of_getElem? (i := 39) rfl)
theorem dX5_lineOfWord_74 : decode cX5_lineOfWord 74 = .ok (.ireturn, 1) := dAX5_lineOfWord (74, (.ireturn, 1)) (List.mem_of_getElem? (i := 40) rfl)
theorem dX5_lineOfWord_75 : decode cX5_lineOfWord 75 = .ok (.aload_n 0, 1) := dAX5_lineOfWord (75, (.aload_n 0, 1)) (List.mem_of_getElem? (i := 41) rfl)
theorem dX5_lineOfWord_76 : decode cX5_lineOfWord 76 = .ok (.getfield 40, 3) := dAX5_lineOfWord (76, (.getfield 40, 3)) (List.mem_of_getElem? (i := 42) rfl)
theorem dX5_lineOfWord_79 : decode cX5_lineOfWord 79 = .ok (.ldc2_w 263, 3) := dAX5_lineOfWord (79, (.ldc2_w 263, 3)) (List.mem_of_getElem? (i := 43) rfl)
theorem dX5_lineOfWord_82 : decode cX5_lineOfWord 82 = .ok (.lcmp, 1) := dAX5_lineOfWord (82, (.lcmp, 1)) (List.mem_of_getElem? (i := 44) rfl)
theorem dX5_lineOfWord_83 : decode cX5_lineOfWord 83 = .ok (.ifCond .ne 5, 3) := dAX5_lineOfWord (83, (.ifCond .ne 5, 3)) (List.mem_of_getElem? (i := 45) rfl)
theorem dX5_lineOfWord_86 : decode cX5_lineOfWord 86 = .ok (.iconst 5, 1) := dAX5_lineOfWord (86, (.iconst 5, 1)) (List.mem_of_getElem? (i := 46) rfl)
theorem dX5_lineOfWord_87 : decode cX5_lineOfWord 87 = .ok (.ireturn, 1) := dAX5_lineOfWord (87, (.ireturn, 1)) (List.mem_of_getElem? (i := 47) rfl)
theorem dX5_lineOfWord_88 : decode cX5_lineOfWord 88 = .ok (.aload_n 0, 1) := dAX5_lineOfWord (88, (.aload_n 0, 1)) (List.mem_of_getElem? (i := 48) rfl)
theorem dX5_lineOfWord_89 : decode cX5_lineOfWord 89 = .ok (.getfield 40, 3) := dAX5_lineOfWord (89, (.getfield 40, 3)) (List.mem_of_getElem? (i := 49) rfl)
theorem dX5_lineOfWord_92 : decode cX5_lineOfWord 92 = .ok (.ldc2_w 265, 3) := dAX5_lineOfWord (92, (.ldc2_w 265, 3)) (List.mem_of_getElem? (i := 50) rfl)
theorem dX5_lineOfWord_95 : decode cX5_lineOfWord 95 = .ok (.lcmp, 1) := dAX5_lineOfWord (95, (.lcmp, 1)) (List.mem_of_getElem? (i := 51) rfl)
theorem dX5_lineOfWord_96 : decode cX5_lineOfWord 96 = .ok (.ifCond .ne 6, 3) := dAX5_lineOfWord (96, (.ifCond .ne 6, 3)) (List.mem_of_getElem? (i := 52) rfl)
theorem dX5_lineOfWord_99 : decode cX5_lineOfWord 99 = .ok (.bipush 6, 2) := dAX5_lineOfWord (99, (.bipush 6, 2)) (List.mem_of_getElem? (i := 53) rfl)
theorem dX5_lineOfWord_101 : decode cX5_lineOfWord 101 = .ok (.ireturn, 1) := dAX5_lineOfWord (101, (.ireturn, 1)) (List.mem_of_getElem? (i := 54) rfl)
theorem dX5_lineOfWord_102 : decode cX5_lineOfWord 102 = .ok (.aload_n 0, 1) := dAX5_lineOfWord (102, (.aload_n 0, 1)) (List.mem_of_getElem? (i := 55) rfl)
theorem dX5_lineOfWord_103 : decode cX5_lineOfWord 103 = .ok (.getfield 40, 3) := dAX5_lineOfWord (103, (.getfield 40, 3)) (List.mem_of_getElem? (i := 56) rfl)
theorem dX5_lineOfWord_106 : decode cX5_lineOfWord 106 = .ok (.ldc2_w 267, 3) := dAX5_lineOfWord (106, (.ldc2_w 267, 3)) (List.mem_of_getElem? (i := 57) rfl)
theorem dX5_lineOfWord_109 : decode cX5_lineOfWord 109 = .ok (.lcmp, 1) := dAX5_lineOfWord (109, (.lcmp, 1)) (List.mem_of_getElem? (i := 58) rfl)
theorem dX5_lineOfWord_110 : decode cX5_lineOfWord 110 = .ok (.ifCond .ne 8, 3) := dAX5_lineOfWord (110, (.ifCond .ne 8, 3)) (List.mem_of_getElem? (i := 59) rfl)
theorem dX5_lineOfWord_113 : decode cX5_lineOfWord 113 = .ok (.bipush 7, 2) := dAX5_lineOfWord (113, (.bipush 7, 2)) (List.mem_of_getElem? (i := 60) rfl)
theorem dX5_lineOfWord_115 : decode cX5_lineOfWord 115 = .ok (.goto 4, 3) := dAX5_lineOfWord (115, (.goto 4, 3)) (List.mem_of_getElem? (i := 61) rfl)
theorem dX5_lineOfWord_118 : decode cX5_lineOfWord 118 = .ok (.iconst (-1), 1) := dAX5_lineOfWord (118, (.iconst (-1), 1)) (List.mem_of_getElem? (i := 62) rfl)
theorem dX5_lineOfWord_119 : decode cX5_lineOfWord 119 = .ok (.ireturn, 1) := dAX5_lineOfWord (119, (.ireturn, 1)) (List.mem_of_getElem? (i := 63) rfl)
theorem kX5_lineOfWord_28 : Cond.fieldLink RX5 28 "EveningVow$Reader" "sort" "I" ∈ wsX5_lineOfWord := List.mem_of_getElem? (i := 1) rfl
theorem iX5_lineOfWord_X5 : ∀ w ∈ u_ws RX5 TX5 15, w ∈ wsX5_lineOfWord := fun w h => (List.mem_cons_of_mem _ (List.mem_append_right _ h))
theorem kX5_lineOfWord_40 : Cond.fieldLink RX5 40 "EveningVow$Reader" "code" "J" ∈ wsX5_lineOfWord := List.mem_of_getElem? (i := 2) rfl
theorem kX5_lineOfWord_253 : Cond.constantLong RX5 253 (28559150663954023 : Int64) ∈ wsX5_lineOfWord := by decide +kernel
theorem kX5_lineOfWord_255 : Cond.constantLong RX5 255 (444351214452 : Int64) ∈ wsX5_lineOfWord := by decide +kernel
theorem kX5_lineOfWord_257 : Cond.constantLong RX5 257 (1885432178 : Int64) ∈ wsX5_lineOfWord := by decide +kernel
theorem kX5_lineOfWord_259 : Cond.constantLong RX5 259 (431415719795 : Int64) ∈ wsX5_lineOfWord := by decide +kernel
theorem kX5_lineOfWord_261 : Cond.constantLong RX5 261 (1952541797 : Int64) ∈ wsX5_lineOfWord := by decide +kernel
theorem kX5_lineOfWord_263 : Cond.constantLong RX5 263 (1852138852 : Int64) ∈ wsX5_lineOfWord := by decide +kernel
theorem kX5_lineOfWord_265 : Cond.constantLong RX5 265 (1936024942 : Int64) ∈ wsX5_lineOfWord := by decide +kernel
theorem kX5_lineOfWord_267 : Cond.constantLong RX5 267 (1735356005 : Int64) ∈ wsX5_lineOfWord := by decide +kernel
set_option maxHeartbeats 4000000 in
set_option maxRecDepth 100000 in
theorem mX5_lineOfWord (l : Launch) (g : GG) (a_t : Nat) (p_t : Nat → Nat) (n : Nat) (o_t : Nat → Int32) (c_t : Int64) (r : Int32) (hF : fX5_lineOfWord n o_t c_t = some (r)) : MI l g yX5_lineOfWord wsX5_lineOfWord ({ frames := 0, cells := 0, slots := 0, locals := 0 } : Room) [.ref a_t] [oX5 a_t p_t o_t c_t] r [oX5 a_t p_t o_t c_t] := by
  refine MI.of (cc := cX5_lineOfWord) (maxL := 1) (rt := .int) (own := RX5) rfl rfl (by decide) (Nat.le_of_ble_eq_true rfl) ?_
  intro p e s m args below meth c A C0 hP hD hS ls hl
  obtain ⟨hx, hb, hml, hown, hts, hr, hlk, hK, hA, hSW⟩ := id C0
  have hl : lv_has ls 1 [(0, .ref a_t)] := hl
  rw [fX5_lineOfWord] at hF
  refine lv_aload_n hx hb dX5_lineOfWord_0 rfl (lv_at hl 0 rfl) ?_
  refine va_get (D := g.1) (ci := 5) (v := .int (o_t 5)) (C := RX5) (T := TX5) (N := 15) hx hb hts iX5_lineOfWord_X5 hown hK.1 hP 0 rfl rfl 5 (by decide) (hts _ kX5_lineOfWord_28) (fun _ h9 => h9) rfl dX5_lineOfWord_1 ?_
  refine lv_iconst (v := (1 : Int32)) hx hb dX5_lineOfWord_4 (by decide) ?_
  refine lv_icmp_eq (tgt := 10) hx hb dX5_lineOfWord_5 (by decide) (fun c_1 => ?_) (fun c_1 => ?_)
  · have hF := it_p c_1 hF
    refine lv_aload_n hx hb dX5_lineOfWord_10 rfl (lv_at hl 0 rfl) ?_
    refine va_get (D := g.1) (ci := 5) (v := .long c_t) (C := RX5) (T := TX5) (N := 15) hx hb hts iX5_lineOfWord_X5 hown hK.1 hP 0 rfl rfl 9 (by decide) (hts _ kX5_lineOfWord_40) (fun _ h9 => h9) rfl dX5_lineOfWord_11 ?_
    refine lv_ldc2 (v := (28559150663954023 : Int64)) hx hb hown (hts _ kX5_lineOfWord_253) dX5_lineOfWord_14 ?_
    refine W.lcmp hx hb dX5_lineOfWord_17 ?_
    refine lv_if_ne (tgt := 23) hx hb dX5_lineOfWord_18 (by decide) (fun c_2 => ?_) (fun c_2 => ?_)
    · have hF := it_n c_2 hF
      refine lv_aload_n hx hb dX5_lineOfWord_23 rfl (lv_at hl 0 rfl) ?_
      refine va_get (D := g.1) (ci := 5) (v := .long c_t) (C := RX5) (T := TX5) (N := 15) hx hb hts iX5_lineOfWord_X5 hown hK.1 hP 0 rfl rfl 9 (by decide) (hts _ kX5_lineOfWord_40) (fun _ h9 => h9) rfl dX5_lineOfWord_24 ?_
      refine lv_ldc2 (v := (444351214452 : Int64)) hx hb hown (hts _ kX5_lineOfWord_255) dX5_lineOfWord_27 ?_
      refine W.lcmp hx hb dX5_lineOfWord_30 ?_
      refine lv_if_ne (tgt := 36) hx hb dX5_lineOfWord_31 (by decide) (fun c_3 => ?_) (fun c_3 => ?_)
      · have hF := it_n c_3 hF
        refine lv_aload_n hx hb dX5_lineOfWord_36 rfl (lv_at hl 0 rfl) ?_
        refine va_get (D := g.1) (ci := 5) (v := .long c_t) (C := RX5) (T := TX5) (N := 15) hx hb hts iX5_lineOfWord_X5 hown hK.1 hP 0 rfl rfl 9 (by decide) (hts _ kX5_lineOfWord_40) (fun _ h9 => h9) rfl dX5_lineOfWord_37 ?_
        refine lv_ldc2 (v := (1885432178 : Int64)) hx hb hown (hts _ kX5_lineOfWord_257) dX5_lineOfWord_40 ?_
        refine W.lcmp hx hb dX5_lineOfWord_43 ?_
        refine lv_if_ne (tgt := 49) hx hb dX5_lineOfWord_44 (by decide) (fun c_4 => ?_) (fun c_4 => ?_)
        · have hF := it_n c_4 hF
          refine lv_aload_n hx hb dX5_lineOfWord_49 rfl (lv_at hl 0 rfl) ?_
          refine va_get (D := g.1) (ci := 5) (v := .long c_t) (C := RX5) (T := TX5) (N := 15) hx hb hts iX5_lineOfWord_X5 hown hK.1 hP 0 rfl rfl 9 (by decide) (hts _ kX5_lineOfWord_40) (fun _ h9 => h9) rfl dX5_lineOfWord_50 ?_
          refine lv_ldc2 (v := (431415719795 : Int64)) hx hb hown (hts _ kX5_lineOfWord_259) dX5_lineOfWord_53 ?_
          refine W.lcmp hx hb dX5_lineOfWord_56 ?_
          refine lv_if_ne (tgt := 62) hx hb dX5_lineOfWord_57 (by decide) (fun c_5 => ?_) (fun c_5 => ?_)
          · have hF := it_n c_5 hF
            refine lv_aload_n hx hb dX5_lineOfWord_62 rfl (lv_at hl 0 rfl) ?_
            refine va_get (D := g.1) (ci := 5) (v := .long c_t) (C := RX5) (T := TX5) (N := 15) hx hb hts iX5_lineOfWord_X5 hown hK.1 hP 0 rfl rfl 9 (by decide) (hts _ kX5_lineOfWord_40) (fun _ h9 => h9) rfl dX5_lineOfWord_63 ?_
            refine lv_ldc2 (v := (1952541797 : Int64)) hx hb hown (hts _ kX5_lineOfWord_261) dX5_lineOfWord_66 ?_
            refine W.lcmp hx hb dX5_lineOfWord_69 ?_
            refine lv_if_ne (tgt := 75) hx hb dX5_lineOfWord_70 (by decide) (fun c_6 => ?_) (fun c_6 => ?_)
            · have hF := it_n c_6 hF
              refine lv_aload_n hx hb dX5_lineOfWord_75 rfl (lv_at hl 0 rfl) ?_
              refine va_get (D := g.1) (ci := 5) (v := .long c_t) (C := RX5) (T := TX5) (N := 15) hx hb hts iX5_lineOfWord_X5 hown hK.1 hP 0 rfl rfl 9 (by decide) (hts _ kX5_lineOfWord_40) (fun _ h9 => h9) rfl dX5_lineOfWord_76 ?_
              refine lv_ldc2 (v := (1852138852 : Int64)) hx hb hown (hts _ kX5_lineOfWord_263) dX5_lineOfWord_79 ?_
              refine W.lcmp hx hb dX5_lineOfWord_82 ?_
              refine lv_if_ne (tgt := 88) hx hb dX5_lineOfWord_83 (by decide) (fun c_7 => ?_) (fun c_7 => ?_)
              · have hF := it_n c_7 hF
                refine lv_aload_n hx hb dX5_lineOfWord_88 rfl (lv_at hl 0 rfl) ?_
                refine va_get (D := g.1) (ci := 5) (v := .long c_t) (C := RX5) (T := TX5) (N := 15) hx hb hts iX5_lineOfWord_X5 hown hK.1 hP 0 rfl rfl 9 (by decide) (hts _ kX5_lineOfWord_40) (fun _ h9 => h9) rfl dX5_lineOfWord_89 ?_
                refine lv_ldc2 (v := (1936024942 : Int64)) hx hb hown (hts _ kX5_lineOfWord_265) dX5_lineOfWord_92 ?_
                refine W.lcmp hx hb dX5_lineOfWord_95 ?_
                refine lv_if_ne (tgt := 102) hx hb dX5_lineOfWord_96 (by decide) (fun c_8 => ?_) (fun c_8 => ?_)
                · have hF := it_n c_8 hF
                  refine lv_aload_n hx hb dX5_lineOfWord_102 rfl (lv_at hl 0 rfl) ?_
                  refine va_get (D := g.1) (ci := 5) (v := .long c_t) (C := RX5) (T := TX5) (N := 15) hx hb hts iX5_lineOfWord_X5 hown hK.1 hP 0 rfl rfl 9 (by decide) (hts _ kX5_lineOfWord_40) (fun _ h9 => h9) rfl dX5_lineOfWord_103 ?_
                  refine lv_ldc2 (v := (1735356005 : Int64)) hx hb hown (hts _ kX5_lineOfWord_267) dX5_lineOfWord_106 ?_
                  refine W.lcmp hx hb dX5_lineOfWord_109 ?_
                  refine lv_if_ne (tgt := 118) hx hb dX5_lineOfWord_110 (by decide) (fun c_9 => ?_) (fun c_9 => ?_)
                  · have hF := it_n c_9 hF
                    refine lv_iconst (v := (-1 : Int32)) hx hb dX5_lineOfWord_118 (by decide) ?_
                    cases hF
                    exact ret_i C0 hP hD hS [0] rfl rfl rfl dX5_lineOfWord_119 rfl
                  · have hF := it_p c_9 hF
                    refine lv_bipush (v := (7 : Int32)) hx hb dX5_lineOfWord_113 (by decide) ?_
                    refine lv_goto (tgt := 119) hx hb dX5_lineOfWord_115 (by decide) ?_
                    cases hF
                    exact ret_i C0 hP hD hS [0] rfl rfl rfl dX5_lineOfWord_119 rfl
                · have hF := it_p c_8 hF
                  refine lv_bipush (v := (6 : Int32)) hx hb dX5_lineOfWord_99 (by decide) ?_
                  cases hF
                  exact ret_i C0 hP hD hS [0] rfl rfl rfl dX5_lineOfWord_101 rfl
              · have hF := it_p c_7 hF
                refine lv_iconst (v := (5 : Int32)) hx hb dX5_lineOfWord_86 (by decide) ?_
                cases hF
                exact ret_i C0 hP hD hS [0] rfl rfl rfl dX5_lineOfWord_87 rfl
            · have hF := it_p c_6 hF
              refine lv_iconst (v := (4 : Int32)) hx hb dX5_lineOfWord_73 (by decide) ?_
              cases hF
              exact ret_i C0 hP hD hS [0] rfl rfl rfl dX5_lineOfWord_74 rfl
          · have hF := it_p c_5 hF
            refine lv_iconst (v := (3 : Int32)) hx hb dX5_lineOfWord_60 (by decide) ?_
            cases hF
            exact ret_i C0 hP hD hS [0] rfl rfl rfl dX5_lineOfWord_61 rfl
        · have hF := it_p c_4 hF
          refine lv_iconst (v := (2 : Int32)) hx hb dX5_lineOfWord_47 (by decide) ?_
          cases hF
          exact ret_i C0 hP hD hS [0] rfl rfl rfl dX5_lineOfWord_48 rfl
      · have hF := it_p c_3 hF
        refine lv_iconst (v := (1 : Int32)) hx hb dX5_lineOfWord_34 (by decide) ?_
        cases hF
        exact ret_i C0 hP hD hS [0] rfl rfl rfl dX5_lineOfWord_35 rfl
    · have hF := it_p c_2 hF
      refine lv_iconst (v := (0 : Int32)) hx hb dX5_lineOfWord_21 (by decide) ?_
      cases hF
      exact ret_i C0 hP hD hS [0] rfl rfl rfl dX5_lineOfWord_22 rfl
  · have hF := it_n c_1 hF
    refine lv_iconst (v := (-1 : Int32)) hx hb dX5_lineOfWord_8 (by decide) ?_
    cases hF
    exact ret_i C0 hP hD hS [0] rfl rfl rfl dX5_lineOfWord_9 rfl

theorem dAX5_failed : ∀ q ∈ ([(0, (.aload_n 0, 1)), (1, (.getfield 19, 3)), (4, (.ifCond .eq 7, 3)), (7, (.iconst 1, 1)), (8, (.goto 4, 3)), (11, (.iconst 0, 1)), (12, (.ireturn, 1))] : List (Nat × (Instr × Nat))), decode cX5_failed q.1 = .ok q.2 := by decide +kernel
theorem dX5_failed_0 : decode cX5_failed 0 = .ok (.aload_n 0, 1) := dAX5_failed (0, (.aload_n 0, 1)) (List.mem_of_getElem? (i := 0) rfl)
theorem dX5_failed_1 : decode cX5_failed 1 = .ok (.getfield 19, 3) := dAX5_failed (1, (.getfield 19, 3)) (List.mem_of_getElem? (i := 1) rfl)
theorem dX5_failed_4 : decode cX5_failed 4 = .ok (.ifCond .eq 7, 3) := dAX5_failed (4, (.ifCond .eq 7, 3)) (List.mem_of_getElem? (i := 2) rfl)
theorem dX5_failed_7 : decode cX5_failed 7 = .ok (.iconst 1, 1) := dAX5_failed (7, (.iconst 1, 1)) (List.mem_of_getElem? (i := 3) rfl)
theorem dX5_failed_8 : decode cX5_failed 8 = .ok (.goto 4, 3) := dAX5_failed (8, (.goto 4, 3)) (List.mem_of_getElem? (i := 4) rfl)
theorem dX5_failed_11 : decode cX5_failed 11 = .ok (.iconst 0, 1) := dAX5_failed (11, (.iconst 0, 1)) (List.mem_of_getElem? (i := 5) rfl)
theorem dX5_failed_12 : decode cX5_failed 12 = .ok (.ireturn, 1) := dAX5_failed (12, (.ireturn, 1)) (List.mem_of_getElem? (i := 6) rfl)
theorem kX5_failed_19 : Cond.fieldLink RX5 19 "EveningVow$Reader" "faultNumber" "I" ∈ wsX5_failed := List.mem_of_getElem? (i := 1) rfl
theorem iX5_failed_X5 : ∀ w ∈ u_ws RX5 TX5 15, w ∈ wsX5_failed := fun w h => (List.mem_cons_of_mem _ (List.mem_append_right _ h))
set_option maxHeartbeats 4000000 in
set_option maxRecDepth 100000 in
theorem mX5_failed (l : Launch) (g : GG) (a_t : Nat) (p_t : Nat → Nat) (n : Nat) (o_t : Nat → Int32) (c_t : Int64) (r : Int32) (hF : fX5_failed n o_t c_t = some (r)) : MI l g yX5_failed wsX5_failed ({ frames := 0, cells := 0, slots := 0, locals := 0 } : Room) [.ref a_t] [oX5 a_t p_t o_t c_t] r [oX5 a_t p_t o_t c_t] := by
  refine MI.of (cc := cX5_failed) (maxL := 1) (rt := .boolean) (own := RX5) rfl rfl (by decide) (Nat.le_of_ble_eq_true rfl) ?_
  intro p e s m args below meth c A C0 hP hD hS ls hl
  obtain ⟨hx, hb, hml, hown, hts, hr, hlk, hK, hA, hSW⟩ := id C0
  have hl : lv_has ls 1 [(0, .ref a_t)] := hl
  rw [fX5_failed] at hF
  refine lv_aload_n hx hb dX5_failed_0 rfl (lv_at hl 0 rfl) ?_
  refine va_get (D := g.1) (ci := 5) (v := .int (o_t 2)) (C := RX5) (T := TX5) (N := 15) hx hb hts iX5_failed_X5 hown hK.1 hP 0 rfl rfl 2 (by decide) (hts _ kX5_failed_19) (fun _ h9 => h9) rfl dX5_failed_1 ?_
  refine lv_if_eq (tgt := 11) hx hb dX5_failed_4 (by decide) (fun c_1 => ?_) (fun c_1 => ?_)
  · have hF := it_p c_1 hF
    refine lv_iconst (v := (0 : Int32)) hx hb dX5_failed_11 (by decide) ?_
    cases hF
    exact ret_z C0 hP hD hS [0] rfl rfl rfl dX5_failed_12 rfl rfl
  · have hF := it_n c_1 hF
    refine lv_iconst (v := (1 : Int32)) hx hb dX5_failed_7 (by decide) ?_
    refine lv_goto (tgt := 12) hx hb dX5_failed_8 (by decide) ?_
    cases hF
    exact ret_z C0 hP hD hS [0] rfl rfl rfl dX5_failed_12 rfl rfl

theorem dAX5_fail : ∀ q ∈ ([(0, (.aload_n 0, 1)), (1, (.invokevirtual 79, 3)), (4, (.ifCond .ne 16, 3)), (7, (.aload_n 0, 1)), (8, (.iload_n 1, 1)), (9, (.putfield 19, 3)), (12, (.aload_n 0, 1)), (13, (.aload_n 0, 1)), (14, (.getfield 31, 3)), (17, (.putfield 22, 3)), (20, (.iconst (-1), 1)), (21, (.ireturn, 1))] : List (Nat × (Instr × Nat))), decode cX5_fail q.1 = .ok q.2 := by decide +kernel
theorem dX5_fail_0 : decode cX5_fail 0 = .ok (.aload_n 0, 1) := dAX5_fail (0, (.aload_n 0, 1)) (List.mem_of_getElem? (i := 0) rfl)
theorem dX5_fail_1 : decode cX5_fail 1 = .ok (.invokevirtual 79, 3) := dAX5_fail (1, (.invokevirtual 79, 3)) (List.mem_of_getElem? (i := 1) rfl)
theorem dX5_fail_4 : decode cX5_fail 4 = .ok (.ifCond .ne 16, 3) := dAX5_fail (4, (.ifCond .ne 16, 3)) (List.mem_of_getElem? (i := 2) rfl)
theorem dX5_fail_7 : decode cX5_fail 7 = .ok (.aload_n 0, 1) := dAX5_fail (7, (.aload_n 0, 1)) (List.mem_of_getElem? (i := 3) rfl)
theorem dX5_fail_8 : decode cX5_fail 8 = .ok (.iload_n 1, 1) := dAX5_fail (8, (.iload_n 1, 1)) (List.mem_of_getElem? (i := 4) rfl)
theorem dX5_fail_9 : decode cX5_fail 9 = .ok (.putfield 19, 3) := dAX5_fail (9, (.putfield 19, 3)) (List.mem_of_getElem? (i := 5) rfl)
theorem dX5_fail_12 : decode cX5_fail 12 = .ok (.aload_n 0, 1) := dAX5_fail (12, (.aload_n 0, 1)) (List.mem_of_getElem? (i := 6) rfl)
theorem dX5_fail_13 : decode cX5_fail 13 = .ok (.aload_n 0, 1) := dAX5_fail (13, (.aload_n 0, 1)) (List.mem_of_getElem? (i := 7) rfl)
theorem dX5_fail_14 : decode cX5_fail 14 = .ok (.getfield 31, 3) := dAX5_fail (14, (.getfield 31, 3)) (List.mem_of_getElem? (i := 8) rfl)
theorem dX5_fail_17 : decode cX5_fail 17 = .ok (.putfield 22, 3) := dAX5_fail (17, (.putfield 22, 3)) (List.mem_of_getElem? (i := 9) rfl)
theorem dX5_fail_20 : decode cX5_fail 20 = .ok (.iconst (-1), 1) := dAX5_fail (20, (.iconst (-1), 1)) (List.mem_of_getElem? (i := 10) rfl)
theorem dX5_fail_21 : decode cX5_fail 21 = .ok (.ireturn, 1) := dAX5_fail (21, (.ireturn, 1)) (List.mem_of_getElem? (i := 11) rfl)
set_option maxRecDepth 20000 in
theorem ggX5_fail_X5_failed : GoodIn wsX5_fail wsX5_failed := goodIn_r _ [8, 1, 9, 10, 11, 12, 13, 14, 15, 16, 17, 18, 19, 20, 21, 22, 23] rfl (by decide +kernel)
set_option maxRecDepth 20000 in
theorem gX5_fail_X5_failed : GoodIn wsX5_fail (wsV RX5 79 RX5 yX5_failed wsX5_failed) := goodIn_app (goodIn_of _ (by decide +kernel)) ggX5_fail_X5_failed
theorem kX5_fail_19 : Cond.fieldLink RX5 19 "EveningVow$Reader" "faultNumber" "I" ∈ wsX5_fail := List.mem_of_getElem? (i := 1) rfl
theorem iX5_fail_X5 : ∀ w ∈ u_ws RX5 TX5 15, w ∈ wsX5_fail := fun w h => (List.mem_cons_of_mem _ (List.mem_append_right _ h))
theorem kX5_fail_31 : Cond.fieldLink RX5 31 "EveningVow$Reader" "from" "I" ∈ wsX5_fail := List.mem_of_getElem? (i := 2) rfl
theorem kX5_fail_22 : Cond.fieldLink RX5 22 "EveningVow$Reader" "faultPlace" "I" ∈ wsX5_fail := List.mem_of_getElem? (i := 3) rfl
set_option maxHeartbeats 4000000 in
set_option maxRecDepth 100000 in
theorem mX5_fail (l : Launch) (g : GG) (a_t : Nat) (p_t : Nat → Nat) (n : Nat) (x1 : Int32) (o_t : Nat → Int32) (c_t : Int64) (r : Int32) (o_t' : Nat → Int32) (c_t' : Int64) (hF : fX5_fail n x1 o_t c_t = some (r, o_t', c_t')) : MI l g yX5_fail wsX5_fail ({ frames := 1, cells := 0, slots := 0, locals := 20 } : Room) [.ref a_t, .int x1] [oX5 a_t p_t o_t c_t] r [oX5 a_t p_t o_t' c_t'] := by
  refine MI.of (cc := cX5_fail) (maxL := 2) (rt := .int) (own := RX5) rfl rfl (by decide) (Nat.le_of_ble_eq_true rfl) ?_
  intro p e s m args below meth c A C0 hP hD hS ls hl
  obtain ⟨hx, hb, hml, hown, hts, hr, hlk, hK, hA, hSW⟩ := id C0
  have hl : lv_has ls 2 [(0, .ref a_t), (1, .int x1)] := hl
  rw [fX5_fail] at hF
  refine lv_aload_n hx hb dX5_fail_0 rfl (lv_at hl 0 rfl) ?_
  obtain ⟨u_1, hu_2, hF⟩ := ob1_some hF
  refine call_i (wr := []) (As := []) (rest := []) (ci := 5) (q0 := 0) C0 (mX5_failed l g a_t p_t n o_t c_t u_1 hu_2) (cwV 0 hts gX5_fail_X5_failed rfl rfl rfl (by decide +kernel) ⟨Nat.le_of_ble_eq_true rfl, Nat.le_of_ble_eq_true rfl⟩) hP hD hS [0] [] rfl rfl rfl rfl rfl (by decide) rfl rfl hl.1 rfl rfl (Nat.le_of_ble_eq_true rfl) ⟨Nat.zero_le _, Nat.zero_le _⟩ dX5_fail_1 ?_
  intro H locs hP hD hS
  refine lv_if_ne (tgt := 20) hx hb dX5_fail_4 (by decide) (fun c_3 => ?_) (fun c_3 => ?_)
  · have hF := it_n c_3 hF
    refine lv_iconst (v := (-1 : Int32)) hx hb dX5_fail_20 (by decide) ?_
    cases hF
    exact ret_i C0 hP hD hS [0] rfl rfl rfl dX5_fail_21 rfl
  · have hF := it_p c_3 hF
    refine lv_aload_n hx hb dX5_fail_7 rfl (lv_at hl 0 rfl) ?_
    refine lv_iload_n hx hb dX5_fail_8 rfl (lv_at hl 1 rfl) ?_
    refine va_put (D := g.1) (ci := 5) (v := .int x1) (ty := .int) (C := RX5) (T := TX5) (N := 15) hx hb hts iX5_fail_X5 tyX5 tyX5_ok nmX5 hown hK.1 hP hD hS 0 rfl rfl 2 (by decide) (hts _ kX5_fail_19) (fun _ h9 => h9) rfl (by decide +kernel) rfl rfl (Nat.le_of_ble_eq_true rfl) dX5_fail_9 (fun H locs hP hD hS => ?_)
    have hP : va_P g.1 vwCl [oX5 a_t p_t (upd o_t 2 x1) c_t] H := hP
    have hD : va_D A [oX5 a_t p_t (upd o_t 2 x1) c_t] := hD
    refine lv_aload_n hx hb dX5_fail_12 rfl (lv_at hl 0 rfl) ?_
    refine lv_aload_n hx hb dX5_fail_13 rfl (lv_at hl 0 rfl) ?_
    refine va_get (D := g.1) (ci := 5) (v := .int (o_t 6)) (C := RX5) (T := TX5) (N := 15) hx hb hts iX5_fail_X5 hown hK.1 hP 0 rfl rfl 6 (by decide) (hts _ kX5_fail_31) (fun _ h9 => h9) rfl dX5_fail_14 ?_
    refine va_put (D := g.1) (ci := 5) (v := .int (o_t 6)) (ty := .int) (C := RX5) (T := TX5) (N := 15) hx hb hts iX5_fail_X5 tyX5 tyX5_ok nmX5 hown hK.1 hP hD hS 0 rfl rfl 3 (by decide) (hts _ kX5_fail_22) (fun _ h9 => h9) rfl (by decide +kernel) rfl rfl (Nat.le_of_ble_eq_true rfl) dX5_fail_17 (fun H locs hP hD hS => ?_)
    have hP : va_P g.1 vwCl [oX5 a_t p_t (upd (upd o_t 2 x1) 3 (o_t 6)) c_t] H := hP
    have hD : va_D A [oX5 a_t p_t (upd (upd o_t 2 x1) 3 (o_t 6)) c_t] := hD
    refine lv_iconst (v := (-1 : Int32)) hx hb dX5_fail_20 (by decide) ?_
    cases hF
    exact ret_i C0 hP hD hS [0] rfl rfl rfl dX5_fail_21 rfl

theorem dAX5_isFull : ∀ q ∈ ([(0, (.iload_n 1, 1)), (1, (.tableswitch 122 1 7 #[43, 122, 58, 73, 87, 104, 104], 43)), (44, (.aload_n 0, 1)), (45, (.getfield 86, 3)), (48, (.bipush 7, 2)), (50, (.if_icmp .lt 7, 3)), (53, (.iconst 1, 1)), (54, (.goto 4, 3)), (57, (.iconst 0, 1)), (58, (.ireturn, 1)), (59, (.aload_n 0, 1)), (60, (.getfield 135, 3)), (63, (.bipush 8, 2)), (65, (.if_icmp .lt 7, 3)), (68, (.iconst 1, 1)), (69, (.goto 4, 3)), (72, (.iconst 0, 1)), (73, (.ireturn, 1)), (74, (.aload_n 0, 1)), (75, (.getfield 138, 3)), (78, (.iconst 4, 1)), (79, (.if_icmp .lt 7, 3)), (82, (.iconst 1, 1)), (83, (.goto 4, 3)), (86, (.iconst 0, 1)), (87, (.ireturn, 1)), (88, (.aload_n 0, 1)), (89, (.getfield 112, 3)), (92, (.getfield 141, 3)), (95, (.iconst 5, 1)), (96, (.if_icmp .lt 7, 3)), (99, (.iconst 1, 1)), (100, (.goto 4, 3)), (103, (.iconst 0, 1)), (104, (.ireturn, 1)), (105, (.aload_n 0, 1)), (106, (.getfield 112, 3)), (109, (.getfield 146, 3)), (112, (.bipush 6, 2)), (114, (.if_icmp .lt 7, 3)), (117, (.iconst 1, 1)), (118, (.goto 4, 3)), (121, (.iconst 0, 1)), (122, (.ireturn, 1)), (123, (.iconst 0, 1)), (124, (.ireturn, 1))] : List (Nat × (Instr × Nat))), decode cX5_isFull q.1 = .ok q.2 := by decide +kernel
theorem dX5_isFull_0 : decode cX5_isFull 0 = .ok (.iload_n 1, 1) := dAX5_isFull (0, (.iload_n 1, 1)) (List.mem_of_getElem? (i := 0) rfl)
theorem dX5_isFull_1 : decode cX5_isFull 1 = .ok (.tableswitch 122 1 7 #[43, 122, 58, 73, 87, 104, 104], 43) := dAX5_isFull (1, (.tableswitch 122 1 7 #[43, 122, 58, 73, 87, 104, 104], 43)) (List.mem_of_getElem? (i := 1) rfl)
theorem dX5_isFull_44 : decode cX5_isFull 44 = .ok (.aload_n 0, 1) := dAX5_isFull (44, (.aload_n 0, 1)) (List.mem_of_getElem? (i := 2) rfl)
theorem dX5_isFull_45 : decode cX5_isFull 45 = .ok (.getfield 86, 3) := dAX5_isFull (45, (.getfield 86, 3)) (List.mem_of_getElem? (i := 3) rfl)
theorem dX5_isFull_48 : decode cX5_isFull 48 = .ok (.bipush 7, 2) := dAX5_isFull (48, (.bipush 7, 2)) (List.mem_of_getElem? (i := 4) rfl)
theorem dX5_isFull_50 : decode cX5_isFull 50 = .ok (.if_icmp .lt 7, 3) := dAX5_isFull (50, (.if_icmp .lt 7, 3)) (List.mem_of_getElem? (i := 5) rfl)
theorem dX5_isFull_53 : decode cX5_isFull 53 = .ok (.iconst 1, 1) := dAX5_isFull (53, (.iconst 1, 1)) (List.mem_of_getElem? (i := 6) rfl)
theorem dX5_isFull_54 : decode cX5_isFull 54 = .ok (.goto 4, 3) := dAX5_isFull (54, (.goto 4, 3)) (List.mem_of_getElem? (i := 7) rfl)
theorem dX5_isFull_57 : decode cX5_isFull 57 = .ok (.iconst 0, 1) := dAX5_isFull (57, (.iconst 0, 1)) (List.mem_of_getElem? (i := 8) rfl)
theorem dX5_isFull_58 : decode cX5_isFull 58 = .ok (.ireturn, 1) := dAX5_isFull (58, (.ireturn, 1)) (List.mem_of_getElem? (i := 9) rfl)
theorem dX5_isFull_59 : decode cX5_isFull 59 = .ok (.aload_n 0, 1) := dAX5_isFull (59, (.aload_n 0, 1)) (List.mem_of_getElem? (i := 10) rfl)
theorem dX5_isFull_60 : decode cX5_isFull 60 = .ok (.getfield 135, 3) := dAX5_isFull (60, (.getfield 135, 3)) (List.mem_of_getElem? (i := 11) rfl)
theorem dX5_isFull_63 : decode cX5_isFull 63 = .ok (.bipush 8, 2) := dAX5_isFull (63, (.bipush 8, 2)) (List.mem_of_getElem? (i := 12) rfl)
theorem dX5_isFull_65 : decode cX5_isFull 65 = .ok (.if_icmp .lt 7, 3) := dAX5_isFull (65, (.if_icmp .lt 7, 3)) (List.mem_of_getElem? (i := 13) rfl)
theorem dX5_isFull_68 : decode cX5_isFull 68 = .ok (.iconst 1, 1) := dAX5_isFull (68, (.iconst 1, 1)) (List.mem_of_getElem? (i := 14) rfl)
theorem dX5_isFull_69 : decode cX5_isFull 69 = .ok (.goto 4, 3) := dAX5_isFull (69, (.goto 4, 3)) (List.mem_of_getElem? (i := 15) rfl)
theorem dX5_isFull_72 : decode cX5_isFull 72 = .ok (.iconst 0, 1) := dAX5_isFull (72, (.iconst 0, 1)) (List.mem_of_getElem? (i := 16) rfl)
theorem dX5_isFull_73 : decode cX5_isFull 73 = .ok (.ireturn, 1) := dAX5_isFull (73, (.ireturn, 1)) (List.mem_of_getElem? (i := 17) rfl)
theorem dX5_isFull_74 : decode cX5_isFull 74 = .ok (.aload_n 0, 1) := dAX5_isFull (74, (.aload_n 0, 1)) (List.mem_of_getElem? (i := 18) rfl)
theorem dX5_isFull_75 : decode cX5_isFull 75 = .ok (.getfield 138, 3) := dAX5_isFull (75, (.getfield 138, 3)) (List.mem_of_getElem? (i := 19) rfl)
theorem dX5_isFull_78 : decode cX5_isFull 78 = .ok (.iconst 4, 1) := dAX5_isFull (78, (.iconst 4, 1)) (List.mem_of_getElem? (i := 20) rfl)
theorem dX5_isFull_79 : decode cX5_isFull 79 = .ok (.if_icmp .lt 7, 3) := dAX5_isFull (79, (.if_icmp .lt 7, 3)) (List.mem_of_getElem? (i := 21) rfl)
theorem dX5_isFull_82 : decode cX5_isFull 82 = .ok (.iconst 1, 1) := dAX5_isFull (82, (.iconst 1, 1)) (List.mem_of_getElem? (i := 22) rfl)
theorem dX5_isFull_83 : decode cX5_isFull 83 = .ok (.goto 4, 3) := dAX5_isFull (83, (.goto 4, 3)) (List.mem_of_getElem? (i := 23) rfl)
theorem dX5_isFull_86 : decode cX5_isFull 86 = .ok (.iconst 0, 1) := dAX5_isFull (86, (.iconst 0, 1)) (List.mem_of_getElem? (i := 24) rfl)
theorem dX5_isFull_87 : decode cX5_isFull 87 = .ok (.ireturn, 1) := dAX5_isFull (87, (.ireturn, 1)) (List.mem_of_getElem? (i := 25) rfl)
theorem dX5_isFull_88 : decode cX5_isFull 88 = .ok (.aload_n 0, 1) := dAX5_isFull (88, (.aload_n 0, 1)) (List.mem_of_getElem? (i := 26) rfl)
theorem dX5_isFull_89 : decode cX5_isFull 89 = .ok (.getfield 112, 3) := dAX5_isFull (89, (.getfield 112, 3)) (List.mem_of_getElem? (i := 27) rfl)
theorem dX5_isFull_92 : decode cX5_isFull 92 = .ok (.getfield 141, 3) := dAX5_isFull (92, (.getfield 141, 3)) (List.mem_of_getElem? (i := 28) rfl)
theorem dX5_isFull_95 : decode cX5_isFull 95 = .ok (.iconst 5, 1) := dAX5_isFull (95, (.iconst 5, 1)) (List.mem_of_getElem? (i := 29) rfl)
theorem dX5_isFull_96 : decode cX5_isFull 96 = .ok (.if_icmp .lt 7, 3) := dAX5_isFull (96, (.if_icmp .lt 7, 3)) (List.mem_of_getElem? (i := 30) rfl)
theorem dX5_isFull_99 : decode cX5_isFull 99 = .ok (.iconst 1, 1) := dAX5_isFull (99, (.iconst 1, 1)) (List.mem_of_getElem? (i := 31) rfl)
theorem dX5_isFull_100 : decode cX5_isFull 100 = .ok (.goto 4, 3) := dAX5_isFull (100, (.goto 4, 3)) (List.mem_of_getElem? (i := 32) rfl)
theorem dX5_isFull_103 : decode cX5_isFull 103 = .ok (.iconst 0, 1) := dAX5_isFull (103, (.iconst 0, 1)) (List.mem_of_getElem? (i := 33) rfl)
theorem dX5_isFull_104 : decode cX5_isFull 104 = .ok (.ireturn, 1) := dAX5_isFull (104, (.ireturn, 1)) (List.mem_of_getElem? (i := 34) rfl)
theorem dX5_isFull_105 : decode cX5_isFull 105 = .ok (.aload_n 0, 1) := dAX5_isFull (105, (.aload_n 0, 1)) (List.mem_of_getElem? (i := 35) rfl)
theorem dX5_isFull_106 : decode cX5_isFull 106 = .ok (.getfield 112, 3) := dAX5_isFull (106, (.getfield 112, 3)) (List.mem_of_getElem? (i := 36) rfl)
theorem dX5_isFull_109 : decode cX5_isFull 109 = .ok (.getfield 146, 3) := dAX5_isFull (109, (.getfield 146, 3)) (List.mem_of_getElem? (i := 37) rfl)
theorem dX5_isFull_112 : decode cX5_isFull 112 = .ok (.bipush 6, 2) := dAX5_isFull (112, (.bipush 6, 2)) (List.mem_of_getElem? (i := 38) rfl)
theorem dX5_isFull_114 : decode cX5_isFull 114 = .ok (.if_icmp .lt 7, 3) := dAX5_isFull (114, (.if_icmp .lt 7, 3)) (List.mem_of_getElem? (i := 39) rfl)
theorem dX5_isFull_117 : decode cX5_isFull 117 = .ok (.iconst 1, 1) := dAX5_isFull (117, (.iconst 1, 1)) (List.mem_of_getElem? (i := 40) rfl)
theorem dX5_isFull_118 : decode cX5_isFull 118 = .ok (.goto 4, 3) := dAX5_isFull (118, (.goto 4, 3)) (List.mem_of_getElem? (i := 41) rfl)
theorem dX5_isFull_121 : decode cX5_isFull 121 = .ok (.iconst 0, 1) := dAX5_isFull (121, (.iconst 0, 1)) (List.mem_of_getElem? (i := 42) rfl)
theorem dX5_isFull_122 : decode cX5_isFull 122 = .ok (.ireturn, 1) := dAX5_isFull (122, (.ireturn, 1)) (List.mem_of_getElem? (i := 43) rfl)
theorem dX5_isFull_123 : decode cX5_isFull 123 = .ok (.iconst 0, 1) := dAX5_isFull (123, (.iconst 0, 1)) (List.mem_of_getElem? (i := 44) rfl)
theorem dX5_isFull_124 : decode cX5_isFull 124 = .ok (.ireturn, 1) := dAX5_isFull (124, (.ireturn, 1)) (List.mem_of_getElem? (i := 45) rfl)
theorem kX5_isFull_86 : Cond.fieldLink RX5 86 "EveningVow$House" "guests" "I" ∈ wsX5_isFull := List.mem_of_getElem? (i := 1) rfl
theorem iX5_isFull_X1 : ∀ w ∈ u_ws RX1 TX1 17, w ∈ wsX5_isFull := fun w h => (List.mem_cons_of_mem _ (List.mem_append_left _ (List.mem_append_right _ h)))
theorem kX5_isFull_135 : Cond.fieldLink RX5 135 "EveningVow$House" "draws" "I" ∈ wsX5_isFull := List.mem_of_getElem? (i := 2) rfl
theorem kX5_isFull_138 : Cond.fieldLink RX5 138 "EveningVow$House" "tales" "I" ∈ wsX5_isFull := List.mem_of_getElem? (i := 3) rfl
theorem kX5_isFull_112 : Cond.fieldLink RX5 112 "EveningVow$House" "town" "LEveningVow$Town;" ∈ wsX5_isFull := List.mem_of_getElem? (i := 4) rfl
theorem kX5_isFull_141 : Cond.fieldLink RX5 141 "EveningVow$Town" "needs" "I" ∈ wsX5_isFull := List.mem_of_getElem? (i := 5) rfl
theorem iX5_isFull_X7 : ∀ w ∈ u_ws RX7 TX7 7, w ∈ wsX5_isFull := fun w h => (List.mem_cons_of_mem _ (List.mem_append_right _ h))
theorem kX5_isFull_146 : Cond.fieldLink RX5 146 "EveningVow$Town" "sights" "I" ∈ wsX5_isFull := List.mem_of_getElem? (i := 6) rfl
set_option maxHeartbeats 4000000 in
set_option maxRecDepth 100000 in
theorem mX5_isFull (l : Launch) (g : GG) (a_r0 : Nat) (p_r0 : Nat → Nat) (p_r0_16 : Nat → Nat) (n : Nat) (x1 : Int32) (o_r0 : Nat → Int32) (o_r0_16 : Nat → Int32) (r : Int32) (hF : fX5_isFull n x1 o_r0 o_r0_16 = some (r)) : MI l g yX5_isFull wsX5_isFull ({ frames := 0, cells := 0, slots := 0, locals := 0 } : Room) [.ref a_r0, .int x1] [oX1 a_r0 p_r0 o_r0, oX7 (p_r0 16) p_r0_16 o_r0_16] r [oX1 a_r0 p_r0 o_r0, oX7 (p_r0 16) p_r0_16 o_r0_16] := by
  refine MI.of (cc := cX5_isFull) (maxL := 2) (rt := .boolean) (own := RX5) rfl rfl (by decide) (Nat.le_of_ble_eq_true rfl) ?_
  intro p e s m args below meth c A C0 hP hD hS ls hl
  obtain ⟨hx, hb, hml, hown, hts, hr, hlk, hK, hA, hSW⟩ := id C0
  have hl : lv_has ls 2 [(0, .ref a_r0), (1, .int x1)] := hl
  rw [fX5_isFull] at hF
  refine lv_iload_n hx hb dX5_isFull_0 rfl (lv_at hl 1 rfl) ?_
  by_cases c_1 : x1 = (1 : Int32)
  · have hF := it_p c_1 hF
    refine lv_tableIn (off := 43) (tgt := 44) hx hb dX5_isFull_1 (by rw [c_1]; decide) (by rw [c_1]; decide) (by rw [c_1]; rfl) (by decide) ?_
    refine lv_aload_n hx hb dX5_isFull_44 rfl (lv_at hl 0 rfl) ?_
    refine va_get (D := g.1) (ci := 1) (v := .int (o_r0 3)) (C := RX1) (T := TX1) (N := 17) hx hb hts iX5_isFull_X1 hown hK.1 hP 0 rfl rfl 3 (by decide) (hts _ kX5_isFull_86) (fun _ h9 => h9) rfl dX5_isFull_45 ?_
    refine lv_bipush (v := (7 : Int32)) hx hb dX5_isFull_48 (by decide) ?_
    refine lv_icmp_lt (tgt := 57) hx hb dX5_isFull_50 (by decide) (fun c_2 => ?_) (fun c_2 => ?_)
    · have hF := it_p c_2 hF
      refine lv_iconst (v := (0 : Int32)) hx hb dX5_isFull_57 (by decide) ?_
      cases hF
      exact ret_z C0 hP hD hS [0, 1] rfl rfl rfl dX5_isFull_58 rfl rfl
    · have hF := it_n c_2 hF
      refine lv_iconst (v := (1 : Int32)) hx hb dX5_isFull_53 (by decide) ?_
      refine lv_goto (tgt := 58) hx hb dX5_isFull_54 (by decide) ?_
      cases hF
      exact ret_z C0 hP hD hS [0, 1] rfl rfl rfl dX5_isFull_58 rfl rfl
  have hF := it_n c_1 hF
  by_cases c_3 : x1 = (2 : Int32)
  · have hF := it_p c_3 hF
    refine lv_tableIn (off := 122) (tgt := 123) hx hb dX5_isFull_1 (by rw [c_3]; decide) (by rw [c_3]; decide) (by rw [c_3]; rfl) (by decide) ?_
    refine lv_iconst (v := (0 : Int32)) hx hb dX5_isFull_123 (by decide) ?_
    cases hF
    exact ret_z C0 hP hD hS [0, 1] rfl rfl rfl dX5_isFull_124 rfl rfl
  have hF := it_n c_3 hF
  by_cases c_4 : x1 = (3 : Int32)
  · have hF := it_p c_4 hF
    refine lv_tableIn (off := 58) (tgt := 59) hx hb dX5_isFull_1 (by rw [c_4]; decide) (by rw [c_4]; decide) (by rw [c_4]; rfl) (by decide) ?_
    refine lv_aload_n hx hb dX5_isFull_59 rfl (lv_at hl 0 rfl) ?_
    refine va_get (D := g.1) (ci := 1) (v := .int (o_r0 9)) (C := RX1) (T := TX1) (N := 17) hx hb hts iX5_isFull_X1 hown hK.1 hP 0 rfl rfl 9 (by decide) (hts _ kX5_isFull_135) (fun _ h9 => h9) rfl dX5_isFull_60 ?_
    refine lv_bipush (v := (8 : Int32)) hx hb dX5_isFull_63 (by decide) ?_
    refine lv_icmp_lt (tgt := 72) hx hb dX5_isFull_65 (by decide) (fun c_5 => ?_) (fun c_5 => ?_)
    · have hF := it_p c_5 hF
      refine lv_iconst (v := (0 : Int32)) hx hb dX5_isFull_72 (by decide) ?_
      cases hF
      exact ret_z C0 hP hD hS [0, 1] rfl rfl rfl dX5_isFull_73 rfl rfl
    · have hF := it_n c_5 hF
      refine lv_iconst (v := (1 : Int32)) hx hb dX5_isFull_68 (by decide) ?_
      refine lv_goto (tgt := 73) hx hb dX5_isFull_69 (by decide) ?_
      cases hF
      exact ret_z C0 hP hD hS [0, 1] rfl rfl rfl dX5_isFull_73 rfl rfl
  have hF := it_n c_4 hF
  by_cases c_6 : x1 = (4 : Int32)
  · have hF := it_p c_6 hF
    refine lv_tableIn (off := 73) (tgt := 74) hx hb dX5_isFull_1 (by rw [c_6]; decide) (by rw [c_6]; decide) (by rw [c_6]; rfl) (by decide) ?_
    refine lv_aload_n hx hb dX5_isFull_74 rfl (lv_at hl 0 rfl) ?_
    refine va_get (D := g.1) (ci := 1) (v := .int (o_r0 13)) (C := RX1) (T := TX1) (N := 17) hx hb hts iX5_isFull_X1 hown hK.1 hP 0 rfl rfl 13 (by decide) (hts _ kX5_isFull_138) (fun _ h9 => h9) rfl dX5_isFull_75 ?_
    refine lv_iconst (v := (4 : Int32)) hx hb dX5_isFull_78 (by decide) ?_
    refine lv_icmp_lt (tgt := 86) hx hb dX5_isFull_79 (by decide) (fun c_7 => ?_) (fun c_7 => ?_)
    · have hF := it_p c_7 hF
      refine lv_iconst (v := (0 : Int32)) hx hb dX5_isFull_86 (by decide) ?_
      cases hF
      exact ret_z C0 hP hD hS [0, 1] rfl rfl rfl dX5_isFull_87 rfl rfl
    · have hF := it_n c_7 hF
      refine lv_iconst (v := (1 : Int32)) hx hb dX5_isFull_82 (by decide) ?_
      refine lv_goto (tgt := 87) hx hb dX5_isFull_83 (by decide) ?_
      cases hF
      exact ret_z C0 hP hD hS [0, 1] rfl rfl rfl dX5_isFull_87 rfl rfl
  have hF := it_n c_6 hF
  by_cases c_8 : x1 = (5 : Int32)
  · have hF := it_p c_8 hF
    refine lv_tableIn (off := 87) (tgt := 88) hx hb dX5_isFull_1 (by rw [c_8]; decide) (by rw [c_8]; decide) (by rw [c_8]; rfl) (by decide) ?_
    refine lv_aload_n hx hb dX5_isFull_88 rfl (lv_at hl 0 rfl) ?_
    refine va_get (D := g.1) (ci := 1) (v := .ref (p_r0 16)) (C := RX1) (T := TX1) (N := 17) hx hb hts iX5_isFull_X1 hown hK.1 hP 0 rfl rfl 16 (by decide) (hts _ kX5_isFull_112) (fun _ h9 => h9) rfl dX5_isFull_89 ?_
    refine va_get (D := g.1) (ci := 7) (v := .int (o_r0_16 0)) (C := RX7) (T := TX7) (N := 7) hx hb hts iX5_isFull_X7 hown hK.1 hP 1 rfl rfl 0 (by decide) (hts _ kX5_isFull_141) (fun _ h9 => h9) rfl dX5_isFull_92 ?_
    refine lv_iconst (v := (5 : Int32)) hx hb dX5_isFull_95 (by decide) ?_
    refine lv_icmp_lt (tgt := 103) hx hb dX5_isFull_96 (by decide) (fun c_9 => ?_) (fun c_9 => ?_)
    · have hF := it_p c_9 hF
      refine lv_iconst (v := (0 : Int32)) hx hb dX5_isFull_103 (by decide) ?_
      cases hF
      exact ret_z C0 hP hD hS [0, 1] rfl rfl rfl dX5_isFull_104 rfl rfl
    · have hF := it_n c_9 hF
      refine lv_iconst (v := (1 : Int32)) hx hb dX5_isFull_99 (by decide) ?_
      refine lv_goto (tgt := 104) hx hb dX5_isFull_100 (by decide) ?_
      cases hF
      exact ret_z C0 hP hD hS [0, 1] rfl rfl rfl dX5_isFull_104 rfl rfl
  have hF := it_n c_8 hF
  by_cases c_10 : x1 = (6 : Int32)
  · have hF := it_p c_10 hF
    refine lv_tableIn (off := 104) (tgt := 105) hx hb dX5_isFull_1 (by rw [c_10]; decide) (by rw [c_10]; decide) (by rw [c_10]; rfl) (by decide) ?_
    refine lv_aload_n hx hb dX5_isFull_105 rfl (lv_at hl 0 rfl) ?_
    refine va_get (D := g.1) (ci := 1) (v := .ref (p_r0 16)) (C := RX1) (T := TX1) (N := 17) hx hb hts iX5_isFull_X1 hown hK.1 hP 0 rfl rfl 16 (by decide) (hts _ kX5_isFull_112) (fun _ h9 => h9) rfl dX5_isFull_106 ?_
    refine va_get (D := g.1) (ci := 7) (v := .int (o_r0_16 3)) (C := RX7) (T := TX7) (N := 7) hx hb hts iX5_isFull_X7 hown hK.1 hP 1 rfl rfl 3 (by decide) (hts _ kX5_isFull_146) (fun _ h9 => h9) rfl dX5_isFull_109 ?_
    refine lv_bipush (v := (6 : Int32)) hx hb dX5_isFull_112 (by decide) ?_
    refine lv_icmp_lt (tgt := 121) hx hb dX5_isFull_114 (by decide) (fun c_11 => ?_) (fun c_11 => ?_)
    · have hF := it_p c_11 hF
      refine lv_iconst (v := (0 : Int32)) hx hb dX5_isFull_121 (by decide) ?_
      cases hF
      exact ret_z C0 hP hD hS [0, 1] rfl rfl rfl dX5_isFull_122 rfl rfl
    · have hF := it_n c_11 hF
      refine lv_iconst (v := (1 : Int32)) hx hb dX5_isFull_117 (by decide) ?_
      refine lv_goto (tgt := 122) hx hb dX5_isFull_118 (by decide) ?_
      cases hF
      exact ret_z C0 hP hD hS [0, 1] rfl rfl rfl dX5_isFull_122 rfl rfl
  have hF := it_n c_10 hF
  by_cases c_12 : x1 = (7 : Int32)
  · have hF := it_p c_12 hF
    refine lv_tableIn (off := 104) (tgt := 105) hx hb dX5_isFull_1 (by rw [c_12]; decide) (by rw [c_12]; decide) (by rw [c_12]; rfl) (by decide) ?_
    refine lv_aload_n hx hb dX5_isFull_105 rfl (lv_at hl 0 rfl) ?_
    refine va_get (D := g.1) (ci := 1) (v := .ref (p_r0 16)) (C := RX1) (T := TX1) (N := 17) hx hb hts iX5_isFull_X1 hown hK.1 hP 0 rfl rfl 16 (by decide) (hts _ kX5_isFull_112) (fun _ h9 => h9) rfl dX5_isFull_106 ?_
    refine va_get (D := g.1) (ci := 7) (v := .int (o_r0_16 3)) (C := RX7) (T := TX7) (N := 7) hx hb hts iX5_isFull_X7 hown hK.1 hP 1 rfl rfl 3 (by decide) (hts _ kX5_isFull_146) (fun _ h9 => h9) rfl dX5_isFull_109 ?_
    refine lv_bipush (v := (6 : Int32)) hx hb dX5_isFull_112 (by decide) ?_
    refine lv_icmp_lt (tgt := 121) hx hb dX5_isFull_114 (by decide) (fun c_13 => ?_) (fun c_13 => ?_)
    · have hF := it_p c_13 hF
      refine lv_iconst (v := (0 : Int32)) hx hb dX5_isFull_121 (by decide) ?_
      cases hF
      exact ret_z C0 hP hD hS [0, 1] rfl rfl rfl dX5_isFull_122 rfl rfl
    · have hF := it_n c_13 hF
      refine lv_iconst (v := (1 : Int32)) hx hb dX5_isFull_117 (by decide) ?_
      refine lv_goto (tgt := 122) hx hb dX5_isFull_118 (by decide) ?_
      cases hF
      exact ret_z C0 hP hD hS [0, 1] rfl rfl rfl dX5_isFull_122 rfl rfl
  have hF := it_n c_12 hF
  have tc_1 := lv_neT (a := 1) c_1 (by decide)
  have tc_3 := lv_neT (a := 2) c_3 (by decide)
  have tc_4 := lv_neT (a := 3) c_4 (by decide)
  have tc_6 := lv_neT (a := 4) c_6 (by decide)
  have tc_8 := lv_neT (a := 5) c_8 (by decide)
  have tc_10 := lv_neT (a := 6) c_10 (by decide)
  have tc_12 := lv_neT (a := 7) c_12 (by decide)
  refine lv_tableOut (tgt := 123) hx hb dX5_isFull_1 (by omega) (by decide) ?_
  refine lv_iconst (v := (0 : Int32)) hx hb dX5_isFull_123 (by decide) ?_
  cases hF
  exact ret_z C0 hP hD hS [0, 1] rfl rfl rfl dX5_isFull_124 rfl rfl

theorem dAX5_taken : ∀ q ∈ ([(0, (.aload_n 0, 1)), (1, (.invokevirtual 79, 3)), (4, (.ifCond .eq 5, 3)), (7, (.iconst (-1), 1)), (8, (.ireturn, 1)), (9, (.aload_n 0, 1)), (10, (.invokevirtual 72, 3)), (13, (.iload_n 1, 1)), (14, (.ireturn, 1))] : List (Nat × (Instr × Nat))), decode cX5_taken q.1 = .ok q.2 := by decide +kernel
theorem dX5_taken_0 : decode cX5_taken 0 = .ok (.aload_n 0, 1) := dAX5_taken (0, (.aload_n 0, 1)) (List.mem_of_getElem? (i := 0) rfl)
theorem dX5_taken_1 : decode cX5_taken 1 = .ok (.invokevirtual 79, 3) := dAX5_taken (1, (.invokevirtual 79, 3)) (List.mem_of_getElem? (i := 1) rfl)
theorem dX5_taken_4 : decode cX5_taken 4 = .ok (.ifCond .eq 5, 3) := dAX5_taken (4, (.ifCond .eq 5, 3)) (List.mem_of_getElem? (i := 2) rfl)
theorem dX5_taken_7 : decode cX5_taken 7 = .ok (.iconst (-1), 1) := dAX5_taken (7, (.iconst (-1), 1)) (List.mem_of_getElem? (i := 3) rfl)
theorem dX5_taken_8 : decode cX5_taken 8 = .ok (.ireturn, 1) := dAX5_taken (8, (.ireturn, 1)) (List.mem_of_getElem? (i := 4) rfl)
theorem dX5_taken_9 : decode cX5_taken 9 = .ok (.aload_n 0, 1) := dAX5_taken (9, (.aload_n 0, 1)) (List.mem_of_getElem? (i := 5) rfl)
theorem dX5_taken_10 : decode cX5_taken 10 = .ok (.invokevirtual 72, 3) := dAX5_taken (10, (.invokevirtual 72, 3)) (List.mem_of_getElem? (i := 6) rfl)
theorem dX5_taken_13 : decode cX5_taken 13 = .ok (.iload_n 1, 1) := dAX5_taken (13, (.iload_n 1, 1)) (List.mem_of_getElem? (i := 7) rfl)
theorem dX5_taken_14 : decode cX5_taken 14 = .ok (.ireturn, 1) := dAX5_taken (14, (.ireturn, 1)) (List.mem_of_getElem? (i := 8) rfl)
set_option maxRecDepth 20000 in
theorem ggX5_taken_X5_failed : GoodIn wsX5_taken wsX5_failed := goodIn_r _ [5, 6, 26, 27, 28, 29, 30, 31, 32, 33, 34, 35, 36, 37, 38, 39, 40] rfl (by decide +kernel)
set_option maxRecDepth 20000 in
theorem gX5_taken_X5_failed : GoodIn wsX5_taken (wsV RX5 79 RX5 yX5_failed wsX5_failed) := goodIn_app (goodIn_of _ (by decide +kernel)) ggX5_taken_X5_failed
set_option maxRecDepth 20000 in
theorem ggX5_taken_X5_step : GoodIn wsX5_taken wsX5_step := goodIn_r _ [10, 11, 12, 13, 14, 15, 16, 17, 18, 4, 19, 20, 21, 22, 23, 24, 25, 26, 27, 28, 29, 30, 31, 32, 33, 34, 35, 36, 37, 38, 39, 40] rfl (by decide +kernel)
set_option maxRecDepth 20000 in
theorem gX5_taken_X5_step : GoodIn wsX5_taken (wsV RX5 72 RX5 yX5_step wsX5_step) := goodIn_app (goodIn_of _ (by decide +kernel)) ggX5_taken_X5_step
set_option maxHeartbeats 4000000 in
set_option maxRecDepth 100000 in
theorem mX5_taken (l : Launch) (g : GG) (a_t : Nat) (p_t : Nat → Nat) (n : Nat) (x1 : Int32) (o_t : Nat → Int32) (c_t : Int64) (f_t_0 : Nat → Int32) (r : Int32) (o_t' : Nat → Int32) (c_t' : Int64) (hF : fX5_taken n x1 o_t c_t f_t_0 = some (r, o_t', c_t')) : MI l g yX5_taken wsX5_taken ({ frames := 2, cells := 0, slots := 0, locals := 40 } : Room) [.ref a_t, .int x1] [oX5 a_t p_t o_t c_t, aI g (p_t 0) 800 f_t_0] r [oX5 a_t p_t o_t' c_t', aI g (p_t 0) 800 f_t_0] := by
  refine MI.of (cc := cX5_taken) (maxL := 2) (rt := .int) (own := RX5) rfl rfl (by decide) (Nat.le_of_ble_eq_true rfl) ?_
  intro p e s m args below meth c A C0 hP hD hS ls hl
  obtain ⟨hx, hb, hml, hown, hts, hr, hlk, hK, hA, hSW⟩ := id C0
  have hl : lv_has ls 2 [(0, .ref a_t), (1, .int x1)] := hl
  rw [fX5_taken] at hF
  refine lv_aload_n hx hb dX5_taken_0 rfl (lv_at hl 0 rfl) ?_
  obtain ⟨u_1, hu_2, hF⟩ := ob1_some hF
  refine call_i (wr := [aI g (p_t 0) 800 f_t_0]) (As := []) (rest := []) (ci := 5) (q0 := 0) C0 (mX5_failed l g a_t p_t n o_t c_t u_1 hu_2) (cwV 0 hts gX5_taken_X5_failed rfl rfl rfl (by decide +kernel) ⟨Nat.le_of_ble_eq_true rfl, Nat.le_of_ble_eq_true rfl⟩) hP hD hS [0] [1] rfl rfl rfl rfl rfl (by decide) rfl rfl hl.1 rfl rfl (Nat.le_of_ble_eq_true rfl) ⟨Nat.zero_le _, Nat.zero_le _⟩ dX5_taken_1 ?_
  intro H locs hP hD hS
  refine lv_if_eq (tgt := 9) hx hb dX5_taken_4 (by decide) (fun c_3 => ?_) (fun c_3 => ?_)
  · have hF := it_p c_3 hF
    refine lv_aload_n hx hb dX5_taken_9 rfl (lv_at hl 0 rfl) ?_
    obtain ⟨u_4, u_5, hu_6, hF⟩ := ob2_some hF
    refine call_v (wr := []) (As := []) (rest := []) (ci := 5) (q0 := 0) C0 (mX5_step l g a_t p_t n o_t c_t f_t_0 u_4 u_5 hu_6) (cwV 0 hts gX5_taken_X5_step rfl rfl rfl (by decide +kernel) ⟨Nat.le_of_ble_eq_true rfl, Nat.le_of_ble_eq_true rfl⟩) hP hD hS [1, 0] [] rfl rfl rfl rfl rfl (by decide) rfl rfl hl.1 rfl rfl (Nat.le_of_ble_eq_true rfl) ⟨Nat.zero_le _, Nat.zero_le _⟩ dX5_taken_10 ?_
    intro H locs hP hD hS
    refine lv_iload_n hx hb dX5_taken_13 rfl (lv_at hl 1 rfl) ?_
    cases hF
    exact ret_i C0 hP hD hS [0, 1] rfl rfl rfl dX5_taken_14 rfl
  · have hF := it_n c_3 hF
    refine lv_iconst (v := (-1 : Int32)) hx hb dX5_taken_7 (by decide) ?_
    cases hF
    exact ret_i C0 hP hD hS [1, 0] rfl rfl rfl dX5_taken_8 rfl

theorem dAX5_takeLine : ∀ q ∈ ([(0, (.aload_n 0, 1)), (1, (.invokevirtual 124, 3)), (4, (.istore_n 2, 1)), (5, (.iload_n 2, 1)), (6, (.iconst (-1), 1)), (7, (.if_icmp .ne 9, 3)), (10, (.aload_n 0, 1)), (11, (.iconst 1, 1)), (12, (.invokevirtual 89, 3)), (15, (.ireturn, 1)), (16, (.iload_n 2, 1)), (17, (.ifCond .ne 16, 3)), (20, (.aload_n 0, 1)), (21, (.getfield 44, 3)), (24, (.ifCond .eq 9, 3)), (27, (.aload_n 0, 1)), (28, (.iconst 3, 1)), (29, (.invokevirtual 89, 3)), (32, (.ireturn, 1)), (33, (.aload_n 1, 1)), (34, (.iload_n 2, 1)), (35, (.invokestatic 128, 3)), (38, (.ifCond .eq 9, 3)), (41, (.aload_n 0, 1)), (42, (.iconst 5, 1)), (43, (.invokevirtual 89, 3)), (46, (.ireturn, 1)), (47, (.iload_n 2, 1)), (48, (.ifCond .eq 17, 3)), (51, (.aload_n 0, 1)), (52, (.getfield 44, 3)), (55, (.ifCond .ne 10, 3)), (58, (.aload_n 0, 1)), (59, (.bipush 6, 2)), (61, (.invokevirtual 89, 3)), (64, (.ireturn, 1)), (65, (.aload_n 0, 1)), (66, (.iload_n 2, 1)), (67, (.invokevirtual 132, 3)), (70, (.ireturn, 1))] : List (Nat × (Instr × Nat))), decode cX5_takeLine q.1 = .ok q.2 := by decide +kernel
theorem dX5_takeLine_0 : decode cX5_takeLine 0 = .ok (.aload_n 0, 1) := dAX5_takeLine (0, (.aload_n 0, 1)) (List.mem_of_getElem? (i := 0) rfl)
theorem dX5_takeLine_1 : decode cX5_takeLine 1 = .ok (.invokevirtual 124, 3) := dAX5_takeLine (1, (.invokevirtual 124, 3)) (List.mem_of_getElem? (i := 1) rfl)
theorem dX5_takeLine_4 : decode cX5_takeLine 4 = .ok (.istore_n 2, 1) := dAX5_takeLine (4, (.istore_n 2, 1)) (List.mem_of_getElem? (i := 2) rfl)
theorem dX5_takeLine_5 : decode cX5_takeLine 5 = .ok (.iload_n 2, 1) := dAX5_takeLine (5, (.iload_n 2, 1)) (List.mem_of_getElem? (i := 3) rfl)
theorem dX5_takeLine_6 : decode cX5_takeLine 6 = .ok (.iconst (-1), 1) := dAX5_takeLine (6, (.iconst (-1), 1)) (List.mem_of_getElem? (i := 4) rfl)
theorem dX5_takeLine_7 : decode cX5_takeLine 7 = .ok (.if_icmp .ne 9, 3) := dAX5_takeLine (7, (.if_icmp .ne 9, 3)) (List.mem_of_getElem? (i := 5) rfl)
theorem dX5_takeLine_10 : decode cX5_takeLine 10 = .ok (.aload_n 0, 1) := dAX5_takeLine (10, (.aload_n 0, 1)) (List.mem_of_getElem? (i := 6) rfl)
theorem dX5_takeLine_11 : decode cX5_takeLine 11 = .ok (.iconst 1, 1) := dAX5_takeLine (11, (.iconst 1, 1)) (List.mem_of_getElem? (i := 7) rfl)
theorem dX5_takeLine_12 : decode cX5_takeLine 12 = .ok (.invokevirtual 89, 3) := dAX5_takeLine (12, (.invokevirtual 89, 3)) (List.mem_of_getElem? (i := 8) rfl)
theorem dX5_takeLine_15 : decode cX5_takeLine 15 = .ok (.ireturn, 1) := dAX5_takeLine (15, (.ireturn, 1)) (List.mem_of_getElem? (i := 9) rfl)
theorem dX5_takeLine_16 : decode cX5_takeLine 16 = .ok (.iload_n 2, 1) := dAX5_takeLine (16, (.iload_n 2, 1)) (List.mem_of_getElem? (i := 10) rfl)
theorem dX5_takeLine_17 : decode cX5_takeLine 17 = .ok (.ifCond .ne 16, 3) := dAX5_takeLine (17, (.ifCond .ne 16, 3)) (List.mem_of_getElem? (i := 11) rfl)
theorem dX5_takeLine_20 : decode cX5_takeLine 20 = .ok (.aload_n 0, 1) := dAX5_takeLine (20, (.aload_n 0, 1)) (List.mem_of_getElem? (i := 12) rfl)
theorem dX5_takeLine_21 : decode cX5_takeLine 21 = .ok (.getfield 44, 3) := dAX5_takeLine (21, (.getfield 44, 3)) (List.mem_of_getElem? (i := 13) rfl)
theorem dX5_takeLine_24 : decode cX5_takeLine 24 = .ok (.ifCond .eq 9, 3) := dAX5_takeLine (24, (.ifCond .eq 9, 3)) (List.mem_of_getElem? (i := 14) rfl)
theorem dX5_takeLine_27 : decode cX5_takeLine 27 = .ok (.aload_n 0, 1) := dAX5_takeLine (27, (.aload_n 0, 1)) (List.mem_of_getElem? (i := 15) rfl)
theorem dX5_takeLine_28 : decode cX5_takeLine 28 = .ok (.iconst 3, 1) := dAX5_takeLine (28, (.iconst 3, 1)) (List.mem_of_getElem? (i := 16) rfl)
theorem dX5_takeLine_29 : decode cX5_takeLine 29 = .ok (.invokevirtual 89, 3) := dAX5_takeLine (29, (.invokevirtual 89, 3)) (List.mem_of_getElem? (i := 17) rfl)
theorem dX5_takeLine_32 : decode cX5_takeLine 32 = .ok (.ireturn, 1) := dAX5_takeLine (32, (.ireturn, 1)) (List.mem_of_getElem? (i := 18) rfl)
theorem dX5_takeLine_33 : decode cX5_takeLine 33 = .ok (.aload_n 1, 1) := dAX5_takeLine (33, (.aload_n 1, 1)) (List.mem_of_getElem? (i := 19) rfl)
theorem dX5_takeLine_34 : decode cX5_takeLine 34 = .ok (.iload_n 2, 1) := dAX5_takeLine (34, (.iload_n 2, 1)) (List.mem_of_getElem? (i := 20) rfl)
theorem dX5_takeLine_35 : decode cX5_takeLine 35 = .ok (.invokestatic 128, 3) := dAX5_takeLine (35, (.invokestatic 128, 3)) (List.mem_of_getElem? (i := 21) rfl)
theorem dX5_takeLine_38 : decode cX5_takeLine 38 = .ok (.ifCond .eq 9, 3) := dAX5_takeLine (38, (.ifCond .eq 9, 3)) (List.mem_of_getElem? (i := 22) rfl)
theorem dX5_takeLine_41 : decode cX5_takeLine 41 = .ok (.aload_n 0, 1) := dAX5_takeLine (41, (.aload_n 0, 1)) (List.mem_of_getElem? (i := 23) rfl)
theorem dX5_takeLine_42 : decode cX5_takeLine 42 = .ok (.iconst 5, 1) := dAX5_takeLine (42, (.iconst 5, 1)) (List.mem_of_getElem? (i := 24) rfl)
theorem dX5_takeLine_43 : decode cX5_takeLine 43 = .ok (.invokevirtual 89, 3) := dAX5_takeLine (43, (.invokevirtual 89, 3)) (List.mem_of_getElem? (i := 25) rfl)
theorem dX5_takeLine_46 : decode cX5_takeLine 46 = .ok (.ireturn, 1) := dAX5_takeLine (46, (.ireturn, 1)) (List.mem_of_getElem? (i := 26) rfl)
theorem dX5_takeLine_47 : decode cX5_takeLine 47 = .ok (.iload_n 2, 1) := dAX5_takeLine (47, (.iload_n 2, 1)) (List.mem_of_getElem? (i := 27) rfl)
theorem dX5_takeLine_48 : decode cX5_takeLine 48 = .ok (.ifCond .eq 17, 3) := dAX5_takeLine (48, (.ifCond .eq 17, 3)) (List.mem_of_getElem? (i := 28) rfl)
theorem dX5_takeLine_51 : decode cX5_takeLine 51 = .ok (.aload_n 0, 1) := dAX5_takeLine (51, (.aload_n 0, 1)) (List.mem_of_getElem? (i := 29) rfl)
theorem dX5_takeLine_52 : decode cX5_takeLine 52 = .ok (.getfield 44, 3) := dAX5_takeLine (52, (.getfield 44, 3)) (List.mem_of_getElem? (i := 30) rfl)
theorem dX5_takeLine_55 : decode cX5_takeLine 55 = .ok (.ifCond .ne 10, 3) := dAX5_takeLine (55, (.ifCond .ne 10, 3)) (List.mem_of_getElem? (i := 31) rfl)
theorem dX5_takeLine_58 : decode cX5_takeLine 58 = .ok (.aload_n 0, 1) := dAX5_takeLine (58, (.aload_n 0, 1)) (List.mem_of_getElem? (i := 32) rfl)
theorem dX5_takeLine_59 : decode cX5_takeLine 59 = .ok (.bipush 6, 2) := dAX5_takeLine (59, (.bipush 6, 2)) (List.mem_of_getElem? (i := 33) rfl)
theorem dX5_takeLine_61 : decode cX5_takeLine 61 = .ok (.invokevirtual 89, 3) := dAX5_takeLine (61, (.invokevirtual 89, 3)) (List.mem_of_getElem? (i := 34) rfl)
theorem dX5_takeLine_64 : decode cX5_takeLine 64 = .ok (.ireturn, 1) := dAX5_takeLine (64, (.ireturn, 1)) (List.mem_of_getElem? (i := 35) rfl)
theorem dX5_takeLine_65 : decode cX5_takeLine 65 = .ok (.aload_n 0, 1) := dAX5_takeLine (65, (.aload_n 0, 1)) (List.mem_of_getElem? (i := 36) rfl)
theorem dX5_takeLine_66 : decode cX5_takeLine 66 = .ok (.iload_n 2, 1) := dAX5_takeLine (66, (.iload_n 2, 1)) (List.mem_of_getElem? (i := 37) rfl)
theorem dX5_takeLine_67 : decode cX5_takeLine 67 = .ok (.invokevirtual 132, 3) := dAX5_takeLine (67, (.invokevirtual 132, 3)) (List.mem_of_getElem? (i := 38) rfl)
theorem dX5_takeLine_70 : decode cX5_takeLine 70 = .ok (.ireturn, 1) := dAX5_takeLine (70, (.ireturn, 1)) (List.mem_of_getElem? (i := 39) rfl)
set_option maxRecDepth 20000 in
theorem ggX5_takeLine_X5_lineOfWord : GoodIn wsX5_takeLine wsX5_lineOfWord := goodIn_r _ [6, 7, 8, 9, 10, 11, 12, 13, 14, 15, 16, 57, 58, 59, 60, 61, 62, 63, 64, 65, 66, 67, 68, 69, 70, 71] rfl (by decide +kernel)
set_option maxRecDepth 20000 in
theorem gX5_takeLine_X5_lineOfWord : GoodIn wsX5_takeLine (wsV RX5 124 RX5 yX5_lineOfWord wsX5_lineOfWord) := goodIn_app (goodIn_of _ (by decide +kernel)) ggX5_takeLine_X5_lineOfWord
set_option maxRecDepth 20000 in
theorem ggX5_takeLine_X5_fail : GoodIn wsX5_takeLine wsX5_fail := goodIn_r _ [20, 21, 22, 23, 24, 25, 26, 5, 27, 57, 58, 59, 60, 61, 62, 63, 64, 65, 66, 67, 68, 69, 70, 71] rfl (by decide +kernel)
set_option maxRecDepth 20000 in
theorem gX5_takeLine_X5_fail : GoodIn wsX5_takeLine (wsV RX5 89 RX5 yX5_fail wsX5_fail) := goodIn_app (goodIn_of _ (by decide +kernel)) ggX5_takeLine_X5_fail
set_option maxRecDepth 20000 in
theorem ggX5_takeLine_X5_isFull : GoodIn wsX5_takeLine wsX5_isFull := goodIn_r _ [30, 31, 32, 33, 34, 35, 36, 72, 73, 74, 75, 76, 77, 78, 79, 80, 81, 82, 83, 84, 85, 86, 87, 88, 89, 90, 91, 92, 93, 94, 95] rfl (by decide +kernel)
set_option maxRecDepth 20000 in
theorem gX5_takeLine_X5_isFull : GoodIn wsX5_takeLine (va_wsS RX5 128 yX5_isFull wsX5_isFull) := goodIn_app (goodIn_of _ (by decide +kernel)) ggX5_takeLine_X5_isFull
set_option maxRecDepth 20000 in
theorem ggX5_takeLine_X5_taken : GoodIn wsX5_takeLine wsX5_taken := goodIn_r _ [40, 24, 25, 26, 5, 27, 21, 41, 42, 43, 44, 45, 22, 46, 47, 7, 48, 49, 50, 51, 8, 52, 53, 54, 55, 56, 57, 58, 59, 60, 61, 62, 63, 64, 65, 66, 67, 68, 69, 70, 71] rfl (by decide +kernel)
set_option maxRecDepth 20000 in
theorem gX5_takeLine_X5_taken : GoodIn wsX5_takeLine (wsV RX5 132 RX5 yX5_taken wsX5_taken) := goodIn_app (goodIn_of _ (by decide +kernel)) ggX5_takeLine_X5_taken
theorem kX5_takeLine_44 : Cond.fieldLink RX5 44 "EveningVow$Reader" "opened" "Z" ∈ wsX5_takeLine := List.mem_of_getElem? (i := 1) rfl
theorem iX5_takeLine_X5 : ∀ w ∈ u_ws RX5 TX5 15, w ∈ wsX5_takeLine := fun w h => (List.mem_cons_of_mem _ (List.mem_append_left _ (List.mem_append_left _ (List.mem_append_right _ h))))
set_option maxHeartbeats 4000000 in
set_option maxRecDepth 100000 in
theorem mX5_takeLine (l : Launch) (g : GG) (a_t : Nat) (a_r1 : Nat) (p_t : Nat → Nat) (p_r1 : Nat → Nat) (p_r1_16 : Nat → Nat) (n : Nat) (o_t : Nat → Int32) (c_t : Int64) (f_t_0 : Nat → Int32) (o_r1 : Nat → Int32) (o_r1_16 : Nat → Int32) (r : Int32) (o_t' : Nat → Int32) (c_t' : Int64) (hF : fX5_takeLine n o_t c_t f_t_0 o_r1 o_r1_16 = some (r, o_t', c_t')) : MI l g yX5_takeLine wsX5_takeLine ({ frames := 3, cells := 0, slots := 0, locals := 61 } : Room) [.ref a_t, .ref a_r1] [oX5 a_t p_t o_t c_t, aI g (p_t 0) 800 f_t_0, oX1 a_r1 p_r1 o_r1, oX7 (p_r1 16) p_r1_16 o_r1_16] r [oX5 a_t p_t o_t' c_t', aI g (p_t 0) 800 f_t_0, oX1 a_r1 p_r1 o_r1, oX7 (p_r1 16) p_r1_16 o_r1_16] := by
  refine MI.of (cc := cX5_takeLine) (maxL := 3) (rt := .int) (own := RX5) rfl rfl (by decide) (Nat.le_of_ble_eq_true rfl) ?_
  intro p e s m args below meth c A C0 hP hD hS ls hl
  obtain ⟨hx, hb, hml, hown, hts, hr, hlk, hK, hA, hSW⟩ := id C0
  have hl : lv_has ls 3 [(0, .ref a_t), (1, .ref a_r1)] := hl
  rw [fX5_takeLine] at hF
  refine lv_aload_n hx hb dX5_takeLine_0 rfl (lv_at hl 0 rfl) ?_
  obtain ⟨u_1, hu_2, hF⟩ := ob1_some hF
  refine call_i (wr := [aI g (p_t 0) 800 f_t_0, oX1 a_r1 p_r1 o_r1, oX7 (p_r1 16) p_r1_16 o_r1_16]) (As := []) (rest := []) (ci := 5) (q0 := 0) C0 (mX5_lineOfWord l g a_t p_t n o_t c_t u_1 hu_2) (cwV 0 hts gX5_takeLine_X5_lineOfWord rfl rfl rfl (by decide +kernel) ⟨Nat.le_of_ble_eq_true rfl, Nat.le_of_ble_eq_true rfl⟩) hP hD hS [0] [1, 2, 3] rfl rfl rfl rfl rfl (by decide) rfl rfl hl.1 rfl rfl (Nat.le_of_ble_eq_true rfl) ⟨Nat.zero_le _, Nat.zero_le _⟩ dX5_takeLine_1 ?_
  intro H locs hP hD hS
  refine lv_istore_n (lv' := [(2, .int u_1), (0, .ref a_t), (1, .ref a_r1)]) hx hb dX5_takeLine_4 rfl hl (by decide) rfl (fun ls hl => ?_)
  refine lv_iload_n hx hb dX5_takeLine_5 rfl (lv_at hl 0 rfl) ?_
  refine lv_iconst (v := (-1 : Int32)) hx hb dX5_takeLine_6 (by decide) ?_
  refine lv_icmp_ne (tgt := 16) hx hb dX5_takeLine_7 (by decide) (fun c_3 => ?_) (fun c_3 => ?_)
  · have hF := it_n c_3 hF
    refine lv_iload_n hx hb dX5_takeLine_16 rfl (lv_at hl 0 rfl) ?_
    obtain ⟨J33, eJ33, hF⟩ := jn_some hF
    have hJ33 : ∀  (H : Heap) (locs : List Loc) (ls : Array Slot), J33 () = some (r, o_t', c_t') → va_P g.1 vwCl [aI g (p_t 0) 800 f_t_0, oX1 a_r1 p_r1 o_r1, oX7 (p_r1 16) p_r1_16 o_r1_16, oX5 a_t p_t o_t c_t] H → va_D A [aI g (p_t 0) 800 f_t_0, oX1 a_r1 p_r1 o_r1, oX7 (p_r1 16) p_r1_16 o_r1_16, oX5 a_t p_t o_t c_t] → va_S A s.heap H locs → lv_has ls 3 [(0, .ref a_t), (1, .ref a_r1), (2, .int u_1)] → W p l e ({ frames := 3, cells := 0, slots := 0, locals := 61 } : Room) s m args below meth c H locs 0 0 (MQ below (EndI g r [oX5 a_t p_t o_t' c_t', aI g (p_t 0) 800 f_t_0, oX1 a_r1 p_r1 o_r1, oX7 (p_r1 16) p_r1_16 o_r1_16] A) args s 0 0 A) (F0 m 33 ls []) := by
      intro  H locs ls hF hP hD hS hl
      have hF := jj1 eJ33 hF
      refine lv_aload_n hx hb dX5_takeLine_33 rfl (lv_at hl 1 rfl) ?_
      refine lv_iload_n hx hb dX5_takeLine_34 rfl (lv_at hl 2 rfl) ?_
      obtain ⟨u_4, hu_5, hF⟩ := ob1_some hF
      refine call_si (wr := [aI g (p_t 0) 800 f_t_0, oX5 a_t p_t o_t c_t]) (As := [.ref a_r1, .int u_1]) (rest := []) C0 (mX5_isFull l g a_r1 p_r1 p_r1_16 n u_1 o_r1 o_r1_16 u_4 hu_5) (va_cwS 2 hts gX5_takeLine_X5_isFull rfl rfl rfl (by decide +kernel) ⟨Nat.le_of_ble_eq_true rfl, Nat.le_of_ble_eq_true rfl⟩) hP hD hS [1, 2] [0, 3] rfl rfl rfl rfl rfl (by decide) hl.1 rfl rfl (Nat.le_of_ble_eq_true rfl) ⟨Nat.zero_le _, Nat.zero_le _⟩ dX5_takeLine_35 ?_
      intro H locs hP hD hS
      refine lv_if_eq (tgt := 47) hx hb dX5_takeLine_38 (by decide) (fun c_6 => ?_) (fun c_6 => ?_)
      · have hF := it_p c_6 hF
        refine lv_iload_n hx hb dX5_takeLine_47 rfl (lv_at hl 2 rfl) ?_
        refine lv_if_eq (tgt := 65) hx hb dX5_takeLine_48 (by decide) (fun c_7 => ?_) (fun c_7 => ?_)
        · have hF := it_p c_7 hF
          refine lv_aload_n hx hb dX5_takeLine_65 rfl (lv_at hl 0 rfl) ?_
          refine lv_iload_n hx hb dX5_takeLine_66 rfl (lv_at hl 2 rfl) ?_
          obtain ⟨u_8, u_9, u_10, hu_11, hF⟩ := ob3_some hF
          refine call_i (wr := [oX1 a_r1 p_r1 o_r1, oX7 (p_r1 16) p_r1_16 o_r1_16]) (As := [.int u_1]) (rest := []) (ci := 5) (q0 := 0) C0 (mX5_taken l g a_t p_t n u_1 o_t c_t f_t_0 u_8 u_9 u_10 hu_11) (cwV 1 hts gX5_takeLine_X5_taken rfl rfl rfl (by decide +kernel) ⟨Nat.le_of_ble_eq_true rfl, Nat.le_of_ble_eq_true rfl⟩) hP hD hS [1, 0] [2, 3] rfl rfl rfl rfl rfl (by decide) rfl rfl hl.1 rfl rfl (Nat.le_of_ble_eq_true rfl) ⟨Nat.zero_le _, Nat.zero_le _⟩ dX5_takeLine_67 ?_
          intro H locs hP hD hS
          cases hF
          exact ret_i C0 hP hD hS [2, 3, 0, 1] rfl rfl rfl dX5_takeLine_70 rfl
        · have hF := it_n c_7 hF
          refine lv_aload_n hx hb dX5_takeLine_51 rfl (lv_at hl 0 rfl) ?_
          refine va_get (D := g.1) (ci := 5) (v := .int (o_t 10)) (C := RX5) (T := TX5) (N := 15) hx hb hts iX5_takeLine_X5 hown hK.1 hP 1 rfl rfl 10 (by decide) (hts _ kX5_takeLine_44) (fun _ h9 => h9) rfl dX5_takeLine_52 ?_
          refine lv_if_ne (tgt := 65) hx hb dX5_takeLine_55 (by decide) (fun c_12 => ?_) (fun c_12 => ?_)
          · have hF := it_n c_12 hF
            refine lv_aload_n hx hb dX5_takeLine_65 rfl (lv_at hl 0 rfl) ?_
            refine lv_iload_n hx hb dX5_takeLine_66 rfl (lv_at hl 2 rfl) ?_
            obtain ⟨u_13, u_14, u_15, hu_16, hF⟩ := ob3_some hF
            refine call_i (wr := [oX1 a_r1 p_r1 o_r1, oX7 (p_r1 16) p_r1_16 o_r1_16]) (As := [.int u_1]) (rest := []) (ci := 5) (q0 := 0) C0 (mX5_taken l g a_t p_t n u_1 o_t c_t f_t_0 u_13 u_14 u_15 hu_16) (cwV 1 hts gX5_takeLine_X5_taken rfl rfl rfl (by decide +kernel) ⟨Nat.le_of_ble_eq_true rfl, Nat.le_of_ble_eq_true rfl⟩) hP hD hS [1, 0] [2, 3] rfl rfl rfl rfl rfl (by decide) rfl rfl hl.1 rfl rfl (Nat.le_of_ble_eq_true rfl) ⟨Nat.zero_le _, Nat.zero_le _⟩ dX5_takeLine_67 ?_
            intro H locs hP hD hS
            cases hF
            exact ret_i C0 hP hD hS [2, 3, 0, 1] rfl rfl rfl dX5_takeLine_70 rfl
          · have hF := it_p c_12 hF
            refine lv_aload_n hx hb dX5_takeLine_58 rfl (lv_at hl 0 rfl) ?_
            refine lv_bipush (v := (6 : Int32)) hx hb dX5_takeLine_59 (by decide) ?_
            obtain ⟨u_17, u_18, u_19, hu_20, hF⟩ := ob3_some hF
            refine call_i (wr := [aI g (p_t 0) 800 f_t_0, oX1 a_r1 p_r1 o_r1, oX7 (p_r1 16) p_r1_16 o_r1_16]) (As := [.int (6 : Int32)]) (rest := []) (ci := 5) (q0 := 0) C0 (mX5_fail l g a_t p_t n (6 : Int32) o_t c_t u_17 u_18 u_19 hu_20) (cwV 1 hts gX5_takeLine_X5_fail rfl rfl rfl (by decide +kernel) ⟨Nat.le_of_ble_eq_true rfl, Nat.le_of_ble_eq_true rfl⟩) hP hD hS [1] [0, 2, 3] rfl rfl rfl rfl rfl (by decide) rfl rfl hl.1 rfl rfl (Nat.le_of_ble_eq_true rfl) ⟨Nat.zero_le _, Nat.zero_le _⟩ dX5_takeLine_61 ?_
            intro H locs hP hD hS
            cases hF
            exact ret_i C0 hP hD hS [3, 0, 1, 2] rfl rfl rfl dX5_takeLine_64 rfl
      · have hF := it_n c_6 hF
        refine lv_aload_n hx hb dX5_takeLine_41 rfl (lv_at hl 0 rfl) ?_
        refine lv_iconst (v := (5 : Int32)) hx hb dX5_takeLine_42 (by decide) ?_
        obtain ⟨u_21, u_22, u_23, hu_24, hF⟩ := ob3_some hF
        refine call_i (wr := [aI g (p_t 0) 800 f_t_0, oX1 a_r1 p_r1 o_r1, oX7 (p_r1 16) p_r1_16 o_r1_16]) (As := [.int (5 : Int32)]) (rest := []) (ci := 5) (q0 := 0) C0 (mX5_fail l g a_t p_t n (5 : Int32) o_t c_t u_21 u_22 u_23 hu_24) (cwV 1 hts gX5_takeLine_X5_fail rfl rfl rfl (by decide +kernel) ⟨Nat.le_of_ble_eq_true rfl, Nat.le_of_ble_eq_true rfl⟩) hP hD hS [1] [0, 2, 3] rfl rfl rfl rfl rfl (by decide) rfl rfl hl.1 rfl rfl (Nat.le_of_ble_eq_true rfl) ⟨Nat.zero_le _, Nat.zero_le _⟩ dX5_takeLine_43 ?_
        intro H locs hP hD hS
        cases hF
        exact ret_i C0 hP hD hS [3, 0, 1, 2] rfl rfl rfl dX5_takeLine_46 rfl
    refine lv_if_ne (tgt := 33) hx hb dX5_takeLine_17 (by decide) (fun c_25 => ?_) (fun c_25 => ?_)
    · have hF := it_n c_25 hF
      exact hJ33  _ _ _ hF (hP.sub [0, 1, 2, 3] rfl) (hD.sub [0, 1, 2, 3] rfl rfl) hS (lv_sub hl [1, 2, 0] rfl)
    · have hF := it_p c_25 hF
      refine lv_aload_n hx hb dX5_takeLine_20 rfl (lv_at hl 1 rfl) ?_
      refine va_get (D := g.1) (ci := 5) (v := .int (o_t 10)) (C := RX5) (T := TX5) (N := 15) hx hb hts iX5_takeLine_X5 hown hK.1 hP 3 rfl rfl 10 (by decide) (hts _ kX5_takeLine_44) (fun _ h9 => h9) rfl dX5_takeLine_21 ?_
      refine lv_if_eq (tgt := 33) hx hb dX5_takeLine_24 (by decide) (fun c_26 => ?_) (fun c_26 => ?_)
      · have hF := it_p c_26 hF
        exact hJ33  _ _ _ hF (hP.sub [0, 1, 2, 3] rfl) (hD.sub [0, 1, 2, 3] rfl rfl) hS (lv_sub hl [1, 2, 0] rfl)
      · have hF := it_n c_26 hF
        refine lv_aload_n hx hb dX5_takeLine_27 rfl (lv_at hl 1 rfl) ?_
        refine lv_iconst (v := (3 : Int32)) hx hb dX5_takeLine_28 (by decide) ?_
        obtain ⟨u_27, u_28, u_29, hu_30, hF⟩ := ob3_some hF
        refine call_i (wr := [aI g (p_t 0) 800 f_t_0, oX1 a_r1 p_r1 o_r1, oX7 (p_r1 16) p_r1_16 o_r1_16]) (As := [.int (3 : Int32)]) (rest := []) (ci := 5) (q0 := 0) C0 (mX5_fail l g a_t p_t n (3 : Int32) o_t c_t u_27 u_28 u_29 hu_30) (cwV 1 hts gX5_takeLine_X5_fail rfl rfl rfl (by decide +kernel) ⟨Nat.le_of_ble_eq_true rfl, Nat.le_of_ble_eq_true rfl⟩) hP hD hS [3] [0, 1, 2] rfl rfl rfl rfl rfl (by decide) rfl rfl hl.1 rfl rfl (Nat.le_of_ble_eq_true rfl) ⟨Nat.zero_le _, Nat.zero_le _⟩ dX5_takeLine_29 ?_
        intro H locs hP hD hS
        cases hF
        exact ret_i C0 hP hD hS [3, 0, 1, 2] rfl rfl rfl dX5_takeLine_32 rfl
  · have hF := it_p c_3 hF
    refine lv_aload_n hx hb dX5_takeLine_10 rfl (lv_at hl 1 rfl) ?_
    refine lv_iconst (v := (1 : Int32)) hx hb dX5_takeLine_11 (by decide) ?_
    obtain ⟨u_31, u_32, u_33, hu_34, hF⟩ := ob3_some hF
    refine call_i (wr := [aI g (p_t 0) 800 f_t_0, oX1 a_r1 p_r1 o_r1, oX7 (p_r1 16) p_r1_16 o_r1_16]) (As := [.int (1 : Int32)]) (rest := []) (ci := 5) (q0 := 0) C0 (mX5_fail l g a_t p_t n (1 : Int32) o_t c_t u_31 u_32 u_33 hu_34) (cwV 1 hts gX5_takeLine_X5_fail rfl rfl rfl (by decide +kernel) ⟨Nat.le_of_ble_eq_true rfl, Nat.le_of_ble_eq_true rfl⟩) hP hD hS [3] [0, 1, 2] rfl rfl rfl rfl rfl (by decide) rfl rfl hl.1 rfl rfl (Nat.le_of_ble_eq_true rfl) ⟨Nat.zero_le _, Nat.zero_le _⟩ dX5_takeLine_12 ?_
    intro H locs hP hD hS
    cases hF
    exact ret_i C0 hP hD hS [3, 0, 1, 2] rfl rfl rfl dX5_takeLine_15 rfl

theorem dAX5_takeAmount : ∀ q ∈ ([(0, (.aload_n 0, 1)), (1, (.getfield 28, 3)), (4, (.iconst 1, 1)), (5, (.if_icmp .ne 12, 3)), (8, (.aload_n 0, 1)), (9, (.getfield 40, 3)), (12, (.lload_n 1, 1)), (13, (.lcmp, 1)), (14, (.ifCond .eq 9, 3)), (17, (.aload_n 0, 1)), (18, (.iconst 1, 1)), (19, (.invokevirtual 89, 3)), (22, (.pop, 1)), (23, (.aload_n 0, 1)), (24, (.iconst 0, 1)), (25, (.invokevirtual 132, 3)), (28, (.pop, 1)), (29, (.aload_n 0, 1)), (30, (.getfield 28, 3)), (33, (.iconst 2, 1)), (34, (.if_icmp .eq 9, 3)), (37, (.aload_n 0, 1)), (38, (.iconst 1, 1)), (39, (.invokevirtual 89, 3)), (42, (.pop, 1)), (43, (.aload_n 0, 1)), (44, (.getfield 37, 3)), (47, (.iload_n 3, 1)), (48, (.if_icmp .lt 12, 3)), (51, (.aload_n 0, 1)), (52, (.getfield 37, 3)), (55, (.iload 4, 2)), (57, (.if_icmp .le 9, 3)), (60, (.aload_n 0, 1)), (61, (.iconst 4, 1)), (62, (.invokevirtual 89, 3)), (65, (.pop, 1)), (66, (.aload_n 0, 1)), (67, (.aload_n 0, 1)), (68, (.getfield 37, 3)), (71, (.invokevirtual 132, 3)), (74, (.ireturn, 1))] : List (Nat × (Instr × Nat))), decode cX5_takeAmount q.1 = .ok q.2 := by decide +kernel
theorem dX5_takeAmount_0 : decode cX5_takeAmount 0 = .ok (.aload_n 0, 1) := dAX5_takeAmount (0, (.aload_n 0, 1)) (List.mem_of_getElem? (i := 0) rfl)
theorem dX5_takeAmount_1 : decode cX5_takeAmount 1 = .ok (.getfield 28, 3) := dAX5_takeAmount (1, (.getfield 28, 3)) (List.mem_of_getElem? (i := 1) rfl)
theorem dX5_takeAmount_4 : decode cX5_takeAmount 4 = .ok (.iconst 1, 1) := dAX5_takeAmount (4, (.iconst 1, 1)) (List.mem_of_getElem? (i := 2) rfl)
theorem dX5_takeAmount_5 : decode cX5_takeAmount 5 = .ok (.if_icmp .ne 12, 3) := dAX5_takeAmount (5, (.if_icmp .ne 12, 3)) (List.mem_of_getElem? (i := 3) rfl)
theorem dX5_takeAmount_8 : decode cX5_takeAmount 8 = .ok (.aload_n 0, 1) := dAX5_takeAmount (8, (.aload_n 0, 1)) (List.mem_of_getElem? (i := 4) rfl)
theorem dX5_takeAmount_9 : decode cX5_takeAmount 9 = .ok (.getfield 40, 3) := dAX5_takeAmount (9, (.getfield 40, 3)) (List.mem_of_getElem? (i := 5) rfl)
theorem dX5_takeAmount_12 : decode cX5_takeAmount 12 = .ok (.lload_n 1, 1) := dAX5_takeAmount (12, (.lload_n 1, 1)) (List.mem_of_getElem? (i := 6) rfl)
theorem dX5_takeAmount_13 : decode cX5_takeAmount 13 = .ok (.lcmp, 1) := dAX5_takeAmount (13, (.lcmp, 1)) (List.mem_of_getElem? (i := 7) rfl)
theorem dX5_takeAmount_14 : decode cX5_takeAmount 14 = .ok (.ifCond .eq 9, 3) := dAX5_takeAmount (14, (.ifCond .eq 9, 3)) (List.mem_of_getElem? (i := 8) rfl)
theorem dX5_takeAmount_17 : decode cX5_takeAmount 17 = .ok (.aload_n 0, 1) := dAX5_takeAmount (17, (.aload_n 0, 1)) (List.mem_of_getElem? (i := 9) rfl)
theorem dX5_takeAmount_18 : decode cX5_takeAmount 18 = .ok (.iconst 1, 1) := dAX5_takeAmount (18, (.iconst 1, 1)) (List.mem_of_getElem? (i := 10) rfl)
theorem dX5_takeAmount_19 : decode cX5_takeAmount 19 = .ok (.invokevirtual 89, 3) := dAX5_takeAmount (19, (.invokevirtual 89, 3)) (List.mem_of_getElem? (i := 11) rfl)
theorem dX5_takeAmount_22 : decode cX5_takeAmount 22 = .ok (.pop, 1) := dAX5_takeAmount (22, (.pop, 1)) (List.mem_of_getElem? (i := 12) rfl)
theorem dX5_takeAmount_23 : decode cX5_takeAmount 23 = .ok (.aload_n 0, 1) := dAX5_takeAmount (23, (.aload_n 0, 1)) (List.mem_of_getElem? (i := 13) rfl)
theorem dX5_takeAmount_24 : decode cX5_takeAmount 24 = .ok (.iconst 0, 1) := dAX5_takeAmount (24, (.iconst 0, 1)) (List.mem_of_getElem? (i := 14) rfl)
theorem dX5_takeAmount_25 : decode cX5_takeAmount 25 = .ok (.invokevirtual 132, 3) := dAX5_takeAmount (25, (.invokevirtual 132, 3)) (List.mem_of_getElem? (i := 15) rfl)
theorem dX5_takeAmount_28 : decode cX5_takeAmount 28 = .ok (.pop, 1) := dAX5_takeAmount (28, (.pop, 1)) (List.mem_of_getElem? (i := 16) rfl)
theorem dX5_takeAmount_29 : decode cX5_takeAmount 29 = .ok (.aload_n 0, 1) := dAX5_takeAmount (29, (.aload_n 0, 1)) (List.mem_of_getElem? (i := 17) rfl)
theorem dX5_takeAmount_30 : decode cX5_takeAmount 30 = .ok (.getfield 28, 3) := dAX5_takeAmount (30, (.getfield 28, 3)) (List.mem_of_getElem? (i := 18) rfl)
theorem dX5_takeAmount_33 : decode cX5_takeAmount 33 = .ok (.iconst 2, 1) := dAX5_takeAmount (33, (.iconst 2, 1)) (List.mem_of_getElem? (i := 19) rfl)
theorem dX5_takeAmount_34 : decode cX5_takeAmount 34 = .ok (.if_icmp .eq 9, 3) := dAX5_takeAmount (34, (.if_icmp .eq 9, 3)) (List.mem_of_getElem? (i := 20) rfl)
theorem dX5_takeAmount_37 : decode cX5_takeAmount 37 = .ok (.aload_n 0, 1) := dAX5_takeAmount (37, (.aload_n 0, 1)) (List.mem_of_getElem? (i := 21) rfl)
theorem dX5_takeAmount_38 : decode cX5_takeAmount 38 = .ok (.iconst 1, 1) := dAX5_takeAmount (38, (.iconst 1, 1)) (List.mem_of_getElem? (i := 22) rfl)
theorem dX5_takeAmount_39 : decode cX5_takeAmount 39 = .ok (.invokevirtual 89, 3) := dAX5_takeAmount (39, (.invokevirtual 89, 3)) (List.mem_of_getElem? (i := 23) rfl)
theorem dX5_takeAmount_42 : decode cX5_takeAmount 42 = .ok (.pop, 1) := dAX5_takeAmount (42, (.pop, 1)) (List.mem_of_getElem? (i := 24) rfl)
theorem dX5_takeAmount_43 : decode cX5_takeAmount 43 = .ok (.aload_n 0, 1) := dAX5_takeAmount (43, (.aload_n 0, 1)) (List.mem_of_getElem? (i := 25) rfl)
theorem dX5_takeAmount_44 : decode cX5_takeAmount 44 = .ok (.getfield 37, 3) := dAX5_takeAmount (44, (.getfield 37, 3)) (List.mem_of_getElem? (i := 26) rfl)
theorem dX5_takeAmount_47 : decode cX5_takeAmount 47 = .ok (.iload_n 3, 1) := dAX5_takeAmount (47, (.iload_n 3, 1)) (List.mem_of_getElem? (i := 27) rfl)
theorem dX5_takeAmount_48 : decode cX5_takeAmount 48 = .ok (.if_icmp .lt 12, 3) := dAX5_takeAmount (48, (.if_icmp .lt 12, 3)) (List.mem_of_getElem? (i := 28) rfl)
theorem dX5_takeAmount_51 : decode cX5_takeAmount 51 = .ok (.aload_n 0, 1) := dAX5_takeAmount (51, (.aload_n 0, 1)) (List.mem_of_getElem? (i := 29) rfl)
theorem dX5_takeAmount_52 : decode cX5_takeAmount 52 = .ok (.getfield 37, 3) := dAX5_takeAmount (52, (.getfield 37, 3)) (List.mem_of_getElem? (i := 30) rfl)
theorem dX5_takeAmount_55 : decode cX5_takeAmount 55 = .ok (.iload 4, 2) := dAX5_takeAmount (55, (.iload 4, 2)) (List.mem_of_getElem? (i := 31) rfl)
theorem dX5_takeAmount_57 : decode cX5_takeAmount 57 = .ok (.if_icmp .le 9, 3) := dAX5_takeAmount (57, (.if_icmp .le 9, 3)) (List.mem_of_getElem? (i := 32) rfl)
theorem dX5_takeAmount_60 : decode cX5_takeAmount 60 = .ok (.aload_n 0, 1) := dAX5_takeAmount (60, (.aload_n 0, 1)) (List.mem_of_getElem? (i := 33) rfl)
theorem dX5_takeAmount_61 : decode cX5_takeAmount 61 = .ok (.iconst 4, 1) := dAX5_takeAmount (61, (.iconst 4, 1)) (List.mem_of_getElem? (i := 34) rfl)
theorem dX5_takeAmount_62 : decode cX5_takeAmount 62 = .ok (.invokevirtual 89, 3) := dAX5_takeAmount (62, (.invokevirtual 89, 3)) (List.mem_of_getElem? (i := 35) rfl)
theorem dX5_takeAmount_65 : decode cX5_takeAmount 65 = .ok (.pop, 1) := dAX5_takeAmount (65, (.pop, 1)) (List.mem_of_getElem? (i := 36) rfl)
theorem dX5_takeAmount_66 : decode cX5_takeAmount 66 = .ok (.aload_n 0, 1) := dAX5_takeAmount (66, (.aload_n 0, 1)) (List.mem_of_getElem? (i := 37) rfl)
theorem dX5_takeAmount_67 : decode cX5_takeAmount 67 = .ok (.aload_n 0, 1) := dAX5_takeAmount (67, (.aload_n 0, 1)) (List.mem_of_getElem? (i := 38) rfl)
theorem dX5_takeAmount_68 : decode cX5_takeAmount 68 = .ok (.getfield 37, 3) := dAX5_takeAmount (68, (.getfield 37, 3)) (List.mem_of_getElem? (i := 39) rfl)
theorem dX5_takeAmount_71 : decode cX5_takeAmount 71 = .ok (.invokevirtual 132, 3) := dAX5_takeAmount (71, (.invokevirtual 132, 3)) (List.mem_of_getElem? (i := 40) rfl)
theorem dX5_takeAmount_74 : decode cX5_takeAmount 74 = .ok (.ireturn, 1) := dAX5_takeAmount (74, (.ireturn, 1)) (List.mem_of_getElem? (i := 41) rfl)
set_option maxRecDepth 20000 in
theorem ggX5_takeAmount_X5_fail : GoodIn wsX5_takeAmount wsX5_fail := goodIn_r _ [8, 9, 10, 11, 12, 13, 14, 7, 15, 35, 36, 37, 38, 39, 40, 41, 42, 43, 44, 45, 46, 47, 48, 49] rfl (by decide +kernel)
set_option maxRecDepth 20000 in
theorem gX5_takeAmount_X5_fail : GoodIn wsX5_takeAmount (wsV RX5 89 RX5 yX5_fail wsX5_fail) := goodIn_app (goodIn_of _ (by decide +kernel)) ggX5_takeAmount_X5_fail
set_option maxRecDepth 20000 in
theorem ggX5_takeAmount_X5_taken : GoodIn wsX5_takeAmount wsX5_taken := goodIn_r _ [19, 12, 13, 14, 7, 15, 9, 20, 21, 22, 23, 24, 10, 25, 26, 1, 27, 28, 29, 30, 2, 31, 32, 33, 34, 3, 35, 36, 37, 38, 39, 40, 41, 42, 43, 44, 45, 46, 47, 48, 49] rfl (by decide +kernel)
set_option maxRecDepth 20000 in
theorem gX5_takeAmount_X5_taken : GoodIn wsX5_takeAmount (wsV RX5 132 RX5 yX5_taken wsX5_taken) := goodIn_app (goodIn_of _ (by decide +kernel)) ggX5_takeAmount_X5_taken
theorem kX5_takeAmount_28 : Cond.fieldLink RX5 28 "EveningVow$Reader" "sort" "I" ∈ wsX5_takeAmount := List.mem_of_getElem? (i := 1) rfl
theorem iX5_takeAmount_X5 : ∀ w ∈ u_ws RX5 TX5 15, w ∈ wsX5_takeAmount := fun w h => (List.mem_cons_of_mem _ (List.mem_append_right _ h))
theorem kX5_takeAmount_37 : Cond.fieldLink RX5 37 "EveningVow$Reader" "number" "I" ∈ wsX5_takeAmount := List.mem_of_getElem? (i := 3) rfl
theorem kX5_takeAmount_40 : Cond.fieldLink RX5 40 "EveningVow$Reader" "code" "J" ∈ wsX5_takeAmount := List.mem_of_getElem? (i := 2) rfl
set_option maxHeartbeats 4000000 in
set_option maxRecDepth 100000 in
theorem mX5_takeAmount (l : Launch) (g : GG) (a_t : Nat) (p_t : Nat → Nat) (n : Nat) (x1 : Int64) (x3 : Int32) (x4 : Int32) (o_t : Nat → Int32) (c_t : Int64) (f_t_0 : Nat → Int32) (r : Int32) (o_t' : Nat → Int32) (c_t' : Int64) (hF : fX5_takeAmount n x1 x3 x4 o_t c_t f_t_0 = some (r, o_t', c_t')) : MI l g yX5_takeAmount wsX5_takeAmount ({ frames := 3, cells := 0, slots := 0, locals := 61 } : Room) [.ref a_t, .long x1, .int x3, .int x4] [oX5 a_t p_t o_t c_t, aI g (p_t 0) 800 f_t_0] r [oX5 a_t p_t o_t' c_t', aI g (p_t 0) 800 f_t_0] := by
  refine MI.of (cc := cX5_takeAmount) (maxL := 5) (rt := .int) (own := RX5) rfl rfl (by decide) (Nat.le_of_ble_eq_true rfl) ?_
  intro p e s m args below meth c A C0 hP hD hS ls hl
  obtain ⟨hx, hb, hml, hown, hts, hr, hlk, hK, hA, hSW⟩ := id C0
  have hl : lv_has ls 5 [(0, .ref a_t), (1, .long x1), (3, .int x3), (4, .int x4)] := hl
  rw [fX5_takeAmount] at hF
  refine lv_aload_n hx hb dX5_takeAmount_0 rfl (lv_at hl 0 rfl) ?_
  refine va_get (D := g.1) (ci := 5) (v := .int (o_t 5)) (C := RX5) (T := TX5) (N := 15) hx hb hts iX5_takeAmount_X5 hown hK.1 hP 0 rfl rfl 5 (by decide) (hts _ kX5_takeAmount_28) (fun _ h9 => h9) rfl dX5_takeAmount_1 ?_
  refine lv_iconst (v := (1 : Int32)) hx hb dX5_takeAmount_4 (by decide) ?_
  obtain ⟨J23, eJ23, hF⟩ := jn_some hF
  have hJ23 : ∀ (o_t_23 : Nat → Int32) (c_t_23 : Int64) (H : Heap) (locs : List Loc) (ls : Array Slot), J23 o_t_23 c_t_23 = some (r, o_t', c_t') → va_P g.1 vwCl [oX5 a_t p_t o_t_23 c_t_23, aI g (p_t 0) 800 f_t_0] H → va_D A [oX5 a_t p_t o_t_23 c_t_23, aI g (p_t 0) 800 f_t_0] → va_S A s.heap H locs → lv_has ls 5 [(0, .ref a_t), (3, .int x3), (4, .int x4)] → W p l e ({ frames := 3, cells := 0, slots := 0, locals := 61 } : Room) s m args below meth c H locs 0 0 (MQ below (EndI g r [oX5 a_t p_t o_t' c_t', aI g (p_t 0) 800 f_t_0] A) args s 0 0 A) (F0 m 23 ls []) := by
    intro o_t_23 c_t_23 H locs ls hF hP hD hS hl
    have hF := jj2 eJ23 hF
    refine lv_aload_n hx hb dX5_takeAmount_23 rfl (lv_at hl 0 rfl) ?_
    refine lv_iconst (v := (0 : Int32)) hx hb dX5_takeAmount_24 (by decide) ?_
    obtain ⟨u_1, u_2, u_3, hu_4, hF⟩ := ob3_some hF
    refine call_i (wr := []) (As := [.int (0 : Int32)]) (rest := []) (ci := 5) (q0 := 0) C0 (mX5_taken l g a_t p_t n (0 : Int32) o_t_23 c_t_23 f_t_0 u_1 u_2 u_3 hu_4) (cwV 1 hts gX5_takeAmount_X5_taken rfl rfl rfl (by decide +kernel) ⟨Nat.le_of_ble_eq_true rfl, Nat.le_of_ble_eq_true rfl⟩) hP hD hS [0, 1] [] rfl rfl rfl rfl rfl (by decide) rfl rfl hl.1 rfl rfl (Nat.le_of_ble_eq_true rfl) ⟨Nat.zero_le _, Nat.zero_le _⟩ dX5_takeAmount_25 ?_
    intro H locs hP hD hS
    refine lv_pop hx hb dX5_takeAmount_28 rfl ?_
    refine lv_aload_n hx hb dX5_takeAmount_29 rfl (lv_at hl 0 rfl) ?_
    refine va_get (D := g.1) (ci := 5) (v := .int (u_2 5)) (C := RX5) (T := TX5) (N := 15) hx hb hts iX5_takeAmount_X5 hown hK.1 hP 0 rfl rfl 5 (by decide) (hts _ kX5_takeAmount_28) (fun _ h9 => h9) rfl dX5_takeAmount_30 ?_
    refine lv_iconst (v := (2 : Int32)) hx hb dX5_takeAmount_33 (by decide) ?_
    refine lv_icmp_eq (tgt := 43) hx hb dX5_takeAmount_34 (by decide) (fun c_5 => ?_) (fun c_5 => ?_)
    · have hF := it_p c_5 hF
      refine lv_aload_n hx hb dX5_takeAmount_43 rfl (lv_at hl 0 rfl) ?_
      refine va_get (D := g.1) (ci := 5) (v := .int (u_2 8)) (C := RX5) (T := TX5) (N := 15) hx hb hts iX5_takeAmount_X5 hown hK.1 hP 0 rfl rfl 8 (by decide) (hts _ kX5_takeAmount_37) (fun _ h9 => h9) rfl dX5_takeAmount_44 ?_
      refine lv_iload_n hx hb dX5_takeAmount_47 rfl (lv_at hl 1 rfl) ?_
      refine lv_icmp_lt (tgt := 60) hx hb dX5_takeAmount_48 (by decide) (fun c_6 => ?_) (fun c_6 => ?_)
      · have hF := it_p c_6 hF
        refine lv_aload_n hx hb dX5_takeAmount_60 rfl (lv_at hl 0 rfl) ?_
        refine lv_iconst (v := (4 : Int32)) hx hb dX5_takeAmount_61 (by decide) ?_
        obtain ⟨u_7, u_8, u_9, hu_10, hF⟩ := ob3_some hF
        refine call_i (wr := [aI g (p_t 0) 800 f_t_0]) (As := [.int (4 : Int32)]) (rest := []) (ci := 5) (q0 := 0) C0 (mX5_fail l g a_t p_t n (4 : Int32) u_2 u_3 u_7 u_8 u_9 hu_10) (cwV 1 hts gX5_takeAmount_X5_fail rfl rfl rfl (by decide +kernel) ⟨Nat.le_of_ble_eq_true rfl, Nat.le_of_ble_eq_true rfl⟩) hP hD hS [0] [1] rfl rfl rfl rfl rfl (by decide) rfl rfl hl.1 rfl rfl (Nat.le_of_ble_eq_true rfl) ⟨Nat.zero_le _, Nat.zero_le _⟩ dX5_takeAmount_62 ?_
        intro H locs hP hD hS
        refine lv_pop hx hb dX5_takeAmount_65 rfl ?_
        refine lv_aload_n hx hb dX5_takeAmount_66 rfl (lv_at hl 0 rfl) ?_
        refine lv_aload_n hx hb dX5_takeAmount_67 rfl (lv_at hl 0 rfl) ?_
        refine va_get (D := g.1) (ci := 5) (v := .int (u_8 8)) (C := RX5) (T := TX5) (N := 15) hx hb hts iX5_takeAmount_X5 hown hK.1 hP 1 rfl rfl 8 (by decide) (hts _ kX5_takeAmount_37) (fun _ h9 => h9) rfl dX5_takeAmount_68 ?_
        obtain ⟨u_11, u_12, u_13, hu_14, hF⟩ := ob3_some hF
        refine call_i (wr := []) (As := [.int (u_8 8)]) (rest := []) (ci := 5) (q0 := 0) C0 (mX5_taken l g a_t p_t n (u_8 8) u_8 u_9 f_t_0 u_11 u_12 u_13 hu_14) (cwV 1 hts gX5_takeAmount_X5_taken rfl rfl rfl (by decide +kernel) ⟨Nat.le_of_ble_eq_true rfl, Nat.le_of_ble_eq_true rfl⟩) hP hD hS [1, 0] [] rfl rfl rfl rfl rfl (by decide) rfl rfl hl.1 rfl rfl (Nat.le_of_ble_eq_true rfl) ⟨Nat.zero_le _, Nat.zero_le _⟩ dX5_takeAmount_71 ?_
        intro H locs hP hD hS
        cases hF
        exact ret_i C0 hP hD hS [0, 1] rfl rfl rfl dX5_takeAmount_74 rfl
      · have hF := it_n c_6 hF
        refine lv_aload_n hx hb dX5_takeAmount_51 rfl (lv_at hl 0 rfl) ?_
        refine va_get (D := g.1) (ci := 5) (v := .int (u_2 8)) (C := RX5) (T := TX5) (N := 15) hx hb hts iX5_takeAmount_X5 hown hK.1 hP 0 rfl rfl 8 (by decide) (hts _ kX5_takeAmount_37) (fun _ h9 => h9) rfl dX5_takeAmount_52 ?_
        refine lv_iload hx hb dX5_takeAmount_55 (lv_at hl 2 rfl) ?_
        refine lv_icmp_le (tgt := 66) hx hb dX5_takeAmount_57 (by decide) (fun c_15 => ?_) (fun c_15 => ?_)
        · have hF := it_p c_15 hF
          refine lv_aload_n hx hb dX5_takeAmount_66 rfl (lv_at hl 0 rfl) ?_
          refine lv_aload_n hx hb dX5_takeAmount_67 rfl (lv_at hl 0 rfl) ?_
          refine va_get (D := g.1) (ci := 5) (v := .int (u_2 8)) (C := RX5) (T := TX5) (N := 15) hx hb hts iX5_takeAmount_X5 hown hK.1 hP 0 rfl rfl 8 (by decide) (hts _ kX5_takeAmount_37) (fun _ h9 => h9) rfl dX5_takeAmount_68 ?_
          obtain ⟨u_16, u_17, u_18, hu_19, hF⟩ := ob3_some hF
          refine call_i (wr := []) (As := [.int (u_2 8)]) (rest := []) (ci := 5) (q0 := 0) C0 (mX5_taken l g a_t p_t n (u_2 8) u_2 u_3 f_t_0 u_16 u_17 u_18 hu_19) (cwV 1 hts gX5_takeAmount_X5_taken rfl rfl rfl (by decide +kernel) ⟨Nat.le_of_ble_eq_true rfl, Nat.le_of_ble_eq_true rfl⟩) hP hD hS [0, 1] [] rfl rfl rfl rfl rfl (by decide) rfl rfl hl.1 rfl rfl (Nat.le_of_ble_eq_true rfl) ⟨Nat.zero_le _, Nat.zero_le _⟩ dX5_takeAmount_71 ?_
          intro H locs hP hD hS
          cases hF
          exact ret_i C0 hP hD hS [0, 1] rfl rfl rfl dX5_takeAmount_74 rfl
        · have hF := it_n c_15 hF
          refine lv_aload_n hx hb dX5_takeAmount_60 rfl (lv_at hl 0 rfl) ?_
          refine lv_iconst (v := (4 : Int32)) hx hb dX5_takeAmount_61 (by decide) ?_
          obtain ⟨u_20, u_21, u_22, hu_23, hF⟩ := ob3_some hF
          refine call_i (wr := [aI g (p_t 0) 800 f_t_0]) (As := [.int (4 : Int32)]) (rest := []) (ci := 5) (q0 := 0) C0 (mX5_fail l g a_t p_t n (4 : Int32) u_2 u_3 u_20 u_21 u_22 hu_23) (cwV 1 hts gX5_takeAmount_X5_fail rfl rfl rfl (by decide +kernel) ⟨Nat.le_of_ble_eq_true rfl, Nat.le_of_ble_eq_true rfl⟩) hP hD hS [0] [1] rfl rfl rfl rfl rfl (by decide) rfl rfl hl.1 rfl rfl (Nat.le_of_ble_eq_true rfl) ⟨Nat.zero_le _, Nat.zero_le _⟩ dX5_takeAmount_62 ?_
          intro H locs hP hD hS
          refine lv_pop hx hb dX5_takeAmount_65 rfl ?_
          refine lv_aload_n hx hb dX5_takeAmount_66 rfl (lv_at hl 0 rfl) ?_
          refine lv_aload_n hx hb dX5_takeAmount_67 rfl (lv_at hl 0 rfl) ?_
          refine va_get (D := g.1) (ci := 5) (v := .int (u_21 8)) (C := RX5) (T := TX5) (N := 15) hx hb hts iX5_takeAmount_X5 hown hK.1 hP 1 rfl rfl 8 (by decide) (hts _ kX5_takeAmount_37) (fun _ h9 => h9) rfl dX5_takeAmount_68 ?_
          obtain ⟨u_24, u_25, u_26, hu_27, hF⟩ := ob3_some hF
          refine call_i (wr := []) (As := [.int (u_21 8)]) (rest := []) (ci := 5) (q0 := 0) C0 (mX5_taken l g a_t p_t n (u_21 8) u_21 u_22 f_t_0 u_24 u_25 u_26 hu_27) (cwV 1 hts gX5_takeAmount_X5_taken rfl rfl rfl (by decide +kernel) ⟨Nat.le_of_ble_eq_true rfl, Nat.le_of_ble_eq_true rfl⟩) hP hD hS [1, 0] [] rfl rfl rfl rfl rfl (by decide) rfl rfl hl.1 rfl rfl (Nat.le_of_ble_eq_true rfl) ⟨Nat.zero_le _, Nat.zero_le _⟩ dX5_takeAmount_71 ?_
          intro H locs hP hD hS
          cases hF
          exact ret_i C0 hP hD hS [0, 1] rfl rfl rfl dX5_takeAmount_74 rfl
    · have hF := it_n c_5 hF
      refine lv_aload_n hx hb dX5_takeAmount_37 rfl (lv_at hl 0 rfl) ?_
      refine lv_iconst (v := (1 : Int32)) hx hb dX5_takeAmount_38 (by decide) ?_
      obtain ⟨u_28, u_29, u_30, hu_31, hF⟩ := ob3_some hF
      refine call_i (wr := [aI g (p_t 0) 800 f_t_0]) (As := [.int (1 : Int32)]) (rest := []) (ci := 5) (q0 := 0) C0 (mX5_fail l g a_t p_t n (1 : Int32) u_2 u_3 u_28 u_29 u_30 hu_31) (cwV 1 hts gX5_takeAmount_X5_fail rfl rfl rfl (by decide +kernel) ⟨Nat.le_of_ble_eq_true rfl, Nat.le_of_ble_eq_true rfl⟩) hP hD hS [0] [1] rfl rfl rfl rfl rfl (by decide) rfl rfl hl.1 rfl rfl (Nat.le_of_ble_eq_true rfl) ⟨Nat.zero_le _, Nat.zero_le _⟩ dX5_takeAmount_39 ?_
      intro H locs hP hD hS
      refine lv_pop hx hb dX5_takeAmount_42 rfl ?_
      refine lv_aload_n hx hb dX5_takeAmount_43 rfl (lv_at hl 0 rfl) ?_
      refine va_get (D := g.1) (ci := 5) (v := .int (u_29 8)) (C := RX5) (T := TX5) (N := 15) hx hb hts iX5_takeAmount_X5 hown hK.1 hP 1 rfl rfl 8 (by decide) (hts _ kX5_takeAmount_37) (fun _ h9 => h9) rfl dX5_takeAmount_44 ?_
      refine lv_iload_n hx hb dX5_takeAmount_47 rfl (lv_at hl 1 rfl) ?_
      refine lv_icmp_lt (tgt := 60) hx hb dX5_takeAmount_48 (by decide) (fun c_32 => ?_) (fun c_32 => ?_)
      · have hF := it_p c_32 hF
        refine lv_aload_n hx hb dX5_takeAmount_60 rfl (lv_at hl 0 rfl) ?_
        refine lv_iconst (v := (4 : Int32)) hx hb dX5_takeAmount_61 (by decide) ?_
        obtain ⟨u_33, u_34, u_35, hu_36, hF⟩ := ob3_some hF
        refine call_i (wr := [aI g (p_t 0) 800 f_t_0]) (As := [.int (4 : Int32)]) (rest := []) (ci := 5) (q0 := 0) C0 (mX5_fail l g a_t p_t n (4 : Int32) u_29 u_30 u_33 u_34 u_35 hu_36) (cwV 1 hts gX5_takeAmount_X5_fail rfl rfl rfl (by decide +kernel) ⟨Nat.le_of_ble_eq_true rfl, Nat.le_of_ble_eq_true rfl⟩) hP hD hS [1] [0] rfl rfl rfl rfl rfl (by decide) rfl rfl hl.1 rfl rfl (Nat.le_of_ble_eq_true rfl) ⟨Nat.zero_le _, Nat.zero_le _⟩ dX5_takeAmount_62 ?_
        intro H locs hP hD hS
        refine lv_pop hx hb dX5_takeAmount_65 rfl ?_
        refine lv_aload_n hx hb dX5_takeAmount_66 rfl (lv_at hl 0 rfl) ?_
        refine lv_aload_n hx hb dX5_takeAmount_67 rfl (lv_at hl 0 rfl) ?_
        refine va_get (D := g.1) (ci := 5) (v := .int (u_34 8)) (C := RX5) (T := TX5) (N := 15) hx hb hts iX5_takeAmount_X5 hown hK.1 hP 1 rfl rfl 8 (by decide) (hts _ kX5_takeAmount_37) (fun _ h9 => h9) rfl dX5_takeAmount_68 ?_
        obtain ⟨u_37, u_38, u_39, hu_40, hF⟩ := ob3_some hF
        refine call_i (wr := []) (As := [.int (u_34 8)]) (rest := []) (ci := 5) (q0 := 0) C0 (mX5_taken l g a_t p_t n (u_34 8) u_34 u_35 f_t_0 u_37 u_38 u_39 hu_40) (cwV 1 hts gX5_takeAmount_X5_taken rfl rfl rfl (by decide +kernel) ⟨Nat.le_of_ble_eq_true rfl, Nat.le_of_ble_eq_true rfl⟩) hP hD hS [1, 0] [] rfl rfl rfl rfl rfl (by decide) rfl rfl hl.1 rfl rfl (Nat.le_of_ble_eq_true rfl) ⟨Nat.zero_le _, Nat.zero_le _⟩ dX5_takeAmount_71 ?_
        intro H locs hP hD hS
        cases hF
        exact ret_i C0 hP hD hS [0, 1] rfl rfl rfl dX5_takeAmount_74 rfl
      · have hF := it_n c_32 hF
        refine lv_aload_n hx hb dX5_takeAmount_51 rfl (lv_at hl 0 rfl) ?_
        refine va_get (D := g.1) (ci := 5) (v := .int (u_29 8)) (C := RX5) (T := TX5) (N := 15) hx hb hts iX5_takeAmount_X5 hown hK.1 hP 1 rfl rfl 8 (by decide) (hts _ kX5_takeAmount_37) (fun _ h9 => h9) rfl dX5_takeAmount_52 ?_
        refine lv_iload hx hb dX5_takeAmount_55 (lv_at hl 2 rfl) ?_
        refine lv_icmp_le (tgt := 66) hx hb dX5_takeAmount_57 (by decide) (fun c_41 => ?_) (fun c_41 => ?_)
        · have hF := it_p c_41 hF
          refine lv_aload_n hx hb dX5_takeAmount_66 rfl (lv_at hl 0 rfl) ?_
          refine lv_aload_n hx hb dX5_takeAmount_67 rfl (lv_at hl 0 rfl) ?_
          refine va_get (D := g.1) (ci := 5) (v := .int (u_29 8)) (C := RX5) (T := TX5) (N := 15) hx hb hts iX5_takeAmount_X5 hown hK.1 hP 1 rfl rfl 8 (by decide) (hts _ kX5_takeAmount_37) (fun _ h9 => h9) rfl dX5_takeAmount_68 ?_
          obtain ⟨u_42, u_43, u_44, hu_45, hF⟩ := ob3_some hF
          refine call_i (wr := []) (As := [.int (u_29 8)]) (rest := []) (ci := 5) (q0 := 0) C0 (mX5_taken l g a_t p_t n (u_29 8) u_29 u_30 f_t_0 u_42 u_43 u_44 hu_45) (cwV 1 hts gX5_takeAmount_X5_taken rfl rfl rfl (by decide +kernel) ⟨Nat.le_of_ble_eq_true rfl, Nat.le_of_ble_eq_true rfl⟩) hP hD hS [1, 0] [] rfl rfl rfl rfl rfl (by decide) rfl rfl hl.1 rfl rfl (Nat.le_of_ble_eq_true rfl) ⟨Nat.zero_le _, Nat.zero_le _⟩ dX5_takeAmount_71 ?_
          intro H locs hP hD hS
          cases hF
          exact ret_i C0 hP hD hS [0, 1] rfl rfl rfl dX5_takeAmount_74 rfl
        · have hF := it_n c_41 hF
          refine lv_aload_n hx hb dX5_takeAmount_60 rfl (lv_at hl 0 rfl) ?_
          refine lv_iconst (v := (4 : Int32)) hx hb dX5_takeAmount_61 (by decide) ?_
          obtain ⟨u_46, u_47, u_48, hu_49, hF⟩ := ob3_some hF
          refine call_i (wr := [aI g (p_t 0) 800 f_t_0]) (As := [.int (4 : Int32)]) (rest := []) (ci := 5) (q0 := 0) C0 (mX5_fail l g a_t p_t n (4 : Int32) u_29 u_30 u_46 u_47 u_48 hu_49) (cwV 1 hts gX5_takeAmount_X5_fail rfl rfl rfl (by decide +kernel) ⟨Nat.le_of_ble_eq_true rfl, Nat.le_of_ble_eq_true rfl⟩) hP hD hS [1] [0] rfl rfl rfl rfl rfl (by decide) rfl rfl hl.1 rfl rfl (Nat.le_of_ble_eq_true rfl) ⟨Nat.zero_le _, Nat.zero_le _⟩ dX5_takeAmount_62 ?_
          intro H locs hP hD hS
          refine lv_pop hx hb dX5_takeAmount_65 rfl ?_
          refine lv_aload_n hx hb dX5_takeAmount_66 rfl (lv_at hl 0 rfl) ?_
          refine lv_aload_n hx hb dX5_takeAmount_67 rfl (lv_at hl 0 rfl) ?_
          refine va_get (D := g.1) (ci := 5) (v := .int (u_47 8)) (C := RX5) (T := TX5) (N := 15) hx hb hts iX5_takeAmount_X5 hown hK.1 hP 1 rfl rfl 8 (by decide) (hts _ kX5_takeAmount_37) (fun _ h9 => h9) rfl dX5_takeAmount_68 ?_
          obtain ⟨u_50, u_51, u_52, hu_53, hF⟩ := ob3_some hF
          refine call_i (wr := []) (As := [.int (u_47 8)]) (rest := []) (ci := 5) (q0 := 0) C0 (mX5_taken l g a_t p_t n (u_47 8) u_47 u_48 f_t_0 u_50 u_51 u_52 hu_53) (cwV 1 hts gX5_takeAmount_X5_taken rfl rfl rfl (by decide +kernel) ⟨Nat.le_of_ble_eq_true rfl, Nat.le_of_ble_eq_true rfl⟩) hP hD hS [1, 0] [] rfl rfl rfl rfl rfl (by decide) rfl rfl hl.1 rfl rfl (Nat.le_of_ble_eq_true rfl) ⟨Nat.zero_le _, Nat.zero_le _⟩ dX5_takeAmount_71 ?_
          intro H locs hP hD hS
          cases hF
          exact ret_i C0 hP hD hS [0, 1] rfl rfl rfl dX5_takeAmount_74 rfl
  refine lv_icmp_ne (tgt := 17) hx hb dX5_takeAmount_5 (by decide) (fun c_54 => ?_) (fun c_54 => ?_)
  · have hF := it_n c_54 hF
    refine lv_aload_n hx hb dX5_takeAmount_17 rfl (lv_at hl 0 rfl) ?_
    refine lv_iconst (v := (1 : Int32)) hx hb dX5_takeAmount_18 (by decide) ?_
    obtain ⟨u_55, u_56, u_57, hu_58, hF⟩ := ob3_some hF
    refine call_i (wr := [aI g (p_t 0) 800 f_t_0]) (As := [.int (1 : Int32)]) (rest := []) (ci := 5) (q0 := 0) C0 (mX5_fail l g a_t p_t n (1 : Int32) o_t c_t u_55 u_56 u_57 hu_58) (cwV 1 hts gX5_takeAmount_X5_fail rfl rfl rfl (by decide +kernel) ⟨Nat.le_of_ble_eq_true rfl, Nat.le_of_ble_eq_true rfl⟩) hP hD hS [0] [1] rfl rfl rfl rfl rfl (by decide) rfl rfl hl.1 rfl rfl (Nat.le_of_ble_eq_true rfl) ⟨Nat.zero_le _, Nat.zero_le _⟩ dX5_takeAmount_19 ?_
    intro H locs hP hD hS
    refine lv_pop hx hb dX5_takeAmount_22 rfl ?_
    exact hJ23 u_56 u_57 _ _ _ hF (hP.sub [1, 0] rfl) (hD.sub [1, 0] rfl rfl) hS (lv_sub hl [0, 2, 3] rfl)
  · have hF := it_p c_54 hF
    refine lv_aload_n hx hb dX5_takeAmount_8 rfl (lv_at hl 0 rfl) ?_
    refine va_get (D := g.1) (ci := 5) (v := .long c_t) (C := RX5) (T := TX5) (N := 15) hx hb hts iX5_takeAmount_X5 hown hK.1 hP 0 rfl rfl 9 (by decide) (hts _ kX5_takeAmount_40) (fun _ h9 => h9) rfl dX5_takeAmount_9 ?_
    refine lv_lload_n hx hb dX5_takeAmount_12 rfl (lv_at hl 1 rfl) ?_
    refine W.lcmp hx hb dX5_takeAmount_13 ?_
    refine lv_if_eq (tgt := 23) hx hb dX5_takeAmount_14 (by decide) (fun c_59 => ?_) (fun c_59 => ?_)
    · have hF := it_p c_59 hF
      exact hJ23 o_t c_t _ _ _ hF (hP.sub [0, 1] rfl) (hD.sub [0, 1] rfl rfl) hS (lv_sub hl [0, 2, 3] rfl)
    · have hF := it_n c_59 hF
      refine lv_aload_n hx hb dX5_takeAmount_17 rfl (lv_at hl 0 rfl) ?_
      refine lv_iconst (v := (1 : Int32)) hx hb dX5_takeAmount_18 (by decide) ?_
      obtain ⟨u_60, u_61, u_62, hu_63, hF⟩ := ob3_some hF
      refine call_i (wr := [aI g (p_t 0) 800 f_t_0]) (As := [.int (1 : Int32)]) (rest := []) (ci := 5) (q0 := 0) C0 (mX5_fail l g a_t p_t n (1 : Int32) o_t c_t u_60 u_61 u_62 hu_63) (cwV 1 hts gX5_takeAmount_X5_fail rfl rfl rfl (by decide +kernel) ⟨Nat.le_of_ble_eq_true rfl, Nat.le_of_ble_eq_true rfl⟩) hP hD hS [0] [1] rfl rfl rfl rfl rfl (by decide) rfl rfl hl.1 rfl rfl (Nat.le_of_ble_eq_true rfl) ⟨Nat.zero_le _, Nat.zero_le _⟩ dX5_takeAmount_19 ?_
      intro H locs hP hD hS
      refine lv_pop hx hb dX5_takeAmount_22 rfl ?_
      exact hJ23 u_61 u_62 _ _ _ hF (hP.sub [1, 0] rfl) (hD.sub [1, 0] rfl rfl) hS (lv_sub hl [0, 2, 3] rfl)

theorem dAX5_readEvening : ∀ q ∈ ([(0, (.aload_n 0, 1)), (1, (.iconst 1, 1)), (2, (.putfield 44, 3)), (5, (.aload_n 1, 1)), (6, (.aload_n 0, 1)), (7, (.ldc2_w 149, 3)), (10, (.iconst 0, 1)), (11, (.iconst 4, 1)), (12, (.invokevirtual 151, 3)), (15, (.putfield 155, 3)), (18, (.aload_n 1, 1)), (19, (.aload_n 0, 1)), (20, (.ldc2_w 158, 3)), (23, (.iconst 1, 1)), (24, (.bipush 30, 2)), (26, (.invokevirtual 151, 3)), (29, (.putfield 160, 3)), (32, (.aload_n 1, 1)), (33, (.aload_n 0, 1)), (34, (.ldc2_w 163, 3)), (37, (.iconst 0, 1)), (38, (.bipush 40, 2)), (40, (.invokevirtual 151, 3)), (43, (.putfield 165, 3)), (46, (.return_, 1))] : List (Nat × (Instr × Nat))), decode cX5_readEvening q.1 = .ok q.2 := by decide +kernel
theorem dX5_readEvening_0 : decode cX5_readEvening 0 = .ok (.aload_n 0, 1) := dAX5_readEvening (0, (.aload_n 0, 1)) (List.mem_of_getElem? (i := 0) rfl)
theorem dX5_readEvening_1 : decode cX5_readEvening 1 = .ok (.iconst 1, 1) := dAX5_readEvening (1, (.iconst 1, 1)) (List.mem_of_getElem? (i := 1) rfl)
theorem dX5_readEvening_2 : decode cX5_readEvening 2 = .ok (.putfield 44, 3) := dAX5_readEvening (2, (.putfield 44, 3)) (List.mem_of_getElem? (i := 2) rfl)
theorem dX5_readEvening_5 : decode cX5_readEvening 5 = .ok (.aload_n 1, 1) := dAX5_readEvening (5, (.aload_n 1, 1)) (List.mem_of_getElem? (i := 3) rfl)
theorem dX5_readEvening_6 : decode cX5_readEvening 6 = .ok (.aload_n 0, 1) := dAX5_readEvening (6, (.aload_n 0, 1)) (List.mem_of_getElem? (i := 4) rfl)
theorem dX5_readEvening_7 : decode cX5_readEvening 7 = .ok (.ldc2_w 149, 3) := dAX5_readEvening (7, (.ldc2_w 149, 3)) (List.mem_of_getElem? (i := 5) rfl)
theorem dX5_readEvening_10 : decode cX5_readEvening 10 = .ok (.iconst 0, 1) := dAX5_readEvening (10, (.iconst 0, 1)) (List.mem_of_getElem? (i := 6) rfl)
theorem dX5_readEvening_11 : decode cX5_readEvening 11 = .ok (.iconst 4, 1) := dAX5_readEvening (11, (.iconst 4, 1)) (List.mem_of_getElem? (i := 7) rfl)
theorem dX5_readEvening_12 : decode cX5_readEvening 12 = .ok (.invokevirtual 151, 3) := dAX5_readEvening (12, (.invokevirtual 151, 3)) (List.mem_of_getElem? (i := 8) rfl)
theorem dX5_readEvening_15 : decode cX5_readEvening 15 = .ok (.putfield 155, 3) := dAX5_readEvening (15, (.putfield 155, 3)) (List.mem_of_getElem? (i := 9) rfl)
theorem dX5_readEvening_18 : decode cX5_readEvening 18 = .ok (.aload_n 1, 1) := dAX5_readEvening (18, (.aload_n 1, 1)) (List.mem_of_getElem? (i := 10) rfl)
theorem dX5_readEvening_19 : decode cX5_readEvening 19 = .ok (.aload_n 0, 1) := dAX5_readEvening (19, (.aload_n 0, 1)) (List.mem_of_getElem? (i := 11) rfl)
theorem dX5_readEvening_20 : decode cX5_readEvening 20 = .ok (.ldc2_w 158, 3) := dAX5_readEvening (20, (.ldc2_w 158, 3)) (List.mem_of_getElem? (i := 12) rfl)
theorem dX5_readEvening_23 : decode cX5_readEvening 23 = .ok (.iconst 1, 1) := dAX5_readEvening (23, (.iconst 1, 1)) (List.mem_of_getElem? (i := 13) rfl)
theorem dX5_readEvening_24 : decode cX5_readEvening 24 = .ok (.bipush 30, 2) := dAX5_readEvening (24, (.bipush 30, 2)) (List.mem_of_getElem? (i := 14) rfl)
theorem dX5_readEvening_26 : decode cX5_readEvening 26 = .ok (.invokevirtual 151, 3) := dAX5_readEvening (26, (.invokevirtual 151, 3)) (List.mem_of_getElem? (i := 15) rfl)
theorem dX5_readEvening_29 : decode cX5_readEvening 29 = .ok (.putfield 160, 3) := dAX5_readEvening (29, (.putfield 160, 3)) (List.mem_of_getElem? (i := 16) rfl)
theorem dX5_readEvening_32 : decode cX5_readEvening 32 = .ok (.aload_n 1, 1) := dAX5_readEvening (32, (.aload_n 1, 1)) (List.mem_of_getElem? (i := 17) rfl)
theorem dX5_readEvening_33 : decode cX5_readEvening 33 = .ok (.aload_n 0, 1) := dAX5_readEvening (33, (.aload_n 0, 1)) (List.mem_of_getElem? (i := 18) rfl)
theorem dX5_readEvening_34 : decode cX5_readEvening 34 = .ok (.ldc2_w 163, 3) := dAX5_readEvening (34, (.ldc2_w 163, 3)) (List.mem_of_getElem? (i := 19) rfl)
theorem dX5_readEvening_37 : decode cX5_readEvening 37 = .ok (.iconst 0, 1) := dAX5_readEvening (37, (.iconst 0, 1)) (List.mem_of_getElem? (i := 20) rfl)
theorem dX5_readEvening_38 : decode cX5_readEvening 38 = .ok (.bipush 40, 2) := dAX5_readEvening (38, (.bipush 40, 2)) (List.mem_of_getElem? (i := 21) rfl)
theorem dX5_readEvening_40 : decode cX5_readEvening 40 = .ok (.invokevirtual 151, 3) := dAX5_readEvening (40, (.invokevirtual 151, 3)) (List.mem_of_getElem? (i := 22) rfl)
theorem dX5_readEvening_43 : decode cX5_readEvening 43 = .ok (.putfield 165, 3) := dAX5_readEvening (43, (.putfield 165, 3)) (List.mem_of_getElem? (i := 23) rfl)
theorem dX5_readEvening_46 : decode cX5_readEvening 46 = .ok (.return_, 1) := dAX5_readEvening (46, (.return_, 1)) (List.mem_of_getElem? (i := 24) rfl)
set_option maxRecDepth 20000 in
theorem ggX5_readEvening_X5_takeAmount : GoodIn wsX5_readEvening wsX5_takeAmount := goodIn_r _ [12, 13, 14, 15, 16, 17, 18, 11, 19, 20, 21, 22, 23, 24, 25, 26, 27, 28, 29, 30, 31, 32, 33, 34, 35, 36, 37, 38, 39, 40, 41, 42, 43, 44, 45, 46, 47, 48, 49, 50, 51, 52, 53, 54, 55, 56, 57, 58, 59, 60] rfl (by decide +kernel)
set_option maxRecDepth 20000 in
theorem gX5_readEvening_X5_takeAmount : GoodIn wsX5_readEvening (wsV RX5 151 RX5 yX5_takeAmount wsX5_takeAmount) := goodIn_app (goodIn_of _ (by decide +kernel)) ggX5_readEvening_X5_takeAmount
theorem kX5_readEvening_44 : Cond.fieldLink RX5 44 "EveningVow$Reader" "opened" "Z" ∈ wsX5_readEvening := List.mem_of_getElem? (i := 1) rfl
theorem iX5_readEvening_X5 : ∀ w ∈ u_ws RX5 TX5 15, w ∈ wsX5_readEvening := fun w h => (List.mem_cons_of_mem _ (List.mem_append_left _ (List.mem_append_right _ h)))
theorem kX5_readEvening_149 : Cond.constantLong RX5 149 (1668640883 : Int64) ∈ wsX5_readEvening := by decide +kernel
theorem kX5_readEvening_155 : Cond.fieldLink RX5 155 "EveningVow$House" "cups" "I" ∈ wsX5_readEvening := List.mem_of_getElem? (i := 3) rfl
theorem iX5_readEvening_X1 : ∀ w ∈ u_ws RX1 TX1 17, w ∈ wsX5_readEvening := fun w h => (List.mem_cons_of_mem _ (List.mem_append_right _ h))
theorem kX5_readEvening_158 : Cond.constantLong RX5 158 (512735536499 : Int64) ∈ wsX5_readEvening := by decide +kernel
theorem kX5_readEvening_160 : Cond.fieldLink RX5 160 "EveningVow$House" "wakes" "I" ∈ wsX5_readEvening := List.mem_of_getElem? (i := 5) rfl
theorem kX5_readEvening_163 : Cond.constantLong RX5 163 (444301141350 : Int64) ∈ wsX5_readEvening := by decide +kernel
theorem kX5_readEvening_165 : Cond.fieldLink RX5 165 "EveningVow$House" "grief" "I" ∈ wsX5_readEvening := List.mem_of_getElem? (i := 7) rfl
set_option maxHeartbeats 4000000 in
set_option maxRecDepth 100000 in
theorem mX5_readEvening (l : Launch) (g : GG) (a_t : Nat) (a_r1 : Nat) (p_t : Nat → Nat) (p_r1 : Nat → Nat) (n : Nat) (o_t : Nat → Int32) (c_t : Int64) (f_t_0 : Nat → Int32) (o_r1 : Nat → Int32) (o_t' : Nat → Int32) (c_t' : Int64) (o_r1' : Nat → Int32) (hF : fX5_readEvening n o_t c_t f_t_0 o_r1 = some (o_t', c_t', o_r1')) : MV l g yX5_readEvening wsX5_readEvening ({ frames := 4, cells := 0, slots := 0, locals := 85 } : Room) [.ref a_t, .ref a_r1] [oX5 a_t p_t o_t c_t, aI g (p_t 0) 800 f_t_0, oX1 a_r1 p_r1 o_r1] [oX5 a_t p_t o_t' c_t', aI g (p_t 0) 800 f_t_0, oX1 a_r1 p_r1 o_r1'] := by
  refine MV.of (cc := cX5_readEvening) (maxL := 2) (own := RX5) rfl rfl (by decide) (Nat.le_of_ble_eq_true rfl) ?_
  intro p e s m args below meth c A C0 hP hD hS ls hl
  obtain ⟨hx, hb, hml, hown, hts, hr, hlk, hK, hA, hSW⟩ := id C0
  have hl : lv_has ls 2 [(0, .ref a_t), (1, .ref a_r1)] := hl
  rw [fX5_readEvening] at hF
  refine lv_aload_n hx hb dX5_readEvening_0 rfl (lv_at hl 0 rfl) ?_
  refine lv_iconst (v := (1 : Int32)) hx hb dX5_readEvening_1 (by decide) ?_
  refine va_put (D := g.1) (ci := 5) (v := .int (1 : Int32)) (ty := .boolean) (C := RX5) (T := TX5) (N := 15) hx hb hts iX5_readEvening_X5 tyX5 tyX5_ok nmX5 hown hK.1 hP hD hS 0 rfl rfl 10 (by decide) (hts _ kX5_readEvening_44) (fun _ h9 => h9) rfl (by decide +kernel) rfl rfl (Nat.le_of_ble_eq_true rfl) dX5_readEvening_2 (fun H locs hP hD hS => ?_)
  have hP : va_P g.1 vwCl [oX5 a_t p_t (upd o_t 10 (1 : Int32)) c_t, aI g (p_t 0) 800 f_t_0, oX1 a_r1 p_r1 o_r1] H := hP
  have hD : va_D A [oX5 a_t p_t (upd o_t 10 (1 : Int32)) c_t, aI g (p_t 0) 800 f_t_0, oX1 a_r1 p_r1 o_r1] := hD
  refine lv_aload_n hx hb dX5_readEvening_5 rfl (lv_at hl 1 rfl) ?_
  refine lv_aload_n hx hb dX5_readEvening_6 rfl (lv_at hl 0 rfl) ?_
  refine lv_ldc2 (v := (1668640883 : Int64)) hx hb hown (hts _ kX5_readEvening_149) dX5_readEvening_7 ?_
  refine lv_iconst (v := (0 : Int32)) hx hb dX5_readEvening_10 (by decide) ?_
  refine lv_iconst (v := (4 : Int32)) hx hb dX5_readEvening_11 (by decide) ?_
  obtain ⟨u_1, u_2, u_3, hu_4, hF⟩ := ob3_some hF
  refine call_i (wr := [oX1 a_r1 p_r1 o_r1]) (As := [.long (1668640883 : Int64), .int (0 : Int32), .int (4 : Int32)]) (rest := [.ref a_r1]) (ci := 5) (q0 := 0) C0 (mX5_takeAmount l g a_t p_t n (1668640883 : Int64) (0 : Int32) (4 : Int32) (upd o_t 10 (1 : Int32)) c_t f_t_0 u_1 u_2 u_3 hu_4) (cwV 3 hts gX5_readEvening_X5_takeAmount rfl rfl rfl (by decide +kernel) ⟨Nat.le_of_ble_eq_true rfl, Nat.le_of_ble_eq_true rfl⟩) hP hD hS [0, 1] [2] rfl rfl rfl rfl rfl (by decide) rfl rfl hl.1 rfl rfl (Nat.le_of_ble_eq_true rfl) ⟨Nat.zero_le _, Nat.zero_le _⟩ dX5_readEvening_12 ?_
  intro H locs hP hD hS
  refine va_put (D := g.1) (ci := 1) (v := .int u_1) (ty := .int) (C := RX1) (T := TX1) (N := 17) hx hb hts iX5_readEvening_X1 tyX1 tyX1_ok nmX1 hown hK.1 hP hD hS 0 rfl rfl 0 (by decide) (hts _ kX5_readEvening_155) (fun _ h9 => h9) rfl (by decide +kernel) rfl rfl (Nat.le_of_ble_eq_true rfl) dX5_readEvening_15 (fun H locs hP hD hS => ?_)
  have hP : va_P g.1 vwCl [oX1 a_r1 p_r1 (upd o_r1 0 u_1), oX5 a_t p_t u_2 u_3, aI g (p_t 0) 800 f_t_0] H := hP
  have hD : va_D A [oX1 a_r1 p_r1 (upd o_r1 0 u_1), oX5 a_t p_t u_2 u_3, aI g (p_t 0) 800 f_t_0] := hD
  refine lv_aload_n hx hb dX5_readEvening_18 rfl (lv_at hl 1 rfl) ?_
  refine lv_aload_n hx hb dX5_readEvening_19 rfl (lv_at hl 0 rfl) ?_
  refine lv_ldc2 (v := (512735536499 : Int64)) hx hb hown (hts _ kX5_readEvening_158) dX5_readEvening_20 ?_
  refine lv_iconst (v := (1 : Int32)) hx hb dX5_readEvening_23 (by decide) ?_
  refine lv_bipush (v := (30 : Int32)) hx hb dX5_readEvening_24 (by decide) ?_
  obtain ⟨u_5, u_6, u_7, hu_8, hF⟩ := ob3_some hF
  refine call_i (wr := [oX1 a_r1 p_r1 (upd o_r1 0 u_1)]) (As := [.long (512735536499 : Int64), .int (1 : Int32), .int (30 : Int32)]) (rest := [.ref a_r1]) (ci := 5) (q0 := 0) C0 (mX5_takeAmount l g a_t p_t n (512735536499 : Int64) (1 : Int32) (30 : Int32) u_2 u_3 f_t_0 u_5 u_6 u_7 hu_8) (cwV 3 hts gX5_readEvening_X5_takeAmount rfl rfl rfl (by decide +kernel) ⟨Nat.le_of_ble_eq_true rfl, Nat.le_of_ble_eq_true rfl⟩) hP hD hS [1, 2] [0] rfl rfl rfl rfl rfl (by decide) rfl rfl hl.1 rfl rfl (Nat.le_of_ble_eq_true rfl) ⟨Nat.zero_le _, Nat.zero_le _⟩ dX5_readEvening_26 ?_
  intro H locs hP hD hS
  refine va_put (D := g.1) (ci := 1) (v := .int u_5) (ty := .int) (C := RX1) (T := TX1) (N := 17) hx hb hts iX5_readEvening_X1 tyX1 tyX1_ok nmX1 hown hK.1 hP hD hS 0 rfl rfl 1 (by decide) (hts _ kX5_readEvening_160) (fun _ h9 => h9) rfl (by decide +kernel) rfl rfl (Nat.le_of_ble_eq_true rfl) dX5_readEvening_29 (fun H locs hP hD hS => ?_)
  have hP : va_P g.1 vwCl [oX1 a_r1 p_r1 (upd (upd o_r1 0 u_1) 1 u_5), oX5 a_t p_t u_6 u_7, aI g (p_t 0) 800 f_t_0] H := hP
  have hD : va_D A [oX1 a_r1 p_r1 (upd (upd o_r1 0 u_1) 1 u_5), oX5 a_t p_t u_6 u_7, aI g (p_t 0) 800 f_t_0] := hD
  refine lv_aload_n hx hb dX5_readEvening_32 rfl (lv_at hl 1 rfl) ?_
  refine lv_aload_n hx hb dX5_readEvening_33 rfl (lv_at hl 0 rfl) ?_
  refine lv_ldc2 (v := (444301141350 : Int64)) hx hb hown (hts _ kX5_readEvening_163) dX5_readEvening_34 ?_
  refine lv_iconst (v := (0 : Int32)) hx hb dX5_readEvening_37 (by decide) ?_
  refine lv_bipush (v := (40 : Int32)) hx hb dX5_readEvening_38 (by decide) ?_
  obtain ⟨u_9, u_10, u_11, hu_12, hF⟩ := ob3_some hF
  refine call_i (wr := [oX1 a_r1 p_r1 (upd (upd o_r1 0 u_1) 1 u_5)]) (As := [.long (444301141350 : Int64), .int (0 : Int32), .int (40 : Int32)]) (rest := [.ref a_r1]) (ci := 5) (q0 := 0) C0 (mX5_takeAmount l g a_t p_t n (444301141350 : Int64) (0 : Int32) (40 : Int32) u_6 u_7 f_t_0 u_9 u_10 u_11 hu_12) (cwV 3 hts gX5_readEvening_X5_takeAmount rfl rfl rfl (by decide +kernel) ⟨Nat.le_of_ble_eq_true rfl, Nat.le_of_ble_eq_true rfl⟩) hP hD hS [1, 2] [0] rfl rfl rfl rfl rfl (by decide) rfl rfl hl.1 rfl rfl (Nat.le_of_ble_eq_true rfl) ⟨Nat.zero_le _, Nat.zero_le _⟩ dX5_readEvening_40 ?_
  intro H locs hP hD hS
  refine va_put (D := g.1) (ci := 1) (v := .int u_9) (ty := .int) (C := RX1) (T := TX1) (N := 17) hx hb hts iX5_readEvening_X1 tyX1 tyX1_ok nmX1 hown hK.1 hP hD hS 0 rfl rfl 2 (by decide) (hts _ kX5_readEvening_165) (fun _ h9 => h9) rfl (by decide +kernel) rfl rfl (Nat.le_of_ble_eq_true rfl) dX5_readEvening_43 (fun H locs hP hD hS => ?_)
  have hP : va_P g.1 vwCl [oX1 a_r1 p_r1 (upd (upd (upd o_r1 0 u_1) 1 u_5) 2 u_9), oX5 a_t p_t u_10 u_11, aI g (p_t 0) 800 f_t_0] H := hP
  have hD : va_D A [oX1 a_r1 p_r1 (upd (upd (upd o_r1 0 u_1) 1 u_5) 2 u_9), oX5 a_t p_t u_10 u_11, aI g (p_t 0) 800 f_t_0] := hD
  cases hF
  exact ret_v C0 hP hD hS [1, 2, 0] rfl rfl rfl dX5_readEvening_46

theorem dAX5_isName : ∀ q ∈ ([(0, (.aload_n 0, 1)), (1, (.getfield 28, 3)), (4, (.iconst 1, 1)), (5, (.if_icmp .ne 15, 3)), (8, (.aload_n 0, 1)), (9, (.invokevirtual 124, 3)), (12, (.iconst (-1), 1)), (13, (.if_icmp .ne 7, 3)), (16, (.iconst 1, 1)), (17, (.goto 4, 3)), (20, (.iconst 0, 1)), (21, (.ireturn, 1))] : List (Nat × (Instr × Nat))), decode cX5_isName q.1 = .ok q.2 := by decide +kernel
theorem dX5_isName_0 : decode cX5_isName 0 = .ok (.aload_n 0, 1) := dAX5_isName (0, (.aload_n 0, 1)) (List.mem_of_getElem? (i := 0) rfl)
theorem dX5_isName_1 : decode cX5_isName 1 = .ok (.getfield 28, 3) := dAX5_isName (1, (.getfield 28, 3)) (List.mem_of_getElem? (i := 1) rfl)
theorem dX5_isName_4 : decode cX5_isName 4 = .ok (.iconst 1, 1) := dAX5_isName (4, (.iconst 1, 1)) (List.mem_of_getElem? (i := 2) rfl)
theorem dX5_isName_5 : decode cX5_isName 5 = .ok (.if_icmp .ne 15, 3) := dAX5_isName (5, (.if_icmp .ne 15, 3)) (List.mem_of_getElem? (i := 3) rfl)
theorem dX5_isName_8 : decode cX5_isName 8 = .ok (.aload_n 0, 1) := dAX5_isName (8, (.aload_n 0, 1)) (List.mem_of_getElem? (i := 4) rfl)
theorem dX5_isName_9 : decode cX5_isName 9 = .ok (.invokevirtual 124, 3) := dAX5_isName (9, (.invokevirtual 124, 3)) (List.mem_of_getElem? (i := 5) rfl)
theorem dX5_isName_12 : decode cX5_isName 12 = .ok (.iconst (-1), 1) := dAX5_isName (12, (.iconst (-1), 1)) (List.mem_of_getElem? (i := 6) rfl)
theorem dX5_isName_13 : decode cX5_isName 13 = .ok (.if_icmp .ne 7, 3) := dAX5_isName (13, (.if_icmp .ne 7, 3)) (List.mem_of_getElem? (i := 7) rfl)
theorem dX5_isName_16 : decode cX5_isName 16 = .ok (.iconst 1, 1) := dAX5_isName (16, (.iconst 1, 1)) (List.mem_of_getElem? (i := 8) rfl)
theorem dX5_isName_17 : decode cX5_isName 17 = .ok (.goto 4, 3) := dAX5_isName (17, (.goto 4, 3)) (List.mem_of_getElem? (i := 9) rfl)
theorem dX5_isName_20 : decode cX5_isName 20 = .ok (.iconst 0, 1) := dAX5_isName (20, (.iconst 0, 1)) (List.mem_of_getElem? (i := 10) rfl)
theorem dX5_isName_21 : decode cX5_isName 21 = .ok (.ireturn, 1) := dAX5_isName (21, (.ireturn, 1)) (List.mem_of_getElem? (i := 11) rfl)
set_option maxRecDepth 20000 in
theorem ggX5_isName_X5_lineOfWord : GoodIn wsX5_isName wsX5_lineOfWord := goodIn_r _ [6, 1, 7, 8, 9, 10, 11, 12, 13, 14, 15, 16, 17, 18, 19, 20, 21, 22, 23, 24, 25, 26, 27, 28, 29, 30] rfl (by decide +kernel)
set_option maxRecDepth 20000 in
theorem gX5_isName_X5_lineOfWord : GoodIn wsX5_isName (wsV RX5 124 RX5 yX5_lineOfWord wsX5_lineOfWord) := goodIn_app (goodIn_of _ (by decide +kernel)) ggX5_isName_X5_lineOfWord
theorem kX5_isName_28 : Cond.fieldLink RX5 28 "EveningVow$Reader" "sort" "I" ∈ wsX5_isName := List.mem_of_getElem? (i := 1) rfl
theorem iX5_isName_X5 : ∀ w ∈ u_ws RX5 TX5 15, w ∈ wsX5_isName := fun w h => (List.mem_cons_of_mem _ (List.mem_append_right _ h))
set_option maxHeartbeats 4000000 in
set_option maxRecDepth 100000 in
theorem mX5_isName (l : Launch) (g : GG) (a_t : Nat) (p_t : Nat → Nat) (n : Nat) (o_t : Nat → Int32) (c_t : Int64) (r : Int32) (hF : fX5_isName n o_t c_t = some (r)) : MI l g yX5_isName wsX5_isName ({ frames := 1, cells := 0, slots := 0, locals := 20 } : Room) [.ref a_t] [oX5 a_t p_t o_t c_t] r [oX5 a_t p_t o_t c_t] := by
  refine MI.of (cc := cX5_isName) (maxL := 1) (rt := .boolean) (own := RX5) rfl rfl (by decide) (Nat.le_of_ble_eq_true rfl) ?_
  intro p e s m args below meth c A C0 hP hD hS ls hl
  obtain ⟨hx, hb, hml, hown, hts, hr, hlk, hK, hA, hSW⟩ := id C0
  have hl : lv_has ls 1 [(0, .ref a_t)] := hl
  rw [fX5_isName] at hF
  refine lv_aload_n hx hb dX5_isName_0 rfl (lv_at hl 0 rfl) ?_
  refine va_get (D := g.1) (ci := 5) (v := .int (o_t 5)) (C := RX5) (T := TX5) (N := 15) hx hb hts iX5_isName_X5 hown hK.1 hP 0 rfl rfl 5 (by decide) (hts _ kX5_isName_28) (fun _ h9 => h9) rfl dX5_isName_1 ?_
  refine lv_iconst (v := (1 : Int32)) hx hb dX5_isName_4 (by decide) ?_
  refine lv_icmp_ne (tgt := 20) hx hb dX5_isName_5 (by decide) (fun c_1 => ?_) (fun c_1 => ?_)
  · have hF := it_n c_1 hF
    refine lv_iconst (v := (0 : Int32)) hx hb dX5_isName_20 (by decide) ?_
    cases hF
    exact ret_z C0 hP hD hS [0] rfl rfl rfl dX5_isName_21 rfl rfl
  · have hF := it_p c_1 hF
    refine lv_aload_n hx hb dX5_isName_8 rfl (lv_at hl 0 rfl) ?_
    obtain ⟨u_2, hu_3, hF⟩ := ob1_some hF
    refine call_i (wr := []) (As := []) (rest := []) (ci := 5) (q0 := 0) C0 (mX5_lineOfWord l g a_t p_t n o_t c_t u_2 hu_3) (cwV 0 hts gX5_isName_X5_lineOfWord rfl rfl rfl (by decide +kernel) ⟨Nat.le_of_ble_eq_true rfl, Nat.le_of_ble_eq_true rfl⟩) hP hD hS [0] [] rfl rfl rfl rfl rfl (by decide) rfl rfl hl.1 rfl rfl (Nat.le_of_ble_eq_true rfl) ⟨Nat.zero_le _, Nat.zero_le _⟩ dX5_isName_9 ?_
    intro H locs hP hD hS
    refine lv_iconst (v := (-1 : Int32)) hx hb dX5_isName_12 (by decide) ?_
    refine lv_icmp_ne (tgt := 20) hx hb dX5_isName_13 (by decide) (fun c_4 => ?_) (fun c_4 => ?_)
    · have hF := it_n c_4 hF
      refine lv_iconst (v := (0 : Int32)) hx hb dX5_isName_20 (by decide) ?_
      cases hF
      exact ret_z C0 hP hD hS [0] rfl rfl rfl dX5_isName_21 rfl rfl
    · have hF := it_p c_4 hF
      refine lv_iconst (v := (1 : Int32)) hx hb dX5_isName_16 (by decide) ?_
      refine lv_goto (tgt := 21) hx hb dX5_isName_17 (by decide) ?_
      cases hF
      exact ret_z C0 hP hD hS [0] rfl rfl rfl dX5_isName_21 rfl rfl

theorem dAX5_nameIndex : ∀ q ∈ ([(0, (.iconst 0, 1)), (1, (.istore_n 1, 1)), (2, (.iload_n 1, 1)), (3, (.aload_n 0, 1)), (4, (.getfield 48, 3)), (7, (.if_icmp .ge 25, 3)), (10, (.aload_n 0, 1)), (11, (.getfield 51, 3)), (14, (.iload_n 1, 1)), (15, (.laload, 1)), (16, (.aload_n 0, 1)), (17, (.getfield 40, 3)), (20, (.lcmp, 1)), (21, (.ifCond .ne 5, 3)), (24, (.iload_n 1, 1)), (25, (.ireturn, 1)), (26, (.iinc 1 1, 3)), (29, (.goto (-27), 3)), (32, (.iconst (-1), 1)), (33, (.ireturn, 1))] : List (Nat × (Instr × Nat))), decode cX5_nameIndex q.1 = .ok q.2 := by decide +kernel
theorem dX5_nameIndex_0 : decode cX5_nameIndex 0 = .ok (.iconst 0, 1) := dAX5_nameIndex (0, (.iconst 0, 1)) (List.mem_of_getElem? (i := 0) rfl)
theorem dX5_nameIndex_1 : decode cX5_nameIndex 1 = .ok (.istore_n 1, 1) := dAX5_nameIndex (1, (.istore_n 1, 1)) (List.mem_of_getElem? (i := 1) rfl)
theorem dX5_nameIndex_2 : decode cX5_nameIndex 2 = .ok (.iload_n 1, 1) := dAX5_nameIndex (2, (.iload_n 1, 1)) (List.mem_of_getElem? (i := 2) rfl)
theorem dX5_nameIndex_3 : decode cX5_nameIndex 3 = .ok (.aload_n 0, 1) := dAX5_nameIndex (3, (.aload_n 0, 1)) (List.mem_of_getElem? (i := 3) rfl)
theorem dX5_nameIndex_4 : decode cX5_nameIndex 4 = .ok (.getfield 48, 3) := dAX5_nameIndex (4, (.getfield 48, 3)) (List.mem_of_getElem? (i := 4) rfl)
theorem dX5_nameIndex_7 : decode cX5_nameIndex 7 = .ok (.if_icmp .ge 25, 3) := dAX5_nameIndex (7, (.if_icmp .ge 25, 3)) (List.mem_of_getElem? (i := 5) rfl)
theorem dX5_nameIndex_10 : decode cX5_nameIndex 10 = .ok (.aload_n 0, 1) := dAX5_nameIndex (10, (.aload_n 0, 1)) (List.mem_of_getElem? (i := 6) rfl)
theorem dX5_nameIndex_11 : decode cX5_nameIndex 11 = .ok (.getfield 51, 3) := dAX5_nameIndex (11, (.getfield 51, 3)) (List.mem_of_getElem? (i := 7) rfl)
theorem dX5_nameIndex_14 : decode cX5_nameIndex 14 = .ok (.iload_n 1, 1) := dAX5_nameIndex (14, (.iload_n 1, 1)) (List.mem_of_getElem? (i := 8) rfl)
theorem dX5_nameIndex_15 : decode cX5_nameIndex 15 = .ok (.laload, 1) := dAX5_nameIndex (15, (.laload, 1)) (List.mem_of_getElem? (i := 9) rfl)
theorem dX5_nameIndex_16 : decode cX5_nameIndex 16 = .ok (.aload_n 0, 1) := dAX5_nameIndex (16, (.aload_n 0, 1)) (List.mem_of_getElem? (i := 10) rfl)
theorem dX5_nameIndex_17 : decode cX5_nameIndex 17 = .ok (.getfield 40, 3) := dAX5_nameIndex (17, (.getfield 40, 3)) (List.mem_of_getElem? (i := 11) rfl)
theorem dX5_nameIndex_20 : decode cX5_nameIndex 20 = .ok (.lcmp, 1) := dAX5_nameIndex (20, (.lcmp, 1)) (List.mem_of_getElem? (i := 12) rfl)
theorem dX5_nameIndex_21 : decode cX5_nameIndex 21 = .ok (.ifCond .ne 5, 3) := dAX5_nameIndex (21, (.ifCond .ne 5, 3)) (List.mem_of_getElem? (i := 13) rfl)
theorem dX5_nameIndex_24 : decode cX5_nameIndex 24 = .ok (.iload_n 1, 1) := dAX5_nameIndex (24, (.iload_n 1, 1)) (List.mem_of_getElem? (i := 14) rfl)
theorem dX5_nameIndex_25 : decode cX5_nameIndex 25 = .ok (.ireturn, 1) := dAX5_nameIndex (25, (.ireturn, 1)) (List.mem_of_getElem? (i := 15) rfl)
theorem dX5_nameIndex_26 : decode cX5_nameIndex 26 = .ok (.iinc 1 1, 3) := dAX5_nameIndex (26, (.iinc 1 1, 3)) (List.mem_of_getElem? (i := 16) rfl)
theorem dX5_nameIndex_29 : decode cX5_nameIndex 29 = .ok (.goto (-27), 3) := dAX5_nameIndex (29, (.goto (-27), 3)) (List.mem_of_getElem? (i := 17) rfl)
theorem dX5_nameIndex_32 : decode cX5_nameIndex 32 = .ok (.iconst (-1), 1) := dAX5_nameIndex (32, (.iconst (-1), 1)) (List.mem_of_getElem? (i := 18) rfl)
theorem dX5_nameIndex_33 : decode cX5_nameIndex 33 = .ok (.ireturn, 1) := dAX5_nameIndex (33, (.ireturn, 1)) (List.mem_of_getElem? (i := 19) rfl)
theorem kX5_nameIndex_48 : Cond.fieldLink RX5 48 "EveningVow$Reader" "names" "I" ∈ wsX5_nameIndex := List.mem_of_getElem? (i := 1) rfl
theorem iX5_nameIndex_X5 : ∀ w ∈ u_ws RX5 TX5 15, w ∈ wsX5_nameIndex := fun w h => (List.mem_cons_of_mem _ (List.mem_append_right _ h))
theorem kX5_nameIndex_51 : Cond.fieldLink RX5 51 "EveningVow$Reader" "nameCode" "[J" ∈ wsX5_nameIndex := List.mem_of_getElem? (i := 2) rfl
theorem kX5_nameIndex_40 : Cond.fieldLink RX5 40 "EveningVow$Reader" "code" "J" ∈ wsX5_nameIndex := List.mem_of_getElem? (i := 3) rfl
set_option maxHeartbeats 4000000 in
set_option maxRecDepth 100000 in
theorem wX5_nameIndex_L2 {p : Program} {l : Launch} {e : Env} {s : State} {m : MethodId} {args : Array Value} {below : List Frame} {meth : Method} {c : Code} {g : GG} {A : Nat → Prop} (C0 : Cx p s m args meth c cX5_nameIndex 2 (some .int) RX5 wsX5_nameIndex g A) (a_t : Nat) (p_t : Nat → Nat) (n : Nat) (o_t : Nat → Int32) (c_t : Int64) (f_t_12 : Nat → Int64)  (r : Int32) (K : Unit → Option (Int32)) (hKx : ∀  (H : Heap) (locs : List Loc) (ls : Array Slot), K () = some (r) → va_P g.1 vwCl [oX5 a_t p_t o_t c_t, aJ g (p_t 12) 16 f_t_12] H → va_D A [oX5 a_t p_t o_t c_t, aJ g (p_t 12) 16 f_t_12] → va_S A s.heap H locs → lv_has ls 2 [] → W p l e ({ frames := 0, cells := 0, slots := 0, locals := 0 } : Room) s m args below meth c H locs 0 0 (MQ below (EndI g r [oX5 a_t p_t o_t c_t, aJ g (p_t 12) 16 f_t_12] A) args s 0 0 A) (F0 m 32 ls [])) : ∀ (k : Nat) (x1 : Int32), fX5_nameIndex_L2 n o_t c_t f_t_12 K k x1 = some (r) → ∀ (H : Heap) (locs : List Loc) (ls : Array Slot), va_P g.1 vwCl [oX5 a_t p_t o_t c_t, aJ g (p_t 12) 16 f_t_12] H → va_D A [oX5 a_t p_t o_t c_t, aJ g (p_t 12) 16 f_t_12] → va_S A s.heap H locs → lv_has ls 2 [(0, .ref a_t), (1, .int x1)] → W p l e ({ frames := 0, cells := 0, slots := 0, locals := 0 } : Room) s m args below meth c H locs 0 0 (MQ below (EndI g r [oX5 a_t p_t o_t c_t, aJ g (p_t 12) 16 f_t_12] A) args s 0 0 A) (F0 m 2 ls []) := by
  obtain ⟨hx, hb, hml, hown, hts, hr, hlk, hK, hA, hSW⟩ := id C0
  intro k
  induction k with
  | zero =>
    intro x1 hF
    exact absurd hF (by simp [fX5_nameIndex_L2])
  | succ k ih =>
    intro x1 hF H locs ls hP hD hS hl
    rw [fX5_nameIndex_L2] at hF
    refine lv_iload_n hx hb dX5_nameIndex_2 rfl (lv_at hl 1 rfl) ?_
    refine lv_aload_n hx hb dX5_nameIndex_3 rfl (lv_at hl 0 rfl) ?_
    refine va_get (D := g.1) (ci := 5) (v := .int (o_t 11)) (C := RX5) (T := TX5) (N := 15) hx hb hts iX5_nameIndex_X5 hown hK.1 hP 0 rfl rfl 11 (by decide) (hts _ kX5_nameIndex_48) (fun _ h9 => h9) rfl dX5_nameIndex_4 ?_
    refine lv_icmp_ge (tgt := 32) hx hb dX5_nameIndex_7 (by decide) (fun c_1 => ?_) (fun c_1 => ?_)
    · have hF := it_p c_1 hF
      exact hKx  _ _ _ hF (hP.sub [0, 1] rfl) (hD.sub [0, 1] rfl rfl) hS (lv_sub hl [] rfl)
    · have hF := it_n c_1 hF
      refine lv_aload_n hx hb dX5_nameIndex_10 rfl (lv_at hl 0 rfl) ?_
      refine va_get (D := g.1) (ci := 5) (v := .ref (p_t 12)) (C := RX5) (T := TX5) (N := 15) hx hb hts iX5_nameIndex_X5 hown hK.1 hP 0 rfl rfl 12 (by decide) (hts _ kX5_nameIndex_51) (fun _ h9 => h9) rfl dX5_nameIndex_11 ?_
      refine lv_iload_n hx hb dX5_nameIndex_14 rfl (lv_at hl 1 rfl) ?_
      obtain ⟨h_2, hF⟩ := it_ck hF
      refine va_lald hx hb hK.1 hP 1 1 rfl rfl h_2 dX5_nameIndex_15 ?_
      refine lv_aload_n hx hb dX5_nameIndex_16 rfl (lv_at hl 0 rfl) ?_
      refine va_get (D := g.1) (ci := 5) (v := .long c_t) (C := RX5) (T := TX5) (N := 15) hx hb hts iX5_nameIndex_X5 hown hK.1 hP 0 rfl rfl 9 (by decide) (hts _ kX5_nameIndex_40) (fun _ h9 => h9) rfl dX5_nameIndex_17 ?_
      refine W.lcmp hx hb dX5_nameIndex_20 ?_
      refine lv_if_ne (tgt := 26) hx hb dX5_nameIndex_21 (by decide) (fun c_3 => ?_) (fun c_3 => ?_)
      · have hF := it_n c_3 hF
        refine lv_iinc (v := (x1 + (1 : Int32))) (lv' := [(1, .int (x1 + (1 : Int32))), (0, .ref a_t)]) hx hb dX5_nameIndex_26 hl (k := 1) rfl rfl (by decide) rfl (fun ls hl => ?_)
        refine lv_goto (tgt := 2) hx hb dX5_nameIndex_29 (by decide) ?_
        exact ih (x1 + (1 : Int32)) hF _ _ _ (hP.sub [0, 1] rfl) (hD.sub [0, 1] rfl rfl) hS (lv_sub hl [1, 0] rfl)
      · have hF := it_p c_3 hF
        refine lv_iload_n hx hb dX5_nameIndex_24 rfl (lv_at hl 1 rfl) ?_
        cases hF
        exact ret_i C0 hP hD hS [0, 1] rfl rfl rfl dX5_nameIndex_25 rfl
set_option maxHeartbeats 4000000 in
set_option maxRecDepth 100000 in
theorem mX5_nameIndex (l : Launch) (g : GG) (a_t : Nat) (p_t : Nat → Nat) (n : Nat) (o_t : Nat → Int32) (c_t : Int64) (f_t_12 : Nat → Int64) (r : Int32) (hF : fX5_nameIndex n o_t c_t f_t_12 = some (r)) : MI l g yX5_nameIndex wsX5_nameIndex ({ frames := 0, cells := 0, slots := 0, locals := 0 } : Room) [.ref a_t] [oX5 a_t p_t o_t c_t, aJ g (p_t 12) 16 f_t_12] r [oX5 a_t p_t o_t c_t, aJ g (p_t 12) 16 f_t_12] := by
  refine MI.of (cc := cX5_nameIndex) (maxL := 2) (rt := .int) (own := RX5) rfl rfl (by decide) (Nat.le_of_ble_eq_true rfl) ?_
  intro p e s m args below meth c A C0 hP hD hS ls hl
  obtain ⟨hx, hb, hml, hown, hts, hr, hlk, hK, hA, hSW⟩ := id C0
  have hl : lv_has ls 2 [(0, .ref a_t)] := hl
  rw [fX5_nameIndex] at hF
  refine lv_iconst (v := (0 : Int32)) hx hb dX5_nameIndex_0 (by decide) ?_
  refine lv_istore_n (lv' := [(1, .int (0 : Int32)), (0, .ref a_t)]) hx hb dX5_nameIndex_1 rfl hl (by decide) rfl (fun ls hl => ?_)
  refine wX5_nameIndex_L2 C0 a_t p_t n o_t c_t f_t_12 r _ ?_ n (0 : Int32) hF _ _ _ (hP.sub [0, 1] rfl) (hD.sub [0, 1] rfl rfl) hS (lv_sub hl [1, 0] rfl)
  · intro  H locs ls hF hP hD hS hl
    refine lv_iconst (v := (-1 : Int32)) hx hb dX5_nameIndex_32 (by decide) ?_
    cases hF
    exact ret_i C0 hP hD hS [0, 1] rfl rfl rfl dX5_nameIndex_33 rfl

theorem dAX5_takeNewName : ∀ q ∈ ([(0, (.aload_n 0, 1)), (1, (.invokevirtual 247, 3)), (4, (.ifCond .ne 9, 3)), (7, (.aload_n 0, 1)), (8, (.iconst 1, 1)), (9, (.invokevirtual 89, 3)), (12, (.pop, 1)), (13, (.aload_n 0, 1)), (14, (.invokevirtual 250, 3)), (17, (.ifCond .lt 9, 3)), (20, (.aload_n 0, 1)), (21, (.iconst 3, 1)), (22, (.invokevirtual 89, 3)), (25, (.pop, 1)), (26, (.aload_n 0, 1)), (27, (.invokevirtual 79, 3)), (30, (.ifCond .ne 12, 3)), (33, (.aload_n 0, 1)), (34, (.getfield 48, 3)), (37, (.bipush 16, 2)), (39, (.if_icmp .lt 4, 3)), (42, (.return_, 1)), (43, (.aload_n 0, 1)), (44, (.getfield 51, 3)), (47, (.aload_n 0, 1)), (48, (.getfield 48, 3)), (51, (.aload_n 0, 1)), (52, (.getfield 40, 3)), (55, (.lastore, 1)), (56, (.aload_n 0, 1)), (57, (.getfield 55, 3)), (60, (.aload_n 0, 1)), (61, (.getfield 48, 3)), (64, (.iload_n 1, 1)), (65, (.iastore, 1)), (66, (.aload_n 0, 1)), (67, (.getfield 58, 3)), (70, (.aload_n 0, 1)), (71, (.getfield 48, 3)), (74, (.iload_n 2, 1)), (75, (.iastore, 1)), (76, (.aload_n 0, 1)), (77, (.dup, 1)), (78, (.getfield 48, 3)), (81, (.iconst 1, 1)), (82, (.iadd, 1)), (83, (.putfield 48, 3)), (86, (.aload_n 0, 1)), (87, (.invokevirtual 72, 3)), (90, (.return_, 1))] : List (Nat × (Instr × Nat))), decode cX5_takeNewName q.1 = .ok q.2 := by decide +kernel
theorem dX5_takeNewName_0 : decode cX5_takeNewName 0 = .ok (.aload_n 0, 1) := dAX5_takeNewName (0, (.aload_n 0, 1)) (List.mem_of_getElem? (i := 0) rfl)
theorem dX5_takeNewName_1 : decode cX5_takeNewName 1 = .ok (.invokevirtual 247, 3) := dAX5_takeNewName (1, (.invokevirtual 247, 3)) (List.mem_of_getElem? (i := 1) rfl)
theorem dX5_takeNewName_4 : decode cX5_takeNewName 4 = .ok (.ifCond .ne 9, 3) := dAX5_takeNewName (4, (.ifCond .ne 9, 3)) (List.mem_of_getElem? (i := 2) rfl)
theorem dX5_takeNewName_7 : decode cX5_takeNewName 7 = .ok (.aload_n 0, 1) := dAX5_takeNewName (7, (.aload_n 0, 1)) (List.mem_of_getElem? (i := 3) rfl)
theorem dX5_takeNewName_8 : decode cX5_takeNewName 8 = .ok (.iconst 1, 1) := dAX5_takeNewName (8, (.iconst 1, 1)) (List.mem_of_getElem? (i := 4) rfl)
theorem dX5_takeNewName_9 : decode cX5_takeNewName 9 = .ok (.invokevirtual 89, 3) := dAX5_takeNewName (9, (.invokevirtual 89, 3)) (List.mem_of_getElem? (i := 5) rfl)
theorem dX5_takeNewName_12 : decode cX5_takeNewName 12 = .ok (.pop, 1) := dAX5_takeNewName (12, (.pop, 1)) (List.mem_of_getElem? (i := 6) rfl)
theorem dX5_takeNewName_13 : decode cX5_takeNewName 13 = .ok (.aload_n 0, 1) := dAX5_takeNewName (13, (.aload_n 0, 1)) (List.mem_of_getElem? (i := 7) rfl)
theorem dX5_takeNewName_14 : decode cX5_takeNewName 14 = .ok (.invokevirtual 250, 3) := dAX5_takeNewName (14, (.invokevirtual 250, 3)) (List.mem_of_getElem? (i := 8) rfl)
theorem dX5_takeNewName_17 : decode cX5_takeNewName 17 = .ok (.ifCond .lt 9, 3) := dAX5_takeNewName (17, (.ifCond .lt 9, 3)) (List.mem_of_getElem? (i := 9) rfl)
theorem dX5_takeNewName_20 : decode cX5_takeNewName 20 = .ok (.aload_n 0, 1) := dAX5_takeNewName (20, (.aload_n 0, 1)) (List.mem_of_getElem? (i := 10) rfl)
theorem dX5_takeNewName_21 : decode cX5_takeNewName 21 = .ok (.iconst 3, 1) := dAX5_takeNewName (21, (.iconst 3, 1)) (List.mem_of_getElem? (i := 11) rfl)
theorem dX5_takeNewName_22 : decode cX5_takeNewName 22 = .ok (.invokevirtual 89, 3) := dAX5_takeNewName (22, (.invokevirtual 89, 3)) (List.mem_of_getElem? (i := 12) rfl)
theorem dX5_takeNewName_25 : decode cX5_takeNewName 25 = .ok (.pop, 1) := dAX5_takeNewName (25, (.pop, 1)) (List.mem_of_getElem? (i := 13) rfl)
theorem dX5_takeNewName_26 : decode cX5_takeNewName 26 = .ok (.aload_n 0, 1) := dAX5_takeNewName (26, (.aload_n 0, 1)) (List.mem_of_getElem? (i := 14) rfl)
theorem dX5_takeNewName_27 : decode cX5_takeNewName 27 = .ok (.invokevirtual 79, 3) := dAX5_takeNewName (27, (.invokevirtual 79, 3)) (List.mem_of_getElem? (i := 15) rfl)
theorem dX5_takeNewName_30 : decode cX5_takeNewName 30 = .ok (.ifCond .ne 12, 3) := dAX5_takeNewName (30, (.ifCond .ne 12, 3)) (List.mem_of_getElem? (i := 16) rfl)
theorem dX5_takeNewName_33 : decode cX5_takeNewName 33 = .ok (.aload_n 0, 1) := dAX5_takeNewName (33, (.aload_n 0, 1)) (List.mem_of_getElem? (i := 17) rfl)
theorem dX5_takeNewName_34 : decode cX5_takeNewName 34 = .ok (.getfield 48, 3) := dAX5_takeNewName (34, (.getfield 48, 3)) (List.mem_of_getElem? (i := 18) rfl)
theorem dX5_takeNewName_37 : decode cX5_takeNewName 37 = .ok (.bipush 16, 2) := dAX5_takeNewName (37, (.bipush 16, 2)) (List.mem_of_getElem? (i := 19) rfl)
theorem dX5_takeNewName_39 : decode cX5_takeNewName 39 = .ok (.if_icmp .lt 4, 3) := dAX5_takeNewName (39, (.if_icmp .lt 4, 3)) (List.mem_of_getElem? (i := 20) rfl)
theorem dX5_takeNewName_42 : decode cX5_takeNewName 42 = .ok (.return_, 1) := dAX5_takeNewName (42, (.return_, 1)) (List.mem_of_getElem? (i := 21) rfl)
theorem dX5_takeNewName_43 : decode cX5_takeNewName 43 = .ok (.aload_n 0, 1) := dAX5_takeNewName (43, (.aload_n 0, 1)) (List.mem_of_getElem? (i := 22) rfl)
theorem dX5_takeNewName_44 : decode cX5_takeNewName 44 = .ok (.getfield 51, 3) := dAX5_takeNewName (44, (.getfield 51, 3)) (List.mem_of_getElem? (i := 23) rfl)
theorem dX5_takeNewName_47 : decode cX5_takeNewName 47 = .ok (.aload_n 0, 1) := dAX5_takeNewName (47, (.aload_n 0, 1)) (List.mem_of_getElem? (i := 24) rfl)
theorem dX5_takeNewName_48 : decode cX5_takeNewName 48 = .ok (.getfield 48, 3) := dAX5_takeNewName (48, (.getfield 48, 3)) (List.mem_of_getElem? (i := 25) rfl)
theorem dX5_takeNewName_51 : decode cX5_takeNewName 51 = .ok (.aload_n 0, 1) := dAX5_takeNewName (51, (.aload_n 0, 1)) (List.mem_of_getElem? (i := 26) rfl)
theorem dX5_takeNewName_52 : decode cX5_takeNewName 52 = .ok (.getfield 40, 3) := dAX5_takeNewName (52, (.getfield 40, 3)) (List.mem_of_getElem? (i := 27) rfl)
theorem dX5_takeNewName_55 : decode cX5_takeNewName 55 = .ok (.lastore, 1) := dAX5_takeNewName (55, (.lastore, 1)) (List.mem_of_getElem? (i := 28) rfl)
theorem dX5_takeNewName_56 : decode cX5_takeNewName 56 = .ok (.aload_n 0, 1) := dAX5_takeNewName (56, (.aload_n 0, 1)) (List.mem_of_getElem? (i := 29) rfl)
theorem dX5_takeNewName_57 : decode cX5_takeNewName 57 = .ok (.getfield 55, 3) := dAX5_takeNewName (57, (.getfield 55, 3)) (List.mem_of_getElem? (i := 30) rfl)
theorem dX5_takeNewName_60 : decode cX5_takeNewName 60 = .ok (.aload_n 0, 1) := dAX5_takeNewName (60, (.aload_n 0, 1)) (List.mem_of_getElem? (i := 31) rfl)
theorem dX5_takeNewName_61 : decode cX5_takeNewName 61 = .ok (.getfield 48, 3) := dAX5_takeNewName (61, (.getfield 48, 3)) (List.mem_of_getElem? (i := 32) rfl)
theorem dX5_takeNewName_64 : decode cX5_takeNewName 64 = .ok (.iload_n 1, 1) := dAX5_takeNewName (64, (.iload_n 1, 1)) (List.mem_of_getElem? (i := 33) rfl)
theorem dX5_takeNewName_65 : decode cX5_takeNewName 65 = .ok (.iastore, 1) := dAX5_takeNewName (65, (.iastore, 1)) (List.mem_of_getElem? (i := 34) rfl)
theorem dX5_takeNewName_66 : decode cX5_takeNewName 66 = .ok (.aload_n 0, 1) := dAX5_takeNewName (66, (.aload_n 0, 1)) (List.mem_of_getElem? (i := 35) rfl)
theorem dX5_takeNewName_67 : decode cX5_takeNewName 67 = .ok (.getfield 58, 3) := dAX5_takeNewName (67, (.getfield 58, 3)) (List.mem_of_getElem? (i := 36) rfl)
theorem dX5_takeNewName_70 : decode cX5_takeNewName 70 = .ok (.aload_n 0, 1) := dAX5_takeNewName (70, (.aload_n 0, 1)) (List.mem_of_getElem? (i := 37) rfl)
theorem dX5_takeNewName_71 : decode cX5_takeNewName 71 = .ok (.getfield 48, 3) := dAX5_takeNewName (71, (.getfield 48, 3)) (List.mem_of_getElem? (i := 38) rfl)
theorem dX5_takeNewName_74 : decode cX5_takeNewName 74 = .ok (.iload_n 2, 1) := dAX5_takeNewName (74, (.iload_n 2, 1)) (List.mem_of_getElem? (i := 39) rfl)
theorem dX5_takeNewName_75 : decode cX5_takeNewName 75 = .ok (.iastore, 1) := dAX5_takeNewName (75, (.iastore, 1)) (List.mem_of_getElem? (i := 40) rfl)
theorem dX5_takeNewName_76 : decode cX5_takeNewName 76 = .ok (.aload_n 0, 1) := dAX5_takeNewName (76, (.aload_n 0, 1)) (List.mem_of_getElem? (i := 41) rfl)
theorem dX5_takeNewName_77 : decode cX5_takeNewName 77 = .ok (.dup, 1) := dAX5_takeNewName (77, (.dup, 1)) (List.mem_of_getElem? (i := 42) rfl)
theorem dX5_takeNewName_78 : decode cX5_takeNewName 78 = .ok (.getfield 48, 3) := dAX5_takeNewName (78, (.getfield 48, 3)) (List.mem_of_getElem? (i := 43) rfl)
theorem dX5_takeNewName_81 : decode cX5_takeNewName 81 = .ok (.iconst 1, 1) := dAX5_takeNewName (81, (.iconst 1, 1)) (List.mem_of_getElem? (i := 44) rfl)
theorem dX5_takeNewName_82 : decode cX5_takeNewName 82 = .ok (.iadd, 1) := dAX5_takeNewName (82, (.iadd, 1)) (List.mem_of_getElem? (i := 45) rfl)
theorem dX5_takeNewName_83 : decode cX5_takeNewName 83 = .ok (.putfield 48, 3) := dAX5_takeNewName (83, (.putfield 48, 3)) (List.mem_of_getElem? (i := 46) rfl)
theorem dX5_takeNewName_86 : decode cX5_takeNewName 86 = .ok (.aload_n 0, 1) := dAX5_takeNewName (86, (.aload_n 0, 1)) (List.mem_of_getElem? (i := 47) rfl)
theorem dX5_takeNewName_87 : decode cX5_takeNewName 87 = .ok (.invokevirtual 72, 3) := dAX5_takeNewName (87, (.invokevirtual 72, 3)) (List.mem_of_getElem? (i := 48) rfl)
theorem dX5_takeNewName_90 : decode cX5_takeNewName 90 = .ok (.return_, 1) := dAX5_takeNewName (90, (.return_, 1)) (List.mem_of_getElem? (i := 49) rfl)
set_option maxRecDepth 20000 in
theorem ggX5_takeNewName_X5_isName : GoodIn wsX5_takeNewName wsX5_isName := goodIn_r _ [10, 11, 12, 13, 14, 9, 15, 3, 16, 17, 18, 19, 20, 21, 22, 23, 55, 56, 57, 58, 59, 60, 61, 62, 63, 64, 65, 66, 67, 68, 69] rfl (by decide +kernel)
set_option maxRecDepth 20000 in
theorem gX5_takeNewName_X5_isName : GoodIn wsX5_takeNewName (wsV RX5 247 RX5 yX5_isName wsX5_isName) := goodIn_app (goodIn_of _ (by decide +kernel)) ggX5_takeNewName_X5_isName
set_option maxRecDepth 20000 in
theorem ggX5_takeNewName_X5_fail : GoodIn wsX5_takeNewName wsX5_fail := goodIn_r _ [27, 28, 29, 30, 31, 32, 33, 9, 34, 55, 56, 57, 58, 59, 60, 61, 62, 63, 64, 65, 66, 67, 68, 69] rfl (by decide +kernel)
set_option maxRecDepth 20000 in
theorem gX5_takeNewName_X5_fail : GoodIn wsX5_takeNewName (wsV RX5 89 RX5 yX5_fail wsX5_fail) := goodIn_app (goodIn_of _ (by decide +kernel)) ggX5_takeNewName_X5_fail
set_option maxRecDepth 20000 in
theorem ggX5_takeNewName_X5_nameIndex : GoodIn wsX5_takeNewName wsX5_nameIndex := goodIn_r _ [38, 1, 2, 3, 55, 56, 57, 58, 59, 60, 61, 62, 63, 64, 65, 66, 67, 68, 69] rfl (by decide +kernel)
set_option maxRecDepth 20000 in
theorem gX5_takeNewName_X5_nameIndex : GoodIn wsX5_takeNewName (wsV RX5 250 RX5 yX5_nameIndex wsX5_nameIndex) := goodIn_app (goodIn_of _ (by decide +kernel)) ggX5_takeNewName_X5_nameIndex
set_option maxRecDepth 20000 in
theorem ggX5_takeNewName_X5_failed : GoodIn wsX5_takeNewName wsX5_failed := goodIn_r _ [34, 28, 55, 56, 57, 58, 59, 60, 61, 62, 63, 64, 65, 66, 67, 68, 69] rfl (by decide +kernel)
set_option maxRecDepth 20000 in
theorem gX5_takeNewName_X5_failed : GoodIn wsX5_takeNewName (wsV RX5 79 RX5 yX5_failed wsX5_failed) := goodIn_app (goodIn_of _ (by decide +kernel)) ggX5_takeNewName_X5_failed
set_option maxRecDepth 20000 in
theorem ggX5_takeNewName_X5_step : GoodIn wsX5_takeNewName wsX5_step := goodIn_r _ [42, 43, 29, 44, 45, 11, 46, 47, 48, 9, 49, 3, 50, 51, 52, 53, 54, 55, 56, 57, 58, 59, 60, 61, 62, 63, 64, 65, 66, 67, 68, 69] rfl (by decide +kernel)
set_option maxRecDepth 20000 in
theorem gX5_takeNewName_X5_step : GoodIn wsX5_takeNewName (wsV RX5 72 RX5 yX5_step wsX5_step) := goodIn_app (goodIn_of _ (by decide +kernel)) ggX5_takeNewName_X5_step
theorem kX5_takeNewName_48 : Cond.fieldLink RX5 48 "EveningVow$Reader" "names" "I" ∈ wsX5_takeNewName := List.mem_of_getElem? (i := 1) rfl
theorem iX5_takeNewName_X5 : ∀ w ∈ u_ws RX5 TX5 15, w ∈ wsX5_takeNewName := fun w h => (List.mem_cons_of_mem _ (List.mem_append_right _ h))
theorem kX5_takeNewName_51 : Cond.fieldLink RX5 51 "EveningVow$Reader" "nameCode" "[J" ∈ wsX5_takeNewName := List.mem_of_getElem? (i := 2) rfl
theorem kX5_takeNewName_40 : Cond.fieldLink RX5 40 "EveningVow$Reader" "code" "J" ∈ wsX5_takeNewName := List.mem_of_getElem? (i := 3) rfl
theorem kX5_takeNewName_55 : Cond.fieldLink RX5 55 "EveningVow$Reader" "nameLine" "[I" ∈ wsX5_takeNewName := List.mem_of_getElem? (i := 4) rfl
theorem kX5_takeNewName_58 : Cond.fieldLink RX5 58 "EveningVow$Reader" "nameNumber" "[I" ∈ wsX5_takeNewName := List.mem_of_getElem? (i := 5) rfl
set_option maxHeartbeats 4000000 in
set_option maxRecDepth 100000 in
theorem mX5_takeNewName (l : Launch) (g : GG) (a_t : Nat) (p_t : Nat → Nat) (n : Nat) (x1 : Int32) (x2 : Int32) (o_t : Nat → Int32) (c_t : Int64) (f_t_0 : Nat → Int32) (f_t_12 : Nat → Int64) (f_t_13 : Nat → Int32) (f_t_14 : Nat → Int32) (o_t' : Nat → Int32) (c_t' : Int64) (f_t_12' : Nat → Int64) (f_t_13' : Nat → Int32) (f_t_14' : Nat → Int32) (hF : fX5_takeNewName n x1 x2 o_t c_t f_t_0 f_t_12 f_t_13 f_t_14 = some (o_t', c_t', f_t_12', f_t_13', f_t_14')) : MV l g yX5_takeNewName wsX5_takeNewName ({ frames := 2, cells := 0, slots := 0, locals := 41 } : Room) [.ref a_t, .int x1, .int x2] [oX5 a_t p_t o_t c_t, aI g (p_t 0) 800 f_t_0, aJ g (p_t 12) 16 f_t_12, aI g (p_t 13) 16 f_t_13, aI g (p_t 14) 16 f_t_14] [oX5 a_t p_t o_t' c_t', aI g (p_t 0) 800 f_t_0, aJ g (p_t 12) 16 f_t_12', aI g (p_t 13) 16 f_t_13', aI g (p_t 14) 16 f_t_14'] := by
  refine MV.of (cc := cX5_takeNewName) (maxL := 3) (own := RX5) rfl rfl (by decide) (Nat.le_of_ble_eq_true rfl) ?_
  intro p e s m args below meth c A C0 hP hD hS ls hl
  obtain ⟨hx, hb, hml, hown, hts, hr, hlk, hK, hA, hSW⟩ := id C0
  have hl : lv_has ls 3 [(0, .ref a_t), (1, .int x1), (2, .int x2)] := hl
  rw [fX5_takeNewName] at hF
  refine lv_aload_n hx hb dX5_takeNewName_0 rfl (lv_at hl 0 rfl) ?_
  obtain ⟨u_1, hu_2, hF⟩ := ob1_some hF
  refine call_i (wr := [aI g (p_t 0) 800 f_t_0, aJ g (p_t 12) 16 f_t_12, aI g (p_t 13) 16 f_t_13, aI g (p_t 14) 16 f_t_14]) (As := []) (rest := []) (ci := 5) (q0 := 0) C0 (mX5_isName l g a_t p_t n o_t c_t u_1 hu_2) (cwV 0 hts gX5_takeNewName_X5_isName rfl rfl rfl (by decide +kernel) ⟨Nat.le_of_ble_eq_true rfl, Nat.le_of_ble_eq_true rfl⟩) hP hD hS [0] [1, 2, 3, 4] rfl rfl rfl rfl rfl (by decide) rfl rfl hl.1 rfl rfl (Nat.le_of_ble_eq_true rfl) ⟨Nat.zero_le _, Nat.zero_le _⟩ dX5_takeNewName_1 ?_
  intro H locs hP hD hS
  obtain ⟨J13, eJ13, hF⟩ := jn_some hF
  have hJ13 : ∀ (o_t_13 : Nat → Int32) (c_t_13 : Int64) (H : Heap) (locs : List Loc) (ls : Array Slot), J13 o_t_13 c_t_13 = some (o_t', c_t', f_t_12', f_t_13', f_t_14') → va_P g.1 vwCl [aI g (p_t 0) 800 f_t_0, aJ g (p_t 12) 16 f_t_12, aI g (p_t 13) 16 f_t_13, aI g (p_t 14) 16 f_t_14, oX5 a_t p_t o_t_13 c_t_13] H → va_D A [aI g (p_t 0) 800 f_t_0, aJ g (p_t 12) 16 f_t_12, aI g (p_t 13) 16 f_t_13, aI g (p_t 14) 16 f_t_14, oX5 a_t p_t o_t_13 c_t_13] → va_S A s.heap H locs → lv_has ls 3 [(0, .ref a_t), (1, .int x1), (2, .int x2)] → W p l e ({ frames := 2, cells := 0, slots := 0, locals := 41 } : Room) s m args below meth c H locs 0 0 (MQ below (EndV g [oX5 a_t p_t o_t' c_t', aI g (p_t 0) 800 f_t_0, aJ g (p_t 12) 16 f_t_12', aI g (p_t 13) 16 f_t_13', aI g (p_t 14) 16 f_t_14'] A) args s 0 0 A) (F0 m 13 ls []) := by
    intro o_t_13 c_t_13 H locs ls hF hP hD hS hl
    have hF := jj2 eJ13 hF
    refine lv_aload_n hx hb dX5_takeNewName_13 rfl (lv_at hl 0 rfl) ?_
    obtain ⟨u_3, hu_4, hF⟩ := ob1_some hF
    refine call_i (wr := [aI g (p_t 0) 800 f_t_0, aI g (p_t 13) 16 f_t_13, aI g (p_t 14) 16 f_t_14]) (As := []) (rest := []) (ci := 5) (q0 := 0) C0 (mX5_nameIndex l g a_t p_t n o_t_13 c_t_13 f_t_12 u_3 hu_4) (cwV 0 hts gX5_takeNewName_X5_nameIndex rfl rfl rfl (by decide +kernel) ⟨Nat.le_of_ble_eq_true rfl, Nat.le_of_ble_eq_true rfl⟩) hP hD hS [4, 1] [0, 2, 3] rfl rfl rfl rfl rfl (by decide) rfl rfl hl.1 rfl rfl (Nat.le_of_ble_eq_true rfl) ⟨Nat.zero_le _, Nat.zero_le _⟩ dX5_takeNewName_14 ?_
    intro H locs hP hD hS
    obtain ⟨J26, eJ26, hF⟩ := jn_some hF
    have hJ26 : ∀ (o_t_26 : Nat → Int32) (c_t_26 : Int64) (H : Heap) (locs : List Loc) (ls : Array Slot), J26 o_t_26 c_t_26 = some (o_t', c_t', f_t_12', f_t_13', f_t_14') → va_P g.1 vwCl [aI g (p_t 0) 800 f_t_0, aI g (p_t 13) 16 f_t_13, aI g (p_t 14) 16 f_t_14, oX5 a_t p_t o_t_26 c_t_26, aJ g (p_t 12) 16 f_t_12] H → va_D A [aI g (p_t 0) 800 f_t_0, aI g (p_t 13) 16 f_t_13, aI g (p_t 14) 16 f_t_14, oX5 a_t p_t o_t_26 c_t_26, aJ g (p_t 12) 16 f_t_12] → va_S A s.heap H locs → lv_has ls 3 [(0, .ref a_t), (1, .int x1), (2, .int x2)] → W p l e ({ frames := 2, cells := 0, slots := 0, locals := 41 } : Room) s m args below meth c H locs 0 0 (MQ below (EndV g [oX5 a_t p_t o_t' c_t', aI g (p_t 0) 800 f_t_0, aJ g (p_t 12) 16 f_t_12', aI g (p_t 13) 16 f_t_13', aI g (p_t 14) 16 f_t_14'] A) args s 0 0 A) (F0 m 26 ls []) := by
      intro o_t_26 c_t_26 H locs ls hF hP hD hS hl
      have hF := jj2 eJ26 hF
      refine lv_aload_n hx hb dX5_takeNewName_26 rfl (lv_at hl 0 rfl) ?_
      obtain ⟨u_5, hu_6, hF⟩ := ob1_some hF
      refine call_i (wr := [aI g (p_t 0) 800 f_t_0, aI g (p_t 13) 16 f_t_13, aI g (p_t 14) 16 f_t_14, aJ g (p_t 12) 16 f_t_12]) (As := []) (rest := []) (ci := 5) (q0 := 0) C0 (mX5_failed l g a_t p_t n o_t_26 c_t_26 u_5 hu_6) (cwV 0 hts gX5_takeNewName_X5_failed rfl rfl rfl (by decide +kernel) ⟨Nat.le_of_ble_eq_true rfl, Nat.le_of_ble_eq_true rfl⟩) hP hD hS [3] [0, 1, 2, 4] rfl rfl rfl rfl rfl (by decide) rfl rfl hl.1 rfl rfl (Nat.le_of_ble_eq_true rfl) ⟨Nat.zero_le _, Nat.zero_le _⟩ dX5_takeNewName_27 ?_
      intro H locs hP hD hS
      refine lv_if_ne (tgt := 42) hx hb dX5_takeNewName_30 (by decide) (fun c_7 => ?_) (fun c_7 => ?_)
      · have hF := it_n c_7 hF
        cases hF
        exact ret_v C0 hP hD hS [4, 0, 3, 1, 2] rfl rfl rfl dX5_takeNewName_42
      · have hF := it_p c_7 hF
        refine lv_aload_n hx hb dX5_takeNewName_33 rfl (lv_at hl 0 rfl) ?_
        refine va_get (D := g.1) (ci := 5) (v := .int (o_t_26 11)) (C := RX5) (T := TX5) (N := 15) hx hb hts iX5_takeNewName_X5 hown hK.1 hP 4 rfl rfl 11 (by decide) (hts _ kX5_takeNewName_48) (fun _ h9 => h9) rfl dX5_takeNewName_34 ?_
        refine lv_bipush (v := (16 : Int32)) hx hb dX5_takeNewName_37 (by decide) ?_
        refine lv_icmp_lt (tgt := 43) hx hb dX5_takeNewName_39 (by decide) (fun c_8 => ?_) (fun c_8 => ?_)
        · have hF := it_p c_8 hF
          refine lv_aload_n hx hb dX5_takeNewName_43 rfl (lv_at hl 0 rfl) ?_
          refine va_get (D := g.1) (ci := 5) (v := .ref (p_t 12)) (C := RX5) (T := TX5) (N := 15) hx hb hts iX5_takeNewName_X5 hown hK.1 hP 4 rfl rfl 12 (by decide) (hts _ kX5_takeNewName_51) (fun _ h9 => h9) rfl dX5_takeNewName_44 ?_
          refine lv_aload_n hx hb dX5_takeNewName_47 rfl (lv_at hl 0 rfl) ?_
          refine va_get (D := g.1) (ci := 5) (v := .int (o_t_26 11)) (C := RX5) (T := TX5) (N := 15) hx hb hts iX5_takeNewName_X5 hown hK.1 hP 4 rfl rfl 11 (by decide) (hts _ kX5_takeNewName_48) (fun _ h9 => h9) rfl dX5_takeNewName_48 ?_
          refine lv_aload_n hx hb dX5_takeNewName_51 rfl (lv_at hl 0 rfl) ?_
          refine va_get (D := g.1) (ci := 5) (v := .long c_t_26) (C := RX5) (T := TX5) (N := 15) hx hb hts iX5_takeNewName_X5 hown hK.1 hP 4 rfl rfl 9 (by decide) (hts _ kX5_takeNewName_40) (fun _ h9 => h9) rfl dX5_takeNewName_52 ?_
          obtain ⟨h_9, hF⟩ := it_ck hF
          refine va_last hx hb hK.1 hP hD hS 3 1 rfl rfl h_9 dX5_takeNewName_55 (fun H locs hP hD hS => ?_)
          have hP : va_P g.1 vwCl [aI g (p_t 0) 800 f_t_0, aI g (p_t 13) 16 f_t_13, aI g (p_t 14) 16 f_t_14, aJ g (p_t 12) 16 (vp_updL f_t_12 ((o_t_26 11)).toNatClampNeg c_t_26), oX5 a_t p_t o_t_26 c_t_26] H := hP
          have hD : va_D A [aI g (p_t 0) 800 f_t_0, aI g (p_t 13) 16 f_t_13, aI g (p_t 14) 16 f_t_14, aJ g (p_t 12) 16 (vp_updL f_t_12 ((o_t_26 11)).toNatClampNeg c_t_26), oX5 a_t p_t o_t_26 c_t_26] := hD
          refine lv_aload_n hx hb dX5_takeNewName_56 rfl (lv_at hl 0 rfl) ?_
          refine va_get (D := g.1) (ci := 5) (v := .ref (p_t 13)) (C := RX5) (T := TX5) (N := 15) hx hb hts iX5_takeNewName_X5 hown hK.1 hP 4 rfl rfl 13 (by decide) (hts _ kX5_takeNewName_55) (fun _ h9 => h9) rfl dX5_takeNewName_57 ?_
          refine lv_aload_n hx hb dX5_takeNewName_60 rfl (lv_at hl 0 rfl) ?_
          refine va_get (D := g.1) (ci := 5) (v := .int (o_t_26 11)) (C := RX5) (T := TX5) (N := 15) hx hb hts iX5_takeNewName_X5 hown hK.1 hP 4 rfl rfl 11 (by decide) (hts _ kX5_takeNewName_48) (fun _ h9 => h9) rfl dX5_takeNewName_61 ?_
          refine lv_iload_n hx hb dX5_takeNewName_64 rfl (lv_at hl 1 rfl) ?_
          obtain ⟨h_10, hF⟩ := it_ck hF
          refine va_iast hx hb hK.1 hP hD hS 1 0 rfl rfl h_10 dX5_takeNewName_65 (fun H locs hP hD hS => ?_)
          have hP : va_P g.1 vwCl [aI g (p_t 0) 800 f_t_0, aI g (p_t 13) 16 (upd f_t_13 ((o_t_26 11)).toNatClampNeg x1), aI g (p_t 14) 16 f_t_14, aJ g (p_t 12) 16 (vp_updL f_t_12 ((o_t_26 11)).toNatClampNeg c_t_26), oX5 a_t p_t o_t_26 c_t_26] H := hP
          have hD : va_D A [aI g (p_t 0) 800 f_t_0, aI g (p_t 13) 16 (upd f_t_13 ((o_t_26 11)).toNatClampNeg x1), aI g (p_t 14) 16 f_t_14, aJ g (p_t 12) 16 (vp_updL f_t_12 ((o_t_26 11)).toNatClampNeg c_t_26), oX5 a_t p_t o_t_26 c_t_26] := hD
          refine lv_aload_n hx hb dX5_takeNewName_66 rfl (lv_at hl 0 rfl) ?_
          refine va_get (D := g.1) (ci := 5) (v := .ref (p_t 14)) (C := RX5) (T := TX5) (N := 15) hx hb hts iX5_takeNewName_X5 hown hK.1 hP 4 rfl rfl 14 (by decide) (hts _ kX5_takeNewName_58) (fun _ h9 => h9) rfl dX5_takeNewName_67 ?_
          refine lv_aload_n hx hb dX5_takeNewName_70 rfl (lv_at hl 0 rfl) ?_
          refine va_get (D := g.1) (ci := 5) (v := .int (o_t_26 11)) (C := RX5) (T := TX5) (N := 15) hx hb hts iX5_takeNewName_X5 hown hK.1 hP 4 rfl rfl 11 (by decide) (hts _ kX5_takeNewName_48) (fun _ h9 => h9) rfl dX5_takeNewName_71 ?_
          refine lv_iload_n hx hb dX5_takeNewName_74 rfl (lv_at hl 2 rfl) ?_
          obtain ⟨h_11, hF⟩ := it_ck hF
          refine va_iast hx hb hK.1 hP hD hS 2 0 rfl rfl h_11 dX5_takeNewName_75 (fun H locs hP hD hS => ?_)
          have hP : va_P g.1 vwCl [aI g (p_t 0) 800 f_t_0, aI g (p_t 13) 16 (upd f_t_13 ((o_t_26 11)).toNatClampNeg x1), aI g (p_t 14) 16 (upd f_t_14 ((o_t_26 11)).toNatClampNeg x2), aJ g (p_t 12) 16 (vp_updL f_t_12 ((o_t_26 11)).toNatClampNeg c_t_26), oX5 a_t p_t o_t_26 c_t_26] H := hP
          have hD : va_D A [aI g (p_t 0) 800 f_t_0, aI g (p_t 13) 16 (upd f_t_13 ((o_t_26 11)).toNatClampNeg x1), aI g (p_t 14) 16 (upd f_t_14 ((o_t_26 11)).toNatClampNeg x2), aJ g (p_t 12) 16 (vp_updL f_t_12 ((o_t_26 11)).toNatClampNeg c_t_26), oX5 a_t p_t o_t_26 c_t_26] := hD
          refine lv_aload_n hx hb dX5_takeNewName_76 rfl (lv_at hl 0 rfl) ?_
          refine lv_dup hx hb dX5_takeNewName_77 rfl ?_
          refine va_get (D := g.1) (ci := 5) (v := .int (o_t_26 11)) (C := RX5) (T := TX5) (N := 15) hx hb hts iX5_takeNewName_X5 hown hK.1 hP 4 rfl rfl 11 (by decide) (hts _ kX5_takeNewName_48) (fun _ h9 => h9) rfl dX5_takeNewName_78 ?_
          refine lv_iconst (v := (1 : Int32)) hx hb dX5_takeNewName_81 (by decide) ?_
          refine lv_iadd hx hb dX5_takeNewName_82 ?_
          refine va_put (D := g.1) (ci := 5) (v := .int ((o_t_26 11) + (1 : Int32))) (ty := .int) (C := RX5) (T := TX5) (N := 15) hx hb hts iX5_takeNewName_X5 tyX5 tyX5_ok nmX5 hown hK.1 hP hD hS 4 rfl rfl 11 (by decide) (hts _ kX5_takeNewName_48) (fun _ h9 => h9) rfl (by decide +kernel) rfl rfl (Nat.le_of_ble_eq_true rfl) dX5_takeNewName_83 (fun H locs hP hD hS => ?_)
          have hP : va_P g.1 vwCl [aI g (p_t 0) 800 f_t_0, aI g (p_t 13) 16 (upd f_t_13 ((o_t_26 11)).toNatClampNeg x1), aI g (p_t 14) 16 (upd f_t_14 ((o_t_26 11)).toNatClampNeg x2), aJ g (p_t 12) 16 (vp_updL f_t_12 ((o_t_26 11)).toNatClampNeg c_t_26), oX5 a_t p_t (upd o_t_26 11 ((o_t_26 11) + (1 : Int32))) c_t_26] H := hP
          have hD : va_D A [aI g (p_t 0) 800 f_t_0, aI g (p_t 13) 16 (upd f_t_13 ((o_t_26 11)).toNatClampNeg x1), aI g (p_t 14) 16 (upd f_t_14 ((o_t_26 11)).toNatClampNeg x2), aJ g (p_t 12) 16 (vp_updL f_t_12 ((o_t_26 11)).toNatClampNeg c_t_26), oX5 a_t p_t (upd o_t_26 11 ((o_t_26 11) + (1 : Int32))) c_t_26] := hD
          refine lv_aload_n hx hb dX5_takeNewName_86 rfl (lv_at hl 0 rfl) ?_
          obtain ⟨u_12, u_13, hu_14, hF⟩ := ob2_some hF
          refine call_v (wr := [aI g (p_t 13) 16 (upd f_t_13 ((o_t_26 11)).toNatClampNeg x1), aI g (p_t 14) 16 (upd f_t_14 ((o_t_26 11)).toNatClampNeg x2), aJ g (p_t 12) 16 (vp_updL f_t_12 ((o_t_26 11)).toNatClampNeg c_t_26)]) (As := []) (rest := []) (ci := 5) (q0 := 0) C0 (mX5_step l g a_t p_t n (upd o_t_26 11 ((o_t_26 11) + (1 : Int32))) c_t_26 f_t_0 u_12 u_13 hu_14) (cwV 0 hts gX5_takeNewName_X5_step rfl rfl rfl (by decide +kernel) ⟨Nat.le_of_ble_eq_true rfl, Nat.le_of_ble_eq_true rfl⟩) hP hD hS [4, 0] [1, 2, 3] rfl rfl rfl rfl rfl (by decide) rfl rfl hl.1 rfl rfl (Nat.le_of_ble_eq_true rfl) ⟨Nat.zero_le _, Nat.zero_le _⟩ dX5_takeNewName_87 ?_
          intro H locs hP hD hS
          cases hF
          exact ret_v C0 hP hD hS [3, 4, 2, 0, 1] rfl rfl rfl dX5_takeNewName_90
        · have hF := it_n c_8 hF
          cases hF
          exact ret_v C0 hP hD hS [4, 0, 3, 1, 2] rfl rfl rfl dX5_takeNewName_42
    refine lv_if_lt (tgt := 26) hx hb dX5_takeNewName_17 (by decide) (fun c_15 => ?_) (fun c_15 => ?_)
    · have hF := it_p c_15 hF
      exact hJ26 o_t_13 c_t_13 _ _ _ hF (hP.sub [0, 1, 2, 3, 4] rfl) (hD.sub [0, 1, 2, 3, 4] rfl rfl) hS (lv_sub hl [0, 1, 2] rfl)
    · have hF := it_n c_15 hF
      refine lv_aload_n hx hb dX5_takeNewName_20 rfl (lv_at hl 0 rfl) ?_
      refine lv_iconst (v := (3 : Int32)) hx hb dX5_takeNewName_21 (by decide) ?_
      obtain ⟨u_16, u_17, u_18, hu_19, hF⟩ := ob3_some hF
      refine call_i (wr := [aI g (p_t 0) 800 f_t_0, aI g (p_t 13) 16 f_t_13, aI g (p_t 14) 16 f_t_14, aJ g (p_t 12) 16 f_t_12]) (As := [.int (3 : Int32)]) (rest := []) (ci := 5) (q0 := 0) C0 (mX5_fail l g a_t p_t n (3 : Int32) o_t_13 c_t_13 u_16 u_17 u_18 hu_19) (cwV 1 hts gX5_takeNewName_X5_fail rfl rfl rfl (by decide +kernel) ⟨Nat.le_of_ble_eq_true rfl, Nat.le_of_ble_eq_true rfl⟩) hP hD hS [3] [0, 1, 2, 4] rfl rfl rfl rfl rfl (by decide) rfl rfl hl.1 rfl rfl (Nat.le_of_ble_eq_true rfl) ⟨Nat.zero_le _, Nat.zero_le _⟩ dX5_takeNewName_22 ?_
      intro H locs hP hD hS
      refine lv_pop hx hb dX5_takeNewName_25 rfl ?_
      exact hJ26 u_17 u_18 _ _ _ hF (hP.sub [0, 1, 2, 4, 3] rfl) (hD.sub [0, 1, 2, 4, 3] rfl rfl) hS (lv_sub hl [0, 1, 2] rfl)
  refine lv_if_ne (tgt := 13) hx hb dX5_takeNewName_4 (by decide) (fun c_20 => ?_) (fun c_20 => ?_)
  · have hF := it_n c_20 hF
    exact hJ13 o_t c_t _ _ _ hF (hP.sub [0, 1, 2, 3, 4] rfl) (hD.sub [0, 1, 2, 3, 4] rfl rfl) hS (lv_sub hl [0, 1, 2] rfl)
  · have hF := it_p c_20 hF
    refine lv_aload_n hx hb dX5_takeNewName_7 rfl (lv_at hl 0 rfl) ?_
    refine lv_iconst (v := (1 : Int32)) hx hb dX5_takeNewName_8 (by decide) ?_
    obtain ⟨u_21, u_22, u_23, hu_24, hF⟩ := ob3_some hF
    refine call_i (wr := [aI g (p_t 0) 800 f_t_0, aJ g (p_t 12) 16 f_t_12, aI g (p_t 13) 16 f_t_13, aI g (p_t 14) 16 f_t_14]) (As := [.int (1 : Int32)]) (rest := []) (ci := 5) (q0 := 0) C0 (mX5_fail l g a_t p_t n (1 : Int32) o_t c_t u_21 u_22 u_23 hu_24) (cwV 1 hts gX5_takeNewName_X5_fail rfl rfl rfl (by decide +kernel) ⟨Nat.le_of_ble_eq_true rfl, Nat.le_of_ble_eq_true rfl⟩) hP hD hS [4] [0, 1, 2, 3] rfl rfl rfl rfl rfl (by decide) rfl rfl hl.1 rfl rfl (Nat.le_of_ble_eq_true rfl) ⟨Nat.zero_le _, Nat.zero_le _⟩ dX5_takeNewName_9 ?_
    intro H locs hP hD hS
    refine lv_pop hx hb dX5_takeNewName_12 rfl ?_
    exact hJ13 u_22 u_23 _ _ _ hF (hP.sub [0, 1, 2, 3, 4] rfl) (hD.sub [0, 1, 2, 3, 4] rfl rfl) hS (lv_sub hl [0, 1, 2] rfl)

theorem dAX5_kindOfWord : ∀ q ∈ ([(0, (.aload_n 0, 1)), (1, (.getfield 28, 3)), (4, (.iconst 1, 1)), (5, (.if_icmp .eq 5, 3)), (8, (.iconst (-1), 1)), (9, (.ireturn, 1)), (10, (.aload_n 0, 1)), (11, (.getfield 40, 3)), (14, (.ldc2_w 269, 3)), (17, (.lcmp, 1)), (18, (.ifCond .ne 5, 3)), (21, (.iconst 0, 1)), (22, (.ireturn, 1)), (23, (.aload_n 0, 1)), (24, (.getfield 40, 3)), (27, (.ldc2_w 271, 3)), (30, (.lcmp, 1)), (31, (.ifCond .ne 5, 3)), (34, (.iconst 1, 1)), (35, (.ireturn, 1)), (36, (.aload_n 0, 1)), (37, (.getfield 40, 3)), (40, (.ldc2_w 273, 3)), (43, (.lcmp, 1)), (44, (.ifCond .ne 5, 3)), (47, (.iconst 2, 1)), (48, (.ireturn, 1)), (49, (.aload_n 0, 1)), (50, (.getfield 40, 3)), (53, (.ldc2_w 275, 3)), (56, (.lcmp, 1)), (57, (.ifCond .ne 7, 3)), (60, (.iconst 3, 1)), (61, (.goto 4, 3)), (64, (.iconst (-1), 1)), (65, (.ireturn, 1))] : List (Nat × (Instr × Nat))), decode cX5_kindOfWord q.1 = .ok q.2 := by decide +kernel
theorem dX5_kindOfWord_0 : decode cX5_kindOfWord 0 = .ok (.aload_n 0, 1) := dAX5_kindOfWord (0, (.aload_n 0, 1)) (List.mem_of_getElem? (i := 0) rfl)
theorem dX5_kindOfWord_1 : decode cX5_kindOfWord 1 = .ok (.getfield 28, 3) := dAX5_kindOfWord (1, (.getfield 28, 3)) (List.mem_of_getElem? (i := 1) rfl)
theorem dX5_kindOfWord_4 : decode cX5_kindOfWord 4 = .ok (.iconst 1, 1) := dAX5_kindOfWord (4, (.iconst 1, 1)) (List.mem_of_getElem? (i := 2) rfl)
theorem dX5_kindOfWord_5 : decode cX5_kindOfWord 5 = .ok (.if_icmp .eq 5, 3) := dAX5_kindOfWord (5, (.if_icmp .eq 5, 3)) (List.mem_of_getElem? (i := 3) rfl)
theorem dX5_kindOfWord_8 : decode cX5_kindOfWord 8 = .ok (.iconst (-1), 1) := dAX5_kindOfWord (8, (.iconst (-1), 1)) (List.mem_of_getElem? (i := 4) rfl)
theorem dX5_kindOfWord_9 : decode cX5_kindOfWord 9 = .ok (.ireturn, 1) := dAX5_kindOfWord (9, (.ireturn, 1)) (List.mem_of_getElem? (i := 5) rfl)
theorem dX5_kindOfWord_10 : decode cX5_kindOfWord 10 = .ok (.aload_n 0, 1) := dAX5_kindOfWord (10, (.aload_n 0, 1)) (List.mem_of_getElem? (i := 6) rfl)
theorem dX5_kindOfWord_11 : decode cX5_kindOfWord 11 = .ok (.getfield 40, 3) := dAX5_kindOfWord (11, (.getfield 40, 3)) (List.mem_of_getElem? (i := 7) rfl)
theorem dX5_kindOfWord_14 : decode cX5_kindOfWord 14 = .ok (.ldc2_w 269, 3) := dAX5_kindOfWord (14, (.ldc2_w 269, 3)) (List.mem_of_getElem? (i := 8) rfl)
theorem dX5_kindOfWord_17 : decode cX5_kindOfWord 17 = .ok (.lcmp, 1) := dAX5_kindOfWord (17, (.lcmp, 1)) (List.mem_of_getElem? (i := 9) rfl)
theorem dX5_kindOfWord_18 : decode cX5_kindOfWord 18 = .ok (.ifCond .ne 5, 3) := dAX5_kindOfWord (18, (.ifCond .ne 5, 3)) (List.mem_of_getElem? (i := 10) rfl)
theorem dX5_kindOfWord_21 : decode cX5_kindOfWord 21 = .ok (.iconst 0, 1) := dAX5_kindOfWord (21, (.iconst 0, 1)) (List.mem_of_getElem? (i := 11) rfl)
theorem dX5_kindOfWord_22 : decode cX5_kindOfWord 22 = .ok (.ireturn, 1) := dAX5_kindOfWord (22, (.ireturn, 1)) (List.mem_of_getElem? (i := 12) rfl)
theorem dX5_kindOfWord_23 : decode cX5_kindOfWord 23 = .ok (.aload_n 0, 1) := dAX5_kindOfWord (23, (.aload_n 0, 1)) (List.mem_of_getElem? (i := 13) rfl)
theorem dX5_kindOfWord_24 : decode cX5_kindOfWord 24 = .ok (.getfield 40, 3) := dAX5_kindOfWord (24, (.getfield 40, 3)) (List.mem_of_getElem? (i := 14) rfl)
theorem dX5_kindOfWord_27 : decode cX5_kindOfWord 27 = .ok (.ldc2_w 271, 3) := dAX5_kindOfWord (27, (.ldc2_w 271, 3)) (List.mem_of_getElem? (i := 15) rfl)
theorem dX5_kindOfWord_30 : decode cX5_kindOfWord 30 = .ok (.lcmp, 1) := dAX5_kindOfWord (30, (.lcmp, 1)) (List.mem_of_getElem? (i := 16) rfl)
theorem dX5_kindOfWord_31 : decode cX5_kindOfWord 31 = .ok (.ifCond .ne 5, 3) := dAX5_kindOfWord (31, (.ifCond .ne 5, 3)) (List.mem_of_getElem? (i := 17) rfl)
theorem dX5_kindOfWord_34 : decode cX5_kindOfWord 34 = .ok (.iconst 1, 1) := dAX5_kindOfWord (34, (.iconst 1, 1)) (List.mem_of_getElem? (i := 18) rfl)
theorem dX5_kindOfWord_35 : decode cX5_kindOfWord 35 = .ok (.ireturn, 1) := dAX5_kindOfWord (35, (.ireturn, 1)) (List.mem_of_getElem? (i := 19) rfl)
theorem dX5_kindOfWord_36 : decode cX5_kindOfWord 36 = .ok (.aload_n 0, 1) := dAX5_kindOfWord (36, (.aload_n 0, 1)) (List.mem_of_getElem? (i := 20) rfl)
theorem dX5_kindOfWord_37 : decode cX5_kindOfWord 37 = .ok (.getfield 40, 3) := dAX5_kindOfWord (37, (.getfield 40, 3)) (List.mem_of_getElem? (i := 21) rfl)
theorem dX5_kindOfWord_40 : decode cX5_kindOfWord 40 = .ok (.ldc2_w 273, 3) := dAX5_kindOfWord (40, (.ldc2_w 273, 3)) (List.mem_of_getElem? (i := 22) rfl)
theorem dX5_kindOfWord_43 : decode cX5_kindOfWord 43 = .ok (.lcmp, 1) := dAX5_kindOfWord (43, (.lcmp, 1)) (List.mem_of_getElem? (i := 23) rfl)
theorem dX5_kindOfWord_44 : decode cX5_kindOfWord 44 = .ok (.ifCond .ne 5, 3) := dAX5_kindOfWord (44, (.ifCond .ne 5, 3)) (List.mem_of_getElem? (i := 24) rfl)
theorem dX5_kindOfWord_47 : decode cX5_kindOfWord 47 = .ok (.iconst 2, 1) := dAX5_kindOfWord (47, (.iconst 2, 1)) (List.mem_of_getElem? (i := 25) rfl)
theorem dX5_kindOfWord_48 : decode cX5_kindOfWord 48 = .ok (.ireturn, 1) := dAX5_kindOfWord (48, (.ireturn, 1)) (List.mem_of_getElem? (i := 26) rfl)
theorem dX5_kindOfWord_49 : decode cX5_kindOfWord 49 = .ok (.aload_n 0, 1) := dAX5_kindOfWord (49, (.aload_n 0, 1)) (List.mem_of_getElem? (i := 27) rfl)
theorem dX5_kindOfWord_50 : decode cX5_kindOfWord 50 = .ok (.getfield 40, 3) := dAX5_kindOfWord (50, (.getfield 40, 3)) (List.mem_of_getElem? (i := 28) rfl)
theorem dX5_kindOfWord_53 : decode cX5_kindOfWord 53 = .ok (.ldc2_w 275, 3) := dAX5_kindOfWord (53, (.ldc2_w 275, 3)) (List.mem_of_getElem? (i := 29) rfl)
theorem dX5_kindOfWord_56 : decode cX5_kindOfWord 56 = .ok (.lcmp, 1) := dAX5_kindOfWord (56, (.lcmp, 1)) (List.mem_of_getElem? (i := 30) rfl)
theorem dX5_kindOfWord_57 : decode cX5_kindOfWord 57 = .ok (.ifCond .ne 7, 3) := dAX5_kindOfWord (57, (.ifCond .ne 7, 3)) (List.mem_of_getElem? (i := 31) rfl)
theorem dX5_kindOfWord_60 : decode cX5_kindOfWord 60 = .ok (.iconst 3, 1) := dAX5_kindOfWord (60, (.iconst 3, 1)) (List.mem_of_getElem? (i := 32) rfl)
theorem dX5_kindOfWord_61 : decode cX5_kindOfWord 61 = .ok (.goto 4, 3) := dAX5_kindOfWord (61, (.goto 4, 3)) (List.mem_of_getElem? (i := 33) rfl)
theorem dX5_kindOfWord_64 : decode cX5_kindOfWord 64 = .ok (.iconst (-1), 1) := dAX5_kindOfWord (64, (.iconst (-1), 1)) (List.mem_of_getElem? (i := 34) rfl)
theorem dX5_kindOfWord_65 : decode cX5_kindOfWord 65 = .ok (.ireturn, 1) := dAX5_kindOfWord (65, (.ireturn, 1)) (List.mem_of_getElem? (i := 35) rfl)
theorem kX5_kindOfWord_28 : Cond.fieldLink RX5 28 "EveningVow$Reader" "sort" "I" ∈ wsX5_kindOfWord := List.mem_of_getElem? (i := 1) rfl
theorem iX5_kindOfWord_X5 : ∀ w ∈ u_ws RX5 TX5 15, w ∈ wsX5_kindOfWord := fun w h => (List.mem_cons_of_mem _ (List.mem_append_right _ h))
theorem kX5_kindOfWord_40 : Cond.fieldLink RX5 40 "EveningVow$Reader" "code" "J" ∈ wsX5_kindOfWord := List.mem_of_getElem? (i := 2) rfl
theorem kX5_kindOfWord_269 : Cond.constantLong RX5 269 (482854660462 : Int64) ∈ wsX5_kindOfWord := by decide +kernel
theorem kX5_kindOfWord_271 : Cond.constantLong RX5 271 (123623862531173 : Int64) ∈ wsX5_kindOfWord := by decide +kernel
theorem kX5_kindOfWord_273 : Cond.constantLong RX5 273 (448445703524 : Int64) ∈ wsX5_kindOfWord := by decide +kernel
theorem kX5_kindOfWord_275 : Cond.constantLong RX5 275 (7525353784737100659 : Int64) ∈ wsX5_kindOfWord := by decide +kernel
set_option maxHeartbeats 4000000 in
set_option maxRecDepth 100000 in
theorem mX5_kindOfWord (l : Launch) (g : GG) (a_t : Nat) (p_t : Nat → Nat) (n : Nat) (o_t : Nat → Int32) (c_t : Int64) (r : Int32) (hF : fX5_kindOfWord n o_t c_t = some (r)) : MI l g yX5_kindOfWord wsX5_kindOfWord ({ frames := 0, cells := 0, slots := 0, locals := 0 } : Room) [.ref a_t] [oX5 a_t p_t o_t c_t] r [oX5 a_t p_t o_t c_t] := by
  refine MI.of (cc := cX5_kindOfWord) (maxL := 1) (rt := .int) (own := RX5) rfl rfl (by decide) (Nat.le_of_ble_eq_true rfl) ?_
  intro p e s m args below meth c A C0 hP hD hS ls hl
  obtain ⟨hx, hb, hml, hown, hts, hr, hlk, hK, hA, hSW⟩ := id C0
  have hl : lv_has ls 1 [(0, .ref a_t)] := hl
  rw [fX5_kindOfWord] at hF
  refine lv_aload_n hx hb dX5_kindOfWord_0 rfl (lv_at hl 0 rfl) ?_
  refine va_get (D := g.1) (ci := 5) (v := .int (o_t 5)) (C := RX5) (T := TX5) (N := 15) hx hb hts iX5_kindOfWord_X5 hown hK.1 hP 0 rfl rfl 5 (by decide) (hts _ kX5_kindOfWord_28) (fun _ h9 => h9) rfl dX5_kindOfWord_1 ?_
  refine lv_iconst (v := (1 : Int32)) hx hb dX5_kindOfWord_4 (by decide) ?_
  refine lv_icmp_eq (tgt := 10) hx hb dX5_kindOfWord_5 (by decide) (fun c_1 => ?_) (fun c_1 => ?_)
  · have hF := it_p c_1 hF
    refine lv_aload_n hx hb dX5_kindOfWord_10 rfl (lv_at hl 0 rfl) ?_
    refine va_get (D := g.1) (ci := 5) (v := .long c_t) (C := RX5) (T := TX5) (N := 15) hx hb hts iX5_kindOfWord_X5 hown hK.1 hP 0 rfl rfl 9 (by decide) (hts _ kX5_kindOfWord_40) (fun _ h9 => h9) rfl dX5_kindOfWord_11 ?_
    refine lv_ldc2 (v := (482854660462 : Int64)) hx hb hown (hts _ kX5_kindOfWord_269) dX5_kindOfWord_14 ?_
    refine W.lcmp hx hb dX5_kindOfWord_17 ?_
    refine lv_if_ne (tgt := 23) hx hb dX5_kindOfWord_18 (by decide) (fun c_2 => ?_) (fun c_2 => ?_)
    · have hF := it_n c_2 hF
      refine lv_aload_n hx hb dX5_kindOfWord_23 rfl (lv_at hl 0 rfl) ?_
      refine va_get (D := g.1) (ci := 5) (v := .long c_t) (C := RX5) (T := TX5) (N := 15) hx hb hts iX5_kindOfWord_X5 hown hK.1 hP 0 rfl rfl 9 (by decide) (hts _ kX5_kindOfWord_40) (fun _ h9 => h9) rfl dX5_kindOfWord_24 ?_
      refine lv_ldc2 (v := (123623862531173 : Int64)) hx hb hown (hts _ kX5_kindOfWord_271) dX5_kindOfWord_27 ?_
      refine W.lcmp hx hb dX5_kindOfWord_30 ?_
      refine lv_if_ne (tgt := 36) hx hb dX5_kindOfWord_31 (by decide) (fun c_3 => ?_) (fun c_3 => ?_)
      · have hF := it_n c_3 hF
        refine lv_aload_n hx hb dX5_kindOfWord_36 rfl (lv_at hl 0 rfl) ?_
        refine va_get (D := g.1) (ci := 5) (v := .long c_t) (C := RX5) (T := TX5) (N := 15) hx hb hts iX5_kindOfWord_X5 hown hK.1 hP 0 rfl rfl 9 (by decide) (hts _ kX5_kindOfWord_40) (fun _ h9 => h9) rfl dX5_kindOfWord_37 ?_
        refine lv_ldc2 (v := (448445703524 : Int64)) hx hb hown (hts _ kX5_kindOfWord_273) dX5_kindOfWord_40 ?_
        refine W.lcmp hx hb dX5_kindOfWord_43 ?_
        refine lv_if_ne (tgt := 49) hx hb dX5_kindOfWord_44 (by decide) (fun c_4 => ?_) (fun c_4 => ?_)
        · have hF := it_n c_4 hF
          refine lv_aload_n hx hb dX5_kindOfWord_49 rfl (lv_at hl 0 rfl) ?_
          refine va_get (D := g.1) (ci := 5) (v := .long c_t) (C := RX5) (T := TX5) (N := 15) hx hb hts iX5_kindOfWord_X5 hown hK.1 hP 0 rfl rfl 9 (by decide) (hts _ kX5_kindOfWord_40) (fun _ h9 => h9) rfl dX5_kindOfWord_50 ?_
          refine lv_ldc2 (v := (7525353784737100659 : Int64)) hx hb hown (hts _ kX5_kindOfWord_275) dX5_kindOfWord_53 ?_
          refine W.lcmp hx hb dX5_kindOfWord_56 ?_
          refine lv_if_ne (tgt := 64) hx hb dX5_kindOfWord_57 (by decide) (fun c_5 => ?_) (fun c_5 => ?_)
          · have hF := it_n c_5 hF
            refine lv_iconst (v := (-1 : Int32)) hx hb dX5_kindOfWord_64 (by decide) ?_
            cases hF
            exact ret_i C0 hP hD hS [0] rfl rfl rfl dX5_kindOfWord_65 rfl
          · have hF := it_p c_5 hF
            refine lv_iconst (v := (3 : Int32)) hx hb dX5_kindOfWord_60 (by decide) ?_
            refine lv_goto (tgt := 65) hx hb dX5_kindOfWord_61 (by decide) ?_
            cases hF
            exact ret_i C0 hP hD hS [0] rfl rfl rfl dX5_kindOfWord_65 rfl
        · have hF := it_p c_4 hF
          refine lv_iconst (v := (2 : Int32)) hx hb dX5_kindOfWord_47 (by decide) ?_
          cases hF
          exact ret_i C0 hP hD hS [0] rfl rfl rfl dX5_kindOfWord_48 rfl
      · have hF := it_p c_3 hF
        refine lv_iconst (v := (1 : Int32)) hx hb dX5_kindOfWord_34 (by decide) ?_
        cases hF
        exact ret_i C0 hP hD hS [0] rfl rfl rfl dX5_kindOfWord_35 rfl
    · have hF := it_p c_2 hF
      refine lv_iconst (v := (0 : Int32)) hx hb dX5_kindOfWord_21 (by decide) ?_
      cases hF
      exact ret_i C0 hP hD hS [0] rfl rfl rfl dX5_kindOfWord_22 rfl
  · have hF := it_n c_1 hF
    refine lv_iconst (v := (-1 : Int32)) hx hb dX5_kindOfWord_8 (by decide) ?_
    cases hF
    exact ret_i C0 hP hD hS [0] rfl rfl rfl dX5_kindOfWord_9 rfl

theorem dAX5_takeKind : ∀ q ∈ ([(0, (.aload_n 0, 1)), (1, (.invokevirtual 244, 3)), (4, (.istore_n 1, 1)), (5, (.iload_n 1, 1)), (6, (.iconst (-1), 1)), (7, (.if_icmp .ne 9, 3)), (10, (.aload_n 0, 1)), (11, (.iconst 1, 1)), (12, (.invokevirtual 89, 3)), (15, (.pop, 1)), (16, (.aload_n 0, 1)), (17, (.iload_n 1, 1)), (18, (.invokevirtual 132, 3)), (21, (.ireturn, 1))] : List (Nat × (Instr × Nat))), decode cX5_takeKind q.1 = .ok q.2 := by decide +kernel
theorem dX5_takeKind_0 : decode cX5_takeKind 0 = .ok (.aload_n 0, 1) := dAX5_takeKind (0, (.aload_n 0, 1)) (List.mem_of_getElem? (i := 0) rfl)
theorem dX5_takeKind_1 : decode cX5_takeKind 1 = .ok (.invokevirtual 244, 3) := dAX5_takeKind (1, (.invokevirtual 244, 3)) (List.mem_of_getElem? (i := 1) rfl)
theorem dX5_takeKind_4 : decode cX5_takeKind 4 = .ok (.istore_n 1, 1) := dAX5_takeKind (4, (.istore_n 1, 1)) (List.mem_of_getElem? (i := 2) rfl)
theorem dX5_takeKind_5 : decode cX5_takeKind 5 = .ok (.iload_n 1, 1) := dAX5_takeKind (5, (.iload_n 1, 1)) (List.mem_of_getElem? (i := 3) rfl)
theorem dX5_takeKind_6 : decode cX5_takeKind 6 = .ok (.iconst (-1), 1) := dAX5_takeKind (6, (.iconst (-1), 1)) (List.mem_of_getElem? (i := 4) rfl)
theorem dX5_takeKind_7 : decode cX5_takeKind 7 = .ok (.if_icmp .ne 9, 3) := dAX5_takeKind (7, (.if_icmp .ne 9, 3)) (List.mem_of_getElem? (i := 5) rfl)
theorem dX5_takeKind_10 : decode cX5_takeKind 10 = .ok (.aload_n 0, 1) := dAX5_takeKind (10, (.aload_n 0, 1)) (List.mem_of_getElem? (i := 6) rfl)
theorem dX5_takeKind_11 : decode cX5_takeKind 11 = .ok (.iconst 1, 1) := dAX5_takeKind (11, (.iconst 1, 1)) (List.mem_of_getElem? (i := 7) rfl)
theorem dX5_takeKind_12 : decode cX5_takeKind 12 = .ok (.invokevirtual 89, 3) := dAX5_takeKind (12, (.invokevirtual 89, 3)) (List.mem_of_getElem? (i := 8) rfl)
theorem dX5_takeKind_15 : decode cX5_takeKind 15 = .ok (.pop, 1) := dAX5_takeKind (15, (.pop, 1)) (List.mem_of_getElem? (i := 9) rfl)
theorem dX5_takeKind_16 : decode cX5_takeKind 16 = .ok (.aload_n 0, 1) := dAX5_takeKind (16, (.aload_n 0, 1)) (List.mem_of_getElem? (i := 10) rfl)
theorem dX5_takeKind_17 : decode cX5_takeKind 17 = .ok (.iload_n 1, 1) := dAX5_takeKind (17, (.iload_n 1, 1)) (List.mem_of_getElem? (i := 11) rfl)
theorem dX5_takeKind_18 : decode cX5_takeKind 18 = .ok (.invokevirtual 132, 3) := dAX5_takeKind (18, (.invokevirtual 132, 3)) (List.mem_of_getElem? (i := 12) rfl)
theorem dX5_takeKind_21 : decode cX5_takeKind 21 = .ok (.ireturn, 1) := dAX5_takeKind (21, (.ireturn, 1)) (List.mem_of_getElem? (i := 13) rfl)
set_option maxRecDepth 20000 in
theorem ggX5_takeKind_X5_kindOfWord : GoodIn wsX5_takeKind wsX5_kindOfWord := goodIn_r _ [5, 6, 7, 8, 9, 10, 11, 43, 44, 45, 46, 47, 48, 49, 50, 51, 52, 53, 54, 55, 56, 57] rfl (by decide +kernel)
set_option maxRecDepth 20000 in
theorem gX5_takeKind_X5_kindOfWord : GoodIn wsX5_takeKind (wsV RX5 244 RX5 yX5_kindOfWord wsX5_kindOfWord) := goodIn_app (goodIn_of _ (by decide +kernel)) ggX5_takeKind_X5_kindOfWord
set_option maxRecDepth 20000 in
theorem ggX5_takeKind_X5_fail : GoodIn wsX5_takeKind wsX5_fail := goodIn_r _ [15, 16, 17, 18, 19, 20, 21, 4, 22, 43, 44, 45, 46, 47, 48, 49, 50, 51, 52, 53, 54, 55, 56, 57] rfl (by decide +kernel)
set_option maxRecDepth 20000 in
theorem gX5_takeKind_X5_fail : GoodIn wsX5_takeKind (wsV RX5 89 RX5 yX5_fail wsX5_fail) := goodIn_app (goodIn_of _ (by decide +kernel)) ggX5_takeKind_X5_fail
set_option maxRecDepth 20000 in
theorem ggX5_takeKind_X5_taken : GoodIn wsX5_takeKind wsX5_taken := goodIn_r _ [26, 19, 20, 21, 4, 22, 16, 27, 28, 29, 30, 31, 17, 32, 33, 6, 34, 35, 36, 37, 7, 38, 39, 40, 41, 42, 43, 44, 45, 46, 47, 48, 49, 50, 51, 52, 53, 54, 55, 56, 57] rfl (by decide +kernel)
set_option maxRecDepth 20000 in
theorem gX5_takeKind_X5_taken : GoodIn wsX5_takeKind (wsV RX5 132 RX5 yX5_taken wsX5_taken) := goodIn_app (goodIn_of _ (by decide +kernel)) ggX5_takeKind_X5_taken
set_option maxHeartbeats 4000000 in
set_option maxRecDepth 100000 in
theorem mX5_takeKind (l : Launch) (g : GG) (a_t : Nat) (p_t : Nat → Nat) (n : Nat) (o_t : Nat → Int32) (c_t : Int64) (f_t_0 : Nat → Int32) (r : Int32) (o_t' : Nat → Int32) (c_t' : Int64) (hF : fX5_takeKind n o_t c_t f_t_0 = some (r, o_t', c_t')) : MI l g yX5_takeKind wsX5_takeKind ({ frames := 3, cells := 0, slots := 0, locals := 61 } : Room) [.ref a_t] [oX5 a_t p_t o_t c_t, aI g (p_t 0) 800 f_t_0] r [oX5 a_t p_t o_t' c_t', aI g (p_t 0) 800 f_t_0] := by
  refine MI.of (cc := cX5_takeKind) (maxL := 2) (rt := .int) (own := RX5) rfl rfl (by decide) (Nat.le_of_ble_eq_true rfl) ?_
  intro p e s m args below meth c A C0 hP hD hS ls hl
  obtain ⟨hx, hb, hml, hown, hts, hr, hlk, hK, hA, hSW⟩ := id C0
  have hl : lv_has ls 2 [(0, .ref a_t)] := hl
  rw [fX5_takeKind] at hF
  refine lv_aload_n hx hb dX5_takeKind_0 rfl (lv_at hl 0 rfl) ?_
  obtain ⟨u_1, hu_2, hF⟩ := ob1_some hF
  refine call_i (wr := [aI g (p_t 0) 800 f_t_0]) (As := []) (rest := []) (ci := 5) (q0 := 0) C0 (mX5_kindOfWord l g a_t p_t n o_t c_t u_1 hu_2) (cwV 0 hts gX5_takeKind_X5_kindOfWord rfl rfl rfl (by decide +kernel) ⟨Nat.le_of_ble_eq_true rfl, Nat.le_of_ble_eq_true rfl⟩) hP hD hS [0] [1] rfl rfl rfl rfl rfl (by decide) rfl rfl hl.1 rfl rfl (Nat.le_of_ble_eq_true rfl) ⟨Nat.zero_le _, Nat.zero_le _⟩ dX5_takeKind_1 ?_
  intro H locs hP hD hS
  refine lv_istore_n (lv' := [(1, .int u_1), (0, .ref a_t)]) hx hb dX5_takeKind_4 rfl hl (by decide) rfl (fun ls hl => ?_)
  refine lv_iload_n hx hb dX5_takeKind_5 rfl (lv_at hl 0 rfl) ?_
  refine lv_iconst (v := (-1 : Int32)) hx hb dX5_takeKind_6 (by decide) ?_
  refine lv_icmp_ne (tgt := 16) hx hb dX5_takeKind_7 (by decide) (fun c_3 => ?_) (fun c_3 => ?_)
  · have hF := it_n c_3 hF
    refine lv_aload_n hx hb dX5_takeKind_16 rfl (lv_at hl 1 rfl) ?_
    refine lv_iload_n hx hb dX5_takeKind_17 rfl (lv_at hl 0 rfl) ?_
    obtain ⟨u_4, u_5, u_6, hu_7, hF⟩ := ob3_some hF
    refine call_i (wr := []) (As := [.int u_1]) (rest := []) (ci := 5) (q0 := 0) C0 (mX5_taken l g a_t p_t n u_1 o_t c_t f_t_0 u_4 u_5 u_6 hu_7) (cwV 1 hts gX5_takeKind_X5_taken rfl rfl rfl (by decide +kernel) ⟨Nat.le_of_ble_eq_true rfl, Nat.le_of_ble_eq_true rfl⟩) hP hD hS [1, 0] [] rfl rfl rfl rfl rfl (by decide) rfl rfl hl.1 rfl rfl (Nat.le_of_ble_eq_true rfl) ⟨Nat.zero_le _, Nat.zero_le _⟩ dX5_takeKind_18 ?_
    intro H locs hP hD hS
    cases hF
    exact ret_i C0 hP hD hS [0, 1] rfl rfl rfl dX5_takeKind_21 rfl
  · have hF := it_p c_3 hF
    refine lv_aload_n hx hb dX5_takeKind_10 rfl (lv_at hl 1 rfl) ?_
    refine lv_iconst (v := (1 : Int32)) hx hb dX5_takeKind_11 (by decide) ?_
    obtain ⟨u_8, u_9, u_10, hu_11, hF⟩ := ob3_some hF
    refine call_i (wr := [aI g (p_t 0) 800 f_t_0]) (As := [.int (1 : Int32)]) (rest := []) (ci := 5) (q0 := 0) C0 (mX5_fail l g a_t p_t n (1 : Int32) o_t c_t u_8 u_9 u_10 hu_11) (cwV 1 hts gX5_takeKind_X5_fail rfl rfl rfl (by decide +kernel) ⟨Nat.le_of_ble_eq_true rfl, Nat.le_of_ble_eq_true rfl⟩) hP hD hS [1] [0] rfl rfl rfl rfl rfl (by decide) rfl rfl hl.1 rfl rfl (Nat.le_of_ble_eq_true rfl) ⟨Nat.zero_le _, Nat.zero_le _⟩ dX5_takeKind_12 ?_
    intro H locs hP hD hS
    refine lv_pop hx hb dX5_takeKind_15 rfl ?_
    refine lv_aload_n hx hb dX5_takeKind_16 rfl (lv_at hl 1 rfl) ?_
    refine lv_iload_n hx hb dX5_takeKind_17 rfl (lv_at hl 0 rfl) ?_
    obtain ⟨u_12, u_13, u_14, hu_15, hF⟩ := ob3_some hF
    refine call_i (wr := []) (As := [.int u_1]) (rest := []) (ci := 5) (q0 := 0) C0 (mX5_taken l g a_t p_t n u_1 u_9 u_10 f_t_0 u_12 u_13 u_14 hu_15) (cwV 1 hts gX5_takeKind_X5_taken rfl rfl rfl (by decide +kernel) ⟨Nat.le_of_ble_eq_true rfl, Nat.le_of_ble_eq_true rfl⟩) hP hD hS [1, 0] [] rfl rfl rfl rfl rfl (by decide) rfl rfl hl.1 rfl rfl (Nat.le_of_ble_eq_true rfl) ⟨Nat.zero_le _, Nat.zero_le _⟩ dX5_takeKind_18 ?_
    intro H locs hP hD hS
    cases hF
    exact ret_i C0 hP hD hS [0, 1] rfl rfl rfl dX5_takeKind_21 rfl

theorem dAX5_readGuest : ∀ q ∈ ([(0, (.aload_n 1, 1)), (1, (.getfield 86, 3)), (4, (.istore_n 2, 1)), (5, (.aload_n 0, 1)), (6, (.iconst 1, 1)), (7, (.iload_n 2, 1)), (8, (.invokevirtual 168, 3)), (11, (.aload_n 1, 1)), (12, (.getfield 172, 3)), (15, (.iload_n 2, 1)), (16, (.aload_n 0, 1)), (17, (.invokevirtual 175, 3)), (20, (.iastore, 1)), (21, (.aload_n 1, 1)), (22, (.getfield 178, 3)), (25, (.iload_n 2, 1)), (26, (.aload_n 0, 1)), (27, (.ldc2_w 181, 3)), (30, (.iconst 1, 1)), (31, (.bipush 99, 2)), (33, (.invokevirtual 151, 3)), (36, (.iastore, 1)), (37, (.aload_n 1, 1)), (38, (.getfield 183, 3)), (41, (.iload_n 2, 1)), (42, (.aload_n 0, 1)), (43, (.ldc2_w 186, 3)), (46, (.iconst 0, 1)), (47, (.bipush 20, 2)), (49, (.invokevirtual 151, 3)), (52, (.iastore, 1)), (53, (.aload_n 1, 1)), (54, (.getfield 188, 3)), (57, (.iload_n 2, 1)), (58, (.bipush (-2), 2)), (60, (.iastore, 1)), (61, (.aload_n 1, 1)), (62, (.dup, 1)), (63, (.getfield 86, 3)), (66, (.iconst 1, 1)), (67, (.iadd, 1)), (68, (.putfield 86, 3)), (71, (.return_, 1))] : List (Nat × (Instr × Nat))), decode cX5_readGuest q.1 = .ok q.2 := by decide +kernel
theorem dX5_readGuest_0 : decode cX5_readGuest 0 = .ok (.aload_n 1, 1) := dAX5_readGuest (0, (.aload_n 1, 1)) (List.mem_of_getElem? (i := 0) rfl)
theorem dX5_readGuest_1 : decode cX5_readGuest 1 = .ok (.getfield 86, 3) := dAX5_readGuest (1, (.getfield 86, 3)) (List.mem_of_getElem? (i := 1) rfl)
theorem dX5_readGuest_4 : decode cX5_readGuest 4 = .ok (.istore_n 2, 1) := dAX5_readGuest (4, (.istore_n 2, 1)) (List.mem_of_getElem? (i := 2) rfl)
theorem dX5_readGuest_5 : decode cX5_readGuest 5 = .ok (.aload_n 0, 1) := dAX5_readGuest (5, (.aload_n 0, 1)) (List.mem_of_getElem? (i := 3) rfl)
theorem dX5_readGuest_6 : decode cX5_readGuest 6 = .ok (.iconst 1, 1) := dAX5_readGuest (6, (.iconst 1, 1)) (List.mem_of_getElem? (i := 4) rfl)
theorem dX5_readGuest_7 : decode cX5_readGuest 7 = .ok (.iload_n 2, 1) := dAX5_readGuest (7, (.iload_n 2, 1)) (List.mem_of_getElem? (i := 5) rfl)
theorem dX5_readGuest_8 : decode cX5_readGuest 8 = .ok (.invokevirtual 168, 3) := dAX5_readGuest (8, (.invokevirtual 168, 3)) (List.mem_of_getElem? (i := 6) rfl)
theorem dX5_readGuest_11 : decode cX5_readGuest 11 = .ok (.aload_n 1, 1) := dAX5_readGuest (11, (.aload_n 1, 1)) (List.mem_of_getElem? (i := 7) rfl)
theorem dX5_readGuest_12 : decode cX5_readGuest 12 = .ok (.getfield 172, 3) := dAX5_readGuest (12, (.getfield 172, 3)) (List.mem_of_getElem? (i := 8) rfl)
theorem dX5_readGuest_15 : decode cX5_readGuest 15 = .ok (.iload_n 2, 1) := dAX5_readGuest (15, (.iload_n 2, 1)) (List.mem_of_getElem? (i := 9) rfl)
theorem dX5_readGuest_16 : decode cX5_readGuest 16 = .ok (.aload_n 0, 1) := dAX5_readGuest (16, (.aload_n 0, 1)) (List.mem_of_getElem? (i := 10) rfl)
theorem dX5_readGuest_17 : decode cX5_readGuest 17 = .ok (.invokevirtual 175, 3) := dAX5_readGuest (17, (.invokevirtual 175, 3)) (List.mem_of_getElem? (i := 11) rfl)
theorem dX5_readGuest_20 : decode cX5_readGuest 20 = .ok (.iastore, 1) := dAX5_readGuest (20, (.iastore, 1)) (List.mem_of_getElem? (i := 12) rfl)
theorem dX5_readGuest_21 : decode cX5_readGuest 21 = .ok (.aload_n 1, 1) := dAX5_readGuest (21, (.aload_n 1, 1)) (List.mem_of_getElem? (i := 13) rfl)
theorem dX5_readGuest_22 : decode cX5_readGuest 22 = .ok (.getfield 178, 3) := dAX5_readGuest (22, (.getfield 178, 3)) (List.mem_of_getElem? (i := 14) rfl)
theorem dX5_readGuest_25 : decode cX5_readGuest 25 = .ok (.iload_n 2, 1) := dAX5_readGuest (25, (.iload_n 2, 1)) (List.mem_of_getElem? (i := 15) rfl)
theorem dX5_readGuest_26 : decode cX5_readGuest 26 = .ok (.aload_n 0, 1) := dAX5_readGuest (26, (.aload_n 0, 1)) (List.mem_of_getElem? (i := 16) rfl)
theorem dX5_readGuest_27 : decode cX5_readGuest 27 = .ok (.ldc2_w 181, 3) := dAX5_readGuest (27, (.ldc2_w 181, 3)) (List.mem_of_getElem? (i := 17) rfl)
theorem dX5_readGuest_30 : decode cX5_readGuest 30 = .ok (.iconst 1, 1) := dAX5_readGuest (30, (.iconst 1, 1)) (List.mem_of_getElem? (i := 18) rfl)
theorem dX5_readGuest_31 : decode cX5_readGuest 31 = .ok (.bipush 99, 2) := dAX5_readGuest (31, (.bipush 99, 2)) (List.mem_of_getElem? (i := 19) rfl)
theorem dX5_readGuest_33 : decode cX5_readGuest 33 = .ok (.invokevirtual 151, 3) := dAX5_readGuest (33, (.invokevirtual 151, 3)) (List.mem_of_getElem? (i := 20) rfl)
theorem dX5_readGuest_36 : decode cX5_readGuest 36 = .ok (.iastore, 1) := dAX5_readGuest (36, (.iastore, 1)) (List.mem_of_getElem? (i := 21) rfl)
theorem dX5_readGuest_37 : decode cX5_readGuest 37 = .ok (.aload_n 1, 1) := dAX5_readGuest (37, (.aload_n 1, 1)) (List.mem_of_getElem? (i := 22) rfl)
theorem dX5_readGuest_38 : decode cX5_readGuest 38 = .ok (.getfield 183, 3) := dAX5_readGuest (38, (.getfield 183, 3)) (List.mem_of_getElem? (i := 23) rfl)
theorem dX5_readGuest_41 : decode cX5_readGuest 41 = .ok (.iload_n 2, 1) := dAX5_readGuest (41, (.iload_n 2, 1)) (List.mem_of_getElem? (i := 24) rfl)
theorem dX5_readGuest_42 : decode cX5_readGuest 42 = .ok (.aload_n 0, 1) := dAX5_readGuest (42, (.aload_n 0, 1)) (List.mem_of_getElem? (i := 25) rfl)
theorem dX5_readGuest_43 : decode cX5_readGuest 43 = .ok (.ldc2_w 186, 3) := dAX5_readGuest (43, (.ldc2_w 186, 3)) (List.mem_of_getElem? (i := 26) rfl)
theorem dX5_readGuest_46 : decode cX5_readGuest 46 = .ok (.iconst 0, 1) := dAX5_readGuest (46, (.iconst 0, 1)) (List.mem_of_getElem? (i := 27) rfl)
theorem dX5_readGuest_47 : decode cX5_readGuest 47 = .ok (.bipush 20, 2) := dAX5_readGuest (47, (.bipush 20, 2)) (List.mem_of_getElem? (i := 28) rfl)
theorem dX5_readGuest_49 : decode cX5_readGuest 49 = .ok (.invokevirtual 151, 3) := dAX5_readGuest (49, (.invokevirtual 151, 3)) (List.mem_of_getElem? (i := 29) rfl)
theorem dX5_readGuest_52 : decode cX5_readGuest 52 = .ok (.iastore, 1) := dAX5_readGuest (52, (.iastore, 1)) (List.mem_of_getElem? (i := 30) rfl)
theorem dX5_readGuest_53 : decode cX5_readGuest 53 = .ok (.aload_n 1, 1) := dAX5_readGuest (53, (.aload_n 1, 1)) (List.mem_of_getElem? (i := 31) rfl)
theorem dX5_readGuest_54 : decode cX5_readGuest 54 = .ok (.getfield 188, 3) := dAX5_readGuest (54, (.getfield 188, 3)) (List.mem_of_getElem? (i := 32) rfl)
theorem dX5_readGuest_57 : decode cX5_readGuest 57 = .ok (.iload_n 2, 1) := dAX5_readGuest (57, (.iload_n 2, 1)) (List.mem_of_getElem? (i := 33) rfl)
theorem dX5_readGuest_58 : decode cX5_readGuest 58 = .ok (.bipush (-2), 2) := dAX5_readGuest (58, (.bipush (-2), 2)) (List.mem_of_getElem? (i := 34) rfl)
theorem dX5_readGuest_60 : decode cX5_readGuest 60 = .ok (.iastore, 1) := dAX5_readGuest (60, (.iastore, 1)) (List.mem_of_getElem? (i := 35) rfl)
theorem dX5_readGuest_61 : decode cX5_readGuest 61 = .ok (.aload_n 1, 1) := dAX5_readGuest (61, (.aload_n 1, 1)) (List.mem_of_getElem? (i := 36) rfl)
theorem dX5_readGuest_62 : decode cX5_readGuest 62 = .ok (.dup, 1) := dAX5_readGuest (62, (.dup, 1)) (List.mem_of_getElem? (i := 37) rfl)
theorem dX5_readGuest_63 : decode cX5_readGuest 63 = .ok (.getfield 86, 3) := dAX5_readGuest (63, (.getfield 86, 3)) (List.mem_of_getElem? (i := 38) rfl)
theorem dX5_readGuest_66 : decode cX5_readGuest 66 = .ok (.iconst 1, 1) := dAX5_readGuest (66, (.iconst 1, 1)) (List.mem_of_getElem? (i := 39) rfl)
theorem dX5_readGuest_67 : decode cX5_readGuest 67 = .ok (.iadd, 1) := dAX5_readGuest (67, (.iadd, 1)) (List.mem_of_getElem? (i := 40) rfl)
theorem dX5_readGuest_68 : decode cX5_readGuest 68 = .ok (.putfield 86, 3) := dAX5_readGuest (68, (.putfield 86, 3)) (List.mem_of_getElem? (i := 41) rfl)
theorem dX5_readGuest_71 : decode cX5_readGuest 71 = .ok (.return_, 1) := dAX5_readGuest (71, (.return_, 1)) (List.mem_of_getElem? (i := 42) rfl)
set_option maxRecDepth 20000 in
theorem ggX5_readGuest_X5_takeNewName : GoodIn wsX5_readGuest wsX5_takeNewName := goodIn_r _ [12, 13, 14, 15, 16, 17, 18, 19, 20, 11, 21, 22, 23, 24, 25, 26, 27, 28, 29, 30, 31, 32, 33, 34, 35, 36, 37, 38, 39, 40, 41, 42, 43, 44, 45, 46, 47, 48, 49, 50, 51, 52, 53, 54, 55, 56, 57, 58, 59, 60, 61, 62, 63, 64, 65, 103, 104, 105, 106, 107, 108, 109, 110, 111, 112, 113, 114, 115, 116, 117] rfl (by decide +kernel)
set_option maxRecDepth 20000 in
theorem gX5_readGuest_X5_takeNewName : GoodIn wsX5_readGuest (wsV RX5 168 RX5 yX5_takeNewName wsX5_takeNewName) := goodIn_app (goodIn_of _ (by decide +kernel)) ggX5_readGuest_X5_takeNewName
set_option maxRecDepth 20000 in
theorem ggX5_readGuest_X5_takeKind : GoodIn wsX5_readGuest wsX5_takeKind := goodIn_r _ [69, 70, 71, 72, 11, 73, 22, 15, 74, 75, 76, 77, 35, 36, 37, 38, 39, 40, 41, 42, 43, 44, 45, 78, 79, 80, 81, 50, 51, 52, 53, 54, 55, 56, 57, 58, 59, 60, 61, 62, 63, 64, 65, 103, 104, 105, 106, 107, 108, 109, 110, 111, 112, 113, 114, 115, 116, 117] rfl (by decide +kernel)
set_option maxRecDepth 20000 in
theorem gX5_readGuest_X5_takeKind : GoodIn wsX5_readGuest (wsV RX5 175 RX5 yX5_takeKind wsX5_takeKind) := goodIn_app (goodIn_of _ (by decide +kernel)) ggX5_readGuest_X5_takeKind
set_option maxRecDepth 20000 in
theorem ggX5_readGuest_X5_takeAmount : GoodIn wsX5_readGuest wsX5_takeAmount := goodIn_r _ [85, 22, 15, 65, 35, 36, 37, 11, 38, 39, 40, 41, 42, 43, 44, 45, 78, 79, 80, 81, 50, 51, 52, 53, 54, 55, 56, 57, 58, 59, 60, 61, 62, 63, 64, 103, 104, 105, 106, 107, 108, 109, 110, 111, 112, 113, 114, 115, 116, 117] rfl (by decide +kernel)
set_option maxRecDepth 20000 in
theorem gX5_readGuest_X5_takeAmount : GoodIn wsX5_readGuest (wsV RX5 151 RX5 yX5_takeAmount wsX5_takeAmount) := goodIn_app (goodIn_of _ (by decide +kernel)) ggX5_readGuest_X5_takeAmount
theorem kX5_readGuest_86 : Cond.fieldLink RX5 86 "EveningVow$House" "guests" "I" ∈ wsX5_readGuest := List.mem_of_getElem? (i := 1) rfl
theorem iX5_readGuest_X1 : ∀ w ∈ u_ws RX1 TX1 17, w ∈ wsX5_readGuest := fun w h => (List.mem_cons_of_mem _ (List.mem_append_left _ (List.mem_append_right _ h)))
theorem kX5_readGuest_172 : Cond.fieldLink RX5 172 "EveningVow$House" "kind" "[I" ∈ wsX5_readGuest := List.mem_of_getElem? (i := 2) rfl
theorem kX5_readGuest_178 : Cond.fieldLink RX5 178 "EveningVow$House" "firstWant" "[I" ∈ wsX5_readGuest := List.mem_of_getElem? (i := 3) rfl
theorem kX5_readGuest_181 : Cond.constantLong RX5 181 (2002873972 : Int64) ∈ wsX5_readGuest := by decide +kernel
theorem kX5_readGuest_183 : Cond.fieldLink RX5 183 "EveningVow$House" "sinks" "[I" ∈ wsX5_readGuest := List.mem_of_getElem? (i := 5) rfl
theorem kX5_readGuest_186 : Cond.constantLong RX5 186 (495690083187 : Int64) ∈ wsX5_readGuest := by decide +kernel
theorem kX5_readGuest_188 : Cond.fieldLink RX5 188 "EveningVow$House" "mate" "[I" ∈ wsX5_readGuest := List.mem_of_getElem? (i := 7) rfl
set_option maxHeartbeats 4000000 in
set_option maxRecDepth 100000 in
theorem mX5_readGuest (l : Launch) (g : GG) (a_t : Nat) (a_r1 : Nat) (p_t : Nat → Nat) (p_r1 : Nat → Nat) (n : Nat) (o_t : Nat → Int32) (c_t : Int64) (f_t_0 : Nat → Int32) (f_t_12 : Nat → Int64) (f_t_13 : Nat → Int32) (f_t_14 : Nat → Int32) (o_r1 : Nat → Int32) (f_r1_4 : Nat → Int32) (f_r1_5 : Nat → Int32) (f_r1_6 : Nat → Int32) (f_r1_7 : Nat → Int32) (o_t' : Nat → Int32) (c_t' : Int64) (f_t_12' : Nat → Int64) (f_t_13' : Nat → Int32) (f_t_14' : Nat → Int32) (o_r1' : Nat → Int32) (f_r1_4' : Nat → Int32) (f_r1_5' : Nat → Int32) (f_r1_6' : Nat → Int32) (f_r1_7' : Nat → Int32) (hF : fX5_readGuest n o_t c_t f_t_0 f_t_12 f_t_13 f_t_14 o_r1 f_r1_4 f_r1_5 f_r1_6 f_r1_7 = some (o_t', c_t', f_t_12', f_t_13', f_t_14', o_r1', f_r1_4', f_r1_5', f_r1_6', f_r1_7')) : MV l g yX5_readGuest wsX5_readGuest ({ frames := 4, cells := 0, slots := 0, locals := 85 } : Room) [.ref a_t, .ref a_r1] [oX5 a_t p_t o_t c_t, aI g (p_t 0) 800 f_t_0, aJ g (p_t 12) 16 f_t_12, aI g (p_t 13) 16 f_t_13, aI g (p_t 14) 16 f_t_14, oX1 a_r1 p_r1 o_r1, aI g (p_r1 4) 7 f_r1_4, aI g (p_r1 5) 7 f_r1_5, aI g (p_r1 6) 7 f_r1_6, aI g (p_r1 7) 7 f_r1_7] [oX5 a_t p_t o_t' c_t', aI g (p_t 0) 800 f_t_0, aJ g (p_t 12) 16 f_t_12', aI g (p_t 13) 16 f_t_13', aI g (p_t 14) 16 f_t_14', oX1 a_r1 p_r1 o_r1', aI g (p_r1 4) 7 f_r1_4', aI g (p_r1 5) 7 f_r1_5', aI g (p_r1 6) 7 f_r1_6', aI g (p_r1 7) 7 f_r1_7'] := by
  refine MV.of (cc := cX5_readGuest) (maxL := 3) (own := RX5) rfl rfl (by decide) (Nat.le_of_ble_eq_true rfl) ?_
  intro p e s m args below meth c A C0 hP hD hS ls hl
  obtain ⟨hx, hb, hml, hown, hts, hr, hlk, hK, hA, hSW⟩ := id C0
  have hl : lv_has ls 3 [(0, .ref a_t), (1, .ref a_r1)] := hl
  rw [fX5_readGuest] at hF
  refine lv_aload_n hx hb dX5_readGuest_0 rfl (lv_at hl 1 rfl) ?_
  refine va_get (D := g.1) (ci := 1) (v := .int (o_r1 3)) (C := RX1) (T := TX1) (N := 17) hx hb hts iX5_readGuest_X1 hown hK.1 hP 5 rfl rfl 3 (by decide) (hts _ kX5_readGuest_86) (fun _ h9 => h9) rfl dX5_readGuest_1 ?_
  refine lv_istore_n (lv' := [(2, .int (o_r1 3)), (0, .ref a_t), (1, .ref a_r1)]) hx hb dX5_readGuest_4 rfl hl (by decide) rfl (fun ls hl => ?_)
  refine lv_aload_n hx hb dX5_readGuest_5 rfl (lv_at hl 1 rfl) ?_
  refine lv_iconst (v := (1 : Int32)) hx hb dX5_readGuest_6 (by decide) ?_
  refine lv_iload_n hx hb dX5_readGuest_7 rfl (lv_at hl 0 rfl) ?_
  obtain ⟨u_1, u_2, u_3, u_4, u_5, hu_6, hF⟩ := ob5_some hF
  refine call_v (wr := [oX1 a_r1 p_r1 o_r1, aI g (p_r1 4) 7 f_r1_4, aI g (p_r1 5) 7 f_r1_5, aI g (p_r1 6) 7 f_r1_6, aI g (p_r1 7) 7 f_r1_7]) (As := [.int (1 : Int32), .int (o_r1 3)]) (rest := []) (ci := 5) (q0 := 0) C0 (mX5_takeNewName l g a_t p_t n (1 : Int32) (o_r1 3) o_t c_t f_t_0 f_t_12 f_t_13 f_t_14 u_1 u_2 u_3 u_4 u_5 hu_6) (cwV 2 hts gX5_readGuest_X5_takeNewName rfl rfl rfl (by decide +kernel) ⟨Nat.le_of_ble_eq_true rfl, Nat.le_of_ble_eq_true rfl⟩) hP hD hS [0, 1, 2, 3, 4] [5, 6, 7, 8, 9] rfl rfl rfl rfl rfl (by decide) rfl rfl hl.1 rfl rfl (Nat.le_of_ble_eq_true rfl) ⟨Nat.zero_le _, Nat.zero_le _⟩ dX5_readGuest_8 ?_
  intro H locs hP hD hS
  refine lv_aload_n hx hb dX5_readGuest_11 rfl (lv_at hl 2 rfl) ?_
  refine va_get (D := g.1) (ci := 1) (v := .ref (p_r1 4)) (C := RX1) (T := TX1) (N := 17) hx hb hts iX5_readGuest_X1 hown hK.1 hP 0 rfl rfl 4 (by decide) (hts _ kX5_readGuest_172) (fun _ h9 => h9) rfl dX5_readGuest_12 ?_
  refine lv_iload_n hx hb dX5_readGuest_15 rfl (lv_at hl 0 rfl) ?_
  refine lv_aload_n hx hb dX5_readGuest_16 rfl (lv_at hl 1 rfl) ?_
  obtain ⟨u_7, u_8, u_9, hu_10, hF⟩ := ob3_some hF
  refine call_i (wr := [oX1 a_r1 p_r1 o_r1, aI g (p_r1 4) 7 f_r1_4, aI g (p_r1 5) 7 f_r1_5, aI g (p_r1 6) 7 f_r1_6, aI g (p_r1 7) 7 f_r1_7, aJ g (p_t 12) 16 u_3, aI g (p_t 13) 16 u_4, aI g (p_t 14) 16 u_5]) (As := []) (rest := [.int (o_r1 3), .ref (p_r1 4)]) (ci := 5) (q0 := 0) C0 (mX5_takeKind l g a_t p_t n u_1 u_2 f_t_0 u_7 u_8 u_9 hu_10) (cwV 0 hts gX5_readGuest_X5_takeKind rfl rfl rfl (by decide +kernel) ⟨Nat.le_of_ble_eq_true rfl, Nat.le_of_ble_eq_true rfl⟩) hP hD hS [5, 6] [0, 1, 2, 3, 4, 7, 8, 9] rfl rfl rfl rfl rfl (by decide) rfl rfl hl.1 rfl rfl (Nat.le_of_ble_eq_true rfl) ⟨Nat.zero_le _, Nat.zero_le _⟩ dX5_readGuest_17 ?_
  intro H locs hP hD hS
  obtain ⟨h_11, hF⟩ := it_ck hF
  refine va_iast hx hb hK.1 hP hD hS 1 0 rfl rfl h_11 dX5_readGuest_20 (fun H locs hP hD hS => ?_)
  have hP : va_P g.1 vwCl [oX1 a_r1 p_r1 o_r1, aI g (p_r1 4) 7 (upd f_r1_4 ((o_r1 3)).toNatClampNeg u_7), aI g (p_r1 5) 7 f_r1_5, aI g (p_r1 6) 7 f_r1_6, aI g (p_r1 7) 7 f_r1_7, aJ g (p_t 12) 16 u_3, aI g (p_t 13) 16 u_4, aI g (p_t 14) 16 u_5, oX5 a_t p_t u_8 u_9, aI g (p_t 0) 800 f_t_0] H := hP
  have hD : va_D A [oX1 a_r1 p_r1 o_r1, aI g (p_r1 4) 7 (upd f_r1_4 ((o_r1 3)).toNatClampNeg u_7), aI g (p_r1 5) 7 f_r1_5, aI g (p_r1 6) 7 f_r1_6, aI g (p_r1 7) 7 f_r1_7, aJ g (p_t 12) 16 u_3, aI g (p_t 13) 16 u_4, aI g (p_t 14) 16 u_5, oX5 a_t p_t u_8 u_9, aI g (p_t 0) 800 f_t_0] := hD
  refine lv_aload_n hx hb dX5_readGuest_21 rfl (lv_at hl 2 rfl) ?_
  refine va_get (D := g.1) (ci := 1) (v := .ref (p_r1 5)) (C := RX1) (T := TX1) (N := 17) hx hb hts iX5_readGuest_X1 hown hK.1 hP 0 rfl rfl 5 (by decide) (hts _ kX5_readGuest_178) (fun _ h9 => h9) rfl dX5_readGuest_22 ?_
  refine lv_iload_n hx hb dX5_readGuest_25 rfl (lv_at hl 0 rfl) ?_
  refine lv_aload_n hx hb dX5_readGuest_26 rfl (lv_at hl 1 rfl) ?_
  refine lv_ldc2 (v := (2002873972 : Int64)) hx hb hown (hts _ kX5_readGuest_181) dX5_readGuest_27 ?_
  refine lv_iconst (v := (1 : Int32)) hx hb dX5_readGuest_30 (by decide) ?_
  refine lv_bipush (v := (99 : Int32)) hx hb dX5_readGuest_31 (by decide) ?_
  obtain ⟨u_12, u_13, u_14, hu_15, hF⟩ := ob3_some hF
  refine call_i (wr := [oX1 a_r1 p_r1 o_r1, aI g (p_r1 4) 7 (upd f_r1_4 ((o_r1 3)).toNatClampNeg u_7), aI g (p_r1 5) 7 f_r1_5, aI g (p_r1 6) 7 f_r1_6, aI g (p_r1 7) 7 f_r1_7, aJ g (p_t 12) 16 u_3, aI g (p_t 13) 16 u_4, aI g (p_t 14) 16 u_5]) (As := [.long (2002873972 : Int64), .int (1 : Int32), .int (99 : Int32)]) (rest := [.int (o_r1 3), .ref (p_r1 5)]) (ci := 5) (q0 := 0) C0 (mX5_takeAmount l g a_t p_t n (2002873972 : Int64) (1 : Int32) (99 : Int32) u_8 u_9 f_t_0 u_12 u_13 u_14 hu_15) (cwV 3 hts gX5_readGuest_X5_takeAmount rfl rfl rfl (by decide +kernel) ⟨Nat.le_of_ble_eq_true rfl, Nat.le_of_ble_eq_true rfl⟩) hP hD hS [8, 9] [0, 1, 2, 3, 4, 5, 6, 7] rfl rfl rfl rfl rfl (by decide) rfl rfl hl.1 rfl rfl (Nat.le_of_ble_eq_true rfl) ⟨Nat.zero_le _, Nat.zero_le _⟩ dX5_readGuest_33 ?_
  intro H locs hP hD hS
  obtain ⟨h_16, hF⟩ := it_ck hF
  refine va_iast hx hb hK.1 hP hD hS 2 0 rfl rfl h_16 dX5_readGuest_36 (fun H locs hP hD hS => ?_)
  have hP : va_P g.1 vwCl [oX1 a_r1 p_r1 o_r1, aI g (p_r1 4) 7 (upd f_r1_4 ((o_r1 3)).toNatClampNeg u_7), aI g (p_r1 5) 7 (upd f_r1_5 ((o_r1 3)).toNatClampNeg u_12), aI g (p_r1 6) 7 f_r1_6, aI g (p_r1 7) 7 f_r1_7, aJ g (p_t 12) 16 u_3, aI g (p_t 13) 16 u_4, aI g (p_t 14) 16 u_5, oX5 a_t p_t u_13 u_14, aI g (p_t 0) 800 f_t_0] H := hP
  have hD : va_D A [oX1 a_r1 p_r1 o_r1, aI g (p_r1 4) 7 (upd f_r1_4 ((o_r1 3)).toNatClampNeg u_7), aI g (p_r1 5) 7 (upd f_r1_5 ((o_r1 3)).toNatClampNeg u_12), aI g (p_r1 6) 7 f_r1_6, aI g (p_r1 7) 7 f_r1_7, aJ g (p_t 12) 16 u_3, aI g (p_t 13) 16 u_4, aI g (p_t 14) 16 u_5, oX5 a_t p_t u_13 u_14, aI g (p_t 0) 800 f_t_0] := hD
  refine lv_aload_n hx hb dX5_readGuest_37 rfl (lv_at hl 2 rfl) ?_
  refine va_get (D := g.1) (ci := 1) (v := .ref (p_r1 6)) (C := RX1) (T := TX1) (N := 17) hx hb hts iX5_readGuest_X1 hown hK.1 hP 0 rfl rfl 6 (by decide) (hts _ kX5_readGuest_183) (fun _ h9 => h9) rfl dX5_readGuest_38 ?_
  refine lv_iload_n hx hb dX5_readGuest_41 rfl (lv_at hl 0 rfl) ?_
  refine lv_aload_n hx hb dX5_readGuest_42 rfl (lv_at hl 1 rfl) ?_
  refine lv_ldc2 (v := (495690083187 : Int64)) hx hb hown (hts _ kX5_readGuest_186) dX5_readGuest_43 ?_
  refine lv_iconst (v := (0 : Int32)) hx hb dX5_readGuest_46 (by decide) ?_
  refine lv_bipush (v := (20 : Int32)) hx hb dX5_readGuest_47 (by decide) ?_
  obtain ⟨u_17, u_18, u_19, hu_20, hF⟩ := ob3_some hF
  refine call_i (wr := [oX1 a_r1 p_r1 o_r1, aI g (p_r1 4) 7 (upd f_r1_4 ((o_r1 3)).toNatClampNeg u_7), aI g (p_r1 5) 7 (upd f_r1_5 ((o_r1 3)).toNatClampNeg u_12), aI g (p_r1 6) 7 f_r1_6, aI g (p_r1 7) 7 f_r1_7, aJ g (p_t 12) 16 u_3, aI g (p_t 13) 16 u_4, aI g (p_t 14) 16 u_5]) (As := [.long (495690083187 : Int64), .int (0 : Int32), .int (20 : Int32)]) (rest := [.int (o_r1 3), .ref (p_r1 6)]) (ci := 5) (q0 := 0) C0 (mX5_takeAmount l g a_t p_t n (495690083187 : Int64) (0 : Int32) (20 : Int32) u_13 u_14 f_t_0 u_17 u_18 u_19 hu_20) (cwV 3 hts gX5_readGuest_X5_takeAmount rfl rfl rfl (by decide +kernel) ⟨Nat.le_of_ble_eq_true rfl, Nat.le_of_ble_eq_true rfl⟩) hP hD hS [8, 9] [0, 1, 2, 3, 4, 5, 6, 7] rfl rfl rfl rfl rfl (by decide) rfl rfl hl.1 rfl rfl (Nat.le_of_ble_eq_true rfl) ⟨Nat.zero_le _, Nat.zero_le _⟩ dX5_readGuest_49 ?_
  intro H locs hP hD hS
  obtain ⟨h_21, hF⟩ := it_ck hF
  refine va_iast hx hb hK.1 hP hD hS 3 0 rfl rfl h_21 dX5_readGuest_52 (fun H locs hP hD hS => ?_)
  have hP : va_P g.1 vwCl [oX1 a_r1 p_r1 o_r1, aI g (p_r1 4) 7 (upd f_r1_4 ((o_r1 3)).toNatClampNeg u_7), aI g (p_r1 5) 7 (upd f_r1_5 ((o_r1 3)).toNatClampNeg u_12), aI g (p_r1 6) 7 (upd f_r1_6 ((o_r1 3)).toNatClampNeg u_17), aI g (p_r1 7) 7 f_r1_7, aJ g (p_t 12) 16 u_3, aI g (p_t 13) 16 u_4, aI g (p_t 14) 16 u_5, oX5 a_t p_t u_18 u_19, aI g (p_t 0) 800 f_t_0] H := hP
  have hD : va_D A [oX1 a_r1 p_r1 o_r1, aI g (p_r1 4) 7 (upd f_r1_4 ((o_r1 3)).toNatClampNeg u_7), aI g (p_r1 5) 7 (upd f_r1_5 ((o_r1 3)).toNatClampNeg u_12), aI g (p_r1 6) 7 (upd f_r1_6 ((o_r1 3)).toNatClampNeg u_17), aI g (p_r1 7) 7 f_r1_7, aJ g (p_t 12) 16 u_3, aI g (p_t 13) 16 u_4, aI g (p_t 14) 16 u_5, oX5 a_t p_t u_18 u_19, aI g (p_t 0) 800 f_t_0] := hD
  refine lv_aload_n hx hb dX5_readGuest_53 rfl (lv_at hl 2 rfl) ?_
  refine va_get (D := g.1) (ci := 1) (v := .ref (p_r1 7)) (C := RX1) (T := TX1) (N := 17) hx hb hts iX5_readGuest_X1 hown hK.1 hP 0 rfl rfl 7 (by decide) (hts _ kX5_readGuest_188) (fun _ h9 => h9) rfl dX5_readGuest_54 ?_
  refine lv_iload_n hx hb dX5_readGuest_57 rfl (lv_at hl 0 rfl) ?_
  refine lv_bipush (v := (-2 : Int32)) hx hb dX5_readGuest_58 (by decide) ?_
  obtain ⟨h_22, hF⟩ := it_ck hF
  refine va_iast hx hb hK.1 hP hD hS 4 0 rfl rfl h_22 dX5_readGuest_60 (fun H locs hP hD hS => ?_)
  have hP : va_P g.1 vwCl [oX1 a_r1 p_r1 o_r1, aI g (p_r1 4) 7 (upd f_r1_4 ((o_r1 3)).toNatClampNeg u_7), aI g (p_r1 5) 7 (upd f_r1_5 ((o_r1 3)).toNatClampNeg u_12), aI g (p_r1 6) 7 (upd f_r1_6 ((o_r1 3)).toNatClampNeg u_17), aI g (p_r1 7) 7 (upd f_r1_7 ((o_r1 3)).toNatClampNeg (-2 : Int32)), aJ g (p_t 12) 16 u_3, aI g (p_t 13) 16 u_4, aI g (p_t 14) 16 u_5, oX5 a_t p_t u_18 u_19, aI g (p_t 0) 800 f_t_0] H := hP
  have hD : va_D A [oX1 a_r1 p_r1 o_r1, aI g (p_r1 4) 7 (upd f_r1_4 ((o_r1 3)).toNatClampNeg u_7), aI g (p_r1 5) 7 (upd f_r1_5 ((o_r1 3)).toNatClampNeg u_12), aI g (p_r1 6) 7 (upd f_r1_6 ((o_r1 3)).toNatClampNeg u_17), aI g (p_r1 7) 7 (upd f_r1_7 ((o_r1 3)).toNatClampNeg (-2 : Int32)), aJ g (p_t 12) 16 u_3, aI g (p_t 13) 16 u_4, aI g (p_t 14) 16 u_5, oX5 a_t p_t u_18 u_19, aI g (p_t 0) 800 f_t_0] := hD
  refine lv_aload_n hx hb dX5_readGuest_61 rfl (lv_at hl 2 rfl) ?_
  refine lv_dup hx hb dX5_readGuest_62 rfl ?_
  refine va_get (D := g.1) (ci := 1) (v := .int (o_r1 3)) (C := RX1) (T := TX1) (N := 17) hx hb hts iX5_readGuest_X1 hown hK.1 hP 0 rfl rfl 3 (by decide) (hts _ kX5_readGuest_86) (fun _ h9 => h9) rfl dX5_readGuest_63 ?_
  refine lv_iconst (v := (1 : Int32)) hx hb dX5_readGuest_66 (by decide) ?_
  refine lv_iadd hx hb dX5_readGuest_67 ?_
  refine va_put (D := g.1) (ci := 1) (v := .int ((o_r1 3) + (1 : Int32))) (ty := .int) (C := RX1) (T := TX1) (N := 17) hx hb hts iX5_readGuest_X1 tyX1 tyX1_ok nmX1 hown hK.1 hP hD hS 0 rfl rfl 3 (by decide) (hts _ kX5_readGuest_86) (fun _ h9 => h9) rfl (by decide +kernel) rfl rfl (Nat.le_of_ble_eq_true rfl) dX5_readGuest_68 (fun H locs hP hD hS => ?_)
  have hP : va_P g.1 vwCl [oX1 a_r1 p_r1 (upd o_r1 3 ((o_r1 3) + (1 : Int32))), aI g (p_r1 4) 7 (upd f_r1_4 ((o_r1 3)).toNatClampNeg u_7), aI g (p_r1 5) 7 (upd f_r1_5 ((o_r1 3)).toNatClampNeg u_12), aI g (p_r1 6) 7 (upd f_r1_6 ((o_r1 3)).toNatClampNeg u_17), aI g (p_r1 7) 7 (upd f_r1_7 ((o_r1 3)).toNatClampNeg (-2 : Int32)), aJ g (p_t 12) 16 u_3, aI g (p_t 13) 16 u_4, aI g (p_t 14) 16 u_5, oX5 a_t p_t u_18 u_19, aI g (p_t 0) 800 f_t_0] H := hP
  have hD : va_D A [oX1 a_r1 p_r1 (upd o_r1 3 ((o_r1 3) + (1 : Int32))), aI g (p_r1 4) 7 (upd f_r1_4 ((o_r1 3)).toNatClampNeg u_7), aI g (p_r1 5) 7 (upd f_r1_5 ((o_r1 3)).toNatClampNeg u_12), aI g (p_r1 6) 7 (upd f_r1_6 ((o_r1 3)).toNatClampNeg u_17), aI g (p_r1 7) 7 (upd f_r1_7 ((o_r1 3)).toNatClampNeg (-2 : Int32)), aJ g (p_t 12) 16 u_3, aI g (p_t 13) 16 u_4, aI g (p_t 14) 16 u_5, oX5 a_t p_t u_18 u_19, aI g (p_t 0) 800 f_t_0] := hD
  cases hF
  exact ret_v C0 hP hD hS [8, 9, 5, 6, 7, 0, 1, 2, 3, 4] rfl rfl rfl dX5_readGuest_71

theorem dAX5_knownGuest : ∀ q ∈ ([(0, (.aload_n 0, 1)), (1, (.invokevirtual 247, 3)), (4, (.ifCond .ne 9, 3)), (7, (.aload_n 0, 1)), (8, (.iconst 1, 1)), (9, (.invokevirtual 89, 3)), (12, (.ireturn, 1)), (13, (.aload_n 0, 1)), (14, (.invokevirtual 250, 3)), (17, (.istore_n 1, 1)), (18, (.iload_n 1, 1)), (19, (.ifCond .lt 13, 3)), (22, (.aload_n 0, 1)), (23, (.getfield 55, 3)), (26, (.iload_n 1, 1)), (27, (.iaload, 1)), (28, (.iconst 1, 1)), (29, (.if_icmp .eq 9, 3)), (32, (.aload_n 0, 1)), (33, (.iconst 2, 1)), (34, (.invokevirtual 89, 3)), (37, (.ireturn, 1)), (38, (.aload_n 0, 1)), (39, (.invokevirtual 79, 3)), (42, (.ifCond .eq 7, 3)), (45, (.iconst (-1), 1)), (46, (.goto 9, 3)), (49, (.aload_n 0, 1)), (50, (.getfield 58, 3)), (53, (.iload_n 1, 1)), (54, (.iaload, 1)), (55, (.ireturn, 1))] : List (Nat × (Instr × Nat))), decode cX5_knownGuest q.1 = .ok q.2 := by decide +kernel
theorem dX5_knownGuest_0 : decode cX5_knownGuest 0 = .ok (.aload_n 0, 1) := dAX5_knownGuest (0, (.aload_n 0, 1)) (List.mem_of_getElem? (i := 0) rfl)
theorem dX5_knownGuest_1 : decode cX5_knownGuest 1 = .ok (.invokevirtual 247, 3) := dAX5_knownGuest (1, (.invokevirtual 247, 3)) (List.mem_of_getElem? (i := 1) rfl)
theorem dX5_knownGuest_4 : decode cX5_knownGuest 4 = .ok (.ifCond .ne 9, 3) := dAX5_knownGuest (4, (.ifCond .ne 9, 3)) (List.mem_of_getElem? (i := 2) rfl)
theorem dX5_knownGuest_7 : decode cX5_knownGuest 7 = .ok (.aload_n 0, 1) := dAX5_knownGuest (7, (.aload_n 0, 1)) (List.mem_of_getElem? (i := 3) rfl)
theorem dX5_knownGuest_8 : decode cX5_knownGuest 8 = .ok (.iconst 1, 1) := dAX5_knownGuest (8, (.iconst 1, 1)) (List.mem_of_getElem? (i := 4) rfl)
theorem dX5_knownGuest_9 : decode cX5_knownGuest 9 = .ok (.invokevirtual 89, 3) := dAX5_knownGuest (9, (.invokevirtual 89, 3)) (List.mem_of_getElem? (i := 5) rfl)
theorem dX5_knownGuest_12 : decode cX5_knownGuest 12 = .ok (.ireturn, 1) := dAX5_knownGuest (12, (.ireturn, 1)) (List.mem_of_getElem? (i := 6) rfl)
theorem dX5_knownGuest_13 : decode cX5_knownGuest 13 = .ok (.aload_n 0, 1) := dAX5_knownGuest (13, (.aload_n 0, 1)) (List.mem_of_getElem? (i := 7) rfl)
theorem dX5_knownGuest_14 : decode cX5_knownGuest 14 = .ok (.invokevirtual 250, 3) := dAX5_knownGuest (14, (.invokevirtual 250, 3)) (List.mem_of_getElem? (i := 8) rfl)
theorem dX5_knownGuest_17 : decode cX5_knownGuest 17 = .ok (.istore_n 1, 1) := dAX5_knownGuest (17, (.istore_n 1, 1)) (List.mem_of_getElem? (i := 9) rfl)
theorem dX5_knownGuest_18 : decode cX5_knownGuest 18 = .ok (.iload_n 1, 1) := dAX5_knownGuest (18, (.iload_n 1, 1)) (List.mem_of_getElem? (i := 10) rfl)
theorem dX5_knownGuest_19 : decode cX5_knownGuest 19 = .ok (.ifCond .lt 13, 3) := dAX5_knownGuest (19, (.ifCond .lt 13, 3)) (List.mem_of_getElem? (i := 11) rfl)
theorem dX5_knownGuest_22 : decode cX5_knownGuest 22 = .ok (.aload_n 0, 1) := dAX5_knownGuest (22, (.aload_n 0, 1)) (List.mem_of_getElem? (i := 12) rfl)
theorem dX5_knownGuest_23 : decode cX5_knownGuest 23 = .ok (.getfield 55, 3) := dAX5_knownGuest (23, (.getfield 55, 3)) (List.mem_of_getElem? (i := 13) rfl)
theorem dX5_knownGuest_26 : decode cX5_knownGuest 26 = .ok (.iload_n 1, 1) := dAX5_knownGuest (26, (.iload_n 1, 1)) (List.mem_of_getElem? (i := 14) rfl)
theorem dX5_knownGuest_27 : decode cX5_knownGuest 27 = .ok (.iaload, 1) := dAX5_knownGuest (27, (.iaload, 1)) (List.mem_of_getElem? (i := 15) rfl)
theorem dX5_knownGuest_28 : decode cX5_knownGuest 28 = .ok (.iconst 1, 1) := dAX5_knownGuest (28, (.iconst 1, 1)) (List.mem_of_getElem? (i := 16) rfl)
theorem dX5_knownGuest_29 : decode cX5_knownGuest 29 = .ok (.if_icmp .eq 9, 3) := dAX5_knownGuest (29, (.if_icmp .eq 9, 3)) (List.mem_of_getElem? (i := 17) rfl)
theorem dX5_knownGuest_32 : decode cX5_knownGuest 32 = .ok (.aload_n 0, 1) := dAX5_knownGuest (32, (.aload_n 0, 1)) (List.mem_of_getElem? (i := 18) rfl)
theorem dX5_knownGuest_33 : decode cX5_knownGuest 33 = .ok (.iconst 2, 1) := dAX5_knownGuest (33, (.iconst 2, 1)) (List.mem_of_getElem? (i := 19) rfl)
theorem dX5_knownGuest_34 : decode cX5_knownGuest 34 = .ok (.invokevirtual 89, 3) := dAX5_knownGuest (34, (.invokevirtual 89, 3)) (List.mem_of_getElem? (i := 20) rfl)
theorem dX5_knownGuest_37 : decode cX5_knownGuest 37 = .ok (.ireturn, 1) := dAX5_knownGuest (37, (.ireturn, 1)) (List.mem_of_getElem? (i := 21) rfl)
theorem dX5_knownGuest_38 : decode cX5_knownGuest 38 = .ok (.aload_n 0, 1) := dAX5_knownGuest (38, (.aload_n 0, 1)) (List.mem_of_getElem? (i := 22) rfl)
theorem dX5_knownGuest_39 : decode cX5_knownGuest 39 = .ok (.invokevirtual 79, 3) := dAX5_knownGuest (39, (.invokevirtual 79, 3)) (List.mem_of_getElem? (i := 23) rfl)
theorem dX5_knownGuest_42 : decode cX5_knownGuest 42 = .ok (.ifCond .eq 7, 3) := dAX5_knownGuest (42, (.ifCond .eq 7, 3)) (List.mem_of_getElem? (i := 24) rfl)
theorem dX5_knownGuest_45 : decode cX5_knownGuest 45 = .ok (.iconst (-1), 1) := dAX5_knownGuest (45, (.iconst (-1), 1)) (List.mem_of_getElem? (i := 25) rfl)
theorem dX5_knownGuest_46 : decode cX5_knownGuest 46 = .ok (.goto 9, 3) := dAX5_knownGuest (46, (.goto 9, 3)) (List.mem_of_getElem? (i := 26) rfl)
theorem dX5_knownGuest_49 : decode cX5_knownGuest 49 = .ok (.aload_n 0, 1) := dAX5_knownGuest (49, (.aload_n 0, 1)) (List.mem_of_getElem? (i := 27) rfl)
theorem dX5_knownGuest_50 : decode cX5_knownGuest 50 = .ok (.getfield 58, 3) := dAX5_knownGuest (50, (.getfield 58, 3)) (List.mem_of_getElem? (i := 28) rfl)
theorem dX5_knownGuest_53 : decode cX5_knownGuest 53 = .ok (.iload_n 1, 1) := dAX5_knownGuest (53, (.iload_n 1, 1)) (List.mem_of_getElem? (i := 29) rfl)
theorem dX5_knownGuest_54 : decode cX5_knownGuest 54 = .ok (.iaload, 1) := dAX5_knownGuest (54, (.iaload, 1)) (List.mem_of_getElem? (i := 30) rfl)
theorem dX5_knownGuest_55 : decode cX5_knownGuest 55 = .ok (.ireturn, 1) := dAX5_knownGuest (55, (.ireturn, 1)) (List.mem_of_getElem? (i := 31) rfl)
set_option maxRecDepth 20000 in
theorem ggX5_knownGuest_X5_isName : GoodIn wsX5_knownGuest wsX5_isName := goodIn_r _ [7, 8, 9, 10, 11, 6, 12, 13, 14, 15, 16, 17, 18, 19, 20, 21, 39, 40, 41, 42, 43, 44, 45, 46, 47, 48, 49, 50, 51, 52, 53] rfl (by decide +kernel)
set_option maxRecDepth 20000 in
theorem gX5_knownGuest_X5_isName : GoodIn wsX5_knownGuest (wsV RX5 247 RX5 yX5_isName wsX5_isName) := goodIn_app (goodIn_of _ (by decide +kernel)) ggX5_knownGuest_X5_isName
set_option maxRecDepth 20000 in
theorem ggX5_knownGuest_X5_fail : GoodIn wsX5_knownGuest wsX5_fail := goodIn_r _ [25, 26, 27, 28, 29, 30, 31, 6, 32, 39, 40, 41, 42, 43, 44, 45, 46, 47, 48, 49, 50, 51, 52, 53] rfl (by decide +kernel)
set_option maxRecDepth 20000 in
theorem gX5_knownGuest_X5_fail : GoodIn wsX5_knownGuest (wsV RX5 89 RX5 yX5_fail wsX5_fail) := goodIn_app (goodIn_of _ (by decide +kernel)) ggX5_knownGuest_X5_fail
set_option maxRecDepth 20000 in
theorem ggX5_knownGuest_X5_nameIndex : GoodIn wsX5_knownGuest wsX5_nameIndex := goodIn_r _ [36, 37, 38, 13, 39, 40, 41, 42, 43, 44, 45, 46, 47, 48, 49, 50, 51, 52, 53] rfl (by decide +kernel)
set_option maxRecDepth 20000 in
theorem gX5_knownGuest_X5_nameIndex : GoodIn wsX5_knownGuest (wsV RX5 250 RX5 yX5_nameIndex wsX5_nameIndex) := goodIn_app (goodIn_of _ (by decide +kernel)) ggX5_knownGuest_X5_nameIndex
set_option maxRecDepth 20000 in
theorem ggX5_knownGuest_X5_failed : GoodIn wsX5_knownGuest wsX5_failed := goodIn_r _ [32, 26, 39, 40, 41, 42, 43, 44, 45, 46, 47, 48, 49, 50, 51, 52, 53] rfl (by decide +kernel)
set_option maxRecDepth 20000 in
theorem gX5_knownGuest_X5_failed : GoodIn wsX5_knownGuest (wsV RX5 79 RX5 yX5_failed wsX5_failed) := goodIn_app (goodIn_of _ (by decide +kernel)) ggX5_knownGuest_X5_failed
theorem kX5_knownGuest_55 : Cond.fieldLink RX5 55 "EveningVow$Reader" "nameLine" "[I" ∈ wsX5_knownGuest := List.mem_of_getElem? (i := 1) rfl
theorem iX5_knownGuest_X5 : ∀ w ∈ u_ws RX5 TX5 15, w ∈ wsX5_knownGuest := fun w h => (List.mem_cons_of_mem _ (List.mem_append_right _ h))
theorem kX5_knownGuest_58 : Cond.fieldLink RX5 58 "EveningVow$Reader" "nameNumber" "[I" ∈ wsX5_knownGuest := List.mem_of_getElem? (i := 2) rfl
set_option maxHeartbeats 4000000 in
set_option maxRecDepth 100000 in
theorem mX5_knownGuest (l : Launch) (g : GG) (a_t : Nat) (p_t : Nat → Nat) (n : Nat) (o_t : Nat → Int32) (c_t : Int64) (f_t_12 : Nat → Int64) (f_t_13 : Nat → Int32) (f_t_14 : Nat → Int32) (r : Int32) (o_t' : Nat → Int32) (c_t' : Int64) (hF : fX5_knownGuest n o_t c_t f_t_12 f_t_13 f_t_14 = some (r, o_t', c_t')) : MI l g yX5_knownGuest wsX5_knownGuest ({ frames := 2, cells := 0, slots := 0, locals := 41 } : Room) [.ref a_t] [oX5 a_t p_t o_t c_t, aJ g (p_t 12) 16 f_t_12, aI g (p_t 13) 16 f_t_13, aI g (p_t 14) 16 f_t_14] r [oX5 a_t p_t o_t' c_t', aJ g (p_t 12) 16 f_t_12, aI g (p_t 13) 16 f_t_13, aI g (p_t 14) 16 f_t_14] := by
  refine MI.of (cc := cX5_knownGuest) (maxL := 2) (rt := .int) (own := RX5) rfl rfl (by decide) (Nat.le_of_ble_eq_true rfl) ?_
  intro p e s m args below meth c A C0 hP hD hS ls hl
  obtain ⟨hx, hb, hml, hown, hts, hr, hlk, hK, hA, hSW⟩ := id C0
  have hl : lv_has ls 2 [(0, .ref a_t)] := hl
  rw [fX5_knownGuest] at hF
  refine lv_aload_n hx hb dX5_knownGuest_0 rfl (lv_at hl 0 rfl) ?_
  obtain ⟨u_1, hu_2, hF⟩ := ob1_some hF
  refine call_i (wr := [aJ g (p_t 12) 16 f_t_12, aI g (p_t 13) 16 f_t_13, aI g (p_t 14) 16 f_t_14]) (As := []) (rest := []) (ci := 5) (q0 := 0) C0 (mX5_isName l g a_t p_t n o_t c_t u_1 hu_2) (cwV 0 hts gX5_knownGuest_X5_isName rfl rfl rfl (by decide +kernel) ⟨Nat.le_of_ble_eq_true rfl, Nat.le_of_ble_eq_true rfl⟩) hP hD hS [0] [1, 2, 3] rfl rfl rfl rfl rfl (by decide) rfl rfl hl.1 rfl rfl (Nat.le_of_ble_eq_true rfl) ⟨Nat.zero_le _, Nat.zero_le _⟩ dX5_knownGuest_1 ?_
  intro H locs hP hD hS
  refine lv_if_ne (tgt := 13) hx hb dX5_knownGuest_4 (by decide) (fun c_3 => ?_) (fun c_3 => ?_)
  · have hF := it_n c_3 hF
    refine lv_aload_n hx hb dX5_knownGuest_13 rfl (lv_at hl 0 rfl) ?_
    obtain ⟨u_4, hu_5, hF⟩ := ob1_some hF
    refine call_i (wr := [aI g (p_t 13) 16 f_t_13, aI g (p_t 14) 16 f_t_14]) (As := []) (rest := []) (ci := 5) (q0 := 0) C0 (mX5_nameIndex l g a_t p_t n o_t c_t f_t_12 u_4 hu_5) (cwV 0 hts gX5_knownGuest_X5_nameIndex rfl rfl rfl (by decide +kernel) ⟨Nat.le_of_ble_eq_true rfl, Nat.le_of_ble_eq_true rfl⟩) hP hD hS [3, 0] [1, 2] rfl rfl rfl rfl rfl (by decide) rfl rfl hl.1 rfl rfl (Nat.le_of_ble_eq_true rfl) ⟨Nat.zero_le _, Nat.zero_le _⟩ dX5_knownGuest_14 ?_
    intro H locs hP hD hS
    refine lv_istore_n (lv' := [(1, .int u_4), (0, .ref a_t)]) hx hb dX5_knownGuest_17 rfl hl (by decide) rfl (fun ls hl => ?_)
    refine lv_iload_n hx hb dX5_knownGuest_18 rfl (lv_at hl 0 rfl) ?_
    refine lv_if_lt (tgt := 32) hx hb dX5_knownGuest_19 (by decide) (fun c_6 => ?_) (fun c_6 => ?_)
    · have hF := it_p c_6 hF
      refine lv_aload_n hx hb dX5_knownGuest_32 rfl (lv_at hl 1 rfl) ?_
      refine lv_iconst (v := (2 : Int32)) hx hb dX5_knownGuest_33 (by decide) ?_
      obtain ⟨u_7, u_8, u_9, hu_10, hF⟩ := ob3_some hF
      refine call_i (wr := [aI g (p_t 13) 16 f_t_13, aI g (p_t 14) 16 f_t_14, aJ g (p_t 12) 16 f_t_12]) (As := [.int (2 : Int32)]) (rest := []) (ci := 5) (q0 := 0) C0 (mX5_fail l g a_t p_t n (2 : Int32) o_t c_t u_7 u_8 u_9 hu_10) (cwV 1 hts gX5_knownGuest_X5_fail rfl rfl rfl (by decide +kernel) ⟨Nat.le_of_ble_eq_true rfl, Nat.le_of_ble_eq_true rfl⟩) hP hD hS [2] [0, 1, 3] rfl rfl rfl rfl rfl (by decide) rfl rfl hl.1 rfl rfl (Nat.le_of_ble_eq_true rfl) ⟨Nat.zero_le _, Nat.zero_le _⟩ dX5_knownGuest_34 ?_
      intro H locs hP hD hS
      cases hF
      exact ret_i C0 hP hD hS [3, 2, 0, 1] rfl rfl rfl dX5_knownGuest_37 rfl
    · have hF := it_n c_6 hF
      refine lv_aload_n hx hb dX5_knownGuest_22 rfl (lv_at hl 1 rfl) ?_
      refine va_get (D := g.1) (ci := 5) (v := .ref (p_t 13)) (C := RX5) (T := TX5) (N := 15) hx hb hts iX5_knownGuest_X5 hown hK.1 hP 2 rfl rfl 13 (by decide) (hts _ kX5_knownGuest_55) (fun _ h9 => h9) rfl dX5_knownGuest_23 ?_
      refine lv_iload_n hx hb dX5_knownGuest_26 rfl (lv_at hl 0 rfl) ?_
      obtain ⟨h_11, hF⟩ := it_ck hF
      refine va_iald hx hb hK.1 hP 0 0 rfl rfl h_11 dX5_knownGuest_27 ?_
      refine lv_iconst (v := (1 : Int32)) hx hb dX5_knownGuest_28 (by decide) ?_
      refine lv_icmp_eq (tgt := 38) hx hb dX5_knownGuest_29 (by decide) (fun c_12 => ?_) (fun c_12 => ?_)
      · have hF := it_p c_12 hF
        refine lv_aload_n hx hb dX5_knownGuest_38 rfl (lv_at hl 1 rfl) ?_
        obtain ⟨u_13, hu_14, hF⟩ := ob1_some hF
        refine call_i (wr := [aI g (p_t 13) 16 f_t_13, aI g (p_t 14) 16 f_t_14, aJ g (p_t 12) 16 f_t_12]) (As := []) (rest := []) (ci := 5) (q0 := 0) C0 (mX5_failed l g a_t p_t n o_t c_t u_13 hu_14) (cwV 0 hts gX5_knownGuest_X5_failed rfl rfl rfl (by decide +kernel) ⟨Nat.le_of_ble_eq_true rfl, Nat.le_of_ble_eq_true rfl⟩) hP hD hS [2] [0, 1, 3] rfl rfl rfl rfl rfl (by decide) rfl rfl hl.1 rfl rfl (Nat.le_of_ble_eq_true rfl) ⟨Nat.zero_le _, Nat.zero_le _⟩ dX5_knownGuest_39 ?_
        intro H locs hP hD hS
        refine lv_if_eq (tgt := 49) hx hb dX5_knownGuest_42 (by decide) (fun c_15 => ?_) (fun c_15 => ?_)
        · have hF := it_p c_15 hF
          refine lv_aload_n hx hb dX5_knownGuest_49 rfl (lv_at hl 1 rfl) ?_
          refine va_get (D := g.1) (ci := 5) (v := .ref (p_t 14)) (C := RX5) (T := TX5) (N := 15) hx hb hts iX5_knownGuest_X5 hown hK.1 hP 3 rfl rfl 14 (by decide) (hts _ kX5_knownGuest_58) (fun _ h9 => h9) rfl dX5_knownGuest_50 ?_
          refine lv_iload_n hx hb dX5_knownGuest_53 rfl (lv_at hl 0 rfl) ?_
          obtain ⟨h_16, hF⟩ := it_ck hF
          refine va_iald hx hb hK.1 hP 1 0 rfl rfl h_16 dX5_knownGuest_54 ?_
          cases hF
          exact ret_i C0 hP hD hS [3, 2, 0, 1] rfl rfl rfl dX5_knownGuest_55 rfl
        · have hF := it_n c_15 hF
          refine lv_iconst (v := (-1 : Int32)) hx hb dX5_knownGuest_45 (by decide) ?_
          refine lv_goto (tgt := 55) hx hb dX5_knownGuest_46 (by decide) ?_
          cases hF
          exact ret_i C0 hP hD hS [3, 2, 0, 1] rfl rfl rfl dX5_knownGuest_55 rfl
      · have hF := it_n c_12 hF
        refine lv_aload_n hx hb dX5_knownGuest_32 rfl (lv_at hl 1 rfl) ?_
        refine lv_iconst (v := (2 : Int32)) hx hb dX5_knownGuest_33 (by decide) ?_
        obtain ⟨u_17, u_18, u_19, hu_20, hF⟩ := ob3_some hF
        refine call_i (wr := [aI g (p_t 13) 16 f_t_13, aI g (p_t 14) 16 f_t_14, aJ g (p_t 12) 16 f_t_12]) (As := [.int (2 : Int32)]) (rest := []) (ci := 5) (q0 := 0) C0 (mX5_fail l g a_t p_t n (2 : Int32) o_t c_t u_17 u_18 u_19 hu_20) (cwV 1 hts gX5_knownGuest_X5_fail rfl rfl rfl (by decide +kernel) ⟨Nat.le_of_ble_eq_true rfl, Nat.le_of_ble_eq_true rfl⟩) hP hD hS [2] [0, 1, 3] rfl rfl rfl rfl rfl (by decide) rfl rfl hl.1 rfl rfl (Nat.le_of_ble_eq_true rfl) ⟨Nat.zero_le _, Nat.zero_le _⟩ dX5_knownGuest_34 ?_
        intro H locs hP hD hS
        cases hF
        exact ret_i C0 hP hD hS [3, 2, 0, 1] rfl rfl rfl dX5_knownGuest_37 rfl
  · have hF := it_p c_3 hF
    refine lv_aload_n hx hb dX5_knownGuest_7 rfl (lv_at hl 0 rfl) ?_
    refine lv_iconst (v := (1 : Int32)) hx hb dX5_knownGuest_8 (by decide) ?_
    obtain ⟨u_21, u_22, u_23, hu_24, hF⟩ := ob3_some hF
    refine call_i (wr := [aJ g (p_t 12) 16 f_t_12, aI g (p_t 13) 16 f_t_13, aI g (p_t 14) 16 f_t_14]) (As := [.int (1 : Int32)]) (rest := []) (ci := 5) (q0 := 0) C0 (mX5_fail l g a_t p_t n (1 : Int32) o_t c_t u_21 u_22 u_23 hu_24) (cwV 1 hts gX5_knownGuest_X5_fail rfl rfl rfl (by decide +kernel) ⟨Nat.le_of_ble_eq_true rfl, Nat.le_of_ble_eq_true rfl⟩) hP hD hS [3] [0, 1, 2] rfl rfl rfl rfl rfl (by decide) rfl rfl hl.1 rfl rfl (Nat.le_of_ble_eq_true rfl) ⟨Nat.zero_le _, Nat.zero_le _⟩ dX5_knownGuest_9 ?_
    intro H locs hP hD hS
    cases hF
    exact ret_i C0 hP hD hS [3, 0, 1, 2] rfl rfl rfl dX5_knownGuest_12 rfl

theorem dAX5_takeSingle : ∀ q ∈ ([(0, (.aload_n 0, 1)), (1, (.invokevirtual 198, 3)), (4, (.istore_n 3, 1)), (5, (.iload_n 3, 1)), (6, (.ifCond .lt 31, 3)), (9, (.iload_n 3, 1)), (10, (.aload_n 1, 1)), (11, (.getfield 86, 3)), (14, (.if_icmp .ge 23, 3)), (17, (.iload_n 3, 1)), (18, (.iload_n 2, 1)), (19, (.if_icmp .eq 12, 3)), (22, (.aload_n 1, 1)), (23, (.getfield 188, 3)), (26, (.iload_n 3, 1)), (27, (.iaload, 1)), (28, (.ifCond .lt 9, 3)), (31, (.aload_n 0, 1)), (32, (.iconst 3, 1)), (33, (.invokevirtual 89, 3)), (36, (.pop, 1)), (37, (.aload_n 0, 1)), (38, (.iload_n 3, 1)), (39, (.invokevirtual 132, 3)), (42, (.ireturn, 1))] : List (Nat × (Instr × Nat))), decode cX5_takeSingle q.1 = .ok q.2 := by decide +kernel
theorem dX5_takeSingle_0 : decode cX5_takeSingle 0 = .ok (.aload_n 0, 1) := dAX5_takeSingle (0, (.aload_n 0, 1)) (List.mem_of_getElem? (i := 0) rfl)
theorem dX5_takeSingle_1 : decode cX5_takeSingle 1 = .ok (.invokevirtual 198, 3) := dAX5_takeSingle (1, (.invokevirtual 198, 3)) (List.mem_of_getElem? (i := 1) rfl)
theorem dX5_takeSingle_4 : decode cX5_takeSingle 4 = .ok (.istore_n 3, 1) := dAX5_takeSingle (4, (.istore_n 3, 1)) (List.mem_of_getElem? (i := 2) rfl)
theorem dX5_takeSingle_5 : decode cX5_takeSingle 5 = .ok (.iload_n 3, 1) := dAX5_takeSingle (5, (.iload_n 3, 1)) (List.mem_of_getElem? (i := 3) rfl)
theorem dX5_takeSingle_6 : decode cX5_takeSingle 6 = .ok (.ifCond .lt 31, 3) := dAX5_takeSingle (6, (.ifCond .lt 31, 3)) (List.mem_of_getElem? (i := 4) rfl)
theorem dX5_takeSingle_9 : decode cX5_takeSingle 9 = .ok (.iload_n 3, 1) := dAX5_takeSingle (9, (.iload_n 3, 1)) (List.mem_of_getElem? (i := 5) rfl)
theorem dX5_takeSingle_10 : decode cX5_takeSingle 10 = .ok (.aload_n 1, 1) := dAX5_takeSingle (10, (.aload_n 1, 1)) (List.mem_of_getElem? (i := 6) rfl)
theorem dX5_takeSingle_11 : decode cX5_takeSingle 11 = .ok (.getfield 86, 3) := dAX5_takeSingle (11, (.getfield 86, 3)) (List.mem_of_getElem? (i := 7) rfl)
theorem dX5_takeSingle_14 : decode cX5_takeSingle 14 = .ok (.if_icmp .ge 23, 3) := dAX5_takeSingle (14, (.if_icmp .ge 23, 3)) (List.mem_of_getElem? (i := 8) rfl)
theorem dX5_takeSingle_17 : decode cX5_takeSingle 17 = .ok (.iload_n 3, 1) := dAX5_takeSingle (17, (.iload_n 3, 1)) (List.mem_of_getElem? (i := 9) rfl)
theorem dX5_takeSingle_18 : decode cX5_takeSingle 18 = .ok (.iload_n 2, 1) := dAX5_takeSingle (18, (.iload_n 2, 1)) (List.mem_of_getElem? (i := 10) rfl)
theorem dX5_takeSingle_19 : decode cX5_takeSingle 19 = .ok (.if_icmp .eq 12, 3) := dAX5_takeSingle (19, (.if_icmp .eq 12, 3)) (List.mem_of_getElem? (i := 11) rfl)
theorem dX5_takeSingle_22 : decode cX5_takeSingle 22 = .ok (.aload_n 1, 1) := dAX5_takeSingle (22, (.aload_n 1, 1)) (List.mem_of_getElem? (i := 12) rfl)
theorem dX5_takeSingle_23 : decode cX5_takeSingle 23 = .ok (.getfield 188, 3) := dAX5_takeSingle (23, (.getfield 188, 3)) (List.mem_of_getElem? (i := 13) rfl)
theorem dX5_takeSingle_26 : decode cX5_takeSingle 26 = .ok (.iload_n 3, 1) := dAX5_takeSingle (26, (.iload_n 3, 1)) (List.mem_of_getElem? (i := 14) rfl)
theorem dX5_takeSingle_27 : decode cX5_takeSingle 27 = .ok (.iaload, 1) := dAX5_takeSingle (27, (.iaload, 1)) (List.mem_of_getElem? (i := 15) rfl)
theorem dX5_takeSingle_28 : decode cX5_takeSingle 28 = .ok (.ifCond .lt 9, 3) := dAX5_takeSingle (28, (.ifCond .lt 9, 3)) (List.mem_of_getElem? (i := 16) rfl)
theorem dX5_takeSingle_31 : decode cX5_takeSingle 31 = .ok (.aload_n 0, 1) := dAX5_takeSingle (31, (.aload_n 0, 1)) (List.mem_of_getElem? (i := 17) rfl)
theorem dX5_takeSingle_32 : decode cX5_takeSingle 32 = .ok (.iconst 3, 1) := dAX5_takeSingle (32, (.iconst 3, 1)) (List.mem_of_getElem? (i := 18) rfl)
theorem dX5_takeSingle_33 : decode cX5_takeSingle 33 = .ok (.invokevirtual 89, 3) := dAX5_takeSingle (33, (.invokevirtual 89, 3)) (List.mem_of_getElem? (i := 19) rfl)
theorem dX5_takeSingle_36 : decode cX5_takeSingle 36 = .ok (.pop, 1) := dAX5_takeSingle (36, (.pop, 1)) (List.mem_of_getElem? (i := 20) rfl)
theorem dX5_takeSingle_37 : decode cX5_takeSingle 37 = .ok (.aload_n 0, 1) := dAX5_takeSingle (37, (.aload_n 0, 1)) (List.mem_of_getElem? (i := 21) rfl)
theorem dX5_takeSingle_38 : decode cX5_takeSingle 38 = .ok (.iload_n 3, 1) := dAX5_takeSingle (38, (.iload_n 3, 1)) (List.mem_of_getElem? (i := 22) rfl)
theorem dX5_takeSingle_39 : decode cX5_takeSingle 39 = .ok (.invokevirtual 132, 3) := dAX5_takeSingle (39, (.invokevirtual 132, 3)) (List.mem_of_getElem? (i := 23) rfl)
theorem dX5_takeSingle_42 : decode cX5_takeSingle 42 = .ok (.ireturn, 1) := dAX5_takeSingle (42, (.ireturn, 1)) (List.mem_of_getElem? (i := 24) rfl)
set_option maxRecDepth 20000 in
theorem ggX5_takeSingle_X5_knownGuest : GoodIn wsX5_takeSingle wsX5_knownGuest := goodIn_r _ [7, 8, 9, 10, 11, 12, 6, 13, 14, 15, 16, 17, 18, 19, 20, 21, 22, 23, 24, 25, 26, 27, 28, 29, 30, 31, 32, 33, 34, 35, 36, 37, 38, 39, 40, 41, 42, 43, 44, 82, 83, 84, 85, 86, 87, 88, 89, 90, 91, 92, 93, 94, 95, 96] rfl (by decide +kernel)
set_option maxRecDepth 20000 in
theorem gX5_takeSingle_X5_knownGuest : GoodIn wsX5_takeSingle (wsV RX5 198 RX5 yX5_knownGuest wsX5_knownGuest) := goodIn_app (goodIn_of _ (by decide +kernel)) ggX5_takeSingle_X5_knownGuest
set_option maxRecDepth 20000 in
theorem ggX5_takeSingle_X5_fail : GoodIn wsX5_takeSingle wsX5_fail := goodIn_r _ [31, 32, 33, 34, 35, 36, 37, 6, 38, 82, 83, 84, 85, 86, 87, 88, 89, 90, 91, 92, 93, 94, 95, 96] rfl (by decide +kernel)
set_option maxRecDepth 20000 in
theorem gX5_takeSingle_X5_fail : GoodIn wsX5_takeSingle (wsV RX5 89 RX5 yX5_fail wsX5_fail) := goodIn_app (goodIn_of _ (by decide +kernel)) ggX5_takeSingle_X5_fail
set_option maxRecDepth 20000 in
theorem ggX5_takeSingle_X5_taken : GoodIn wsX5_takeSingle wsX5_taken := goodIn_r _ [48, 35, 36, 37, 6, 38, 32, 49, 50, 51, 52, 53, 33, 54, 55, 14, 56, 57, 58, 59, 19, 60, 61, 62, 63, 64, 82, 83, 84, 85, 86, 87, 88, 89, 90, 91, 92, 93, 94, 95, 96] rfl (by decide +kernel)
set_option maxRecDepth 20000 in
theorem gX5_takeSingle_X5_taken : GoodIn wsX5_takeSingle (wsV RX5 132 RX5 yX5_taken wsX5_taken) := goodIn_app (goodIn_of _ (by decide +kernel)) ggX5_takeSingle_X5_taken
theorem kX5_takeSingle_86 : Cond.fieldLink RX5 86 "EveningVow$House" "guests" "I" ∈ wsX5_takeSingle := List.mem_of_getElem? (i := 1) rfl
theorem iX5_takeSingle_X1 : ∀ w ∈ u_ws RX1 TX1 17, w ∈ wsX5_takeSingle := fun w h => (List.mem_cons_of_mem _ (List.mem_append_left _ (List.mem_append_right _ h)))
theorem kX5_takeSingle_188 : Cond.fieldLink RX5 188 "EveningVow$House" "mate" "[I" ∈ wsX5_takeSingle := List.mem_of_getElem? (i := 2) rfl
set_option maxHeartbeats 4000000 in
set_option maxRecDepth 100000 in
theorem mX5_takeSingle (l : Launch) (g : GG) (a_t : Nat) (a_r1 : Nat) (p_t : Nat → Nat) (p_r1 : Nat → Nat) (n : Nat) (x2 : Int32) (o_t : Nat → Int32) (c_t : Int64) (f_t_0 : Nat → Int32) (f_t_12 : Nat → Int64) (f_t_13 : Nat → Int32) (f_t_14 : Nat → Int32) (o_r1 : Nat → Int32) (f_r1_7 : Nat → Int32) (r : Int32) (o_t' : Nat → Int32) (c_t' : Int64) (hF : fX5_takeSingle n x2 o_t c_t f_t_0 f_t_12 f_t_13 f_t_14 o_r1 f_r1_7 = some (r, o_t', c_t')) : MI l g yX5_takeSingle wsX5_takeSingle ({ frames := 3, cells := 0, slots := 0, locals := 62 } : Room) [.ref a_t, .ref a_r1, .int x2] [oX5 a_t p_t o_t c_t, aI g (p_t 0) 800 f_t_0, aJ g (p_t 12) 16 f_t_12, aI g (p_t 13) 16 f_t_13, aI g (p_t 14) 16 f_t_14, oX1 a_r1 p_r1 o_r1, aI g (p_r1 7) 7 f_r1_7] r [oX5 a_t p_t o_t' c_t', aI g (p_t 0) 800 f_t_0, aJ g (p_t 12) 16 f_t_12, aI g (p_t 13) 16 f_t_13, aI g (p_t 14) 16 f_t_14, oX1 a_r1 p_r1 o_r1, aI g (p_r1 7) 7 f_r1_7] := by
  refine MI.of (cc := cX5_takeSingle) (maxL := 4) (rt := .int) (own := RX5) rfl rfl (by decide) (Nat.le_of_ble_eq_true rfl) ?_
  intro p e s m args below meth c A C0 hP hD hS ls hl
  obtain ⟨hx, hb, hml, hown, hts, hr, hlk, hK, hA, hSW⟩ := id C0
  have hl : lv_has ls 4 [(0, .ref a_t), (1, .ref a_r1), (2, .int x2)] := hl
  rw [fX5_takeSingle] at hF
  refine lv_aload_n hx hb dX5_takeSingle_0 rfl (lv_at hl 0 rfl) ?_
  obtain ⟨u_1, u_2, u_3, hu_4, hF⟩ := ob3_some hF
  refine call_i (wr := [aI g (p_t 0) 800 f_t_0, oX1 a_r1 p_r1 o_r1, aI g (p_r1 7) 7 f_r1_7]) (As := []) (rest := []) (ci := 5) (q0 := 0) C0 (mX5_knownGuest l g a_t p_t n o_t c_t f_t_12 f_t_13 f_t_14 u_1 u_2 u_3 hu_4) (cwV 0 hts gX5_takeSingle_X5_knownGuest rfl rfl rfl (by decide +kernel) ⟨Nat.le_of_ble_eq_true rfl, Nat.le_of_ble_eq_true rfl⟩) hP hD hS [0, 2, 3, 4] [1, 5, 6] rfl rfl rfl rfl rfl (by decide) rfl rfl hl.1 rfl rfl (Nat.le_of_ble_eq_true rfl) ⟨Nat.zero_le _, Nat.zero_le _⟩ dX5_takeSingle_1 ?_
  intro H locs hP hD hS
  refine lv_istore_n (lv' := [(3, .int u_1), (0, .ref a_t), (1, .ref a_r1), (2, .int x2)]) hx hb dX5_takeSingle_4 rfl hl (by decide) rfl (fun ls hl => ?_)
  refine lv_iload_n hx hb dX5_takeSingle_5 rfl (lv_at hl 0 rfl) ?_
  refine lv_if_lt (tgt := 37) hx hb dX5_takeSingle_6 (by decide) (fun c_5 => ?_) (fun c_5 => ?_)
  · have hF := it_p c_5 hF
    refine lv_aload_n hx hb dX5_takeSingle_37 rfl (lv_at hl 1 rfl) ?_
    refine lv_iload_n hx hb dX5_takeSingle_38 rfl (lv_at hl 0 rfl) ?_
    obtain ⟨u_6, u_7, u_8, hu_9, hF⟩ := ob3_some hF
    refine call_i (wr := [oX1 a_r1 p_r1 o_r1, aI g (p_r1 7) 7 f_r1_7, aJ g (p_t 12) 16 f_t_12, aI g (p_t 13) 16 f_t_13, aI g (p_t 14) 16 f_t_14]) (As := [.int u_1]) (rest := []) (ci := 5) (q0 := 0) C0 (mX5_taken l g a_t p_t n u_1 u_2 u_3 f_t_0 u_6 u_7 u_8 hu_9) (cwV 1 hts gX5_takeSingle_X5_taken rfl rfl rfl (by decide +kernel) ⟨Nat.le_of_ble_eq_true rfl, Nat.le_of_ble_eq_true rfl⟩) hP hD hS [3, 0] [1, 2, 4, 5, 6] rfl rfl rfl rfl rfl (by decide) rfl rfl hl.1 rfl rfl (Nat.le_of_ble_eq_true rfl) ⟨Nat.zero_le _, Nat.zero_le _⟩ dX5_takeSingle_39 ?_
    intro H locs hP hD hS
    cases hF
    exact ret_i C0 hP hD hS [5, 6, 2, 3, 4, 0, 1] rfl rfl rfl dX5_takeSingle_42 rfl
  · have hF := it_n c_5 hF
    refine lv_iload_n hx hb dX5_takeSingle_9 rfl (lv_at hl 0 rfl) ?_
    refine lv_aload_n hx hb dX5_takeSingle_10 rfl (lv_at hl 2 rfl) ?_
    refine va_get (D := g.1) (ci := 1) (v := .int (o_r1 3)) (C := RX1) (T := TX1) (N := 17) hx hb hts iX5_takeSingle_X1 hown hK.1 hP 1 rfl rfl 3 (by decide) (hts _ kX5_takeSingle_86) (fun _ h9 => h9) rfl dX5_takeSingle_11 ?_
    refine lv_icmp_ge (tgt := 37) hx hb dX5_takeSingle_14 (by decide) (fun c_10 => ?_) (fun c_10 => ?_)
    · have hF := it_p c_10 hF
      refine lv_aload_n hx hb dX5_takeSingle_37 rfl (lv_at hl 1 rfl) ?_
      refine lv_iload_n hx hb dX5_takeSingle_38 rfl (lv_at hl 0 rfl) ?_
      obtain ⟨u_11, u_12, u_13, hu_14, hF⟩ := ob3_some hF
      refine call_i (wr := [oX1 a_r1 p_r1 o_r1, aI g (p_r1 7) 7 f_r1_7, aJ g (p_t 12) 16 f_t_12, aI g (p_t 13) 16 f_t_13, aI g (p_t 14) 16 f_t_14]) (As := [.int u_1]) (rest := []) (ci := 5) (q0 := 0) C0 (mX5_taken l g a_t p_t n u_1 u_2 u_3 f_t_0 u_11 u_12 u_13 hu_14) (cwV 1 hts gX5_takeSingle_X5_taken rfl rfl rfl (by decide +kernel) ⟨Nat.le_of_ble_eq_true rfl, Nat.le_of_ble_eq_true rfl⟩) hP hD hS [3, 0] [1, 2, 4, 5, 6] rfl rfl rfl rfl rfl (by decide) rfl rfl hl.1 rfl rfl (Nat.le_of_ble_eq_true rfl) ⟨Nat.zero_le _, Nat.zero_le _⟩ dX5_takeSingle_39 ?_
      intro H locs hP hD hS
      cases hF
      exact ret_i C0 hP hD hS [5, 6, 2, 3, 4, 0, 1] rfl rfl rfl dX5_takeSingle_42 rfl
    · have hF := it_n c_10 hF
      refine lv_iload_n hx hb dX5_takeSingle_17 rfl (lv_at hl 0 rfl) ?_
      refine lv_iload_n hx hb dX5_takeSingle_18 rfl (lv_at hl 3 rfl) ?_
      refine lv_icmp_eq (tgt := 31) hx hb dX5_takeSingle_19 (by decide) (fun c_15 => ?_) (fun c_15 => ?_)
      · have hF := it_p c_15 hF
        refine lv_aload_n hx hb dX5_takeSingle_31 rfl (lv_at hl 1 rfl) ?_
        refine lv_iconst (v := (3 : Int32)) hx hb dX5_takeSingle_32 (by decide) ?_
        obtain ⟨u_16, u_17, u_18, hu_19, hF⟩ := ob3_some hF
        refine call_i (wr := [aI g (p_t 0) 800 f_t_0, oX1 a_r1 p_r1 o_r1, aI g (p_r1 7) 7 f_r1_7, aJ g (p_t 12) 16 f_t_12, aI g (p_t 13) 16 f_t_13, aI g (p_t 14) 16 f_t_14]) (As := [.int (3 : Int32)]) (rest := []) (ci := 5) (q0 := 0) C0 (mX5_fail l g a_t p_t n (3 : Int32) u_2 u_3 u_16 u_17 u_18 hu_19) (cwV 1 hts gX5_takeSingle_X5_fail rfl rfl rfl (by decide +kernel) ⟨Nat.le_of_ble_eq_true rfl, Nat.le_of_ble_eq_true rfl⟩) hP hD hS [3] [0, 1, 2, 4, 5, 6] rfl rfl rfl rfl rfl (by decide) rfl rfl hl.1 rfl rfl (Nat.le_of_ble_eq_true rfl) ⟨Nat.zero_le _, Nat.zero_le _⟩ dX5_takeSingle_33 ?_
        intro H locs hP hD hS
        refine lv_pop hx hb dX5_takeSingle_36 rfl ?_
        refine lv_aload_n hx hb dX5_takeSingle_37 rfl (lv_at hl 1 rfl) ?_
        refine lv_iload_n hx hb dX5_takeSingle_38 rfl (lv_at hl 0 rfl) ?_
        obtain ⟨u_20, u_21, u_22, hu_23, hF⟩ := ob3_some hF
        refine call_i (wr := [oX1 a_r1 p_r1 o_r1, aI g (p_r1 7) 7 f_r1_7, aJ g (p_t 12) 16 f_t_12, aI g (p_t 13) 16 f_t_13, aI g (p_t 14) 16 f_t_14]) (As := [.int u_1]) (rest := []) (ci := 5) (q0 := 0) C0 (mX5_taken l g a_t p_t n u_1 u_17 u_18 f_t_0 u_20 u_21 u_22 hu_23) (cwV 1 hts gX5_takeSingle_X5_taken rfl rfl rfl (by decide +kernel) ⟨Nat.le_of_ble_eq_true rfl, Nat.le_of_ble_eq_true rfl⟩) hP hD hS [6, 0] [1, 2, 3, 4, 5] rfl rfl rfl rfl rfl (by decide) rfl rfl hl.1 rfl rfl (Nat.le_of_ble_eq_true rfl) ⟨Nat.zero_le _, Nat.zero_le _⟩ dX5_takeSingle_39 ?_
        intro H locs hP hD hS
        cases hF
        exact ret_i C0 hP hD hS [5, 6, 2, 3, 4, 0, 1] rfl rfl rfl dX5_takeSingle_42 rfl
      · have hF := it_n c_15 hF
        refine lv_aload_n hx hb dX5_takeSingle_22 rfl (lv_at hl 2 rfl) ?_
        refine va_get (D := g.1) (ci := 1) (v := .ref (p_r1 7)) (C := RX1) (T := TX1) (N := 17) hx hb hts iX5_takeSingle_X1 hown hK.1 hP 1 rfl rfl 7 (by decide) (hts _ kX5_takeSingle_188) (fun _ h9 => h9) rfl dX5_takeSingle_23 ?_
        refine lv_iload_n hx hb dX5_takeSingle_26 rfl (lv_at hl 0 rfl) ?_
        obtain ⟨h_24, hF⟩ := it_ck hF
        refine va_iald hx hb hK.1 hP 2 0 rfl rfl h_24 dX5_takeSingle_27 ?_
        refine lv_if_lt (tgt := 37) hx hb dX5_takeSingle_28 (by decide) (fun c_25 => ?_) (fun c_25 => ?_)
        · have hF := it_p c_25 hF
          refine lv_aload_n hx hb dX5_takeSingle_37 rfl (lv_at hl 1 rfl) ?_
          refine lv_iload_n hx hb dX5_takeSingle_38 rfl (lv_at hl 0 rfl) ?_
          obtain ⟨u_26, u_27, u_28, hu_29, hF⟩ := ob3_some hF
          refine call_i (wr := [oX1 a_r1 p_r1 o_r1, aI g (p_r1 7) 7 f_r1_7, aJ g (p_t 12) 16 f_t_12, aI g (p_t 13) 16 f_t_13, aI g (p_t 14) 16 f_t_14]) (As := [.int u_1]) (rest := []) (ci := 5) (q0 := 0) C0 (mX5_taken l g a_t p_t n u_1 u_2 u_3 f_t_0 u_26 u_27 u_28 hu_29) (cwV 1 hts gX5_takeSingle_X5_taken rfl rfl rfl (by decide +kernel) ⟨Nat.le_of_ble_eq_true rfl, Nat.le_of_ble_eq_true rfl⟩) hP hD hS [3, 0] [1, 2, 4, 5, 6] rfl rfl rfl rfl rfl (by decide) rfl rfl hl.1 rfl rfl (Nat.le_of_ble_eq_true rfl) ⟨Nat.zero_le _, Nat.zero_le _⟩ dX5_takeSingle_39 ?_
          intro H locs hP hD hS
          cases hF
          exact ret_i C0 hP hD hS [5, 6, 2, 3, 4, 0, 1] rfl rfl rfl dX5_takeSingle_42 rfl
        · have hF := it_n c_25 hF
          refine lv_aload_n hx hb dX5_takeSingle_31 rfl (lv_at hl 1 rfl) ?_
          refine lv_iconst (v := (3 : Int32)) hx hb dX5_takeSingle_32 (by decide) ?_
          obtain ⟨u_30, u_31, u_32, hu_33, hF⟩ := ob3_some hF
          refine call_i (wr := [aI g (p_t 0) 800 f_t_0, oX1 a_r1 p_r1 o_r1, aI g (p_r1 7) 7 f_r1_7, aJ g (p_t 12) 16 f_t_12, aI g (p_t 13) 16 f_t_13, aI g (p_t 14) 16 f_t_14]) (As := [.int (3 : Int32)]) (rest := []) (ci := 5) (q0 := 0) C0 (mX5_fail l g a_t p_t n (3 : Int32) u_2 u_3 u_30 u_31 u_32 hu_33) (cwV 1 hts gX5_takeSingle_X5_fail rfl rfl rfl (by decide +kernel) ⟨Nat.le_of_ble_eq_true rfl, Nat.le_of_ble_eq_true rfl⟩) hP hD hS [3] [0, 1, 2, 4, 5, 6] rfl rfl rfl rfl rfl (by decide) rfl rfl hl.1 rfl rfl (Nat.le_of_ble_eq_true rfl) ⟨Nat.zero_le _, Nat.zero_le _⟩ dX5_takeSingle_33 ?_
          intro H locs hP hD hS
          refine lv_pop hx hb dX5_takeSingle_36 rfl ?_
          refine lv_aload_n hx hb dX5_takeSingle_37 rfl (lv_at hl 1 rfl) ?_
          refine lv_iload_n hx hb dX5_takeSingle_38 rfl (lv_at hl 0 rfl) ?_
          obtain ⟨u_34, u_35, u_36, hu_37, hF⟩ := ob3_some hF
          refine call_i (wr := [oX1 a_r1 p_r1 o_r1, aI g (p_r1 7) 7 f_r1_7, aJ g (p_t 12) 16 f_t_12, aI g (p_t 13) 16 f_t_13, aI g (p_t 14) 16 f_t_14]) (As := [.int u_1]) (rest := []) (ci := 5) (q0 := 0) C0 (mX5_taken l g a_t p_t n u_1 u_31 u_32 f_t_0 u_34 u_35 u_36 hu_37) (cwV 1 hts gX5_takeSingle_X5_taken rfl rfl rfl (by decide +kernel) ⟨Nat.le_of_ble_eq_true rfl, Nat.le_of_ble_eq_true rfl⟩) hP hD hS [6, 0] [1, 2, 3, 4, 5] rfl rfl rfl rfl rfl (by decide) rfl rfl hl.1 rfl rfl (Nat.le_of_ble_eq_true rfl) ⟨Nat.zero_le _, Nat.zero_le _⟩ dX5_takeSingle_39 ?_
          intro H locs hP hD hS
          cases hF
          exact ret_i C0 hP hD hS [5, 6, 2, 3, 4, 0, 1] rfl rfl rfl dX5_takeSingle_42 rfl

theorem dAX5_readPair : ∀ q ∈ ([(0, (.aload_n 0, 1)), (1, (.aload_n 1, 1)), (2, (.iconst (-1), 1)), (3, (.invokevirtual 191, 3)), (6, (.istore_n 2, 1)), (7, (.aload_n 0, 1)), (8, (.aload_n 1, 1)), (9, (.iload_n 2, 1)), (10, (.invokevirtual 191, 3)), (13, (.istore_n 3, 1)), (14, (.iload_n 2, 1)), (15, (.ifCond .lt 47, 3)), (18, (.iload_n 2, 1)), (19, (.aload_n 1, 1)), (20, (.getfield 86, 3)), (23, (.if_icmp .ge 39, 3)), (26, (.iload_n 3, 1)), (27, (.ifCond .lt 35, 3)), (30, (.iload_n 3, 1)), (31, (.aload_n 1, 1)), (32, (.getfield 86, 3)), (35, (.if_icmp .ge 27, 3)), (38, (.aload_n 1, 1)), (39, (.getfield 188, 3)), (42, (.iload_n 2, 1)), (43, (.iload_n 3, 1)), (44, (.iastore, 1)), (45, (.aload_n 1, 1)), (46, (.getfield 188, 3)), (49, (.iload_n 3, 1)), (50, (.iload_n 2, 1)), (51, (.iastore, 1)), (52, (.aload_n 1, 1)), (53, (.dup, 1)), (54, (.getfield 195, 3)), (57, (.iconst 1, 1)), (58, (.iadd, 1)), (59, (.putfield 195, 3)), (62, (.return_, 1))] : List (Nat × (Instr × Nat))), decode cX5_readPair q.1 = .ok q.2 := by decide +kernel
theorem dX5_readPair_0 : decode cX5_readPair 0 = .ok (.aload_n 0, 1) := dAX5_readPair (0, (.aload_n 0, 1)) (List.mem_of_getElem? (i := 0) rfl)
theorem dX5_readPair_1 : decode cX5_readPair 1 = .ok (.aload_n 1, 1) := dAX5_readPair (1, (.aload_n 1, 1)) (List.mem_of_getElem? (i := 1) rfl)
theorem dX5_readPair_2 : decode cX5_readPair 2 = .ok (.iconst (-1), 1) := dAX5_readPair (2, (.iconst (-1), 1)) (List.mem_of_getElem? (i := 2) rfl)
theorem dX5_readPair_3 : decode cX5_readPair 3 = .ok (.invokevirtual 191, 3) := dAX5_readPair (3, (.invokevirtual 191, 3)) (List.mem_of_getElem? (i := 3) rfl)
theorem dX5_readPair_6 : decode cX5_readPair 6 = .ok (.istore_n 2, 1) := dAX5_readPair (6, (.istore_n 2, 1)) (List.mem_of_getElem? (i := 4) rfl)
theorem dX5_readPair_7 : decode cX5_readPair 7 = .ok (.aload_n 0, 1) := dAX5_readPair (7, (.aload_n 0, 1)) (List.mem_of_getElem? (i := 5) rfl)
theorem dX5_readPair_8 : decode cX5_readPair 8 = .ok (.aload_n 1, 1) := dAX5_readPair (8, (.aload_n 1, 1)) (List.mem_of_getElem? (i := 6) rfl)
theorem dX5_readPair_9 : decode cX5_readPair 9 = .ok (.iload_n 2, 1) := dAX5_readPair (9, (.iload_n 2, 1)) (List.mem_of_getElem? (i := 7) rfl)
theorem dX5_readPair_10 : decode cX5_readPair 10 = .ok (.invokevirtual 191, 3) := dAX5_readPair (10, (.invokevirtual 191, 3)) (List.mem_of_getElem? (i := 8) rfl)
theorem dX5_readPair_13 : decode cX5_readPair 13 = .ok (.istore_n 3, 1) := dAX5_readPair (13, (.istore_n 3, 1)) (List.mem_of_getElem? (i := 9) rfl)
theorem dX5_readPair_14 : decode cX5_readPair 14 = .ok (.iload_n 2, 1) := dAX5_readPair (14, (.iload_n 2, 1)) (List.mem_of_getElem? (i := 10) rfl)
theorem dX5_readPair_15 : decode cX5_readPair 15 = .ok (.ifCond .lt 47, 3) := dAX5_readPair (15, (.ifCond .lt 47, 3)) (List.mem_of_getElem? (i := 11) rfl)
theorem dX5_readPair_18 : decode cX5_readPair 18 = .ok (.iload_n 2, 1) := dAX5_readPair (18, (.iload_n 2, 1)) (List.mem_of_getElem? (i := 12) rfl)
theorem dX5_readPair_19 : decode cX5_readPair 19 = .ok (.aload_n 1, 1) := dAX5_readPair (19, (.aload_n 1, 1)) (List.mem_of_getElem? (i := 13) rfl)
theorem dX5_readPair_20 : decode cX5_readPair 20 = .ok (.getfield 86, 3) := dAX5_readPair (20, (.getfield 86, 3)) (List.mem_of_getElem? (i := 14) rfl)
theorem dX5_readPair_23 : decode cX5_readPair 23 = .ok (.if_icmp .ge 39, 3) := dAX5_readPair (23, (.if_icmp .ge 39, 3)) (List.mem_of_getElem? (i := 15) rfl)
theorem dX5_readPair_26 : decode cX5_readPair 26 = .ok (.iload_n 3, 1) := dAX5_readPair (26, (.iload_n 3, 1)) (List.mem_of_getElem? (i := 16) rfl)
theorem dX5_readPair_27 : decode cX5_readPair 27 = .ok (.ifCond .lt 35, 3) := dAX5_readPair (27, (.ifCond .lt 35, 3)) (List.mem_of_getElem? (i := 17) rfl)
theorem dX5_readPair_30 : decode cX5_readPair 30 = .ok (.iload_n 3, 1) := dAX5_readPair (30, (.iload_n 3, 1)) (List.mem_of_getElem? (i := 18) rfl)
theorem dX5_readPair_31 : decode cX5_readPair 31 = .ok (.aload_n 1, 1) := dAX5_readPair (31, (.aload_n 1, 1)) (List.mem_of_getElem? (i := 19) rfl)
theorem dX5_readPair_32 : decode cX5_readPair 32 = .ok (.getfield 86, 3) := dAX5_readPair (32, (.getfield 86, 3)) (List.mem_of_getElem? (i := 20) rfl)
theorem dX5_readPair_35 : decode cX5_readPair 35 = .ok (.if_icmp .ge 27, 3) := dAX5_readPair (35, (.if_icmp .ge 27, 3)) (List.mem_of_getElem? (i := 21) rfl)
theorem dX5_readPair_38 : decode cX5_readPair 38 = .ok (.aload_n 1, 1) := dAX5_readPair (38, (.aload_n 1, 1)) (List.mem_of_getElem? (i := 22) rfl)
theorem dX5_readPair_39 : decode cX5_readPair 39 = .ok (.getfield 188, 3) := dAX5_readPair (39, (.getfield 188, 3)) (List.mem_of_getElem? (i := 23) rfl)
theorem dX5_readPair_42 : decode cX5_readPair 42 = .ok (.iload_n 2, 1) := dAX5_readPair (42, (.iload_n 2, 1)) (List.mem_of_getElem? (i := 24) rfl)
theorem dX5_readPair_43 : decode cX5_readPair 43 = .ok (.iload_n 3, 1) := dAX5_readPair (43, (.iload_n 3, 1)) (List.mem_of_getElem? (i := 25) rfl)
theorem dX5_readPair_44 : decode cX5_readPair 44 = .ok (.iastore, 1) := dAX5_readPair (44, (.iastore, 1)) (List.mem_of_getElem? (i := 26) rfl)
theorem dX5_readPair_45 : decode cX5_readPair 45 = .ok (.aload_n 1, 1) := dAX5_readPair (45, (.aload_n 1, 1)) (List.mem_of_getElem? (i := 27) rfl)
theorem dX5_readPair_46 : decode cX5_readPair 46 = .ok (.getfield 188, 3) := dAX5_readPair (46, (.getfield 188, 3)) (List.mem_of_getElem? (i := 28) rfl)
theorem dX5_readPair_49 : decode cX5_readPair 49 = .ok (.iload_n 3, 1) := dAX5_readPair (49, (.iload_n 3, 1)) (List.mem_of_getElem? (i := 29) rfl)
theorem dX5_readPair_50 : decode cX5_readPair 50 = .ok (.iload_n 2, 1) := dAX5_readPair (50, (.iload_n 2, 1)) (List.mem_of_getElem? (i := 30) rfl)
theorem dX5_readPair_51 : decode cX5_readPair 51 = .ok (.iastore, 1) := dAX5_readPair (51, (.iastore, 1)) (List.mem_of_getElem? (i := 31) rfl)
theorem dX5_readPair_52 : decode cX5_readPair 52 = .ok (.aload_n 1, 1) := dAX5_readPair (52, (.aload_n 1, 1)) (List.mem_of_getElem? (i := 32) rfl)
theorem dX5_readPair_53 : decode cX5_readPair 53 = .ok (.dup, 1) := dAX5_readPair (53, (.dup, 1)) (List.mem_of_getElem? (i := 33) rfl)
theorem dX5_readPair_54 : decode cX5_readPair 54 = .ok (.getfield 195, 3) := dAX5_readPair (54, (.getfield 195, 3)) (List.mem_of_getElem? (i := 34) rfl)
theorem dX5_readPair_57 : decode cX5_readPair 57 = .ok (.iconst 1, 1) := dAX5_readPair (57, (.iconst 1, 1)) (List.mem_of_getElem? (i := 35) rfl)
theorem dX5_readPair_58 : decode cX5_readPair 58 = .ok (.iadd, 1) := dAX5_readPair (58, (.iadd, 1)) (List.mem_of_getElem? (i := 36) rfl)
theorem dX5_readPair_59 : decode cX5_readPair 59 = .ok (.putfield 195, 3) := dAX5_readPair (59, (.putfield 195, 3)) (List.mem_of_getElem? (i := 37) rfl)
theorem dX5_readPair_62 : decode cX5_readPair 62 = .ok (.return_, 1) := dAX5_readPair (62, (.return_, 1)) (List.mem_of_getElem? (i := 38) rfl)
set_option maxRecDepth 20000 in
theorem ggX5_readPair_X5_takeSingle : GoodIn wsX5_readPair wsX5_takeSingle := goodIn_r _ [8, 1, 2, 9, 10, 11, 7, 12, 13, 14, 15, 16, 17, 18, 19, 20, 21, 22, 23, 24, 25, 26, 27, 28, 29, 30, 31, 32, 33, 34, 35, 36, 37, 38, 39, 40, 41, 42, 43, 44, 45, 46, 47, 48, 49, 50, 51, 52, 53, 54, 55, 56, 57, 58, 59, 60, 61, 62, 63, 64, 65, 66, 67, 68, 69, 70, 71, 72, 73, 74, 75, 76, 77, 78, 79, 80, 81, 82, 83, 84, 85, 86, 87, 88, 89, 90, 91, 92, 93, 94, 95, 96, 97, 98, 99, 100, 101] rfl (by decide +kernel)
set_option maxRecDepth 20000 in
theorem gX5_readPair_X5_takeSingle : GoodIn wsX5_readPair (wsV RX5 191 RX5 yX5_takeSingle wsX5_takeSingle) := goodIn_app (goodIn_of _ (by decide +kernel)) ggX5_readPair_X5_takeSingle
theorem kX5_readPair_86 : Cond.fieldLink RX5 86 "EveningVow$House" "guests" "I" ∈ wsX5_readPair := List.mem_of_getElem? (i := 1) rfl
theorem iX5_readPair_X1 : ∀ w ∈ u_ws RX1 TX1 17, w ∈ wsX5_readPair := fun w h => (List.mem_cons_of_mem _ (List.mem_append_left _ (List.mem_append_right _ h)))
theorem kX5_readPair_188 : Cond.fieldLink RX5 188 "EveningVow$House" "mate" "[I" ∈ wsX5_readPair := List.mem_of_getElem? (i := 2) rfl
theorem kX5_readPair_195 : Cond.fieldLink RX5 195 "EveningVow$House" "pairs" "I" ∈ wsX5_readPair := List.mem_of_getElem? (i := 3) rfl
set_option maxHeartbeats 4000000 in
set_option maxRecDepth 100000 in
theorem mX5_readPair (l : Launch) (g : GG) (a_t : Nat) (a_r1 : Nat) (p_t : Nat → Nat) (p_r1 : Nat → Nat) (n : Nat) (o_t : Nat → Int32) (c_t : Int64) (f_t_0 : Nat → Int32) (f_t_12 : Nat → Int64) (f_t_13 : Nat → Int32) (f_t_14 : Nat → Int32) (o_r1 : Nat → Int32) (f_r1_7 : Nat → Int32) (o_t' : Nat → Int32) (c_t' : Int64) (o_r1' : Nat → Int32) (f_r1_7' : Nat → Int32) (hF : fX5_readPair n o_t c_t f_t_0 f_t_12 f_t_13 f_t_14 o_r1 f_r1_7 = some (o_t', c_t', o_r1', f_r1_7')) : MV l g yX5_readPair wsX5_readPair ({ frames := 4, cells := 0, slots := 0, locals := 85 } : Room) [.ref a_t, .ref a_r1] [oX5 a_t p_t o_t c_t, aI g (p_t 0) 800 f_t_0, aJ g (p_t 12) 16 f_t_12, aI g (p_t 13) 16 f_t_13, aI g (p_t 14) 16 f_t_14, oX1 a_r1 p_r1 o_r1, aI g (p_r1 7) 7 f_r1_7] [oX5 a_t p_t o_t' c_t', aI g (p_t 0) 800 f_t_0, aJ g (p_t 12) 16 f_t_12, aI g (p_t 13) 16 f_t_13, aI g (p_t 14) 16 f_t_14, oX1 a_r1 p_r1 o_r1', aI g (p_r1 7) 7 f_r1_7'] := by
  refine MV.of (cc := cX5_readPair) (maxL := 4) (own := RX5) rfl rfl (by decide) (Nat.le_of_ble_eq_true rfl) ?_
  intro p e s m args below meth c A C0 hP hD hS ls hl
  obtain ⟨hx, hb, hml, hown, hts, hr, hlk, hK, hA, hSW⟩ := id C0
  have hl : lv_has ls 4 [(0, .ref a_t), (1, .ref a_r1)] := hl
  rw [fX5_readPair] at hF
  refine lv_aload_n hx hb dX5_readPair_0 rfl (lv_at hl 0 rfl) ?_
  refine lv_aload_n hx hb dX5_readPair_1 rfl (lv_at hl 1 rfl) ?_
  refine lv_iconst (v := (-1 : Int32)) hx hb dX5_readPair_2 (by decide) ?_
  obtain ⟨u_1, u_2, u_3, hu_4, hF⟩ := ob3_some hF
  refine call_i (wr := []) (As := [.ref a_r1, .int (-1 : Int32)]) (rest := []) (ci := 5) (q0 := 0) C0 (mX5_takeSingle l g a_t a_r1 p_t p_r1 n (-1 : Int32) o_t c_t f_t_0 f_t_12 f_t_13 f_t_14 o_r1 f_r1_7 u_1 u_2 u_3 hu_4) (cwV 2 hts gX5_readPair_X5_takeSingle rfl rfl rfl (by decide +kernel) ⟨Nat.le_of_ble_eq_true rfl, Nat.le_of_ble_eq_true rfl⟩) hP hD hS [0, 1, 2, 3, 4, 5, 6] [] rfl rfl rfl rfl rfl (by decide) rfl rfl hl.1 rfl rfl (Nat.le_of_ble_eq_true rfl) ⟨Nat.zero_le _, Nat.zero_le _⟩ dX5_readPair_3 ?_
  intro H locs hP hD hS
  refine lv_istore_n (lv' := [(2, .int u_1), (0, .ref a_t), (1, .ref a_r1)]) hx hb dX5_readPair_6 rfl hl (by decide) rfl (fun ls hl => ?_)
  refine lv_aload_n hx hb dX5_readPair_7 rfl (lv_at hl 1 rfl) ?_
  refine lv_aload_n hx hb dX5_readPair_8 rfl (lv_at hl 2 rfl) ?_
  refine lv_iload_n hx hb dX5_readPair_9 rfl (lv_at hl 0 rfl) ?_
  obtain ⟨u_5, u_6, u_7, hu_8, hF⟩ := ob3_some hF
  refine call_i (wr := []) (As := [.ref a_r1, .int u_1]) (rest := []) (ci := 5) (q0 := 0) C0 (mX5_takeSingle l g a_t a_r1 p_t p_r1 n u_1 u_2 u_3 f_t_0 f_t_12 f_t_13 f_t_14 o_r1 f_r1_7 u_5 u_6 u_7 hu_8) (cwV 2 hts gX5_readPair_X5_takeSingle rfl rfl rfl (by decide +kernel) ⟨Nat.le_of_ble_eq_true rfl, Nat.le_of_ble_eq_true rfl⟩) hP hD hS [0, 1, 2, 3, 4, 5, 6] [] rfl rfl rfl rfl rfl (by decide) rfl rfl hl.1 rfl rfl (Nat.le_of_ble_eq_true rfl) ⟨Nat.zero_le _, Nat.zero_le _⟩ dX5_readPair_10 ?_
  intro H locs hP hD hS
  refine lv_istore_n (lv' := [(3, .int u_5), (2, .int u_1), (0, .ref a_t), (1, .ref a_r1)]) hx hb dX5_readPair_13 rfl hl (by decide) rfl (fun ls hl => ?_)
  refine lv_iload_n hx hb dX5_readPair_14 rfl (lv_at hl 1 rfl) ?_
  refine lv_if_lt (tgt := 62) hx hb dX5_readPair_15 (by decide) (fun c_9 => ?_) (fun c_9 => ?_)
  · have hF := it_p c_9 hF
    cases hF
    exact ret_v C0 hP hD hS [0, 1, 2, 3, 4, 5, 6] rfl rfl rfl dX5_readPair_62
  · have hF := it_n c_9 hF
    refine lv_iload_n hx hb dX5_readPair_18 rfl (lv_at hl 1 rfl) ?_
    refine lv_aload_n hx hb dX5_readPair_19 rfl (lv_at hl 3 rfl) ?_
    refine va_get (D := g.1) (ci := 1) (v := .int (o_r1 3)) (C := RX1) (T := TX1) (N := 17) hx hb hts iX5_readPair_X1 hown hK.1 hP 5 rfl rfl 3 (by decide) (hts _ kX5_readPair_86) (fun _ h9 => h9) rfl dX5_readPair_20 ?_
    refine lv_icmp_ge (tgt := 62) hx hb dX5_readPair_23 (by decide) (fun c_10 => ?_) (fun c_10 => ?_)
    · have hF := it_p c_10 hF
      cases hF
      exact ret_v C0 hP hD hS [0, 1, 2, 3, 4, 5, 6] rfl rfl rfl dX5_readPair_62
    · have hF := it_n c_10 hF
      refine lv_iload_n hx hb dX5_readPair_26 rfl (lv_at hl 0 rfl) ?_
      refine lv_if_lt (tgt := 62) hx hb dX5_readPair_27 (by decide) (fun c_11 => ?_) (fun c_11 => ?_)
      · have hF := it_p c_11 hF
        cases hF
        exact ret_v C0 hP hD hS [0, 1, 2, 3, 4, 5, 6] rfl rfl rfl dX5_readPair_62
      · have hF := it_n c_11 hF
        refine lv_iload_n hx hb dX5_readPair_30 rfl (lv_at hl 0 rfl) ?_
        refine lv_aload_n hx hb dX5_readPair_31 rfl (lv_at hl 3 rfl) ?_
        refine va_get (D := g.1) (ci := 1) (v := .int (o_r1 3)) (C := RX1) (T := TX1) (N := 17) hx hb hts iX5_readPair_X1 hown hK.1 hP 5 rfl rfl 3 (by decide) (hts _ kX5_readPair_86) (fun _ h9 => h9) rfl dX5_readPair_32 ?_
        refine lv_icmp_ge (tgt := 62) hx hb dX5_readPair_35 (by decide) (fun c_12 => ?_) (fun c_12 => ?_)
        · have hF := it_p c_12 hF
          cases hF
          exact ret_v C0 hP hD hS [0, 1, 2, 3, 4, 5, 6] rfl rfl rfl dX5_readPair_62
        · have hF := it_n c_12 hF
          refine lv_aload_n hx hb dX5_readPair_38 rfl (lv_at hl 3 rfl) ?_
          refine va_get (D := g.1) (ci := 1) (v := .ref (p_r1 7)) (C := RX1) (T := TX1) (N := 17) hx hb hts iX5_readPair_X1 hown hK.1 hP 5 rfl rfl 7 (by decide) (hts _ kX5_readPair_188) (fun _ h9 => h9) rfl dX5_readPair_39 ?_
          refine lv_iload_n hx hb dX5_readPair_42 rfl (lv_at hl 1 rfl) ?_
          refine lv_iload_n hx hb dX5_readPair_43 rfl (lv_at hl 0 rfl) ?_
          obtain ⟨h_13, hF⟩ := it_ck hF
          refine va_iast hx hb hK.1 hP hD hS 6 0 rfl rfl h_13 dX5_readPair_44 (fun H locs hP hD hS => ?_)
          have hP : va_P g.1 vwCl [oX5 a_t p_t u_6 u_7, aI g (p_t 0) 800 f_t_0, aJ g (p_t 12) 16 f_t_12, aI g (p_t 13) 16 f_t_13, aI g (p_t 14) 16 f_t_14, oX1 a_r1 p_r1 o_r1, aI g (p_r1 7) 7 (upd f_r1_7 (u_1).toNatClampNeg u_5)] H := hP
          have hD : va_D A [oX5 a_t p_t u_6 u_7, aI g (p_t 0) 800 f_t_0, aJ g (p_t 12) 16 f_t_12, aI g (p_t 13) 16 f_t_13, aI g (p_t 14) 16 f_t_14, oX1 a_r1 p_r1 o_r1, aI g (p_r1 7) 7 (upd f_r1_7 (u_1).toNatClampNeg u_5)] := hD
          refine lv_aload_n hx hb dX5_readPair_45 rfl (lv_at hl 3 rfl) ?_
          refine va_get (D := g.1) (ci := 1) (v := .ref (p_r1 7)) (C := RX1) (T := TX1) (N := 17) hx hb hts iX5_readPair_X1 hown hK.1 hP 5 rfl rfl 7 (by decide) (hts _ kX5_readPair_188) (fun _ h9 => h9) rfl dX5_readPair_46 ?_
          refine lv_iload_n hx hb dX5_readPair_49 rfl (lv_at hl 0 rfl) ?_
          refine lv_iload_n hx hb dX5_readPair_50 rfl (lv_at hl 1 rfl) ?_
          obtain ⟨h_14, hF⟩ := it_ck hF
          refine va_iast hx hb hK.1 hP hD hS 6 0 rfl rfl h_14 dX5_readPair_51 (fun H locs hP hD hS => ?_)
          have hP : va_P g.1 vwCl [oX5 a_t p_t u_6 u_7, aI g (p_t 0) 800 f_t_0, aJ g (p_t 12) 16 f_t_12, aI g (p_t 13) 16 f_t_13, aI g (p_t 14) 16 f_t_14, oX1 a_r1 p_r1 o_r1, aI g (p_r1 7) 7 (upd (upd f_r1_7 (u_1).toNatClampNeg u_5) (u_5).toNatClampNeg u_1)] H := hP
          have hD : va_D A [oX5 a_t p_t u_6 u_7, aI g (p_t 0) 800 f_t_0, aJ g (p_t 12) 16 f_t_12, aI g (p_t 13) 16 f_t_13, aI g (p_t 14) 16 f_t_14, oX1 a_r1 p_r1 o_r1, aI g (p_r1 7) 7 (upd (upd f_r1_7 (u_1).toNatClampNeg u_5) (u_5).toNatClampNeg u_1)] := hD
          refine lv_aload_n hx hb dX5_readPair_52 rfl (lv_at hl 3 rfl) ?_
          refine lv_dup hx hb dX5_readPair_53 rfl ?_
          refine va_get (D := g.1) (ci := 1) (v := .int (o_r1 8)) (C := RX1) (T := TX1) (N := 17) hx hb hts iX5_readPair_X1 hown hK.1 hP 5 rfl rfl 8 (by decide) (hts _ kX5_readPair_195) (fun _ h9 => h9) rfl dX5_readPair_54 ?_
          refine lv_iconst (v := (1 : Int32)) hx hb dX5_readPair_57 (by decide) ?_
          refine lv_iadd hx hb dX5_readPair_58 ?_
          refine va_put (D := g.1) (ci := 1) (v := .int ((o_r1 8) + (1 : Int32))) (ty := .int) (C := RX1) (T := TX1) (N := 17) hx hb hts iX5_readPair_X1 tyX1 tyX1_ok nmX1 hown hK.1 hP hD hS 5 rfl rfl 8 (by decide) (hts _ kX5_readPair_195) (fun _ h9 => h9) rfl (by decide +kernel) rfl rfl (Nat.le_of_ble_eq_true rfl) dX5_readPair_59 (fun H locs hP hD hS => ?_)
          have hP : va_P g.1 vwCl [oX5 a_t p_t u_6 u_7, aI g (p_t 0) 800 f_t_0, aJ g (p_t 12) 16 f_t_12, aI g (p_t 13) 16 f_t_13, aI g (p_t 14) 16 f_t_14, oX1 a_r1 p_r1 (upd o_r1 8 ((o_r1 8) + (1 : Int32))), aI g (p_r1 7) 7 (upd (upd f_r1_7 (u_1).toNatClampNeg u_5) (u_5).toNatClampNeg u_1)] H := hP
          have hD : va_D A [oX5 a_t p_t u_6 u_7, aI g (p_t 0) 800 f_t_0, aJ g (p_t 12) 16 f_t_12, aI g (p_t 13) 16 f_t_13, aI g (p_t 14) 16 f_t_14, oX1 a_r1 p_r1 (upd o_r1 8 ((o_r1 8) + (1 : Int32))), aI g (p_r1 7) 7 (upd (upd f_r1_7 (u_1).toNatClampNeg u_5) (u_5).toNatClampNeg u_1)] := hD
          cases hF
          exact ret_v C0 hP hD hS [0, 1, 2, 3, 4, 5, 6] rfl rfl rfl dX5_readPair_62

theorem dAX5_readDraws : ∀ q ∈ ([(0, (.aload_n 1, 1)), (1, (.getfield 135, 3)), (4, (.istore_n 2, 1)), (5, (.aload_n 0, 1)), (6, (.aload_n 0, 1)), (7, (.invokevirtual 198, 3)), (10, (.invokevirtual 132, 3)), (13, (.istore_n 3, 1)), (14, (.aload_n 0, 1)), (15, (.invokevirtual 198, 3)), (18, (.istore 4, 2)), (20, (.iload 4, 2)), (22, (.ifCond .lt 25, 3)), (25, (.iload 4, 2)), (27, (.iload_n 3, 1)), (28, (.if_icmp .eq 13, 3)), (31, (.aload_n 1, 1)), (32, (.iload_n 3, 1)), (33, (.iload 4, 2)), (35, (.invokevirtual 201, 3)), (38, (.ifCond .lt 9, 3)), (41, (.aload_n 0, 1)), (42, (.iconst 3, 1)), (43, (.invokevirtual 89, 3)), (46, (.pop, 1)), (47, (.aload_n 1, 1)), (48, (.getfield 204, 3)), (51, (.iload_n 2, 1)), (52, (.iload_n 3, 1)), (53, (.iastore, 1)), (54, (.aload_n 1, 1)), (55, (.getfield 207, 3)), (58, (.iload_n 2, 1)), (59, (.aload_n 0, 1)), (60, (.iload 4, 2)), (62, (.invokevirtual 132, 3)), (65, (.iastore, 1)), (66, (.aload_n 1, 1)), (67, (.getfield 210, 3)), (70, (.iload_n 2, 1)), (71, (.aload_n 0, 1)), (72, (.ldc2_w 213, 3)), (75, (.iconst 1, 1)), (76, (.bipush 20, 2)), (78, (.invokevirtual 151, 3)), (81, (.iastore, 1)), (82, (.aload_n 1, 1)), (83, (.dup, 1)), (84, (.getfield 135, 3)), (87, (.iconst 1, 1)), (88, (.iadd, 1)), (89, (.putfield 135, 3)), (92, (.return_, 1))] : List (Nat × (Instr × Nat))), decode cX5_readDraws q.1 = .ok q.2 := by decide +kernel
theorem dX5_readDraws_0 : decode cX5_readDraws 0 = .ok (.aload_n 1, 1) := dAX5_readDraws (0, (.aload_n 1, 1)) (List.mem_of_getElem? (i := 0) rfl)
theorem dX5_readDraws_1 : decode cX5_readDraws 1 = .ok (.getfield 135, 3) := dAX5_readDraws (1, (.getfield 135, 3)) (List.mem_of_getElem? (i := 1) rfl)
theorem dX5_readDraws_4 : decode cX5_readDraws 4 = .ok (.istore_n 2, 1) := dAX5_readDraws (4, (.istore_n 2, 1)) (List.mem_of_getElem? (i := 2) rfl)
theorem dX5_readDraws_5 : decode cX5_readDraws 5 = .ok (.aload_n 0, 1) := dAX5_readDraws (5, (.aload_n 0, 1)) (List.mem_of_getElem? (i := 3) rfl)
theorem dX5_readDraws_6 : decode cX5_readDraws 6 = .ok (.aload_n 0, 1) := dAX5_readDraws (6, (.aload_n 0, 1)) (List.mem_of_getElem? (i := 4) rfl)
theorem dX5_readDraws_7 : decode cX5_readDraws 7 = .ok (.invokevirtual 198, 3) := dAX5_readDraws (7, (.invokevirtual 198, 3)) (List.mem_of_getElem? (i := 5) rfl)
theorem dX5_readDraws_10 : decode cX5_readDraws 10 = .ok (.invokevirtual 132, 3) := dAX5_readDraws (10, (.invokevirtual 132, 3)) (List.mem_of_getElem? (i := 6) rfl)
theorem dX5_readDraws_13 : decode cX5_readDraws 13 = .ok (.istore_n 3, 1) := dAX5_readDraws (13, (.istore_n 3, 1)) (List.mem_of_getElem? (i := 7) rfl)
theorem dX5_readDraws_14 : decode cX5_readDraws 14 = .ok (.aload_n 0, 1) := dAX5_readDraws (14, (.aload_n 0, 1)) (List.mem_of_getElem? (i := 8) rfl)
theorem dX5_readDraws_15 : decode cX5_readDraws 15 = .ok (.invokevirtual 198, 3) := dAX5_readDraws (15, (.invokevirtual 198, 3)) (List.mem_of_getElem? (i := 9) rfl)
theorem dX5_readDraws_18 : decode cX5_readDraws 18 = .ok (.istore 4, 2) := dAX5_readDraws (18, (.istore 4, 2)) (List.mem_of_getElem? (i := 10) rfl)
theorem dX5_readDraws_20 : decode cX5_readDraws 20 = .ok (.iload 4, 2) := dAX5_readDraws (20, (.iload 4, 2)) (List.mem_of_getElem? (i := 11) rfl)
theorem dX5_readDraws_22 : decode cX5_readDraws 22 = .ok (.ifCond .lt 25, 3) := dAX5_readDraws (22, (.ifCond .lt 25, 3)) (List.mem_of_getElem? (i := 12) rfl)
theorem dX5_readDraws_25 : decode cX5_readDraws 25 = .ok (.iload 4, 2) := dAX5_readDraws (25, (.iload 4, 2)) (List.mem_of_getElem? (i := 13) rfl)
theorem dX5_readDraws_27 : decode cX5_readDraws 27 = .ok (.iload_n 3, 1) := dAX5_readDraws (27, (.iload_n 3, 1)) (List.mem_of_getElem? (i := 14) rfl)
theorem dX5_readDraws_28 : decode cX5_readDraws 28 = .ok (.if_icmp .eq 13, 3) := dAX5_readDraws (28, (.if_icmp .eq 13, 3)) (List.mem_of_getElem? (i := 15) rfl)
theorem dX5_readDraws_31 : decode cX5_readDraws 31 = .ok (.aload_n 1, 1) := dAX5_readDraws (31, (.aload_n 1, 1)) (List.mem_of_getElem? (i := 16) rfl)
theorem dX5_readDraws_32 : decode cX5_readDraws 32 = .ok (.iload_n 3, 1) := dAX5_readDraws (32, (.iload_n 3, 1)) (List.mem_of_getElem? (i := 17) rfl)
theorem dX5_readDraws_33 : decode cX5_readDraws 33 = .ok (.iload 4, 2) := dAX5_readDraws (33, (.iload 4, 2)) (List.mem_of_getElem? (i := 18) rfl)
theorem dX5_readDraws_35 : decode cX5_readDraws 35 = .ok (.invokevirtual 201, 3) := dAX5_readDraws (35, (.invokevirtual 201, 3)) (List.mem_of_getElem? (i := 19) rfl)
theorem dX5_readDraws_38 : decode cX5_readDraws 38 = .ok (.ifCond .lt 9, 3) := dAX5_readDraws (38, (.ifCond .lt 9, 3)) (List.mem_of_getElem? (i := 20) rfl)
theorem dX5_readDraws_41 : decode cX5_readDraws 41 = .ok (.aload_n 0, 1) := dAX5_readDraws (41, (.aload_n 0, 1)) (List.mem_of_getElem? (i := 21) rfl)
theorem dX5_readDraws_42 : decode cX5_readDraws 42 = .ok (.iconst 3, 1) := dAX5_readDraws (42, (.iconst 3, 1)) (List.mem_of_getElem? (i := 22) rfl)
theorem dX5_readDraws_43 : decode cX5_readDraws 43 = .ok (.invokevirtual 89, 3) := dAX5_readDraws (43, (.invokevirtual 89, 3)) (List.mem_of_getElem? (i := 23) rfl)
theorem dX5_readDraws_46 : decode cX5_readDraws 46 = .ok (.pop, 1) := dAX5_readDraws (46, (.pop, 1)) (List.mem_of_getElem? (i := 24) rfl)
theorem dX5_readDraws_47 : decode cX5_readDraws 47 = .ok (.aload_n 1, 1) := dAX5_readDraws (47, (.aload_n 1, 1)) (List.mem_of_getElem? (i := 25) rfl)
theorem dX5_readDraws_48 : decode cX5_readDraws 48 = .ok (.getfield 204, 3) := dAX5_readDraws (48, (.getfield 204, 3)) (List.mem_of_getElem? (i := 26) rfl)
theorem dX5_readDraws_51 : decode cX5_readDraws 51 = .ok (.iload_n 2, 1) := dAX5_readDraws (51, (.iload_n 2, 1)) (List.mem_of_getElem? (i := 27) rfl)
theorem dX5_readDraws_52 : decode cX5_readDraws 52 = .ok (.iload_n 3, 1) := dAX5_readDraws (52, (.iload_n 3, 1)) (List.mem_of_getElem? (i := 28) rfl)
theorem dX5_readDraws_53 : decode cX5_readDraws 53 = .ok (.iastore, 1) := dAX5_readDraws (53, (.iastore, 1)) (List.mem_of_getElem? (i := 29) rfl)
theorem dX5_readDraws_54 : decode cX5_readDraws 54 = .ok (.aload_n 1, 1) := dAX5_readDraws (54, (.aload_n 1, 1)) (List.mem_of_getElem? (i := 30) rfl)
theorem dX5_readDraws_55 : decode cX5_readDraws 55 = .ok (.getfield 207, 3) := dAX5_readDraws (55, (.getfield 207, 3)) (List.mem_of_getElem? (i := 31) rfl)
theorem dX5_readDraws_58 : decode cX5_readDraws 58 = .ok (.iload_n 2, 1) := dAX5_readDraws (58, (.iload_n 2, 1)) (List.mem_of_getElem? (i := 32) rfl)
theorem dX5_readDraws_59 : decode cX5_readDraws 59 = .ok (.aload_n 0, 1) := dAX5_readDraws (59, (.aload_n 0, 1)) (List.mem_of_getElem? (i := 33) rfl)
theorem dX5_readDraws_60 : decode cX5_readDraws 60 = .ok (.iload 4, 2) := dAX5_readDraws (60, (.iload 4, 2)) (List.mem_of_getElem? (i := 34) rfl)
theorem dX5_readDraws_62 : decode cX5_readDraws 62 = .ok (.invokevirtual 132, 3) := dAX5_readDraws (62, (.invokevirtual 132, 3)) (List.mem_of_getElem? (i := 35) rfl)
theorem dX5_readDraws_65 : decode cX5_readDraws 65 = .ok (.iastore, 1) := dAX5_readDraws (65, (.iastore, 1)) (List.mem_of_getElem? (i := 36) rfl)
theorem dX5_readDraws_66 : decode cX5_readDraws 66 = .ok (.aload_n 1, 1) := dAX5_readDraws (66, (.aload_n 1, 1)) (List.mem_of_getElem? (i := 37) rfl)
theorem dX5_readDraws_67 : decode cX5_readDraws 67 = .ok (.getfield 210, 3) := dAX5_readDraws (67, (.getfield 210, 3)) (List.mem_of_getElem? (i := 38) rfl)
theorem dX5_readDraws_70 : decode cX5_readDraws 70 = .ok (.iload_n 2, 1) := dAX5_readDraws (70, (.iload_n 2, 1)) (List.mem_of_getElem? (i := 39) rfl)
theorem dX5_readDraws_71 : decode cX5_readDraws 71 = .ok (.aload_n 0, 1) := dAX5_readDraws (71, (.aload_n 0, 1)) (List.mem_of_getElem? (i := 40) rfl)
theorem dX5_readDraws_72 : decode cX5_readDraws 72 = .ok (.ldc2_w 213, 3) := dAX5_readDraws (72, (.ldc2_w 213, 3)) (List.mem_of_getElem? (i := 41) rfl)
theorem dX5_readDraws_75 : decode cX5_readDraws 75 = .ok (.iconst 1, 1) := dAX5_readDraws (75, (.iconst 1, 1)) (List.mem_of_getElem? (i := 42) rfl)
theorem dX5_readDraws_76 : decode cX5_readDraws 76 = .ok (.bipush 20, 2) := dAX5_readDraws (76, (.bipush 20, 2)) (List.mem_of_getElem? (i := 43) rfl)
theorem dX5_readDraws_78 : decode cX5_readDraws 78 = .ok (.invokevirtual 151, 3) := dAX5_readDraws (78, (.invokevirtual 151, 3)) (List.mem_of_getElem? (i := 44) rfl)
theorem dX5_readDraws_81 : decode cX5_readDraws 81 = .ok (.iastore, 1) := dAX5_readDraws (81, (.iastore, 1)) (List.mem_of_getElem? (i := 45) rfl)
theorem dX5_readDraws_82 : decode cX5_readDraws 82 = .ok (.aload_n 1, 1) := dAX5_readDraws (82, (.aload_n 1, 1)) (List.mem_of_getElem? (i := 46) rfl)
theorem dX5_readDraws_83 : decode cX5_readDraws 83 = .ok (.dup, 1) := dAX5_readDraws (83, (.dup, 1)) (List.mem_of_getElem? (i := 47) rfl)
theorem dX5_readDraws_84 : decode cX5_readDraws 84 = .ok (.getfield 135, 3) := dAX5_readDraws (84, (.getfield 135, 3)) (List.mem_of_getElem? (i := 48) rfl)
theorem dX5_readDraws_87 : decode cX5_readDraws 87 = .ok (.iconst 1, 1) := dAX5_readDraws (87, (.iconst 1, 1)) (List.mem_of_getElem? (i := 49) rfl)
theorem dX5_readDraws_88 : decode cX5_readDraws 88 = .ok (.iadd, 1) := dAX5_readDraws (88, (.iadd, 1)) (List.mem_of_getElem? (i := 50) rfl)
theorem dX5_readDraws_89 : decode cX5_readDraws 89 = .ok (.putfield 135, 3) := dAX5_readDraws (89, (.putfield 135, 3)) (List.mem_of_getElem? (i := 51) rfl)
theorem dX5_readDraws_92 : decode cX5_readDraws 92 = .ok (.return_, 1) := dAX5_readDraws (92, (.return_, 1)) (List.mem_of_getElem? (i := 52) rfl)
set_option maxRecDepth 20000 in
theorem ggX5_readDraws_X5_knownGuest : GoodIn wsX5_readDraws wsX5_knownGuest := goodIn_r _ [10, 11, 12, 13, 14, 15, 9, 16, 17, 18, 19, 20, 21, 22, 23, 24, 25, 26, 27, 28, 29, 30, 31, 32, 33, 34, 35, 36, 37, 38, 39, 40, 41, 42, 43, 44, 45, 46, 47, 97, 98, 99, 100, 101, 102, 103, 104, 105, 106, 107, 108, 109, 110, 111] rfl (by decide +kernel)
set_option maxRecDepth 20000 in
theorem gX5_readDraws_X5_knownGuest : GoodIn wsX5_readDraws (wsV RX5 198 RX5 yX5_knownGuest wsX5_knownGuest) := goodIn_app (goodIn_of _ (by decide +kernel)) ggX5_readDraws_X5_knownGuest
set_option maxRecDepth 20000 in
theorem ggX5_readDraws_X5_taken : GoodIn wsX5_readDraws wsX5_taken := goodIn_r _ [51, 38, 39, 40, 9, 41, 35, 52, 53, 54, 55, 56, 36, 57, 58, 17, 59, 60, 61, 62, 22, 63, 64, 65, 66, 67, 97, 98, 99, 100, 101, 102, 103, 104, 105, 106, 107, 108, 109, 110, 111] rfl (by decide +kernel)
set_option maxRecDepth 20000 in
theorem gX5_readDraws_X5_taken : GoodIn wsX5_readDraws (wsV RX5 132 RX5 yX5_taken wsX5_taken) := goodIn_app (goodIn_of _ (by decide +kernel)) ggX5_readDraws_X5_taken
set_option maxRecDepth 20000 in
theorem ggX5_readDraws_X1_drawLine : GoodIn wsX5_readDraws wsX1_drawLine := goodIn_r _ [72, 73, 74, 75, 80, 81, 82, 83, 84, 85, 86, 87, 88, 89, 90, 91, 92, 93, 94, 95, 96] rfl (by decide +kernel)
set_option maxRecDepth 20000 in
theorem gX5_readDraws_X1_drawLine : GoodIn wsX5_readDraws (wsV RX5 201 RX1 yX1_drawLine wsX1_drawLine) := goodIn_app (goodIn_of _ (by decide +kernel)) ggX5_readDraws_X1_drawLine
set_option maxRecDepth 20000 in
theorem ggX5_readDraws_X5_fail : GoodIn wsX5_readDraws wsX5_fail := goodIn_r _ [34, 35, 36, 37, 38, 39, 40, 9, 41, 97, 98, 99, 100, 101, 102, 103, 104, 105, 106, 107, 108, 109, 110, 111] rfl (by decide +kernel)
set_option maxRecDepth 20000 in
theorem gX5_readDraws_X5_fail : GoodIn wsX5_readDraws (wsV RX5 89 RX5 yX5_fail wsX5_fail) := goodIn_app (goodIn_of _ (by decide +kernel)) ggX5_readDraws_X5_fail
set_option maxRecDepth 20000 in
theorem ggX5_readDraws_X5_takeAmount : GoodIn wsX5_readDraws wsX5_takeAmount := goodIn_r _ [79, 17, 22, 67, 31, 32, 33, 9, 34, 35, 36, 37, 38, 39, 40, 41, 48, 49, 50, 51, 52, 53, 54, 55, 56, 57, 58, 59, 60, 61, 62, 63, 64, 65, 66, 97, 98, 99, 100, 101, 102, 103, 104, 105, 106, 107, 108, 109, 110, 111] rfl (by decide +kernel)
set_option maxRecDepth 20000 in
theorem gX5_readDraws_X5_takeAmount : GoodIn wsX5_readDraws (wsV RX5 151 RX5 yX5_takeAmount wsX5_takeAmount) := goodIn_app (goodIn_of _ (by decide +kernel)) ggX5_readDraws_X5_takeAmount
theorem kX5_readDraws_135 : Cond.fieldLink RX5 135 "EveningVow$House" "draws" "I" ∈ wsX5_readDraws := List.mem_of_getElem? (i := 1) rfl
theorem iX5_readDraws_X1 : ∀ w ∈ u_ws RX1 TX1 17, w ∈ wsX5_readDraws := fun w h => (List.mem_cons_of_mem _ (List.mem_append_left _ (List.mem_append_right _ h)))
theorem kX5_readDraws_204 : Cond.fieldLink RX5 204 "EveningVow$House" "drawnGuest" "[I" ∈ wsX5_readDraws := List.mem_of_getElem? (i := 2) rfl
theorem kX5_readDraws_207 : Cond.fieldLink RX5 207 "EveningVow$House" "drawer" "[I" ∈ wsX5_readDraws := List.mem_of_getElem? (i := 3) rfl
theorem kX5_readDraws_210 : Cond.fieldLink RX5 210 "EveningVow$House" "drawnMuch" "[I" ∈ wsX5_readDraws := List.mem_of_getElem? (i := 4) rfl
theorem kX5_readDraws_213 : Cond.constantLong RX5 213 (25209 : Int64) ∈ wsX5_readDraws := by decide +kernel
set_option maxHeartbeats 4000000 in
set_option maxRecDepth 100000 in
theorem mX5_readDraws (l : Launch) (g : GG) (a_t : Nat) (a_r1 : Nat) (p_t : Nat → Nat) (p_r1 : Nat → Nat) (n : Nat) (o_t : Nat → Int32) (c_t : Int64) (f_t_0 : Nat → Int32) (f_t_12 : Nat → Int64) (f_t_13 : Nat → Int32) (f_t_14 : Nat → Int32) (o_r1 : Nat → Int32) (f_r1_10 : Nat → Int32) (f_r1_11 : Nat → Int32) (f_r1_12 : Nat → Int32) (o_t' : Nat → Int32) (c_t' : Int64) (o_r1' : Nat → Int32) (f_r1_10' : Nat → Int32) (f_r1_11' : Nat → Int32) (f_r1_12' : Nat → Int32) (hF : fX5_readDraws n o_t c_t f_t_0 f_t_12 f_t_13 f_t_14 o_r1 f_r1_10 f_r1_11 f_r1_12 = some (o_t', c_t', o_r1', f_r1_10', f_r1_11', f_r1_12')) : MV l g yX5_readDraws wsX5_readDraws ({ frames := 4, cells := 0, slots := 0, locals := 85 } : Room) [.ref a_t, .ref a_r1] [oX5 a_t p_t o_t c_t, aI g (p_t 0) 800 f_t_0, aJ g (p_t 12) 16 f_t_12, aI g (p_t 13) 16 f_t_13, aI g (p_t 14) 16 f_t_14, oX1 a_r1 p_r1 o_r1, aI g (p_r1 10) 8 f_r1_10, aI g (p_r1 11) 8 f_r1_11, aI g (p_r1 12) 8 f_r1_12] [oX5 a_t p_t o_t' c_t', aI g (p_t 0) 800 f_t_0, aJ g (p_t 12) 16 f_t_12, aI g (p_t 13) 16 f_t_13, aI g (p_t 14) 16 f_t_14, oX1 a_r1 p_r1 o_r1', aI g (p_r1 10) 8 f_r1_10', aI g (p_r1 11) 8 f_r1_11', aI g (p_r1 12) 8 f_r1_12'] := by
  refine MV.of (cc := cX5_readDraws) (maxL := 5) (own := RX5) rfl rfl (by decide) (Nat.le_of_ble_eq_true rfl) ?_
  intro p e s m args below meth c A C0 hP hD hS ls hl
  obtain ⟨hx, hb, hml, hown, hts, hr, hlk, hK, hA, hSW⟩ := id C0
  have hl : lv_has ls 5 [(0, .ref a_t), (1, .ref a_r1)] := hl
  rw [fX5_readDraws] at hF
  refine lv_aload_n hx hb dX5_readDraws_0 rfl (lv_at hl 1 rfl) ?_
  refine va_get (D := g.1) (ci := 1) (v := .int (o_r1 9)) (C := RX1) (T := TX1) (N := 17) hx hb hts iX5_readDraws_X1 hown hK.1 hP 5 rfl rfl 9 (by decide) (hts _ kX5_readDraws_135) (fun _ h9 => h9) rfl dX5_readDraws_1 ?_
  refine lv_istore_n (lv' := [(2, .int (o_r1 9)), (0, .ref a_t), (1, .ref a_r1)]) hx hb dX5_readDraws_4 rfl hl (by decide) rfl (fun ls hl => ?_)
  refine lv_aload_n hx hb dX5_readDraws_5 rfl (lv_at hl 1 rfl) ?_
  refine lv_aload_n hx hb dX5_readDraws_6 rfl (lv_at hl 1 rfl) ?_
  obtain ⟨u_1, u_2, u_3, hu_4, hF⟩ := ob3_some hF
  refine call_i (wr := [aI g (p_t 0) 800 f_t_0, oX1 a_r1 p_r1 o_r1, aI g (p_r1 10) 8 f_r1_10, aI g (p_r1 11) 8 f_r1_11, aI g (p_r1 12) 8 f_r1_12]) (As := []) (rest := [.ref a_t]) (ci := 5) (q0 := 0) C0 (mX5_knownGuest l g a_t p_t n o_t c_t f_t_12 f_t_13 f_t_14 u_1 u_2 u_3 hu_4) (cwV 0 hts gX5_readDraws_X5_knownGuest rfl rfl rfl (by decide +kernel) ⟨Nat.le_of_ble_eq_true rfl, Nat.le_of_ble_eq_true rfl⟩) hP hD hS [0, 2, 3, 4] [1, 5, 6, 7, 8] rfl rfl rfl rfl rfl (by decide) rfl rfl hl.1 rfl rfl (Nat.le_of_ble_eq_true rfl) ⟨Nat.zero_le _, Nat.zero_le _⟩ dX5_readDraws_7 ?_
  intro H locs hP hD hS
  obtain ⟨u_5, u_6, u_7, hu_8, hF⟩ := ob3_some hF
  refine call_i (wr := [oX1 a_r1 p_r1 o_r1, aI g (p_r1 10) 8 f_r1_10, aI g (p_r1 11) 8 f_r1_11, aI g (p_r1 12) 8 f_r1_12, aJ g (p_t 12) 16 f_t_12, aI g (p_t 13) 16 f_t_13, aI g (p_t 14) 16 f_t_14]) (As := [.int u_1]) (rest := []) (ci := 5) (q0 := 0) C0 (mX5_taken l g a_t p_t n u_1 u_2 u_3 f_t_0 u_5 u_6 u_7 hu_8) (cwV 1 hts gX5_readDraws_X5_taken rfl rfl rfl (by decide +kernel) ⟨Nat.le_of_ble_eq_true rfl, Nat.le_of_ble_eq_true rfl⟩) hP hD hS [5, 0] [1, 2, 3, 4, 6, 7, 8] rfl rfl rfl rfl rfl (by decide) rfl rfl hl.1 rfl rfl (Nat.le_of_ble_eq_true rfl) ⟨Nat.zero_le _, Nat.zero_le _⟩ dX5_readDraws_10 ?_
  intro H locs hP hD hS
  refine lv_istore_n (lv' := [(3, .int u_5), (2, .int (o_r1 9)), (0, .ref a_t), (1, .ref a_r1)]) hx hb dX5_readDraws_13 rfl hl (by decide) rfl (fun ls hl => ?_)
  refine lv_aload_n hx hb dX5_readDraws_14 rfl (lv_at hl 2 rfl) ?_
  obtain ⟨u_9, u_10, u_11, hu_12, hF⟩ := ob3_some hF
  refine call_i (wr := [oX1 a_r1 p_r1 o_r1, aI g (p_r1 10) 8 f_r1_10, aI g (p_r1 11) 8 f_r1_11, aI g (p_r1 12) 8 f_r1_12, aI g (p_t 0) 800 f_t_0]) (As := []) (rest := []) (ci := 5) (q0 := 0) C0 (mX5_knownGuest l g a_t p_t n u_6 u_7 f_t_12 f_t_13 f_t_14 u_9 u_10 u_11 hu_12) (cwV 0 hts gX5_readDraws_X5_knownGuest rfl rfl rfl (by decide +kernel) ⟨Nat.le_of_ble_eq_true rfl, Nat.le_of_ble_eq_true rfl⟩) hP hD hS [7, 4, 5, 6] [0, 1, 2, 3, 8] rfl rfl rfl rfl rfl (by decide) rfl rfl hl.1 rfl rfl (Nat.le_of_ble_eq_true rfl) ⟨Nat.zero_le _, Nat.zero_le _⟩ dX5_readDraws_15 ?_
  intro H locs hP hD hS
  refine lv_istore (lv' := [(4, .int u_9), (3, .int u_5), (2, .int (o_r1 9)), (0, .ref a_t), (1, .ref a_r1)]) hx hb dX5_readDraws_18 hl (by decide) rfl (fun ls hl => ?_)
  refine lv_iload hx hb dX5_readDraws_20 (lv_at hl 0 rfl) ?_
  obtain ⟨J47, eJ47, hF⟩ := jn_some hF
  have hJ47 : ∀ (o_t_47 : Nat → Int32) (c_t_47 : Int64) (H : Heap) (locs : List Loc) (ls : Array Slot), J47 o_t_47 c_t_47 = some (o_t', c_t', o_r1', f_r1_10', f_r1_11', f_r1_12') → va_P g.1 vwCl [oX1 a_r1 p_r1 o_r1, aI g (p_r1 10) 8 f_r1_10, aI g (p_r1 11) 8 f_r1_11, aI g (p_r1 12) 8 f_r1_12, aI g (p_t 0) 800 f_t_0, oX5 a_t p_t o_t_47 c_t_47, aJ g (p_t 12) 16 f_t_12, aI g (p_t 13) 16 f_t_13, aI g (p_t 14) 16 f_t_14] H → va_D A [oX1 a_r1 p_r1 o_r1, aI g (p_r1 10) 8 f_r1_10, aI g (p_r1 11) 8 f_r1_11, aI g (p_r1 12) 8 f_r1_12, aI g (p_t 0) 800 f_t_0, oX5 a_t p_t o_t_47 c_t_47, aJ g (p_t 12) 16 f_t_12, aI g (p_t 13) 16 f_t_13, aI g (p_t 14) 16 f_t_14] → va_S A s.heap H locs → lv_has ls 5 [(0, .ref a_t), (1, .ref a_r1), (2, .int (o_r1 9)), (3, .int u_5), (4, .int u_9)] → W p l e ({ frames := 4, cells := 0, slots := 0, locals := 85 } : Room) s m args below meth c H locs 0 0 (MQ below (EndV g [oX5 a_t p_t o_t' c_t', aI g (p_t 0) 800 f_t_0, aJ g (p_t 12) 16 f_t_12, aI g (p_t 13) 16 f_t_13, aI g (p_t 14) 16 f_t_14, oX1 a_r1 p_r1 o_r1', aI g (p_r1 10) 8 f_r1_10', aI g (p_r1 11) 8 f_r1_11', aI g (p_r1 12) 8 f_r1_12'] A) args s 0 0 A) (F0 m 47 ls []) := by
    intro o_t_47 c_t_47 H locs ls hF hP hD hS hl
    have hF := jj2 eJ47 hF
    refine lv_aload_n hx hb dX5_readDraws_47 rfl (lv_at hl 1 rfl) ?_
    refine va_get (D := g.1) (ci := 1) (v := .ref (p_r1 10)) (C := RX1) (T := TX1) (N := 17) hx hb hts iX5_readDraws_X1 hown hK.1 hP 0 rfl rfl 10 (by decide) (hts _ kX5_readDraws_204) (fun _ h9 => h9) rfl dX5_readDraws_48 ?_
    refine lv_iload_n hx hb dX5_readDraws_51 rfl (lv_at hl 2 rfl) ?_
    refine lv_iload_n hx hb dX5_readDraws_52 rfl (lv_at hl 3 rfl) ?_
    obtain ⟨h_13, hF⟩ := it_ck hF
    refine va_iast hx hb hK.1 hP hD hS 1 0 rfl rfl h_13 dX5_readDraws_53 (fun H locs hP hD hS => ?_)
    have hP : va_P g.1 vwCl [oX1 a_r1 p_r1 o_r1, aI g (p_r1 10) 8 (upd f_r1_10 ((o_r1 9)).toNatClampNeg u_5), aI g (p_r1 11) 8 f_r1_11, aI g (p_r1 12) 8 f_r1_12, aI g (p_t 0) 800 f_t_0, oX5 a_t p_t o_t_47 c_t_47, aJ g (p_t 12) 16 f_t_12, aI g (p_t 13) 16 f_t_13, aI g (p_t 14) 16 f_t_14] H := hP
    have hD : va_D A [oX1 a_r1 p_r1 o_r1, aI g (p_r1 10) 8 (upd f_r1_10 ((o_r1 9)).toNatClampNeg u_5), aI g (p_r1 11) 8 f_r1_11, aI g (p_r1 12) 8 f_r1_12, aI g (p_t 0) 800 f_t_0, oX5 a_t p_t o_t_47 c_t_47, aJ g (p_t 12) 16 f_t_12, aI g (p_t 13) 16 f_t_13, aI g (p_t 14) 16 f_t_14] := hD
    refine lv_aload_n hx hb dX5_readDraws_54 rfl (lv_at hl 1 rfl) ?_
    refine va_get (D := g.1) (ci := 1) (v := .ref (p_r1 11)) (C := RX1) (T := TX1) (N := 17) hx hb hts iX5_readDraws_X1 hown hK.1 hP 0 rfl rfl 11 (by decide) (hts _ kX5_readDraws_207) (fun _ h9 => h9) rfl dX5_readDraws_55 ?_
    refine lv_iload_n hx hb dX5_readDraws_58 rfl (lv_at hl 2 rfl) ?_
    refine lv_aload_n hx hb dX5_readDraws_59 rfl (lv_at hl 0 rfl) ?_
    refine lv_iload hx hb dX5_readDraws_60 (lv_at hl 4 rfl) ?_
    obtain ⟨u_14, u_15, u_16, hu_17, hF⟩ := ob3_some hF
    refine call_i (wr := [oX1 a_r1 p_r1 o_r1, aI g (p_r1 10) 8 (upd f_r1_10 ((o_r1 9)).toNatClampNeg u_5), aI g (p_r1 11) 8 f_r1_11, aI g (p_r1 12) 8 f_r1_12, aJ g (p_t 12) 16 f_t_12, aI g (p_t 13) 16 f_t_13, aI g (p_t 14) 16 f_t_14]) (As := [.int u_9]) (rest := [.int (o_r1 9), .ref (p_r1 11)]) (ci := 5) (q0 := 0) C0 (mX5_taken l g a_t p_t n u_9 o_t_47 c_t_47 f_t_0 u_14 u_15 u_16 hu_17) (cwV 1 hts gX5_readDraws_X5_taken rfl rfl rfl (by decide +kernel) ⟨Nat.le_of_ble_eq_true rfl, Nat.le_of_ble_eq_true rfl⟩) hP hD hS [5, 4] [0, 1, 2, 3, 6, 7, 8] rfl rfl rfl rfl rfl (by decide) rfl rfl hl.1 rfl rfl (Nat.le_of_ble_eq_true rfl) ⟨Nat.zero_le _, Nat.zero_le _⟩ dX5_readDraws_62 ?_
    intro H locs hP hD hS
    obtain ⟨h_18, hF⟩ := it_ck hF
    refine va_iast hx hb hK.1 hP hD hS 2 0 rfl rfl h_18 dX5_readDraws_65 (fun H locs hP hD hS => ?_)
    have hP : va_P g.1 vwCl [oX1 a_r1 p_r1 o_r1, aI g (p_r1 10) 8 (upd f_r1_10 ((o_r1 9)).toNatClampNeg u_5), aI g (p_r1 11) 8 (upd f_r1_11 ((o_r1 9)).toNatClampNeg u_14), aI g (p_r1 12) 8 f_r1_12, aJ g (p_t 12) 16 f_t_12, aI g (p_t 13) 16 f_t_13, aI g (p_t 14) 16 f_t_14, oX5 a_t p_t u_15 u_16, aI g (p_t 0) 800 f_t_0] H := hP
    have hD : va_D A [oX1 a_r1 p_r1 o_r1, aI g (p_r1 10) 8 (upd f_r1_10 ((o_r1 9)).toNatClampNeg u_5), aI g (p_r1 11) 8 (upd f_r1_11 ((o_r1 9)).toNatClampNeg u_14), aI g (p_r1 12) 8 f_r1_12, aJ g (p_t 12) 16 f_t_12, aI g (p_t 13) 16 f_t_13, aI g (p_t 14) 16 f_t_14, oX5 a_t p_t u_15 u_16, aI g (p_t 0) 800 f_t_0] := hD
    refine lv_aload_n hx hb dX5_readDraws_66 rfl (lv_at hl 1 rfl) ?_
    refine va_get (D := g.1) (ci := 1) (v := .ref (p_r1 12)) (C := RX1) (T := TX1) (N := 17) hx hb hts iX5_readDraws_X1 hown hK.1 hP 0 rfl rfl 12 (by decide) (hts _ kX5_readDraws_210) (fun _ h9 => h9) rfl dX5_readDraws_67 ?_
    refine lv_iload_n hx hb dX5_readDraws_70 rfl (lv_at hl 2 rfl) ?_
    refine lv_aload_n hx hb dX5_readDraws_71 rfl (lv_at hl 0 rfl) ?_
    refine lv_ldc2 (v := (25209 : Int64)) hx hb hown (hts _ kX5_readDraws_213) dX5_readDraws_72 ?_
    refine lv_iconst (v := (1 : Int32)) hx hb dX5_readDraws_75 (by decide) ?_
    refine lv_bipush (v := (20 : Int32)) hx hb dX5_readDraws_76 (by decide) ?_
    obtain ⟨u_19, u_20, u_21, hu_22, hF⟩ := ob3_some hF
    refine call_i (wr := [oX1 a_r1 p_r1 o_r1, aI g (p_r1 10) 8 (upd f_r1_10 ((o_r1 9)).toNatClampNeg u_5), aI g (p_r1 11) 8 (upd f_r1_11 ((o_r1 9)).toNatClampNeg u_14), aI g (p_r1 12) 8 f_r1_12, aJ g (p_t 12) 16 f_t_12, aI g (p_t 13) 16 f_t_13, aI g (p_t 14) 16 f_t_14]) (As := [.long (25209 : Int64), .int (1 : Int32), .int (20 : Int32)]) (rest := [.int (o_r1 9), .ref (p_r1 12)]) (ci := 5) (q0 := 0) C0 (mX5_takeAmount l g a_t p_t n (25209 : Int64) (1 : Int32) (20 : Int32) u_15 u_16 f_t_0 u_19 u_20 u_21 hu_22) (cwV 3 hts gX5_readDraws_X5_takeAmount rfl rfl rfl (by decide +kernel) ⟨Nat.le_of_ble_eq_true rfl, Nat.le_of_ble_eq_true rfl⟩) hP hD hS [7, 8] [0, 1, 2, 3, 4, 5, 6] rfl rfl rfl rfl rfl (by decide) rfl rfl hl.1 rfl rfl (Nat.le_of_ble_eq_true rfl) ⟨Nat.zero_le _, Nat.zero_le _⟩ dX5_readDraws_78 ?_
    intro H locs hP hD hS
    obtain ⟨h_23, hF⟩ := it_ck hF
    refine va_iast hx hb hK.1 hP hD hS 3 0 rfl rfl h_23 dX5_readDraws_81 (fun H locs hP hD hS => ?_)
    have hP : va_P g.1 vwCl [oX1 a_r1 p_r1 o_r1, aI g (p_r1 10) 8 (upd f_r1_10 ((o_r1 9)).toNatClampNeg u_5), aI g (p_r1 11) 8 (upd f_r1_11 ((o_r1 9)).toNatClampNeg u_14), aI g (p_r1 12) 8 (upd f_r1_12 ((o_r1 9)).toNatClampNeg u_19), aJ g (p_t 12) 16 f_t_12, aI g (p_t 13) 16 f_t_13, aI g (p_t 14) 16 f_t_14, oX5 a_t p_t u_20 u_21, aI g (p_t 0) 800 f_t_0] H := hP
    have hD : va_D A [oX1 a_r1 p_r1 o_r1, aI g (p_r1 10) 8 (upd f_r1_10 ((o_r1 9)).toNatClampNeg u_5), aI g (p_r1 11) 8 (upd f_r1_11 ((o_r1 9)).toNatClampNeg u_14), aI g (p_r1 12) 8 (upd f_r1_12 ((o_r1 9)).toNatClampNeg u_19), aJ g (p_t 12) 16 f_t_12, aI g (p_t 13) 16 f_t_13, aI g (p_t 14) 16 f_t_14, oX5 a_t p_t u_20 u_21, aI g (p_t 0) 800 f_t_0] := hD
    refine lv_aload_n hx hb dX5_readDraws_82 rfl (lv_at hl 1 rfl) ?_
    refine lv_dup hx hb dX5_readDraws_83 rfl ?_
    refine va_get (D := g.1) (ci := 1) (v := .int (o_r1 9)) (C := RX1) (T := TX1) (N := 17) hx hb hts iX5_readDraws_X1 hown hK.1 hP 0 rfl rfl 9 (by decide) (hts _ kX5_readDraws_135) (fun _ h9 => h9) rfl dX5_readDraws_84 ?_
    refine lv_iconst (v := (1 : Int32)) hx hb dX5_readDraws_87 (by decide) ?_
    refine lv_iadd hx hb dX5_readDraws_88 ?_
    refine va_put (D := g.1) (ci := 1) (v := .int ((o_r1 9) + (1 : Int32))) (ty := .int) (C := RX1) (T := TX1) (N := 17) hx hb hts iX5_readDraws_X1 tyX1 tyX1_ok nmX1 hown hK.1 hP hD hS 0 rfl rfl 9 (by decide) (hts _ kX5_readDraws_135) (fun _ h9 => h9) rfl (by decide +kernel) rfl rfl (Nat.le_of_ble_eq_true rfl) dX5_readDraws_89 (fun H locs hP hD hS => ?_)
    have hP : va_P g.1 vwCl [oX1 a_r1 p_r1 (upd o_r1 9 ((o_r1 9) + (1 : Int32))), aI g (p_r1 10) 8 (upd f_r1_10 ((o_r1 9)).toNatClampNeg u_5), aI g (p_r1 11) 8 (upd f_r1_11 ((o_r1 9)).toNatClampNeg u_14), aI g (p_r1 12) 8 (upd f_r1_12 ((o_r1 9)).toNatClampNeg u_19), aJ g (p_t 12) 16 f_t_12, aI g (p_t 13) 16 f_t_13, aI g (p_t 14) 16 f_t_14, oX5 a_t p_t u_20 u_21, aI g (p_t 0) 800 f_t_0] H := hP
    have hD : va_D A [oX1 a_r1 p_r1 (upd o_r1 9 ((o_r1 9) + (1 : Int32))), aI g (p_r1 10) 8 (upd f_r1_10 ((o_r1 9)).toNatClampNeg u_5), aI g (p_r1 11) 8 (upd f_r1_11 ((o_r1 9)).toNatClampNeg u_14), aI g (p_r1 12) 8 (upd f_r1_12 ((o_r1 9)).toNatClampNeg u_19), aJ g (p_t 12) 16 f_t_12, aI g (p_t 13) 16 f_t_13, aI g (p_t 14) 16 f_t_14, oX5 a_t p_t u_20 u_21, aI g (p_t 0) 800 f_t_0] := hD
    cases hF
    exact ret_v C0 hP hD hS [7, 8, 4, 5, 6, 0, 1, 2, 3] rfl rfl rfl dX5_readDraws_92
  refine lv_if_lt (tgt := 47) hx hb dX5_readDraws_22 (by decide) (fun c_24 => ?_) (fun c_24 => ?_)
  · have hF := it_p c_24 hF
    exact hJ47 u_10 u_11 _ _ _ hF (hP.sub [0, 1, 2, 3, 4, 5, 6, 7, 8] rfl) (hD.sub [0, 1, 2, 3, 4, 5, 6, 7, 8] rfl rfl) hS (lv_sub hl [3, 4, 2, 1, 0] rfl)
  · have hF := it_n c_24 hF
    refine lv_iload hx hb dX5_readDraws_25 (lv_at hl 0 rfl) ?_
    refine lv_iload_n hx hb dX5_readDraws_27 rfl (lv_at hl 1 rfl) ?_
    refine lv_icmp_eq (tgt := 41) hx hb dX5_readDraws_28 (by decide) (fun c_25 => ?_) (fun c_25 => ?_)
    · have hF := it_p c_25 hF
      refine lv_aload_n hx hb dX5_readDraws_41 rfl (lv_at hl 3 rfl) ?_
      refine lv_iconst (v := (3 : Int32)) hx hb dX5_readDraws_42 (by decide) ?_
      obtain ⟨u_26, u_27, u_28, hu_29, hF⟩ := ob3_some hF
      refine call_i (wr := [oX1 a_r1 p_r1 o_r1, aI g (p_r1 10) 8 f_r1_10, aI g (p_r1 11) 8 f_r1_11, aI g (p_r1 12) 8 f_r1_12, aI g (p_t 0) 800 f_t_0, aJ g (p_t 12) 16 f_t_12, aI g (p_t 13) 16 f_t_13, aI g (p_t 14) 16 f_t_14]) (As := [.int (3 : Int32)]) (rest := []) (ci := 5) (q0 := 0) C0 (mX5_fail l g a_t p_t n (3 : Int32) u_10 u_11 u_26 u_27 u_28 hu_29) (cwV 1 hts gX5_readDraws_X5_fail rfl rfl rfl (by decide +kernel) ⟨Nat.le_of_ble_eq_true rfl, Nat.le_of_ble_eq_true rfl⟩) hP hD hS [5] [0, 1, 2, 3, 4, 6, 7, 8] rfl rfl rfl rfl rfl (by decide) rfl rfl hl.1 rfl rfl (Nat.le_of_ble_eq_true rfl) ⟨Nat.zero_le _, Nat.zero_le _⟩ dX5_readDraws_43 ?_
      intro H locs hP hD hS
      refine lv_pop hx hb dX5_readDraws_46 rfl ?_
      exact hJ47 u_27 u_28 _ _ _ hF (hP.sub [0, 1, 2, 3, 4, 8, 5, 6, 7] rfl) (hD.sub [0, 1, 2, 3, 4, 8, 5, 6, 7] rfl rfl) hS (lv_sub hl [3, 4, 2, 1, 0] rfl)
    · have hF := it_n c_25 hF
      refine lv_aload_n hx hb dX5_readDraws_31 rfl (lv_at hl 4 rfl) ?_
      refine lv_iload_n hx hb dX5_readDraws_32 rfl (lv_at hl 1 rfl) ?_
      refine lv_iload hx hb dX5_readDraws_33 (lv_at hl 0 rfl) ?_
      obtain ⟨u_30, hu_31, hF⟩ := ob1_some hF
      refine call_i (wr := [aI g (p_r1 12) 8 f_r1_12, aI g (p_t 0) 800 f_t_0, oX5 a_t p_t u_10 u_11, aJ g (p_t 12) 16 f_t_12, aI g (p_t 13) 16 f_t_13, aI g (p_t 14) 16 f_t_14]) (As := [.int u_5, .int u_9]) (rest := []) (ci := 1) (q0 := 0) C0 (mX1_drawLine l g a_r1 p_r1 n u_5 u_9 o_r1 f_r1_10 f_r1_11 u_30 hu_31) (cwV 2 hts gX5_readDraws_X1_drawLine rfl rfl rfl (by decide +kernel) ⟨Nat.le_of_ble_eq_true rfl, Nat.le_of_ble_eq_true rfl⟩) hP hD hS [0, 1, 2] [3, 4, 5, 6, 7, 8] rfl rfl rfl rfl rfl (by decide) rfl rfl hl.1 rfl rfl (Nat.le_of_ble_eq_true rfl) ⟨Nat.zero_le _, Nat.zero_le _⟩ dX5_readDraws_35 ?_
      intro H locs hP hD hS
      refine lv_if_lt (tgt := 47) hx hb dX5_readDraws_38 (by decide) (fun c_32 => ?_) (fun c_32 => ?_)
      · have hF := it_p c_32 hF
        exact hJ47 u_10 u_11 _ _ _ hF (hP.sub [6, 7, 8, 0, 1, 2, 3, 4, 5] rfl) (hD.sub [6, 7, 8, 0, 1, 2, 3, 4, 5] rfl rfl) hS (lv_sub hl [3, 4, 2, 1, 0] rfl)
      · have hF := it_n c_32 hF
        refine lv_aload_n hx hb dX5_readDraws_41 rfl (lv_at hl 3 rfl) ?_
        refine lv_iconst (v := (3 : Int32)) hx hb dX5_readDraws_42 (by decide) ?_
        obtain ⟨u_33, u_34, u_35, hu_36, hF⟩ := ob3_some hF
        refine call_i (wr := [aI g (p_r1 12) 8 f_r1_12, aI g (p_t 0) 800 f_t_0, aJ g (p_t 12) 16 f_t_12, aI g (p_t 13) 16 f_t_13, aI g (p_t 14) 16 f_t_14, oX1 a_r1 p_r1 o_r1, aI g (p_r1 10) 8 f_r1_10, aI g (p_r1 11) 8 f_r1_11]) (As := [.int (3 : Int32)]) (rest := []) (ci := 5) (q0 := 0) C0 (mX5_fail l g a_t p_t n (3 : Int32) u_10 u_11 u_33 u_34 u_35 hu_36) (cwV 1 hts gX5_readDraws_X5_fail rfl rfl rfl (by decide +kernel) ⟨Nat.le_of_ble_eq_true rfl, Nat.le_of_ble_eq_true rfl⟩) hP hD hS [2] [0, 1, 3, 4, 5, 6, 7, 8] rfl rfl rfl rfl rfl (by decide) rfl rfl hl.1 rfl rfl (Nat.le_of_ble_eq_true rfl) ⟨Nat.zero_le _, Nat.zero_le _⟩ dX5_readDraws_43 ?_
        intro H locs hP hD hS
        refine lv_pop hx hb dX5_readDraws_46 rfl ?_
        exact hJ47 u_34 u_35 _ _ _ hF (hP.sub [5, 6, 7, 0, 1, 8, 2, 3, 4] rfl) (hD.sub [5, 6, 7, 0, 1, 8, 2, 3, 4] rfl rfl) hS (lv_sub hl [3, 4, 2, 1, 0] rfl)

theorem dAX5_readTale : ∀ q ∈ ([(0, (.aload_n 1, 1)), (1, (.getfield 138, 3)), (4, (.istore_n 2, 1)), (5, (.aload_n 0, 1)), (6, (.iconst 4, 1)), (7, (.iload_n 2, 1)), (8, (.invokevirtual 168, 3)), (11, (.aload_n 1, 1)), (12, (.getfield 215, 3)), (15, (.iload_n 2, 1)), (16, (.aload_n 0, 1)), (17, (.ldc2_w 218, 3)), (20, (.iconst 1, 1)), (21, (.iconst 3, 1)), (22, (.invokevirtual 151, 3)), (25, (.iastore, 1)), (26, (.aload_n 1, 1)), (27, (.getfield 220, 3)), (30, (.iload_n 2, 1)), (31, (.aload_n 0, 1)), (32, (.ldc2_w 223, 3)), (35, (.iconst 0, 1)), (36, (.bipush 30, 2)), (38, (.invokevirtual 151, 3)), (41, (.iastore, 1)), (42, (.aload_n 1, 1)), (43, (.dup, 1)), (44, (.getfield 138, 3)), (47, (.iconst 1, 1)), (48, (.iadd, 1)), (49, (.putfield 138, 3)), (52, (.return_, 1))] : List (Nat × (Instr × Nat))), decode cX5_readTale q.1 = .ok q.2 := by decide +kernel
theorem dX5_readTale_0 : decode cX5_readTale 0 = .ok (.aload_n 1, 1) := dAX5_readTale (0, (.aload_n 1, 1)) (List.mem_of_getElem? (i := 0) rfl)
theorem dX5_readTale_1 : decode cX5_readTale 1 = .ok (.getfield 138, 3) := dAX5_readTale (1, (.getfield 138, 3)) (List.mem_of_getElem? (i := 1) rfl)
theorem dX5_readTale_4 : decode cX5_readTale 4 = .ok (.istore_n 2, 1) := dAX5_readTale (4, (.istore_n 2, 1)) (List.mem_of_getElem? (i := 2) rfl)
theorem dX5_readTale_5 : decode cX5_readTale 5 = .ok (.aload_n 0, 1) := dAX5_readTale (5, (.aload_n 0, 1)) (List.mem_of_getElem? (i := 3) rfl)
theorem dX5_readTale_6 : decode cX5_readTale 6 = .ok (.iconst 4, 1) := dAX5_readTale (6, (.iconst 4, 1)) (List.mem_of_getElem? (i := 4) rfl)
theorem dX5_readTale_7 : decode cX5_readTale 7 = .ok (.iload_n 2, 1) := dAX5_readTale (7, (.iload_n 2, 1)) (List.mem_of_getElem? (i := 5) rfl)
theorem dX5_readTale_8 : decode cX5_readTale 8 = .ok (.invokevirtual 168, 3) := dAX5_readTale (8, (.invokevirtual 168, 3)) (List.mem_of_getElem? (i := 6) rfl)
theorem dX5_readTale_11 : decode cX5_readTale 11 = .ok (.aload_n 1, 1) := dAX5_readTale (11, (.aload_n 1, 1)) (List.mem_of_getElem? (i := 7) rfl)
theorem dX5_readTale_12 : decode cX5_readTale 12 = .ok (.getfield 215, 3) := dAX5_readTale (12, (.getfield 215, 3)) (List.mem_of_getElem? (i := 8) rfl)
theorem dX5_readTale_15 : decode cX5_readTale 15 = .ok (.iload_n 2, 1) := dAX5_readTale (15, (.iload_n 2, 1)) (List.mem_of_getElem? (i := 9) rfl)
theorem dX5_readTale_16 : decode cX5_readTale 16 = .ok (.aload_n 0, 1) := dAX5_readTale (16, (.aload_n 0, 1)) (List.mem_of_getElem? (i := 10) rfl)
theorem dX5_readTale_17 : decode cX5_readTale 17 = .ok (.ldc2_w 218, 3) := dAX5_readTale (17, (.ldc2_w 218, 3)) (List.mem_of_getElem? (i := 11) rfl)
theorem dX5_readTale_20 : decode cX5_readTale 20 = .ok (.iconst 1, 1) := dAX5_readTale (20, (.iconst 1, 1)) (List.mem_of_getElem? (i := 12) rfl)
theorem dX5_readTale_21 : decode cX5_readTale 21 = .ok (.iconst 3, 1) := dAX5_readTale (21, (.iconst 3, 1)) (List.mem_of_getElem? (i := 13) rfl)
theorem dX5_readTale_22 : decode cX5_readTale 22 = .ok (.invokevirtual 151, 3) := dAX5_readTale (22, (.invokevirtual 151, 3)) (List.mem_of_getElem? (i := 14) rfl)
theorem dX5_readTale_25 : decode cX5_readTale 25 = .ok (.iastore, 1) := dAX5_readTale (25, (.iastore, 1)) (List.mem_of_getElem? (i := 15) rfl)
theorem dX5_readTale_26 : decode cX5_readTale 26 = .ok (.aload_n 1, 1) := dAX5_readTale (26, (.aload_n 1, 1)) (List.mem_of_getElem? (i := 16) rfl)
theorem dX5_readTale_27 : decode cX5_readTale 27 = .ok (.getfield 220, 3) := dAX5_readTale (27, (.getfield 220, 3)) (List.mem_of_getElem? (i := 17) rfl)
theorem dX5_readTale_30 : decode cX5_readTale 30 = .ok (.iload_n 2, 1) := dAX5_readTale (30, (.iload_n 2, 1)) (List.mem_of_getElem? (i := 18) rfl)
theorem dX5_readTale_31 : decode cX5_readTale 31 = .ok (.aload_n 0, 1) := dAX5_readTale (31, (.aload_n 0, 1)) (List.mem_of_getElem? (i := 19) rfl)
theorem dX5_readTale_32 : decode cX5_readTale 32 = .ok (.ldc2_w 223, 3) := dAX5_readTale (32, (.ldc2_w 223, 3)) (List.mem_of_getElem? (i := 20) rfl)
theorem dX5_readTale_35 : decode cX5_readTale 35 = .ok (.iconst 0, 1) := dAX5_readTale (35, (.iconst 0, 1)) (List.mem_of_getElem? (i := 21) rfl)
theorem dX5_readTale_36 : decode cX5_readTale 36 = .ok (.bipush 30, 2) := dAX5_readTale (36, (.bipush 30, 2)) (List.mem_of_getElem? (i := 22) rfl)
theorem dX5_readTale_38 : decode cX5_readTale 38 = .ok (.invokevirtual 151, 3) := dAX5_readTale (38, (.invokevirtual 151, 3)) (List.mem_of_getElem? (i := 23) rfl)
theorem dX5_readTale_41 : decode cX5_readTale 41 = .ok (.iastore, 1) := dAX5_readTale (41, (.iastore, 1)) (List.mem_of_getElem? (i := 24) rfl)
theorem dX5_readTale_42 : decode cX5_readTale 42 = .ok (.aload_n 1, 1) := dAX5_readTale (42, (.aload_n 1, 1)) (List.mem_of_getElem? (i := 25) rfl)
theorem dX5_readTale_43 : decode cX5_readTale 43 = .ok (.dup, 1) := dAX5_readTale (43, (.dup, 1)) (List.mem_of_getElem? (i := 26) rfl)
theorem dX5_readTale_44 : decode cX5_readTale 44 = .ok (.getfield 138, 3) := dAX5_readTale (44, (.getfield 138, 3)) (List.mem_of_getElem? (i := 27) rfl)
theorem dX5_readTale_47 : decode cX5_readTale 47 = .ok (.iconst 1, 1) := dAX5_readTale (47, (.iconst 1, 1)) (List.mem_of_getElem? (i := 28) rfl)
theorem dX5_readTale_48 : decode cX5_readTale 48 = .ok (.iadd, 1) := dAX5_readTale (48, (.iadd, 1)) (List.mem_of_getElem? (i := 29) rfl)
theorem dX5_readTale_49 : decode cX5_readTale 49 = .ok (.putfield 138, 3) := dAX5_readTale (49, (.putfield 138, 3)) (List.mem_of_getElem? (i := 30) rfl)
theorem dX5_readTale_52 : decode cX5_readTale 52 = .ok (.return_, 1) := dAX5_readTale (52, (.return_, 1)) (List.mem_of_getElem? (i := 31) rfl)
set_option maxRecDepth 20000 in
theorem ggX5_readTale_X5_takeNewName : GoodIn wsX5_readTale wsX5_takeNewName := goodIn_r _ [10, 11, 12, 13, 14, 15, 16, 17, 18, 9, 19, 20, 21, 22, 23, 24, 25, 26, 27, 28, 29, 30, 31, 32, 33, 34, 35, 36, 37, 38, 39, 40, 41, 42, 43, 44, 45, 46, 47, 48, 49, 50, 51, 52, 53, 54, 55, 56, 57, 58, 59, 60, 61, 62, 63, 89, 90, 91, 92, 93, 94, 95, 96, 97, 98, 99, 100, 101, 102, 103] rfl (by decide +kernel)
set_option maxRecDepth 20000 in
theorem gX5_readTale_X5_takeNewName : GoodIn wsX5_readTale (wsV RX5 168 RX5 yX5_takeNewName wsX5_takeNewName) := goodIn_app (goodIn_of _ (by decide +kernel)) ggX5_readTale_X5_takeNewName
set_option maxRecDepth 20000 in
theorem ggX5_readTale_X5_takeAmount : GoodIn wsX5_readTale wsX5_takeAmount := goodIn_r _ [67, 20, 13, 63, 33, 34, 35, 9, 36, 37, 38, 39, 40, 41, 42, 43, 68, 69, 70, 71, 48, 49, 50, 51, 52, 53, 54, 55, 56, 57, 58, 59, 60, 61, 62, 89, 90, 91, 92, 93, 94, 95, 96, 97, 98, 99, 100, 101, 102, 103] rfl (by decide +kernel)
set_option maxRecDepth 20000 in
theorem gX5_readTale_X5_takeAmount : GoodIn wsX5_readTale (wsV RX5 151 RX5 yX5_takeAmount wsX5_takeAmount) := goodIn_app (goodIn_of _ (by decide +kernel)) ggX5_readTale_X5_takeAmount
theorem kX5_readTale_138 : Cond.fieldLink RX5 138 "EveningVow$House" "tales" "I" ∈ wsX5_readTale := List.mem_of_getElem? (i := 1) rfl
theorem iX5_readTale_X1 : ∀ w ∈ u_ws RX1 TX1 17, w ∈ wsX5_readTale := fun w h => (List.mem_cons_of_mem _ (List.mem_append_left _ (List.mem_append_right _ h)))
theorem kX5_readTale_215 : Cond.fieldLink RX5 215 "EveningVow$House" "taleHours" "[I" ∈ wsX5_readTale := List.mem_of_getElem? (i := 2) rfl
theorem kX5_readTale_218 : Cond.constantLong RX5 218 (448546566771 : Int64) ∈ wsX5_readTale := by decide +kernel
theorem kX5_readTale_220 : Cond.fieldLink RX5 220 "EveningVow$House" "taleTires" "[I" ∈ wsX5_readTale := List.mem_of_getElem? (i := 4) rfl
theorem kX5_readTale_223 : Cond.constantLong RX5 223 (499985311091 : Int64) ∈ wsX5_readTale := by decide +kernel
set_option maxHeartbeats 4000000 in
set_option maxRecDepth 100000 in
theorem mX5_readTale (l : Launch) (g : GG) (a_t : Nat) (a_r1 : Nat) (p_t : Nat → Nat) (p_r1 : Nat → Nat) (n : Nat) (o_t : Nat → Int32) (c_t : Int64) (f_t_0 : Nat → Int32) (f_t_12 : Nat → Int64) (f_t_13 : Nat → Int32) (f_t_14 : Nat → Int32) (o_r1 : Nat → Int32) (f_r1_14 : Nat → Int32) (f_r1_15 : Nat → Int32) (o_t' : Nat → Int32) (c_t' : Int64) (f_t_12' : Nat → Int64) (f_t_13' : Nat → Int32) (f_t_14' : Nat → Int32) (o_r1' : Nat → Int32) (f_r1_14' : Nat → Int32) (f_r1_15' : Nat → Int32) (hF : fX5_readTale n o_t c_t f_t_0 f_t_12 f_t_13 f_t_14 o_r1 f_r1_14 f_r1_15 = some (o_t', c_t', f_t_12', f_t_13', f_t_14', o_r1', f_r1_14', f_r1_15')) : MV l g yX5_readTale wsX5_readTale ({ frames := 4, cells := 0, slots := 0, locals := 85 } : Room) [.ref a_t, .ref a_r1] [oX5 a_t p_t o_t c_t, aI g (p_t 0) 800 f_t_0, aJ g (p_t 12) 16 f_t_12, aI g (p_t 13) 16 f_t_13, aI g (p_t 14) 16 f_t_14, oX1 a_r1 p_r1 o_r1, aI g (p_r1 14) 4 f_r1_14, aI g (p_r1 15) 4 f_r1_15] [oX5 a_t p_t o_t' c_t', aI g (p_t 0) 800 f_t_0, aJ g (p_t 12) 16 f_t_12', aI g (p_t 13) 16 f_t_13', aI g (p_t 14) 16 f_t_14', oX1 a_r1 p_r1 o_r1', aI g (p_r1 14) 4 f_r1_14', aI g (p_r1 15) 4 f_r1_15'] := by
  refine MV.of (cc := cX5_readTale) (maxL := 3) (own := RX5) rfl rfl (by decide) (Nat.le_of_ble_eq_true rfl) ?_
  intro p e s m args below meth c A C0 hP hD hS ls hl
  obtain ⟨hx, hb, hml, hown, hts, hr, hlk, hK, hA, hSW⟩ := id C0
  have hl : lv_has ls 3 [(0, .ref a_t), (1, .ref a_r1)] := hl
  rw [fX5_readTale] at hF
  refine lv_aload_n hx hb dX5_readTale_0 rfl (lv_at hl 1 rfl) ?_
  refine va_get (D := g.1) (ci := 1) (v := .int (o_r1 13)) (C := RX1) (T := TX1) (N := 17) hx hb hts iX5_readTale_X1 hown hK.1 hP 5 rfl rfl 13 (by decide) (hts _ kX5_readTale_138) (fun _ h9 => h9) rfl dX5_readTale_1 ?_
  refine lv_istore_n (lv' := [(2, .int (o_r1 13)), (0, .ref a_t), (1, .ref a_r1)]) hx hb dX5_readTale_4 rfl hl (by decide) rfl (fun ls hl => ?_)
  refine lv_aload_n hx hb dX5_readTale_5 rfl (lv_at hl 1 rfl) ?_
  refine lv_iconst (v := (4 : Int32)) hx hb dX5_readTale_6 (by decide) ?_
  refine lv_iload_n hx hb dX5_readTale_7 rfl (lv_at hl 0 rfl) ?_
  obtain ⟨u_1, u_2, u_3, u_4, u_5, hu_6, hF⟩ := ob5_some hF
  refine call_v (wr := [oX1 a_r1 p_r1 o_r1, aI g (p_r1 14) 4 f_r1_14, aI g (p_r1 15) 4 f_r1_15]) (As := [.int (4 : Int32), .int (o_r1 13)]) (rest := []) (ci := 5) (q0 := 0) C0 (mX5_takeNewName l g a_t p_t n (4 : Int32) (o_r1 13) o_t c_t f_t_0 f_t_12 f_t_13 f_t_14 u_1 u_2 u_3 u_4 u_5 hu_6) (cwV 2 hts gX5_readTale_X5_takeNewName rfl rfl rfl (by decide +kernel) ⟨Nat.le_of_ble_eq_true rfl, Nat.le_of_ble_eq_true rfl⟩) hP hD hS [0, 1, 2, 3, 4] [5, 6, 7] rfl rfl rfl rfl rfl (by decide) rfl rfl hl.1 rfl rfl (Nat.le_of_ble_eq_true rfl) ⟨Nat.zero_le _, Nat.zero_le _⟩ dX5_readTale_8 ?_
  intro H locs hP hD hS
  refine lv_aload_n hx hb dX5_readTale_11 rfl (lv_at hl 2 rfl) ?_
  refine va_get (D := g.1) (ci := 1) (v := .ref (p_r1 14)) (C := RX1) (T := TX1) (N := 17) hx hb hts iX5_readTale_X1 hown hK.1 hP 0 rfl rfl 14 (by decide) (hts _ kX5_readTale_215) (fun _ h9 => h9) rfl dX5_readTale_12 ?_
  refine lv_iload_n hx hb dX5_readTale_15 rfl (lv_at hl 0 rfl) ?_
  refine lv_aload_n hx hb dX5_readTale_16 rfl (lv_at hl 1 rfl) ?_
  refine lv_ldc2 (v := (448546566771 : Int64)) hx hb hown (hts _ kX5_readTale_218) dX5_readTale_17 ?_
  refine lv_iconst (v := (1 : Int32)) hx hb dX5_readTale_20 (by decide) ?_
  refine lv_iconst (v := (3 : Int32)) hx hb dX5_readTale_21 (by decide) ?_
  obtain ⟨u_7, u_8, u_9, hu_10, hF⟩ := ob3_some hF
  refine call_i (wr := [oX1 a_r1 p_r1 o_r1, aI g (p_r1 14) 4 f_r1_14, aI g (p_r1 15) 4 f_r1_15, aJ g (p_t 12) 16 u_3, aI g (p_t 13) 16 u_4, aI g (p_t 14) 16 u_5]) (As := [.long (448546566771 : Int64), .int (1 : Int32), .int (3 : Int32)]) (rest := [.int (o_r1 13), .ref (p_r1 14)]) (ci := 5) (q0 := 0) C0 (mX5_takeAmount l g a_t p_t n (448546566771 : Int64) (1 : Int32) (3 : Int32) u_1 u_2 f_t_0 u_7 u_8 u_9 hu_10) (cwV 3 hts gX5_readTale_X5_takeAmount rfl rfl rfl (by decide +kernel) ⟨Nat.le_of_ble_eq_true rfl, Nat.le_of_ble_eq_true rfl⟩) hP hD hS [3, 4] [0, 1, 2, 5, 6, 7] rfl rfl rfl rfl rfl (by decide) rfl rfl hl.1 rfl rfl (Nat.le_of_ble_eq_true rfl) ⟨Nat.zero_le _, Nat.zero_le _⟩ dX5_readTale_22 ?_
  intro H locs hP hD hS
  obtain ⟨h_11, hF⟩ := it_ck hF
  refine va_iast hx hb hK.1 hP hD hS 1 0 rfl rfl h_11 dX5_readTale_25 (fun H locs hP hD hS => ?_)
  have hP : va_P g.1 vwCl [oX1 a_r1 p_r1 o_r1, aI g (p_r1 14) 4 (upd f_r1_14 ((o_r1 13)).toNatClampNeg u_7), aI g (p_r1 15) 4 f_r1_15, aJ g (p_t 12) 16 u_3, aI g (p_t 13) 16 u_4, aI g (p_t 14) 16 u_5, oX5 a_t p_t u_8 u_9, aI g (p_t 0) 800 f_t_0] H := hP
  have hD : va_D A [oX1 a_r1 p_r1 o_r1, aI g (p_r1 14) 4 (upd f_r1_14 ((o_r1 13)).toNatClampNeg u_7), aI g (p_r1 15) 4 f_r1_15, aJ g (p_t 12) 16 u_3, aI g (p_t 13) 16 u_4, aI g (p_t 14) 16 u_5, oX5 a_t p_t u_8 u_9, aI g (p_t 0) 800 f_t_0] := hD
  refine lv_aload_n hx hb dX5_readTale_26 rfl (lv_at hl 2 rfl) ?_
  refine va_get (D := g.1) (ci := 1) (v := .ref (p_r1 15)) (C := RX1) (T := TX1) (N := 17) hx hb hts iX5_readTale_X1 hown hK.1 hP 0 rfl rfl 15 (by decide) (hts _ kX5_readTale_220) (fun _ h9 => h9) rfl dX5_readTale_27 ?_
  refine lv_iload_n hx hb dX5_readTale_30 rfl (lv_at hl 0 rfl) ?_
  refine lv_aload_n hx hb dX5_readTale_31 rfl (lv_at hl 1 rfl) ?_
  refine lv_ldc2 (v := (499985311091 : Int64)) hx hb hown (hts _ kX5_readTale_223) dX5_readTale_32 ?_
  refine lv_iconst (v := (0 : Int32)) hx hb dX5_readTale_35 (by decide) ?_
  refine lv_bipush (v := (30 : Int32)) hx hb dX5_readTale_36 (by decide) ?_
  obtain ⟨u_12, u_13, u_14, hu_15, hF⟩ := ob3_some hF
  refine call_i (wr := [oX1 a_r1 p_r1 o_r1, aI g (p_r1 14) 4 (upd f_r1_14 ((o_r1 13)).toNatClampNeg u_7), aI g (p_r1 15) 4 f_r1_15, aJ g (p_t 12) 16 u_3, aI g (p_t 13) 16 u_4, aI g (p_t 14) 16 u_5]) (As := [.long (499985311091 : Int64), .int (0 : Int32), .int (30 : Int32)]) (rest := [.int (o_r1 13), .ref (p_r1 15)]) (ci := 5) (q0 := 0) C0 (mX5_takeAmount l g a_t p_t n (499985311091 : Int64) (0 : Int32) (30 : Int32) u_8 u_9 f_t_0 u_12 u_13 u_14 hu_15) (cwV 3 hts gX5_readTale_X5_takeAmount rfl rfl rfl (by decide +kernel) ⟨Nat.le_of_ble_eq_true rfl, Nat.le_of_ble_eq_true rfl⟩) hP hD hS [6, 7] [0, 1, 2, 3, 4, 5] rfl rfl rfl rfl rfl (by decide) rfl rfl hl.1 rfl rfl (Nat.le_of_ble_eq_true rfl) ⟨Nat.zero_le _, Nat.zero_le _⟩ dX5_readTale_38 ?_
  intro H locs hP hD hS
  obtain ⟨h_16, hF⟩ := it_ck hF
  refine va_iast hx hb hK.1 hP hD hS 2 0 rfl rfl h_16 dX5_readTale_41 (fun H locs hP hD hS => ?_)
  have hP : va_P g.1 vwCl [oX1 a_r1 p_r1 o_r1, aI g (p_r1 14) 4 (upd f_r1_14 ((o_r1 13)).toNatClampNeg u_7), aI g (p_r1 15) 4 (upd f_r1_15 ((o_r1 13)).toNatClampNeg u_12), aJ g (p_t 12) 16 u_3, aI g (p_t 13) 16 u_4, aI g (p_t 14) 16 u_5, oX5 a_t p_t u_13 u_14, aI g (p_t 0) 800 f_t_0] H := hP
  have hD : va_D A [oX1 a_r1 p_r1 o_r1, aI g (p_r1 14) 4 (upd f_r1_14 ((o_r1 13)).toNatClampNeg u_7), aI g (p_r1 15) 4 (upd f_r1_15 ((o_r1 13)).toNatClampNeg u_12), aJ g (p_t 12) 16 u_3, aI g (p_t 13) 16 u_4, aI g (p_t 14) 16 u_5, oX5 a_t p_t u_13 u_14, aI g (p_t 0) 800 f_t_0] := hD
  refine lv_aload_n hx hb dX5_readTale_42 rfl (lv_at hl 2 rfl) ?_
  refine lv_dup hx hb dX5_readTale_43 rfl ?_
  refine va_get (D := g.1) (ci := 1) (v := .int (o_r1 13)) (C := RX1) (T := TX1) (N := 17) hx hb hts iX5_readTale_X1 hown hK.1 hP 0 rfl rfl 13 (by decide) (hts _ kX5_readTale_138) (fun _ h9 => h9) rfl dX5_readTale_44 ?_
  refine lv_iconst (v := (1 : Int32)) hx hb dX5_readTale_47 (by decide) ?_
  refine lv_iadd hx hb dX5_readTale_48 ?_
  refine va_put (D := g.1) (ci := 1) (v := .int ((o_r1 13) + (1 : Int32))) (ty := .int) (C := RX1) (T := TX1) (N := 17) hx hb hts iX5_readTale_X1 tyX1 tyX1_ok nmX1 hown hK.1 hP hD hS 0 rfl rfl 13 (by decide) (hts _ kX5_readTale_138) (fun _ h9 => h9) rfl (by decide +kernel) rfl rfl (Nat.le_of_ble_eq_true rfl) dX5_readTale_49 (fun H locs hP hD hS => ?_)
  have hP : va_P g.1 vwCl [oX1 a_r1 p_r1 (upd o_r1 13 ((o_r1 13) + (1 : Int32))), aI g (p_r1 14) 4 (upd f_r1_14 ((o_r1 13)).toNatClampNeg u_7), aI g (p_r1 15) 4 (upd f_r1_15 ((o_r1 13)).toNatClampNeg u_12), aJ g (p_t 12) 16 u_3, aI g (p_t 13) 16 u_4, aI g (p_t 14) 16 u_5, oX5 a_t p_t u_13 u_14, aI g (p_t 0) 800 f_t_0] H := hP
  have hD : va_D A [oX1 a_r1 p_r1 (upd o_r1 13 ((o_r1 13) + (1 : Int32))), aI g (p_r1 14) 4 (upd f_r1_14 ((o_r1 13)).toNatClampNeg u_7), aI g (p_r1 15) 4 (upd f_r1_15 ((o_r1 13)).toNatClampNeg u_12), aJ g (p_t 12) 16 u_3, aI g (p_t 13) 16 u_4, aI g (p_t 14) 16 u_5, oX5 a_t p_t u_13 u_14, aI g (p_t 0) 800 f_t_0] := hD
  cases hF
  exact ret_v C0 hP hD hS [6, 7, 3, 4, 5, 0, 1, 2] rfl rfl rfl dX5_readTale_52

theorem dAX5_readNeed : ∀ q ∈ ([(0, (.aload_n 1, 1)), (1, (.getfield 141, 3)), (4, (.istore_n 2, 1)), (5, (.aload_n 0, 1)), (6, (.iconst 5, 1)), (7, (.iload_n 2, 1)), (8, (.invokevirtual 168, 3)), (11, (.aload_n 1, 1)), (12, (.getfield 225, 3)), (15, (.iload_n 2, 1)), (16, (.aload_n 0, 1)), (17, (.ldc2_w 213, 3)), (20, (.iconst 0, 1)), (21, (.bipush 30, 2)), (23, (.invokevirtual 151, 3)), (26, (.iastore, 1)), (27, (.aload_n 1, 1)), (28, (.getfield 228, 3)), (31, (.iload_n 2, 1)), (32, (.aload_n 0, 1)), (33, (.ldc2_w 231, 3)), (36, (.iconst 1, 1)), (37, (.bipush 99, 2)), (39, (.invokevirtual 151, 3)), (42, (.iastore, 1)), (43, (.aload_n 1, 1)), (44, (.dup, 1)), (45, (.getfield 141, 3)), (48, (.iconst 1, 1)), (49, (.iadd, 1)), (50, (.putfield 141, 3)), (53, (.return_, 1))] : List (Nat × (Instr × Nat))), decode cX5_readNeed q.1 = .ok q.2 := by decide +kernel
theorem dX5_readNeed_0 : decode cX5_readNeed 0 = .ok (.aload_n 1, 1) := dAX5_readNeed (0, (.aload_n 1, 1)) (List.mem_of_getElem? (i := 0) rfl)
theorem dX5_readNeed_1 : decode cX5_readNeed 1 = .ok (.getfield 141, 3) := dAX5_readNeed (1, (.getfield 141, 3)) (List.mem_of_getElem? (i := 1) rfl)
theorem dX5_readNeed_4 : decode cX5_readNeed 4 = .ok (.istore_n 2, 1) := dAX5_readNeed (4, (.istore_n 2, 1)) (List.mem_of_getElem? (i := 2) rfl)
theorem dX5_readNeed_5 : decode cX5_readNeed 5 = .ok (.aload_n 0, 1) := dAX5_readNeed (5, (.aload_n 0, 1)) (List.mem_of_getElem? (i := 3) rfl)
theorem dX5_readNeed_6 : decode cX5_readNeed 6 = .ok (.iconst 5, 1) := dAX5_readNeed (6, (.iconst 5, 1)) (List.mem_of_getElem? (i := 4) rfl)
theorem dX5_readNeed_7 : decode cX5_readNeed 7 = .ok (.iload_n 2, 1) := dAX5_readNeed (7, (.iload_n 2, 1)) (List.mem_of_getElem? (i := 5) rfl)
theorem dX5_readNeed_8 : decode cX5_readNeed 8 = .ok (.invokevirtual 168, 3) := dAX5_readNeed (8, (.invokevirtual 168, 3)) (List.mem_of_getElem? (i := 6) rfl)
theorem dX5_readNeed_11 : decode cX5_readNeed 11 = .ok (.aload_n 1, 1) := dAX5_readNeed (11, (.aload_n 1, 1)) (List.mem_of_getElem? (i := 7) rfl)
theorem dX5_readNeed_12 : decode cX5_readNeed 12 = .ok (.getfield 225, 3) := dAX5_readNeed (12, (.getfield 225, 3)) (List.mem_of_getElem? (i := 8) rfl)
theorem dX5_readNeed_15 : decode cX5_readNeed 15 = .ok (.iload_n 2, 1) := dAX5_readNeed (15, (.iload_n 2, 1)) (List.mem_of_getElem? (i := 9) rfl)
theorem dX5_readNeed_16 : decode cX5_readNeed 16 = .ok (.aload_n 0, 1) := dAX5_readNeed (16, (.aload_n 0, 1)) (List.mem_of_getElem? (i := 10) rfl)
theorem dX5_readNeed_17 : decode cX5_readNeed 17 = .ok (.ldc2_w 213, 3) := dAX5_readNeed (17, (.ldc2_w 213, 3)) (List.mem_of_getElem? (i := 11) rfl)
theorem dX5_readNeed_20 : decode cX5_readNeed 20 = .ok (.iconst 0, 1) := dAX5_readNeed (20, (.iconst 0, 1)) (List.mem_of_getElem? (i := 12) rfl)
theorem dX5_readNeed_21 : decode cX5_readNeed 21 = .ok (.bipush 30, 2) := dAX5_readNeed (21, (.bipush 30, 2)) (List.mem_of_getElem? (i := 13) rfl)
theorem dX5_readNeed_23 : decode cX5_readNeed 23 = .ok (.invokevirtual 151, 3) := dAX5_readNeed (23, (.invokevirtual 151, 3)) (List.mem_of_getElem? (i := 14) rfl)
theorem dX5_readNeed_26 : decode cX5_readNeed 26 = .ok (.iastore, 1) := dAX5_readNeed (26, (.iastore, 1)) (List.mem_of_getElem? (i := 15) rfl)
theorem dX5_readNeed_27 : decode cX5_readNeed 27 = .ok (.aload_n 1, 1) := dAX5_readNeed (27, (.aload_n 1, 1)) (List.mem_of_getElem? (i := 16) rfl)
theorem dX5_readNeed_28 : decode cX5_readNeed 28 = .ok (.getfield 228, 3) := dAX5_readNeed (28, (.getfield 228, 3)) (List.mem_of_getElem? (i := 17) rfl)
theorem dX5_readNeed_31 : decode cX5_readNeed 31 = .ok (.iload_n 2, 1) := dAX5_readNeed (31, (.iload_n 2, 1)) (List.mem_of_getElem? (i := 18) rfl)
theorem dX5_readNeed_32 : decode cX5_readNeed 32 = .ok (.aload_n 0, 1) := dAX5_readNeed (32, (.aload_n 0, 1)) (List.mem_of_getElem? (i := 19) rfl)
theorem dX5_readNeed_33 : decode cX5_readNeed 33 = .ok (.ldc2_w 231, 3) := dAX5_readNeed (33, (.ldc2_w 231, 3)) (List.mem_of_getElem? (i := 20) rfl)
theorem dX5_readNeed_36 : decode cX5_readNeed 36 = .ok (.iconst 1, 1) := dAX5_readNeed (36, (.iconst 1, 1)) (List.mem_of_getElem? (i := 21) rfl)
theorem dX5_readNeed_37 : decode cX5_readNeed 37 = .ok (.bipush 99, 2) := dAX5_readNeed (37, (.bipush 99, 2)) (List.mem_of_getElem? (i := 22) rfl)
theorem dX5_readNeed_39 : decode cX5_readNeed 39 = .ok (.invokevirtual 151, 3) := dAX5_readNeed (39, (.invokevirtual 151, 3)) (List.mem_of_getElem? (i := 23) rfl)
theorem dX5_readNeed_42 : decode cX5_readNeed 42 = .ok (.iastore, 1) := dAX5_readNeed (42, (.iastore, 1)) (List.mem_of_getElem? (i := 24) rfl)
theorem dX5_readNeed_43 : decode cX5_readNeed 43 = .ok (.aload_n 1, 1) := dAX5_readNeed (43, (.aload_n 1, 1)) (List.mem_of_getElem? (i := 25) rfl)
theorem dX5_readNeed_44 : decode cX5_readNeed 44 = .ok (.dup, 1) := dAX5_readNeed (44, (.dup, 1)) (List.mem_of_getElem? (i := 26) rfl)
theorem dX5_readNeed_45 : decode cX5_readNeed 45 = .ok (.getfield 141, 3) := dAX5_readNeed (45, (.getfield 141, 3)) (List.mem_of_getElem? (i := 27) rfl)
theorem dX5_readNeed_48 : decode cX5_readNeed 48 = .ok (.iconst 1, 1) := dAX5_readNeed (48, (.iconst 1, 1)) (List.mem_of_getElem? (i := 28) rfl)
theorem dX5_readNeed_49 : decode cX5_readNeed 49 = .ok (.iadd, 1) := dAX5_readNeed (49, (.iadd, 1)) (List.mem_of_getElem? (i := 29) rfl)
theorem dX5_readNeed_50 : decode cX5_readNeed 50 = .ok (.putfield 141, 3) := dAX5_readNeed (50, (.putfield 141, 3)) (List.mem_of_getElem? (i := 30) rfl)
theorem dX5_readNeed_53 : decode cX5_readNeed 53 = .ok (.return_, 1) := dAX5_readNeed (53, (.return_, 1)) (List.mem_of_getElem? (i := 31) rfl)
set_option maxRecDepth 20000 in
theorem ggX5_readNeed_X5_takeNewName : GoodIn wsX5_readNeed wsX5_takeNewName := goodIn_r _ [10, 11, 12, 13, 14, 15, 16, 17, 18, 9, 19, 20, 21, 22, 23, 24, 25, 26, 27, 28, 29, 30, 31, 32, 33, 34, 35, 36, 37, 38, 39, 40, 41, 42, 43, 44, 45, 46, 47, 48, 49, 50, 51, 52, 53, 54, 55, 56, 57, 58, 59, 60, 61, 62, 63, 79, 80, 81, 82, 83, 84, 85, 86, 87, 88, 89, 90, 91, 92, 93] rfl (by decide +kernel)
set_option maxRecDepth 20000 in
theorem gX5_readNeed_X5_takeNewName : GoodIn wsX5_readNeed (wsV RX5 168 RX5 yX5_takeNewName wsX5_takeNewName) := goodIn_app (goodIn_of _ (by decide +kernel)) ggX5_readNeed_X5_takeNewName
set_option maxRecDepth 20000 in
theorem ggX5_readNeed_X5_takeAmount : GoodIn wsX5_readNeed wsX5_takeAmount := goodIn_r _ [67, 20, 13, 63, 33, 34, 35, 9, 36, 37, 38, 39, 40, 41, 42, 43, 68, 69, 70, 71, 48, 49, 50, 51, 52, 53, 54, 55, 56, 57, 58, 59, 60, 61, 62, 79, 80, 81, 82, 83, 84, 85, 86, 87, 88, 89, 90, 91, 92, 93] rfl (by decide +kernel)
set_option maxRecDepth 20000 in
theorem gX5_readNeed_X5_takeAmount : GoodIn wsX5_readNeed (wsV RX5 151 RX5 yX5_takeAmount wsX5_takeAmount) := goodIn_app (goodIn_of _ (by decide +kernel)) ggX5_readNeed_X5_takeAmount
theorem kX5_readNeed_141 : Cond.fieldLink RX5 141 "EveningVow$Town" "needs" "I" ∈ wsX5_readNeed := List.mem_of_getElem? (i := 1) rfl
theorem iX5_readNeed_X7 : ∀ w ∈ u_ws RX7 TX7 7, w ∈ wsX5_readNeed := fun w h => (List.mem_cons_of_mem _ (List.mem_append_left _ (List.mem_append_right _ h)))
theorem kX5_readNeed_225 : Cond.fieldLink RX5 225 "EveningVow$Town" "needHour" "[I" ∈ wsX5_readNeed := List.mem_of_getElem? (i := 2) rfl
theorem kX5_readNeed_213 : Cond.constantLong RX5 213 (25209 : Int64) ∈ wsX5_readNeed := by decide +kernel
theorem kX5_readNeed_228 : Cond.fieldLink RX5 228 "EveningVow$Town" "needPays" "[I" ∈ wsX5_readNeed := List.mem_of_getElem? (i := 4) rfl
theorem kX5_readNeed_231 : Cond.constantLong RX5 231 (1885436275 : Int64) ∈ wsX5_readNeed := by decide +kernel
set_option maxHeartbeats 4000000 in
set_option maxRecDepth 100000 in
theorem mX5_readNeed (l : Launch) (g : GG) (a_t : Nat) (a_r1 : Nat) (p_t : Nat → Nat) (p_r1 : Nat → Nat) (n : Nat) (o_t : Nat → Int32) (c_t : Int64) (f_t_0 : Nat → Int32) (f_t_12 : Nat → Int64) (f_t_13 : Nat → Int32) (f_t_14 : Nat → Int32) (o_r1 : Nat → Int32) (f_r1_1 : Nat → Int32) (f_r1_2 : Nat → Int32) (o_t' : Nat → Int32) (c_t' : Int64) (f_t_12' : Nat → Int64) (f_t_13' : Nat → Int32) (f_t_14' : Nat → Int32) (o_r1' : Nat → Int32) (f_r1_1' : Nat → Int32) (f_r1_2' : Nat → Int32) (hF : fX5_readNeed n o_t c_t f_t_0 f_t_12 f_t_13 f_t_14 o_r1 f_r1_1 f_r1_2 = some (o_t', c_t', f_t_12', f_t_13', f_t_14', o_r1', f_r1_1', f_r1_2')) : MV l g yX5_readNeed wsX5_readNeed ({ frames := 4, cells := 0, slots := 0, locals := 85 } : Room) [.ref a_t, .ref a_r1] [oX5 a_t p_t o_t c_t, aI g (p_t 0) 800 f_t_0, aJ g (p_t 12) 16 f_t_12, aI g (p_t 13) 16 f_t_13, aI g (p_t 14) 16 f_t_14, oX7 a_r1 p_r1 o_r1, aI g (p_r1 1) 5 f_r1_1, aI g (p_r1 2) 5 f_r1_2] [oX5 a_t p_t o_t' c_t', aI g (p_t 0) 800 f_t_0, aJ g (p_t 12) 16 f_t_12', aI g (p_t 13) 16 f_t_13', aI g (p_t 14) 16 f_t_14', oX7 a_r1 p_r1 o_r1', aI g (p_r1 1) 5 f_r1_1', aI g (p_r1 2) 5 f_r1_2'] := by
  refine MV.of (cc := cX5_readNeed) (maxL := 3) (own := RX5) rfl rfl (by decide) (Nat.le_of_ble_eq_true rfl) ?_
  intro p e s m args below meth c A C0 hP hD hS ls hl
  obtain ⟨hx, hb, hml, hown, hts, hr, hlk, hK, hA, hSW⟩ := id C0
  have hl : lv_has ls 3 [(0, .ref a_t), (1, .ref a_r1)] := hl
  rw [fX5_readNeed] at hF
  refine lv_aload_n hx hb dX5_readNeed_0 rfl (lv_at hl 1 rfl) ?_
  refine va_get (D := g.1) (ci := 7) (v := .int (o_r1 0)) (C := RX7) (T := TX7) (N := 7) hx hb hts iX5_readNeed_X7 hown hK.1 hP 5 rfl rfl 0 (by decide) (hts _ kX5_readNeed_141) (fun _ h9 => h9) rfl dX5_readNeed_1 ?_
  refine lv_istore_n (lv' := [(2, .int (o_r1 0)), (0, .ref a_t), (1, .ref a_r1)]) hx hb dX5_readNeed_4 rfl hl (by decide) rfl (fun ls hl => ?_)
  refine lv_aload_n hx hb dX5_readNeed_5 rfl (lv_at hl 1 rfl) ?_
  refine lv_iconst (v := (5 : Int32)) hx hb dX5_readNeed_6 (by decide) ?_
  refine lv_iload_n hx hb dX5_readNeed_7 rfl (lv_at hl 0 rfl) ?_
  obtain ⟨u_1, u_2, u_3, u_4, u_5, hu_6, hF⟩ := ob5_some hF
  refine call_v (wr := [oX7 a_r1 p_r1 o_r1, aI g (p_r1 1) 5 f_r1_1, aI g (p_r1 2) 5 f_r1_2]) (As := [.int (5 : Int32), .int (o_r1 0)]) (rest := []) (ci := 5) (q0 := 0) C0 (mX5_takeNewName l g a_t p_t n (5 : Int32) (o_r1 0) o_t c_t f_t_0 f_t_12 f_t_13 f_t_14 u_1 u_2 u_3 u_4 u_5 hu_6) (cwV 2 hts gX5_readNeed_X5_takeNewName rfl rfl rfl (by decide +kernel) ⟨Nat.le_of_ble_eq_true rfl, Nat.le_of_ble_eq_true rfl⟩) hP hD hS [0, 1, 2, 3, 4] [5, 6, 7] rfl rfl rfl rfl rfl (by decide) rfl rfl hl.1 rfl rfl (Nat.le_of_ble_eq_true rfl) ⟨Nat.zero_le _, Nat.zero_le _⟩ dX5_readNeed_8 ?_
  intro H locs hP hD hS
  refine lv_aload_n hx hb dX5_readNeed_11 rfl (lv_at hl 2 rfl) ?_
  refine va_get (D := g.1) (ci := 7) (v := .ref (p_r1 1)) (C := RX7) (T := TX7) (N := 7) hx hb hts iX5_readNeed_X7 hown hK.1 hP 0 rfl rfl 1 (by decide) (hts _ kX5_readNeed_225) (fun _ h9 => h9) rfl dX5_readNeed_12 ?_
  refine lv_iload_n hx hb dX5_readNeed_15 rfl (lv_at hl 0 rfl) ?_
  refine lv_aload_n hx hb dX5_readNeed_16 rfl (lv_at hl 1 rfl) ?_
  refine lv_ldc2 (v := (25209 : Int64)) hx hb hown (hts _ kX5_readNeed_213) dX5_readNeed_17 ?_
  refine lv_iconst (v := (0 : Int32)) hx hb dX5_readNeed_20 (by decide) ?_
  refine lv_bipush (v := (30 : Int32)) hx hb dX5_readNeed_21 (by decide) ?_
  obtain ⟨u_7, u_8, u_9, hu_10, hF⟩ := ob3_some hF
  refine call_i (wr := [oX7 a_r1 p_r1 o_r1, aI g (p_r1 1) 5 f_r1_1, aI g (p_r1 2) 5 f_r1_2, aJ g (p_t 12) 16 u_3, aI g (p_t 13) 16 u_4, aI g (p_t 14) 16 u_5]) (As := [.long (25209 : Int64), .int (0 : Int32), .int (30 : Int32)]) (rest := [.int (o_r1 0), .ref (p_r1 1)]) (ci := 5) (q0 := 0) C0 (mX5_takeAmount l g a_t p_t n (25209 : Int64) (0 : Int32) (30 : Int32) u_1 u_2 f_t_0 u_7 u_8 u_9 hu_10) (cwV 3 hts gX5_readNeed_X5_takeAmount rfl rfl rfl (by decide +kernel) ⟨Nat.le_of_ble_eq_true rfl, Nat.le_of_ble_eq_true rfl⟩) hP hD hS [3, 4] [0, 1, 2, 5, 6, 7] rfl rfl rfl rfl rfl (by decide) rfl rfl hl.1 rfl rfl (Nat.le_of_ble_eq_true rfl) ⟨Nat.zero_le _, Nat.zero_le _⟩ dX5_readNeed_23 ?_
  intro H locs hP hD hS
  obtain ⟨h_11, hF⟩ := it_ck hF
  refine va_iast hx hb hK.1 hP hD hS 1 0 rfl rfl h_11 dX5_readNeed_26 (fun H locs hP hD hS => ?_)
  have hP : va_P g.1 vwCl [oX7 a_r1 p_r1 o_r1, aI g (p_r1 1) 5 (upd f_r1_1 ((o_r1 0)).toNatClampNeg u_7), aI g (p_r1 2) 5 f_r1_2, aJ g (p_t 12) 16 u_3, aI g (p_t 13) 16 u_4, aI g (p_t 14) 16 u_5, oX5 a_t p_t u_8 u_9, aI g (p_t 0) 800 f_t_0] H := hP
  have hD : va_D A [oX7 a_r1 p_r1 o_r1, aI g (p_r1 1) 5 (upd f_r1_1 ((o_r1 0)).toNatClampNeg u_7), aI g (p_r1 2) 5 f_r1_2, aJ g (p_t 12) 16 u_3, aI g (p_t 13) 16 u_4, aI g (p_t 14) 16 u_5, oX5 a_t p_t u_8 u_9, aI g (p_t 0) 800 f_t_0] := hD
  refine lv_aload_n hx hb dX5_readNeed_27 rfl (lv_at hl 2 rfl) ?_
  refine va_get (D := g.1) (ci := 7) (v := .ref (p_r1 2)) (C := RX7) (T := TX7) (N := 7) hx hb hts iX5_readNeed_X7 hown hK.1 hP 0 rfl rfl 2 (by decide) (hts _ kX5_readNeed_228) (fun _ h9 => h9) rfl dX5_readNeed_28 ?_
  refine lv_iload_n hx hb dX5_readNeed_31 rfl (lv_at hl 0 rfl) ?_
  refine lv_aload_n hx hb dX5_readNeed_32 rfl (lv_at hl 1 rfl) ?_
  refine lv_ldc2 (v := (1885436275 : Int64)) hx hb hown (hts _ kX5_readNeed_231) dX5_readNeed_33 ?_
  refine lv_iconst (v := (1 : Int32)) hx hb dX5_readNeed_36 (by decide) ?_
  refine lv_bipush (v := (99 : Int32)) hx hb dX5_readNeed_37 (by decide) ?_
  obtain ⟨u_12, u_13, u_14, hu_15, hF⟩ := ob3_some hF
  refine call_i (wr := [oX7 a_r1 p_r1 o_r1, aI g (p_r1 1) 5 (upd f_r1_1 ((o_r1 0)).toNatClampNeg u_7), aI g (p_r1 2) 5 f_r1_2, aJ g (p_t 12) 16 u_3, aI g (p_t 13) 16 u_4, aI g (p_t 14) 16 u_5]) (As := [.long (1885436275 : Int64), .int (1 : Int32), .int (99 : Int32)]) (rest := [.int (o_r1 0), .ref (p_r1 2)]) (ci := 5) (q0 := 0) C0 (mX5_takeAmount l g a_t p_t n (1885436275 : Int64) (1 : Int32) (99 : Int32) u_8 u_9 f_t_0 u_12 u_13 u_14 hu_15) (cwV 3 hts gX5_readNeed_X5_takeAmount rfl rfl rfl (by decide +kernel) ⟨Nat.le_of_ble_eq_true rfl, Nat.le_of_ble_eq_true rfl⟩) hP hD hS [6, 7] [0, 1, 2, 3, 4, 5] rfl rfl rfl rfl rfl (by decide) rfl rfl hl.1 rfl rfl (Nat.le_of_ble_eq_true rfl) ⟨Nat.zero_le _, Nat.zero_le _⟩ dX5_readNeed_39 ?_
  intro H locs hP hD hS
  obtain ⟨h_16, hF⟩ := it_ck hF
  refine va_iast hx hb hK.1 hP hD hS 2 0 rfl rfl h_16 dX5_readNeed_42 (fun H locs hP hD hS => ?_)
  have hP : va_P g.1 vwCl [oX7 a_r1 p_r1 o_r1, aI g (p_r1 1) 5 (upd f_r1_1 ((o_r1 0)).toNatClampNeg u_7), aI g (p_r1 2) 5 (upd f_r1_2 ((o_r1 0)).toNatClampNeg u_12), aJ g (p_t 12) 16 u_3, aI g (p_t 13) 16 u_4, aI g (p_t 14) 16 u_5, oX5 a_t p_t u_13 u_14, aI g (p_t 0) 800 f_t_0] H := hP
  have hD : va_D A [oX7 a_r1 p_r1 o_r1, aI g (p_r1 1) 5 (upd f_r1_1 ((o_r1 0)).toNatClampNeg u_7), aI g (p_r1 2) 5 (upd f_r1_2 ((o_r1 0)).toNatClampNeg u_12), aJ g (p_t 12) 16 u_3, aI g (p_t 13) 16 u_4, aI g (p_t 14) 16 u_5, oX5 a_t p_t u_13 u_14, aI g (p_t 0) 800 f_t_0] := hD
  refine lv_aload_n hx hb dX5_readNeed_43 rfl (lv_at hl 2 rfl) ?_
  refine lv_dup hx hb dX5_readNeed_44 rfl ?_
  refine va_get (D := g.1) (ci := 7) (v := .int (o_r1 0)) (C := RX7) (T := TX7) (N := 7) hx hb hts iX5_readNeed_X7 hown hK.1 hP 0 rfl rfl 0 (by decide) (hts _ kX5_readNeed_141) (fun _ h9 => h9) rfl dX5_readNeed_45 ?_
  refine lv_iconst (v := (1 : Int32)) hx hb dX5_readNeed_48 (by decide) ?_
  refine lv_iadd hx hb dX5_readNeed_49 ?_
  refine va_put (D := g.1) (ci := 7) (v := .int ((o_r1 0) + (1 : Int32))) (ty := .int) (C := RX7) (T := TX7) (N := 7) hx hb hts iX5_readNeed_X7 tyX7 tyX7_ok nmX7 hown hK.1 hP hD hS 0 rfl rfl 0 (by decide) (hts _ kX5_readNeed_141) (fun _ h9 => h9) rfl (by decide +kernel) rfl rfl (Nat.le_of_ble_eq_true rfl) dX5_readNeed_50 (fun H locs hP hD hS => ?_)
  have hP : va_P g.1 vwCl [oX7 a_r1 p_r1 (upd o_r1 0 ((o_r1 0) + (1 : Int32))), aI g (p_r1 1) 5 (upd f_r1_1 ((o_r1 0)).toNatClampNeg u_7), aI g (p_r1 2) 5 (upd f_r1_2 ((o_r1 0)).toNatClampNeg u_12), aJ g (p_t 12) 16 u_3, aI g (p_t 13) 16 u_4, aI g (p_t 14) 16 u_5, oX5 a_t p_t u_13 u_14, aI g (p_t 0) 800 f_t_0] H := hP
  have hD : va_D A [oX7 a_r1 p_r1 (upd o_r1 0 ((o_r1 0) + (1 : Int32))), aI g (p_r1 1) 5 (upd f_r1_1 ((o_r1 0)).toNatClampNeg u_7), aI g (p_r1 2) 5 (upd f_r1_2 ((o_r1 0)).toNatClampNeg u_12), aJ g (p_t 12) 16 u_3, aI g (p_t 13) 16 u_4, aI g (p_t 14) 16 u_5, oX5 a_t p_t u_13 u_14, aI g (p_t 0) 800 f_t_0] := hD
  cases hF
  exact ret_v C0 hP hD hS [6, 7, 3, 4, 5, 0, 1, 2] rfl rfl rfl dX5_readNeed_53

theorem dAX5_readSight : ∀ q ∈ ([(0, (.aload_n 1, 1)), (1, (.getfield 146, 3)), (4, (.istore_n 3, 1)), (5, (.aload_n 1, 1)), (6, (.getfield 233, 3)), (9, (.iload_n 3, 1)), (10, (.aload_n 0, 1)), (11, (.aload_n 0, 1)), (12, (.invokevirtual 198, 3)), (15, (.invokevirtual 132, 3)), (18, (.iastore, 1)), (19, (.aload_n 1, 1)), (20, (.getfield 236, 3)), (23, (.iload_n 3, 1)), (24, (.aload_n 0, 1)), (25, (.ldc2_w 239, 3)), (28, (.iconst 0, 1)), (29, (.bipush 30, 2)), (31, (.invokevirtual 151, 3)), (34, (.iastore, 1)), (35, (.aload_n 1, 1)), (36, (.getfield 241, 3)), (39, (.iload_n 3, 1)), (40, (.iload_n 2, 1)), (41, (.iastore, 1)), (42, (.aload_n 1, 1)), (43, (.dup, 1)), (44, (.getfield 146, 3)), (47, (.iconst 1, 1)), (48, (.iadd, 1)), (49, (.putfield 146, 3)), (52, (.return_, 1))] : List (Nat × (Instr × Nat))), decode cX5_readSight q.1 = .ok q.2 := by decide +kernel
theorem dX5_readSight_0 : decode cX5_readSight 0 = .ok (.aload_n 1, 1) := dAX5_readSight (0, (.aload_n 1, 1)) (List.mem_of_getElem? (i := 0) rfl)
theorem dX5_readSight_1 : decode cX5_readSight 1 = .ok (.getfield 146, 3) := dAX5_readSight (1, (.getfield 146, 3)) (List.mem_of_getElem? (i := 1) rfl)
theorem dX5_readSight_4 : decode cX5_readSight 4 = .ok (.istore_n 3, 1) := dAX5_readSight (4, (.istore_n 3, 1)) (List.mem_of_getElem? (i := 2) rfl)
theorem dX5_readSight_5 : decode cX5_readSight 5 = .ok (.aload_n 1, 1) := dAX5_readSight (5, (.aload_n 1, 1)) (List.mem_of_getElem? (i := 3) rfl)
theorem dX5_readSight_6 : decode cX5_readSight 6 = .ok (.getfield 233, 3) := dAX5_readSight (6, (.getfield 233, 3)) (List.mem_of_getElem? (i := 4) rfl)
theorem dX5_readSight_9 : decode cX5_readSight 9 = .ok (.iload_n 3, 1) := dAX5_readSight (9, (.iload_n 3, 1)) (List.mem_of_getElem? (i := 5) rfl)
theorem dX5_readSight_10 : decode cX5_readSight 10 = .ok (.aload_n 0, 1) := dAX5_readSight (10, (.aload_n 0, 1)) (List.mem_of_getElem? (i := 6) rfl)
theorem dX5_readSight_11 : decode cX5_readSight 11 = .ok (.aload_n 0, 1) := dAX5_readSight (11, (.aload_n 0, 1)) (List.mem_of_getElem? (i := 7) rfl)
theorem dX5_readSight_12 : decode cX5_readSight 12 = .ok (.invokevirtual 198, 3) := dAX5_readSight (12, (.invokevirtual 198, 3)) (List.mem_of_getElem? (i := 8) rfl)
theorem dX5_readSight_15 : decode cX5_readSight 15 = .ok (.invokevirtual 132, 3) := dAX5_readSight (15, (.invokevirtual 132, 3)) (List.mem_of_getElem? (i := 9) rfl)
theorem dX5_readSight_18 : decode cX5_readSight 18 = .ok (.iastore, 1) := dAX5_readSight (18, (.iastore, 1)) (List.mem_of_getElem? (i := 10) rfl)
theorem dX5_readSight_19 : decode cX5_readSight 19 = .ok (.aload_n 1, 1) := dAX5_readSight (19, (.aload_n 1, 1)) (List.mem_of_getElem? (i := 11) rfl)
theorem dX5_readSight_20 : decode cX5_readSight 20 = .ok (.getfield 236, 3) := dAX5_readSight (20, (.getfield 236, 3)) (List.mem_of_getElem? (i := 12) rfl)
theorem dX5_readSight_23 : decode cX5_readSight 23 = .ok (.iload_n 3, 1) := dAX5_readSight (23, (.iload_n 3, 1)) (List.mem_of_getElem? (i := 13) rfl)
theorem dX5_readSight_24 : decode cX5_readSight 24 = .ok (.aload_n 0, 1) := dAX5_readSight (24, (.aload_n 0, 1)) (List.mem_of_getElem? (i := 14) rfl)
theorem dX5_readSight_25 : decode cX5_readSight 25 = .ok (.ldc2_w 239, 3) := dAX5_readSight (25, (.ldc2_w 239, 3)) (List.mem_of_getElem? (i := 15) rfl)
theorem dX5_readSight_28 : decode cX5_readSight 28 = .ok (.iconst 0, 1) := dAX5_readSight (28, (.iconst 0, 1)) (List.mem_of_getElem? (i := 16) rfl)
theorem dX5_readSight_29 : decode cX5_readSight 29 = .ok (.bipush 30, 2) := dAX5_readSight (29, (.bipush 30, 2)) (List.mem_of_getElem? (i := 17) rfl)
theorem dX5_readSight_31 : decode cX5_readSight 31 = .ok (.invokevirtual 151, 3) := dAX5_readSight (31, (.invokevirtual 151, 3)) (List.mem_of_getElem? (i := 18) rfl)
theorem dX5_readSight_34 : decode cX5_readSight 34 = .ok (.iastore, 1) := dAX5_readSight (34, (.iastore, 1)) (List.mem_of_getElem? (i := 19) rfl)
theorem dX5_readSight_35 : decode cX5_readSight 35 = .ok (.aload_n 1, 1) := dAX5_readSight (35, (.aload_n 1, 1)) (List.mem_of_getElem? (i := 20) rfl)
theorem dX5_readSight_36 : decode cX5_readSight 36 = .ok (.getfield 241, 3) := dAX5_readSight (36, (.getfield 241, 3)) (List.mem_of_getElem? (i := 21) rfl)
theorem dX5_readSight_39 : decode cX5_readSight 39 = .ok (.iload_n 3, 1) := dAX5_readSight (39, (.iload_n 3, 1)) (List.mem_of_getElem? (i := 22) rfl)
theorem dX5_readSight_40 : decode cX5_readSight 40 = .ok (.iload_n 2, 1) := dAX5_readSight (40, (.iload_n 2, 1)) (List.mem_of_getElem? (i := 23) rfl)
theorem dX5_readSight_41 : decode cX5_readSight 41 = .ok (.iastore, 1) := dAX5_readSight (41, (.iastore, 1)) (List.mem_of_getElem? (i := 24) rfl)
theorem dX5_readSight_42 : decode cX5_readSight 42 = .ok (.aload_n 1, 1) := dAX5_readSight (42, (.aload_n 1, 1)) (List.mem_of_getElem? (i := 25) rfl)
theorem dX5_readSight_43 : decode cX5_readSight 43 = .ok (.dup, 1) := dAX5_readSight (43, (.dup, 1)) (List.mem_of_getElem? (i := 26) rfl)
theorem dX5_readSight_44 : decode cX5_readSight 44 = .ok (.getfield 146, 3) := dAX5_readSight (44, (.getfield 146, 3)) (List.mem_of_getElem? (i := 27) rfl)
theorem dX5_readSight_47 : decode cX5_readSight 47 = .ok (.iconst 1, 1) := dAX5_readSight (47, (.iconst 1, 1)) (List.mem_of_getElem? (i := 28) rfl)
theorem dX5_readSight_48 : decode cX5_readSight 48 = .ok (.iadd, 1) := dAX5_readSight (48, (.iadd, 1)) (List.mem_of_getElem? (i := 29) rfl)
theorem dX5_readSight_49 : decode cX5_readSight 49 = .ok (.putfield 146, 3) := dAX5_readSight (49, (.putfield 146, 3)) (List.mem_of_getElem? (i := 30) rfl)
theorem dX5_readSight_52 : decode cX5_readSight 52 = .ok (.return_, 1) := dAX5_readSight (52, (.return_, 1)) (List.mem_of_getElem? (i := 31) rfl)
set_option maxRecDepth 20000 in
theorem ggX5_readSight_X5_knownGuest : GoodIn wsX5_readSight wsX5_knownGuest := goodIn_r _ [10, 11, 12, 13, 14, 15, 9, 16, 17, 18, 19, 20, 21, 22, 23, 24, 25, 26, 27, 28, 29, 30, 31, 32, 33, 34, 35, 36, 37, 38, 39, 40, 41, 42, 43, 44, 45, 46, 47, 79, 80, 81, 82, 83, 84, 85, 86, 87, 88, 89, 90, 91, 92, 93] rfl (by decide +kernel)
set_option maxRecDepth 20000 in
theorem gX5_readSight_X5_knownGuest : GoodIn wsX5_readSight (wsV RX5 198 RX5 yX5_knownGuest wsX5_knownGuest) := goodIn_app (goodIn_of _ (by decide +kernel)) ggX5_readSight_X5_knownGuest
set_option maxRecDepth 20000 in
theorem ggX5_readSight_X5_taken : GoodIn wsX5_readSight wsX5_taken := goodIn_r _ [51, 38, 39, 40, 9, 41, 35, 52, 53, 54, 55, 56, 36, 57, 58, 17, 59, 60, 61, 62, 22, 63, 64, 65, 66, 67, 79, 80, 81, 82, 83, 84, 85, 86, 87, 88, 89, 90, 91, 92, 93] rfl (by decide +kernel)
set_option maxRecDepth 20000 in
theorem gX5_readSight_X5_taken : GoodIn wsX5_readSight (wsV RX5 132 RX5 yX5_taken wsX5_taken) := goodIn_app (goodIn_of _ (by decide +kernel)) ggX5_readSight_X5_taken
set_option maxRecDepth 20000 in
theorem ggX5_readSight_X5_takeAmount : GoodIn wsX5_readSight wsX5_takeAmount := goodIn_r _ [71, 17, 22, 67, 31, 32, 33, 9, 34, 35, 36, 37, 38, 39, 40, 41, 48, 49, 50, 51, 52, 53, 54, 55, 56, 57, 58, 59, 60, 61, 62, 63, 64, 65, 66, 79, 80, 81, 82, 83, 84, 85, 86, 87, 88, 89, 90, 91, 92, 93] rfl (by decide +kernel)
set_option maxRecDepth 20000 in
theorem gX5_readSight_X5_takeAmount : GoodIn wsX5_readSight (wsV RX5 151 RX5 yX5_takeAmount wsX5_takeAmount) := goodIn_app (goodIn_of _ (by decide +kernel)) ggX5_readSight_X5_takeAmount
theorem kX5_readSight_146 : Cond.fieldLink RX5 146 "EveningVow$Town" "sights" "I" ∈ wsX5_readSight := List.mem_of_getElem? (i := 1) rfl
theorem iX5_readSight_X7 : ∀ w ∈ u_ws RX7 TX7 7, w ∈ wsX5_readSight := fun w h => (List.mem_cons_of_mem _ (List.mem_append_left _ (List.mem_append_right _ h)))
theorem kX5_readSight_233 : Cond.fieldLink RX5 233 "EveningVow$Town" "sightGuest" "[I" ∈ wsX5_readSight := List.mem_of_getElem? (i := 2) rfl
theorem kX5_readSight_236 : Cond.fieldLink RX5 236 "EveningVow$Town" "sightHour" "[I" ∈ wsX5_readSight := List.mem_of_getElem? (i := 3) rfl
theorem kX5_readSight_239 : Cond.constantLong RX5 239 (1752135026 : Int64) ∈ wsX5_readSight := by decide +kernel
theorem kX5_readSight_241 : Cond.fieldLink RX5 241 "EveningVow$Town" "sightThere" "[I" ∈ wsX5_readSight := List.mem_of_getElem? (i := 5) rfl
set_option maxHeartbeats 4000000 in
set_option maxRecDepth 100000 in
theorem mX5_readSight (l : Launch) (g : GG) (a_t : Nat) (a_r1 : Nat) (p_t : Nat → Nat) (p_r1 : Nat → Nat) (n : Nat) (x2 : Int32) (o_t : Nat → Int32) (c_t : Int64) (f_t_0 : Nat → Int32) (f_t_12 : Nat → Int64) (f_t_13 : Nat → Int32) (f_t_14 : Nat → Int32) (o_r1 : Nat → Int32) (f_r1_4 : Nat → Int32) (f_r1_5 : Nat → Int32) (f_r1_6 : Nat → Int32) (o_t' : Nat → Int32) (c_t' : Int64) (o_r1' : Nat → Int32) (f_r1_4' : Nat → Int32) (f_r1_5' : Nat → Int32) (f_r1_6' : Nat → Int32) (hF : fX5_readSight n x2 o_t c_t f_t_0 f_t_12 f_t_13 f_t_14 o_r1 f_r1_4 f_r1_5 f_r1_6 = some (o_t', c_t', o_r1', f_r1_4', f_r1_5', f_r1_6')) : MV l g yX5_readSight wsX5_readSight ({ frames := 4, cells := 0, slots := 0, locals := 85 } : Room) [.ref a_t, .ref a_r1, .int x2] [oX5 a_t p_t o_t c_t, aI g (p_t 0) 800 f_t_0, aJ g (p_t 12) 16 f_t_12, aI g (p_t 13) 16 f_t_13, aI g (p_t 14) 16 f_t_14, oX7 a_r1 p_r1 o_r1, aI g (p_r1 4) 6 f_r1_4, aI g (p_r1 5) 6 f_r1_5, aI g (p_r1 6) 6 f_r1_6] [oX5 a_t p_t o_t' c_t', aI g (p_t 0) 800 f_t_0, aJ g (p_t 12) 16 f_t_12, aI g (p_t 13) 16 f_t_13, aI g (p_t 14) 16 f_t_14, oX7 a_r1 p_r1 o_r1', aI g (p_r1 4) 6 f_r1_4', aI g (p_r1 5) 6 f_r1_5', aI g (p_r1 6) 6 f_r1_6'] := by
  refine MV.of (cc := cX5_readSight) (maxL := 4) (own := RX5) rfl rfl (by decide) (Nat.le_of_ble_eq_true rfl) ?_
  intro p e s m args below meth c A C0 hP hD hS ls hl
  obtain ⟨hx, hb, hml, hown, hts, hr, hlk, hK, hA, hSW⟩ := id C0
  have hl : lv_has ls 4 [(0, .ref a_t), (1, .ref a_r1), (2, .int x2)] := hl
  rw [fX5_readSight] at hF
  refine lv_aload_n hx hb dX5_readSight_0 rfl (lv_at hl 1 rfl) ?_
  refine va_get (D := g.1) (ci := 7) (v := .int (o_r1 3)) (C := RX7) (T := TX7) (N := 7) hx hb hts iX5_readSight_X7 hown hK.1 hP 5 rfl rfl 3 (by decide) (hts _ kX5_readSight_146) (fun _ h9 => h9) rfl dX5_readSight_1 ?_
  refine lv_istore_n (lv' := [(3, .int (o_r1 3)), (0, .ref a_t), (1, .ref a_r1), (2, .int x2)]) hx hb dX5_readSight_4 rfl hl (by decide) rfl (fun ls hl => ?_)
  refine lv_aload_n hx hb dX5_readSight_5 rfl (lv_at hl 2 rfl) ?_
  refine va_get (D := g.1) (ci := 7) (v := .ref (p_r1 4)) (C := RX7) (T := TX7) (N := 7) hx hb hts iX5_readSight_X7 hown hK.1 hP 5 rfl rfl 4 (by decide) (hts _ kX5_readSight_233) (fun _ h9 => h9) rfl dX5_readSight_6 ?_
  refine lv_iload_n hx hb dX5_readSight_9 rfl (lv_at hl 0 rfl) ?_
  refine lv_aload_n hx hb dX5_readSight_10 rfl (lv_at hl 1 rfl) ?_
  refine lv_aload_n hx hb dX5_readSight_11 rfl (lv_at hl 1 rfl) ?_
  obtain ⟨u_1, u_2, u_3, hu_4, hF⟩ := ob3_some hF
  refine call_i (wr := [aI g (p_t 0) 800 f_t_0, oX7 a_r1 p_r1 o_r1, aI g (p_r1 4) 6 f_r1_4, aI g (p_r1 5) 6 f_r1_5, aI g (p_r1 6) 6 f_r1_6]) (As := []) (rest := [.ref a_t, .int (o_r1 3), .ref (p_r1 4)]) (ci := 5) (q0 := 0) C0 (mX5_knownGuest l g a_t p_t n o_t c_t f_t_12 f_t_13 f_t_14 u_1 u_2 u_3 hu_4) (cwV 0 hts gX5_readSight_X5_knownGuest rfl rfl rfl (by decide +kernel) ⟨Nat.le_of_ble_eq_true rfl, Nat.le_of_ble_eq_true rfl⟩) hP hD hS [0, 2, 3, 4] [1, 5, 6, 7, 8] rfl rfl rfl rfl rfl (by decide) rfl rfl hl.1 rfl rfl (Nat.le_of_ble_eq_true rfl) ⟨Nat.zero_le _, Nat.zero_le _⟩ dX5_readSight_12 ?_
  intro H locs hP hD hS
  obtain ⟨u_5, u_6, u_7, hu_8, hF⟩ := ob3_some hF
  refine call_i (wr := [oX7 a_r1 p_r1 o_r1, aI g (p_r1 4) 6 f_r1_4, aI g (p_r1 5) 6 f_r1_5, aI g (p_r1 6) 6 f_r1_6, aJ g (p_t 12) 16 f_t_12, aI g (p_t 13) 16 f_t_13, aI g (p_t 14) 16 f_t_14]) (As := [.int u_1]) (rest := [.int (o_r1 3), .ref (p_r1 4)]) (ci := 5) (q0 := 0) C0 (mX5_taken l g a_t p_t n u_1 u_2 u_3 f_t_0 u_5 u_6 u_7 hu_8) (cwV 1 hts gX5_readSight_X5_taken rfl rfl rfl (by decide +kernel) ⟨Nat.le_of_ble_eq_true rfl, Nat.le_of_ble_eq_true rfl⟩) hP hD hS [5, 0] [1, 2, 3, 4, 6, 7, 8] rfl rfl rfl rfl rfl (by decide) rfl rfl hl.1 rfl rfl (Nat.le_of_ble_eq_true rfl) ⟨Nat.zero_le _, Nat.zero_le _⟩ dX5_readSight_15 ?_
  intro H locs hP hD hS
  obtain ⟨h_9, hF⟩ := it_ck hF
  refine va_iast hx hb hK.1 hP hD hS 1 0 rfl rfl h_9 dX5_readSight_18 (fun H locs hP hD hS => ?_)
  have hP : va_P g.1 vwCl [oX7 a_r1 p_r1 o_r1, aI g (p_r1 4) 6 (upd f_r1_4 ((o_r1 3)).toNatClampNeg u_5), aI g (p_r1 5) 6 f_r1_5, aI g (p_r1 6) 6 f_r1_6, aJ g (p_t 12) 16 f_t_12, aI g (p_t 13) 16 f_t_13, aI g (p_t 14) 16 f_t_14, oX5 a_t p_t u_6 u_7, aI g (p_t 0) 800 f_t_0] H := hP
  have hD : va_D A [oX7 a_r1 p_r1 o_r1, aI g (p_r1 4) 6 (upd f_r1_4 ((o_r1 3)).toNatClampNeg u_5), aI g (p_r1 5) 6 f_r1_5, aI g (p_r1 6) 6 f_r1_6, aJ g (p_t 12) 16 f_t_12, aI g (p_t 13) 16 f_t_13, aI g (p_t 14) 16 f_t_14, oX5 a_t p_t u_6 u_7, aI g (p_t 0) 800 f_t_0] := hD
  refine lv_aload_n hx hb dX5_readSight_19 rfl (lv_at hl 2 rfl) ?_
  refine va_get (D := g.1) (ci := 7) (v := .ref (p_r1 5)) (C := RX7) (T := TX7) (N := 7) hx hb hts iX5_readSight_X7 hown hK.1 hP 0 rfl rfl 5 (by decide) (hts _ kX5_readSight_236) (fun _ h9 => h9) rfl dX5_readSight_20 ?_
  refine lv_iload_n hx hb dX5_readSight_23 rfl (lv_at hl 0 rfl) ?_
  refine lv_aload_n hx hb dX5_readSight_24 rfl (lv_at hl 1 rfl) ?_
  refine lv_ldc2 (v := (1752135026 : Int64)) hx hb hown (hts _ kX5_readSight_239) dX5_readSight_25 ?_
  refine lv_iconst (v := (0 : Int32)) hx hb dX5_readSight_28 (by decide) ?_
  refine lv_bipush (v := (30 : Int32)) hx hb dX5_readSight_29 (by decide) ?_
  obtain ⟨u_10, u_11, u_12, hu_13, hF⟩ := ob3_some hF
  refine call_i (wr := [oX7 a_r1 p_r1 o_r1, aI g (p_r1 4) 6 (upd f_r1_4 ((o_r1 3)).toNatClampNeg u_5), aI g (p_r1 5) 6 f_r1_5, aI g (p_r1 6) 6 f_r1_6, aJ g (p_t 12) 16 f_t_12, aI g (p_t 13) 16 f_t_13, aI g (p_t 14) 16 f_t_14]) (As := [.long (1752135026 : Int64), .int (0 : Int32), .int (30 : Int32)]) (rest := [.int (o_r1 3), .ref (p_r1 5)]) (ci := 5) (q0 := 0) C0 (mX5_takeAmount l g a_t p_t n (1752135026 : Int64) (0 : Int32) (30 : Int32) u_6 u_7 f_t_0 u_10 u_11 u_12 hu_13) (cwV 3 hts gX5_readSight_X5_takeAmount rfl rfl rfl (by decide +kernel) ⟨Nat.le_of_ble_eq_true rfl, Nat.le_of_ble_eq_true rfl⟩) hP hD hS [7, 8] [0, 1, 2, 3, 4, 5, 6] rfl rfl rfl rfl rfl (by decide) rfl rfl hl.1 rfl rfl (Nat.le_of_ble_eq_true rfl) ⟨Nat.zero_le _, Nat.zero_le _⟩ dX5_readSight_31 ?_
  intro H locs hP hD hS
  obtain ⟨h_14, hF⟩ := it_ck hF
  refine va_iast hx hb hK.1 hP hD hS 2 0 rfl rfl h_14 dX5_readSight_34 (fun H locs hP hD hS => ?_)
  have hP : va_P g.1 vwCl [oX7 a_r1 p_r1 o_r1, aI g (p_r1 4) 6 (upd f_r1_4 ((o_r1 3)).toNatClampNeg u_5), aI g (p_r1 5) 6 (upd f_r1_5 ((o_r1 3)).toNatClampNeg u_10), aI g (p_r1 6) 6 f_r1_6, aJ g (p_t 12) 16 f_t_12, aI g (p_t 13) 16 f_t_13, aI g (p_t 14) 16 f_t_14, oX5 a_t p_t u_11 u_12, aI g (p_t 0) 800 f_t_0] H := hP
  have hD : va_D A [oX7 a_r1 p_r1 o_r1, aI g (p_r1 4) 6 (upd f_r1_4 ((o_r1 3)).toNatClampNeg u_5), aI g (p_r1 5) 6 (upd f_r1_5 ((o_r1 3)).toNatClampNeg u_10), aI g (p_r1 6) 6 f_r1_6, aJ g (p_t 12) 16 f_t_12, aI g (p_t 13) 16 f_t_13, aI g (p_t 14) 16 f_t_14, oX5 a_t p_t u_11 u_12, aI g (p_t 0) 800 f_t_0] := hD
  refine lv_aload_n hx hb dX5_readSight_35 rfl (lv_at hl 2 rfl) ?_
  refine va_get (D := g.1) (ci := 7) (v := .ref (p_r1 6)) (C := RX7) (T := TX7) (N := 7) hx hb hts iX5_readSight_X7 hown hK.1 hP 0 rfl rfl 6 (by decide) (hts _ kX5_readSight_241) (fun _ h9 => h9) rfl dX5_readSight_36 ?_
  refine lv_iload_n hx hb dX5_readSight_39 rfl (lv_at hl 0 rfl) ?_
  refine lv_iload_n hx hb dX5_readSight_40 rfl (lv_at hl 3 rfl) ?_
  obtain ⟨h_15, hF⟩ := it_ck hF
  refine va_iast hx hb hK.1 hP hD hS 3 0 rfl rfl h_15 dX5_readSight_41 (fun H locs hP hD hS => ?_)
  have hP : va_P g.1 vwCl [oX7 a_r1 p_r1 o_r1, aI g (p_r1 4) 6 (upd f_r1_4 ((o_r1 3)).toNatClampNeg u_5), aI g (p_r1 5) 6 (upd f_r1_5 ((o_r1 3)).toNatClampNeg u_10), aI g (p_r1 6) 6 (upd f_r1_6 ((o_r1 3)).toNatClampNeg x2), aJ g (p_t 12) 16 f_t_12, aI g (p_t 13) 16 f_t_13, aI g (p_t 14) 16 f_t_14, oX5 a_t p_t u_11 u_12, aI g (p_t 0) 800 f_t_0] H := hP
  have hD : va_D A [oX7 a_r1 p_r1 o_r1, aI g (p_r1 4) 6 (upd f_r1_4 ((o_r1 3)).toNatClampNeg u_5), aI g (p_r1 5) 6 (upd f_r1_5 ((o_r1 3)).toNatClampNeg u_10), aI g (p_r1 6) 6 (upd f_r1_6 ((o_r1 3)).toNatClampNeg x2), aJ g (p_t 12) 16 f_t_12, aI g (p_t 13) 16 f_t_13, aI g (p_t 14) 16 f_t_14, oX5 a_t p_t u_11 u_12, aI g (p_t 0) 800 f_t_0] := hD
  refine lv_aload_n hx hb dX5_readSight_42 rfl (lv_at hl 2 rfl) ?_
  refine lv_dup hx hb dX5_readSight_43 rfl ?_
  refine va_get (D := g.1) (ci := 7) (v := .int (o_r1 3)) (C := RX7) (T := TX7) (N := 7) hx hb hts iX5_readSight_X7 hown hK.1 hP 0 rfl rfl 3 (by decide) (hts _ kX5_readSight_146) (fun _ h9 => h9) rfl dX5_readSight_44 ?_
  refine lv_iconst (v := (1 : Int32)) hx hb dX5_readSight_47 (by decide) ?_
  refine lv_iadd hx hb dX5_readSight_48 ?_
  refine va_put (D := g.1) (ci := 7) (v := .int ((o_r1 3) + (1 : Int32))) (ty := .int) (C := RX7) (T := TX7) (N := 7) hx hb hts iX5_readSight_X7 tyX7 tyX7_ok nmX7 hown hK.1 hP hD hS 0 rfl rfl 3 (by decide) (hts _ kX5_readSight_146) (fun _ h9 => h9) rfl (by decide +kernel) rfl rfl (Nat.le_of_ble_eq_true rfl) dX5_readSight_49 (fun H locs hP hD hS => ?_)
  have hP : va_P g.1 vwCl [oX7 a_r1 p_r1 (upd o_r1 3 ((o_r1 3) + (1 : Int32))), aI g (p_r1 4) 6 (upd f_r1_4 ((o_r1 3)).toNatClampNeg u_5), aI g (p_r1 5) 6 (upd f_r1_5 ((o_r1 3)).toNatClampNeg u_10), aI g (p_r1 6) 6 (upd f_r1_6 ((o_r1 3)).toNatClampNeg x2), aJ g (p_t 12) 16 f_t_12, aI g (p_t 13) 16 f_t_13, aI g (p_t 14) 16 f_t_14, oX5 a_t p_t u_11 u_12, aI g (p_t 0) 800 f_t_0] H := hP
  have hD : va_D A [oX7 a_r1 p_r1 (upd o_r1 3 ((o_r1 3) + (1 : Int32))), aI g (p_r1 4) 6 (upd f_r1_4 ((o_r1 3)).toNatClampNeg u_5), aI g (p_r1 5) 6 (upd f_r1_5 ((o_r1 3)).toNatClampNeg u_10), aI g (p_r1 6) 6 (upd f_r1_6 ((o_r1 3)).toNatClampNeg x2), aJ g (p_t 12) 16 f_t_12, aI g (p_t 13) 16 f_t_13, aI g (p_t 14) 16 f_t_14, oX5 a_t p_t u_11 u_12, aI g (p_t 0) 800 f_t_0] := hD
  cases hF
  exact ret_v C0 hP hD hS [7, 8, 4, 5, 6, 0, 1, 2, 3] rfl rfl rfl dX5_readSight_52

theorem dAX5_readLine : ∀ q ∈ ([(0, (.aload_n 0, 1)), (1, (.aload_n 1, 1)), (2, (.invokevirtual 93, 3)), (5, (.tableswitch 122 0 7 #[47, 55, 63, 71, 79, 87, 98, 110], 47)), (52, (.aload_n 0, 1)), (53, (.aload_n 1, 1)), (54, (.invokevirtual 97, 3)), (57, (.goto 70, 3)), (60, (.aload_n 0, 1)), (61, (.aload_n 1, 1)), (62, (.invokevirtual 100, 3)), (65, (.goto 62, 3)), (68, (.aload_n 0, 1)), (69, (.aload_n 1, 1)), (70, (.invokevirtual 103, 3)), (73, (.goto 54, 3)), (76, (.aload_n 0, 1)), (77, (.aload_n 1, 1)), (78, (.invokevirtual 106, 3)), (81, (.goto 46, 3)), (84, (.aload_n 0, 1)), (85, (.aload_n 1, 1)), (86, (.invokevirtual 109, 3)), (89, (.goto 38, 3)), (92, (.aload_n 0, 1)), (93, (.aload_n 1, 1)), (94, (.getfield 112, 3)), (97, (.invokevirtual 116, 3)), (100, (.goto 27, 3)), (103, (.aload_n 0, 1)), (104, (.aload_n 1, 1)), (105, (.getfield 112, 3)), (108, (.iconst 1, 1)), (109, (.invokevirtual 120, 3)), (112, (.goto 15, 3)), (115, (.aload_n 0, 1)), (116, (.aload_n 1, 1)), (117, (.getfield 112, 3)), (120, (.iconst 0, 1)), (121, (.invokevirtual 120, 3)), (124, (.goto 3, 3)), (127, (.return_, 1))] : List (Nat × (Instr × Nat))), decode cX5_readLine q.1 = .ok q.2 := by decide +kernel
theorem dX5_readLine_0 : decode cX5_readLine 0 = .ok (.aload_n 0, 1) := dAX5_readLine (0, (.aload_n 0, 1)) (List.mem_of_getElem? (i := 0) rfl)
theorem dX5_readLine_1 : decode cX5_readLine 1 = .ok (.aload_n 1, 1) := dAX5_readLine (1, (.aload_n 1, 1)) (List.mem_of_getElem? (i := 1) rfl)
theorem dX5_readLine_2 : decode cX5_readLine 2 = .ok (.invokevirtual 93, 3) := dAX5_readLine (2, (.invokevirtual 93, 3)) (List.mem_of_getElem? (i := 2) rfl)
theorem dX5_readLine_5 : decode cX5_readLine 5 = .ok (.tableswitch 122 0 7 #[47, 55, 63, 71, 79, 87, 98, 110], 47) := dAX5_readLine (5, (.tableswitch 122 0 7 #[47, 55, 63, 71, 79, 87, 98, 110], 47)) (List.mem_of_getElem? (i := 3) rfl)
theorem dX5_readLine_52 : decode cX5_readLine 52 = .ok (.aload_n 0, 1) := dAX5_readLine (52, (.aload_n 0, 1)) (List.mem_of_getElem? (i := 4) rfl)
theorem dX5_readLine_53 : decode cX5_readLine 53 = .ok (.aload_n 1, 1) := dAX5_readLine (53, (.aload_n 1, 1)) (List.mem_of_getElem? (i := 5) rfl)
theorem dX5_readLine_54 : decode cX5_readLine 54 = .ok (.invokevirtual 97, 3) := dAX5_readLine (54, (.invokevirtual 97, 3)) (List.mem_of_getElem? (i := 6) rfl)
theorem dX5_readLine_57 : decode cX5_readLine 57 = .ok (.goto 70, 3) := dAX5_readLine (57, (.goto 70, 3)) (List.mem_of_getElem? (i := 7) rfl)
theorem dX5_readLine_60 : decode cX5_readLine 60 = .ok (.aload_n 0, 1) := dAX5_readLine (60, (.aload_n 0, 1)) (List.mem_of_getElem? (i := 8) rfl)
theorem dX5_readLine_61 : decode cX5_readLine 61 = .ok (.aload_n 1, 1) := dAX5_readLine (61, (.aload_n 1, 1)) (List.mem_of_getElem? (i := 9) rfl)
theorem dX5_readLine_62 : decode cX5_readLine 62 = .ok (.invokevirtual 100, 3) := dAX5_readLine (62, (.invokevirtual 100, 3)) (List.mem_of_getElem? (i := 10) rfl)
theorem dX5_readLine_65 : decode cX5_readLine 65 = .ok (.goto 62, 3) := dAX5_readLine (65, (.goto 62, 3)) (List.mem_of_getElem? (i := 11) rfl)
theorem dX5_readLine_68 : decode cX5_readLine 68 = .ok (.aload_n 0, 1) := dAX5_readLine (68, (.aload_n 0, 1)) (List.mem_of_getElem? (i := 12) rfl)
theorem dX5_readLine_69 : decode cX5_readLine 69 = .ok (.aload_n 1, 1) := dAX5_readLine (69, (.aload_n 1, 1)) (List.mem_of_getElem? (i := 13) rfl)
theorem dX5_readLine_70 : decode cX5_readLine 70 = .ok (.invokevirtual 103, 3) := dAX5_readLine (70, (.invokevirtual 103, 3)) (List.mem_of_getElem? (i := 14) rfl)
theorem dX5_readLine_73 : decode cX5_readLine 73 = .ok (.goto 54, 3) := dAX5_readLine (73, (.goto 54, 3)) (List.mem_of_getElem? (i := 15) rfl)
theorem dX5_readLine_76 : decode cX5_readLine 76 = .ok (.aload_n 0, 1) := dAX5_readLine (76, (.aload_n 0, 1)) (List.mem_of_getElem? (i := 16) rfl)
theorem dX5_readLine_77 : decode cX5_readLine 77 = .ok (.aload_n 1, 1) := dAX5_readLine (77, (.aload_n 1, 1)) (List.mem_of_getElem? (i := 17) rfl)
theorem dX5_readLine_78 : decode cX5_readLine 78 = .ok (.invokevirtual 106, 3) := dAX5_readLine (78, (.invokevirtual 106, 3)) (List.mem_of_getElem? (i := 18) rfl)
theorem dX5_readLine_81 : decode cX5_readLine 81 = .ok (.goto 46, 3) := dAX5_readLine (81, (.goto 46, 3)) (List.mem_of_getElem? (i := 19) rfl)
theorem dX5_readLine_84 : decode cX5_readLine 84 = .ok (.aload_n 0, 1) := dAX5_readLine (84, (.aload_n 0, 1)) (List.mem_of_getElem? (i := 20) rfl)
theorem dX5_readLine_85 : decode cX5_readLine 85 = .ok (.aload_n 1, 1) := dAX5_readLine (85, (.aload_n 1, 1)) (List.mem_of_getElem? (i := 21) rfl)
theorem dX5_readLine_86 : decode cX5_readLine 86 = .ok (.invokevirtual 109, 3) := dAX5_readLine (86, (.invokevirtual 109, 3)) (List.mem_of_getElem? (i := 22) rfl)
theorem dX5_readLine_89 : decode cX5_readLine 89 = .ok (.goto 38, 3) := dAX5_readLine (89, (.goto 38, 3)) (List.mem_of_getElem? (i := 23) rfl)
theorem dX5_readLine_92 : decode cX5_readLine 92 = .ok (.aload_n 0, 1) := dAX5_readLine (92, (.aload_n 0, 1)) (List.mem_of_getElem? (i := 24) rfl)
theorem dX5_readLine_93 : decode cX5_readLine 93 = .ok (.aload_n 1, 1) := dAX5_readLine (93, (.aload_n 1, 1)) (List.mem_of_getElem? (i := 25) rfl)
theorem dX5_readLine_94 : decode cX5_readLine 94 = .ok (.getfield 112, 3) := dAX5_readLine (94, (.getfield 112, 3)) (List.mem_of_getElem? (i := 26) rfl)
theorem dX5_readLine_97 : decode cX5_readLine 97 = .ok (.invokevirtual 116, 3) := dAX5_readLine (97, (.invokevirtual 116, 3)) (List.mem_of_getElem? (i := 27) rfl)
theorem dX5_readLine_100 : decode cX5_readLine 100 = .ok (.goto 27, 3) := dAX5_readLine (100, (.goto 27, 3)) (List.mem_of_getElem? (i := 28) rfl)
theorem dX5_readLine_103 : decode cX5_readLine 103 = .ok (.aload_n 0, 1) := dAX5_readLine (103, (.aload_n 0, 1)) (List.mem_of_getElem? (i := 29) rfl)
theorem dX5_readLine_104 : decode cX5_readLine 104 = .ok (.aload_n 1, 1) := dAX5_readLine (104, (.aload_n 1, 1)) (List.mem_of_getElem? (i := 30) rfl)
theorem dX5_readLine_105 : decode cX5_readLine 105 = .ok (.getfield 112, 3) := dAX5_readLine (105, (.getfield 112, 3)) (List.mem_of_getElem? (i := 31) rfl)
theorem dX5_readLine_108 : decode cX5_readLine 108 = .ok (.iconst 1, 1) := dAX5_readLine (108, (.iconst 1, 1)) (List.mem_of_getElem? (i := 32) rfl)
theorem dX5_readLine_109 : decode cX5_readLine 109 = .ok (.invokevirtual 120, 3) := dAX5_readLine (109, (.invokevirtual 120, 3)) (List.mem_of_getElem? (i := 33) rfl)
theorem dX5_readLine_112 : decode cX5_readLine 112 = .ok (.goto 15, 3) := dAX5_readLine (112, (.goto 15, 3)) (List.mem_of_getElem? (i := 34) rfl)
theorem dX5_readLine_115 : decode cX5_readLine 115 = .ok (.aload_n 0, 1) := dAX5_readLine (115, (.aload_n 0, 1)) (List.mem_of_getElem? (i := 35) rfl)
theorem dX5_readLine_116 : decode cX5_readLine 116 = .ok (.aload_n 1, 1) := dAX5_readLine (116, (.aload_n 1, 1)) (List.mem_of_getElem? (i := 36) rfl)
theorem dX5_readLine_117 : decode cX5_readLine 117 = .ok (.getfield 112, 3) := dAX5_readLine (117, (.getfield 112, 3)) (List.mem_of_getElem? (i := 37) rfl)
theorem dX5_readLine_120 : decode cX5_readLine 120 = .ok (.iconst 0, 1) := dAX5_readLine (120, (.iconst 0, 1)) (List.mem_of_getElem? (i := 38) rfl)
theorem dX5_readLine_121 : decode cX5_readLine 121 = .ok (.invokevirtual 120, 3) := dAX5_readLine (121, (.invokevirtual 120, 3)) (List.mem_of_getElem? (i := 39) rfl)
theorem dX5_readLine_124 : decode cX5_readLine 124 = .ok (.goto 3, 3) := dAX5_readLine (124, (.goto 3, 3)) (List.mem_of_getElem? (i := 40) rfl)
theorem dX5_readLine_127 : decode cX5_readLine 127 = .ok (.return_, 1) := dAX5_readLine (127, (.return_, 1)) (List.mem_of_getElem? (i := 41) rfl)
set_option maxRecDepth 20000 in
theorem ggX5_readLine_X5_takeLine : GoodIn wsX5_readLine wsX5_takeLine := goodIn_r _ [6, 7, 8, 9, 10, 5, 11, 12, 13, 14, 15, 16, 17, 18, 19, 20, 21, 22, 23, 24, 25, 26, 27, 28, 29, 30, 31, 32, 33, 34, 35, 36, 37, 38, 1, 39, 40, 41, 42, 43, 44, 45, 46, 47, 48, 49, 50, 51, 52, 53, 54, 55, 56, 57, 58, 59, 60, 182, 183, 184, 185, 186, 187, 188, 189, 190, 191, 192, 193, 194, 195, 196, 165, 166, 167, 168, 169, 170, 171, 172, 173, 174, 175, 176, 177, 178, 179, 180, 181, 197, 198, 199, 200, 201, 202, 203] rfl (by decide +kernel)
set_option maxRecDepth 20000 in
theorem gX5_readLine_X5_takeLine : GoodIn wsX5_readLine (wsV RX5 93 RX5 yX5_takeLine wsX5_takeLine) := goodIn_app (goodIn_of _ (by decide +kernel)) ggX5_readLine_X5_takeLine
set_option maxRecDepth 20000 in
theorem ggX5_readLine_X5_readEvening : GoodIn wsX5_readLine wsX5_readEvening := goodIn_r _ [64, 7, 65, 66, 67, 68, 69, 70, 71, 72, 73, 5, 74, 12, 13, 60, 22, 23, 24, 25, 26, 27, 28, 29, 30, 31, 32, 41, 42, 43, 44, 45, 46, 47, 48, 49, 50, 51, 52, 53, 54, 55, 56, 57, 58, 59, 182, 183, 184, 185, 186, 187, 188, 189, 190, 191, 192, 193, 194, 195, 196, 165, 166, 167, 168, 169, 170, 171, 172, 173, 174, 175, 176, 177, 178, 179, 180, 181] rfl (by decide +kernel)
set_option maxRecDepth 20000 in
theorem gX5_readLine_X5_readEvening : GoodIn wsX5_readLine (wsV RX5 97 RX5 yX5_readEvening wsX5_readEvening) := goodIn_app (goodIn_of _ (by decide +kernel)) ggX5_readLine_X5_readEvening
set_option maxRecDepth 20000 in
theorem ggX5_readLine_X5_readGuest : GoodIn wsX5_readLine wsX5_readGuest := goodIn_r _ [78, 36, 79, 80, 81, 82, 83, 84, 85, 86, 87, 5, 88, 89, 90, 13, 91, 92, 93, 94, 95, 96, 12, 8, 9, 10, 11, 14, 15, 16, 17, 18, 19, 20, 21, 22, 23, 24, 25, 26, 27, 28, 29, 30, 31, 32, 97, 98, 99, 100, 45, 46, 47, 48, 49, 50, 51, 52, 53, 54, 55, 56, 57, 58, 59, 60, 101, 102, 103, 104, 105, 106, 107, 108, 109, 110, 111, 112, 41, 42, 43, 44, 71, 72, 73, 74, 165, 166, 167, 168, 169, 170, 171, 172, 173, 174, 175, 176, 177, 178, 179, 180, 181, 182, 183, 184, 185, 186, 187, 188, 189, 190, 191, 192, 193, 194, 195, 196] rfl (by decide +kernel)
set_option maxRecDepth 20000 in
theorem gX5_readLine_X5_readGuest : GoodIn wsX5_readLine (wsV RX5 100 RX5 yX5_readGuest wsX5_readGuest) := goodIn_app (goodIn_of _ (by decide +kernel)) ggX5_readLine_X5_readGuest
set_option maxRecDepth 20000 in
theorem ggX5_readLine_X5_readPair : GoodIn wsX5_readLine wsX5_readPair := goodIn_r _ [116, 36, 84, 117, 118, 119, 120, 5, 121, 122, 123, 124, 125, 91, 92, 93, 94, 95, 96, 12, 8, 9, 10, 11, 13, 14, 15, 16, 17, 18, 19, 20, 21, 22, 23, 24, 25, 26, 27, 28, 29, 30, 31, 32, 97, 98, 99, 100, 89, 90, 41, 42, 43, 44, 45, 46, 47, 48, 49, 50, 51, 52, 53, 54, 55, 56, 57, 58, 59, 60, 165, 166, 167, 168, 169, 170, 171, 172, 173, 174, 175, 176, 177, 178, 179, 180, 181, 182, 183, 184, 185, 186, 187, 188, 189, 190, 191, 192, 193, 194, 195, 196] rfl (by decide +kernel)
set_option maxRecDepth 20000 in
theorem gX5_readLine_X5_readPair : GoodIn wsX5_readLine (wsV RX5 103 RX5 yX5_readPair wsX5_readPair) := goodIn_app (goodIn_of _ (by decide +kernel)) ggX5_readLine_X5_readPair
set_option maxRecDepth 20000 in
theorem ggX5_readLine_X5_readDraws : GoodIn wsX5_readLine wsX5_readDraws := goodIn_r _ [129, 37, 130, 131, 132, 133, 122, 123, 124, 5, 125, 91, 92, 93, 94, 95, 96, 12, 8, 9, 10, 11, 13, 14, 15, 16, 17, 18, 19, 20, 21, 22, 23, 24, 25, 26, 27, 28, 29, 30, 31, 32, 97, 98, 99, 100, 89, 90, 41, 42, 43, 44, 45, 46, 47, 48, 49, 50, 51, 52, 53, 54, 55, 56, 57, 58, 59, 60, 134, 135, 136, 137, 138, 139, 140, 141, 71, 72, 73, 74, 165, 166, 167, 168, 169, 170, 171, 172, 173, 174, 175, 176, 177, 178, 179, 180, 181, 182, 183, 184, 185, 186, 187, 188, 189, 190, 191, 192, 193, 194, 195, 196] rfl (by decide +kernel)
set_option maxRecDepth 20000 in
theorem gX5_readLine_X5_readDraws : GoodIn wsX5_readLine (wsV RX5 106 RX5 yX5_readDraws wsX5_readDraws) := goodIn_app (goodIn_of _ (by decide +kernel)) ggX5_readLine_X5_readDraws
set_option maxRecDepth 20000 in
theorem ggX5_readLine_X5_readTale : GoodIn wsX5_readLine wsX5_readTale := goodIn_r _ [145, 38, 146, 147, 148, 149, 85, 86, 87, 5, 88, 89, 90, 13, 91, 92, 93, 94, 95, 96, 12, 8, 9, 10, 11, 14, 15, 16, 17, 18, 19, 20, 21, 22, 23, 24, 25, 26, 27, 28, 29, 30, 31, 32, 97, 98, 99, 100, 45, 46, 47, 48, 49, 50, 51, 52, 53, 54, 55, 56, 57, 58, 59, 60, 71, 72, 73, 74, 41, 42, 43, 44, 165, 166, 167, 168, 169, 170, 171, 172, 173, 174, 175, 176, 177, 178, 179, 180, 181, 182, 183, 184, 185, 186, 187, 188, 189, 190, 191, 192, 193, 194, 195, 196] rfl (by decide +kernel)
set_option maxRecDepth 20000 in
theorem gX5_readLine_X5_readTale : GoodIn wsX5_readLine (wsV RX5 109 RX5 yX5_readTale wsX5_readTale) := goodIn_app (goodIn_of _ (by decide +kernel)) ggX5_readLine_X5_readTale
set_option maxRecDepth 20000 in
theorem ggX5_readLine_X5_readNeed : GoodIn wsX5_readLine wsX5_readNeed := goodIn_r _ [153, 39, 154, 133, 155, 156, 85, 86, 87, 5, 88, 89, 90, 13, 91, 92, 93, 94, 95, 96, 12, 8, 9, 10, 11, 14, 15, 16, 17, 18, 19, 20, 21, 22, 23, 24, 25, 26, 27, 28, 29, 30, 31, 32, 97, 98, 99, 100, 45, 46, 47, 48, 49, 50, 51, 52, 53, 54, 55, 56, 57, 58, 59, 60, 71, 72, 73, 74, 41, 42, 43, 44, 197, 198, 199, 200, 201, 202, 203, 182, 183, 184, 185, 186, 187, 188, 189, 190, 191, 192, 193, 194, 195, 196] rfl (by decide +kernel)
set_option maxRecDepth 20000 in
theorem gX5_readLine_X5_readNeed : GoodIn wsX5_readLine (wsV RX5 116 RX5 yX5_readNeed wsX5_readNeed) := goodIn_app (goodIn_of _ (by decide +kernel)) ggX5_readLine_X5_readNeed
set_option maxRecDepth 20000 in
theorem ggX5_readLine_X5_readSight : GoodIn wsX5_readLine wsX5_readSight := goodIn_r _ [160, 40, 161, 162, 163, 164, 122, 123, 124, 5, 125, 91, 92, 93, 94, 95, 96, 12, 8, 9, 10, 11, 13, 14, 15, 16, 17, 18, 19, 20, 21, 22, 23, 24, 25, 26, 27, 28, 29, 30, 31, 32, 97, 98, 99, 100, 89, 90, 41, 42, 43, 44, 45, 46, 47, 48, 49, 50, 51, 52, 53, 54, 55, 56, 57, 58, 59, 60, 71, 72, 73, 74, 197, 198, 199, 200, 201, 202, 203, 182, 183, 184, 185, 186, 187, 188, 189, 190, 191, 192, 193, 194, 195, 196] rfl (by decide +kernel)
set_option maxRecDepth 20000 in
theorem gX5_readLine_X5_readSight : GoodIn wsX5_readLine (wsV RX5 120 RX5 yX5_readSight wsX5_readSight) := goodIn_app (goodIn_of _ (by decide +kernel)) ggX5_readLine_X5_readSight
theorem kX5_readLine_112 : Cond.fieldLink RX5 112 "EveningVow$House" "town" "LEveningVow$Town;" ∈ wsX5_readLine := List.mem_of_getElem? (i := 1) rfl
theorem iX5_readLine_X1 : ∀ w ∈ u_ws RX1 TX1 17, w ∈ wsX5_readLine := fun w h => (List.mem_cons_of_mem _ (List.mem_append_left _ (List.mem_append_left _ (List.mem_append_right _ h))))
set_option maxHeartbeats 4000000 in
set_option maxRecDepth 100000 in
theorem mX5_readLine (l : Launch) (g : GG) (a_t : Nat) (a_r1 : Nat) (p_t : Nat → Nat) (p_r1 : Nat → Nat) (p_r1_16 : Nat → Nat) (n : Nat) (o_t : Nat → Int32) (c_t : Int64) (f_t_0 : Nat → Int32) (f_t_12 : Nat → Int64) (f_t_13 : Nat → Int32) (f_t_14 : Nat → Int32) (o_r1 : Nat → Int32) (f_r1_4 : Nat → Int32) (f_r1_5 : Nat → Int32) (f_r1_6 : Nat → Int32) (f_r1_7 : Nat → Int32) (f_r1_10 : Nat → Int32) (f_r1_11 : Nat → Int32) (f_r1_12 : Nat → Int32) (f_r1_14 : Nat → Int32) (f_r1_15 : Nat → Int32) (o_r1_16 : Nat → Int32) (f_r1_16_1 : Nat → Int32) (f_r1_16_2 : Nat → Int32) (f_r1_16_4 : Nat → Int32) (f_r1_16_5 : Nat → Int32) (f_r1_16_6 : Nat → Int32) (o_t' : Nat → Int32) (c_t' : Int64) (f_t_12' : Nat → Int64) (f_t_13' : Nat → Int32) (f_t_14' : Nat → Int32) (o_r1' : Nat → Int32) (f_r1_4' : Nat → Int32) (f_r1_5' : Nat → Int32) (f_r1_6' : Nat → Int32) (f_r1_7' : Nat → Int32) (f_r1_10' : Nat → Int32) (f_r1_11' : Nat → Int32) (f_r1_12' : Nat → Int32) (f_r1_14' : Nat → Int32) (f_r1_15' : Nat → Int32) (o_r1_16' : Nat → Int32) (f_r1_16_1' : Nat → Int32) (f_r1_16_2' : Nat → Int32) (f_r1_16_4' : Nat → Int32) (f_r1_16_5' : Nat → Int32) (f_r1_16_6' : Nat → Int32) (hF : fX5_readLine n o_t c_t f_t_0 f_t_12 f_t_13 f_t_14 o_r1 f_r1_4 f_r1_5 f_r1_6 f_r1_7 f_r1_10 f_r1_11 f_r1_12 f_r1_14 f_r1_15 o_r1_16 f_r1_16_1 f_r1_16_2 f_r1_16_4 f_r1_16_5 f_r1_16_6 = some (o_t', c_t', f_t_12', f_t_13', f_t_14', o_r1', f_r1_4', f_r1_5', f_r1_6', f_r1_7', f_r1_10', f_r1_11', f_r1_12', f_r1_14', f_r1_15', o_r1_16', f_r1_16_1', f_r1_16_2', f_r1_16_4', f_r1_16_5', f_r1_16_6')) : MV l g yX5_readLine wsX5_readLine ({ frames := 5, cells := 0, slots := 0, locals := 109 } : Room) [.ref a_t, .ref a_r1] [oX5 a_t p_t o_t c_t, aI g (p_t 0) 800 f_t_0, aJ g (p_t 12) 16 f_t_12, aI g (p_t 13) 16 f_t_13, aI g (p_t 14) 16 f_t_14, oX1 a_r1 p_r1 o_r1, aI g (p_r1 4) 7 f_r1_4, aI g (p_r1 5) 7 f_r1_5, aI g (p_r1 6) 7 f_r1_6, aI g (p_r1 7) 7 f_r1_7, aI g (p_r1 10) 8 f_r1_10, aI g (p_r1 11) 8 f_r1_11, aI g (p_r1 12) 8 f_r1_12, aI g (p_r1 14) 4 f_r1_14, aI g (p_r1 15) 4 f_r1_15, oX7 (p_r1 16) p_r1_16 o_r1_16, aI g (p_r1_16 1) 5 f_r1_16_1, aI g (p_r1_16 2) 5 f_r1_16_2, aI g (p_r1_16 4) 6 f_r1_16_4, aI g (p_r1_16 5) 6 f_r1_16_5, aI g (p_r1_16 6) 6 f_r1_16_6] [oX5 a_t p_t o_t' c_t', aI g (p_t 0) 800 f_t_0, aJ g (p_t 12) 16 f_t_12', aI g (p_t 13) 16 f_t_13', aI g (p_t 14) 16 f_t_14', oX1 a_r1 p_r1 o_r1', aI g (p_r1 4) 7 f_r1_4', aI g (p_r1 5) 7 f_r1_5', aI g (p_r1 6) 7 f_r1_6', aI g (p_r1 7) 7 f_r1_7', aI g (p_r1 10) 8 f_r1_10', aI g (p_r1 11) 8 f_r1_11', aI g (p_r1 12) 8 f_r1_12', aI g (p_r1 14) 4 f_r1_14', aI g (p_r1 15) 4 f_r1_15', oX7 (p_r1 16) p_r1_16 o_r1_16', aI g (p_r1_16 1) 5 f_r1_16_1', aI g (p_r1_16 2) 5 f_r1_16_2', aI g (p_r1_16 4) 6 f_r1_16_4', aI g (p_r1_16 5) 6 f_r1_16_5', aI g (p_r1_16 6) 6 f_r1_16_6'] := by
  refine MV.of (cc := cX5_readLine) (maxL := 2) (own := RX5) rfl rfl (by decide) (Nat.le_of_ble_eq_true rfl) ?_
  intro p e s m args below meth c A C0 hP hD hS ls hl
  obtain ⟨hx, hb, hml, hown, hts, hr, hlk, hK, hA, hSW⟩ := id C0
  have hl : lv_has ls 2 [(0, .ref a_t), (1, .ref a_r1)] := hl
  rw [fX5_readLine] at hF
  refine lv_aload_n hx hb dX5_readLine_0 rfl (lv_at hl 0 rfl) ?_
  refine lv_aload_n hx hb dX5_readLine_1 rfl (lv_at hl 1 rfl) ?_
  obtain ⟨u_1, u_2, u_3, hu_4, hF⟩ := ob3_some hF
  refine call_i (wr := [aJ g (p_t 12) 16 f_t_12, aI g (p_t 13) 16 f_t_13, aI g (p_t 14) 16 f_t_14, aI g (p_r1 4) 7 f_r1_4, aI g (p_r1 5) 7 f_r1_5, aI g (p_r1 6) 7 f_r1_6, aI g (p_r1 7) 7 f_r1_7, aI g (p_r1 10) 8 f_r1_10, aI g (p_r1 11) 8 f_r1_11, aI g (p_r1 12) 8 f_r1_12, aI g (p_r1 14) 4 f_r1_14, aI g (p_r1 15) 4 f_r1_15, aI g (p_r1_16 1) 5 f_r1_16_1, aI g (p_r1_16 2) 5 f_r1_16_2, aI g (p_r1_16 4) 6 f_r1_16_4, aI g (p_r1_16 5) 6 f_r1_16_5, aI g (p_r1_16 6) 6 f_r1_16_6]) (As := [.ref a_r1]) (rest := []) (ci := 5) (q0 := 0) C0 (mX5_takeLine l g a_t a_r1 p_t p_r1 p_r1_16 n o_t c_t f_t_0 o_r1 o_r1_16 u_1 u_2 u_3 hu_4) (cwV 1 hts gX5_readLine_X5_takeLine rfl rfl rfl (by decide +kernel) ⟨Nat.le_of_ble_eq_true rfl, Nat.le_of_ble_eq_true rfl⟩) hP hD hS [0, 1, 5, 15] [2, 3, 4, 6, 7, 8, 9, 10, 11, 12, 13, 14, 16, 17, 18, 19, 20] rfl rfl rfl rfl rfl (by decide) rfl rfl hl.1 rfl rfl (Nat.le_of_ble_eq_true rfl) ⟨Nat.zero_le _, Nat.zero_le _⟩ dX5_readLine_2 ?_
  intro H locs hP hD hS
  by_cases c_5 : u_1 = (0 : Int32)
  · have hF := it_p c_5 hF
    refine lv_tableIn (off := 47) (tgt := 52) hx hb dX5_readLine_5 (by rw [c_5]; decide) (by rw [c_5]; decide) (by rw [c_5]; rfl) (by decide) ?_
    refine lv_aload_n hx hb dX5_readLine_52 rfl (lv_at hl 0 rfl) ?_
    refine lv_aload_n hx hb dX5_readLine_53 rfl (lv_at hl 1 rfl) ?_
    obtain ⟨u_6, u_7, u_8, hu_9, hF⟩ := ob3_some hF
    refine call_v (wr := [aJ g (p_t 12) 16 f_t_12, aI g (p_t 13) 16 f_t_13, aI g (p_t 14) 16 f_t_14, aI g (p_r1 4) 7 f_r1_4, aI g (p_r1 5) 7 f_r1_5, aI g (p_r1 6) 7 f_r1_6, aI g (p_r1 7) 7 f_r1_7, aI g (p_r1 10) 8 f_r1_10, aI g (p_r1 11) 8 f_r1_11, aI g (p_r1 12) 8 f_r1_12, aI g (p_r1 14) 4 f_r1_14, aI g (p_r1 15) 4 f_r1_15, aI g (p_r1_16 1) 5 f_r1_16_1, aI g (p_r1_16 2) 5 f_r1_16_2, aI g (p_r1_16 4) 6 f_r1_16_4, aI g (p_r1_16 5) 6 f_r1_16_5, aI g (p_r1_16 6) 6 f_r1_16_6, oX7 (p_r1 16) p_r1_16 o_r1_16]) (As := [.ref a_r1]) (rest := []) (ci := 5) (q0 := 0) C0 (mX5_readEvening l g a_t a_r1 p_t p_r1 n u_2 u_3 f_t_0 o_r1 u_6 u_7 u_8 hu_9) (cwV 1 hts gX5_readLine_X5_readEvening rfl rfl rfl (by decide +kernel) ⟨Nat.le_of_ble_eq_true rfl, Nat.le_of_ble_eq_true rfl⟩) hP hD hS [17, 18, 19] [0, 1, 2, 3, 4, 5, 6, 7, 8, 9, 10, 11, 12, 13, 14, 15, 16, 20] rfl rfl rfl rfl rfl (by decide) rfl rfl hl.1 rfl rfl (Nat.le_of_ble_eq_true rfl) ⟨Nat.zero_le _, Nat.zero_le _⟩ dX5_readLine_54 ?_
    intro H locs hP hD hS
    refine lv_goto (tgt := 127) hx hb dX5_readLine_57 (by decide) ?_
    cases hF
    exact ret_v C0 hP hD hS [18, 19, 0, 1, 2, 20, 3, 4, 5, 6, 7, 8, 9, 10, 11, 17, 12, 13, 14, 15, 16] rfl rfl rfl dX5_readLine_127
  have hF := it_n c_5 hF
  by_cases c_10 : u_1 = (1 : Int32)
  · have hF := it_p c_10 hF
    refine lv_tableIn (off := 55) (tgt := 60) hx hb dX5_readLine_5 (by rw [c_10]; decide) (by rw [c_10]; decide) (by rw [c_10]; rfl) (by decide) ?_
    refine lv_aload_n hx hb dX5_readLine_60 rfl (lv_at hl 0 rfl) ?_
    refine lv_aload_n hx hb dX5_readLine_61 rfl (lv_at hl 1 rfl) ?_
    obtain ⟨u_11, u_12, u_13, u_14, u_15, u_16, u_17, u_18, u_19, u_20, hu_21, hF⟩ := ob10_some hF
    refine call_v (wr := [aI g (p_r1 10) 8 f_r1_10, aI g (p_r1 11) 8 f_r1_11, aI g (p_r1 12) 8 f_r1_12, aI g (p_r1 14) 4 f_r1_14, aI g (p_r1 15) 4 f_r1_15, aI g (p_r1_16 1) 5 f_r1_16_1, aI g (p_r1_16 2) 5 f_r1_16_2, aI g (p_r1_16 4) 6 f_r1_16_4, aI g (p_r1_16 5) 6 f_r1_16_5, aI g (p_r1_16 6) 6 f_r1_16_6, oX7 (p_r1 16) p_r1_16 o_r1_16]) (As := [.ref a_r1]) (rest := []) (ci := 5) (q0 := 0) C0 (mX5_readGuest l g a_t a_r1 p_t p_r1 n u_2 u_3 f_t_0 f_t_12 f_t_13 f_t_14 o_r1 f_r1_4 f_r1_5 f_r1_6 f_r1_7 u_11 u_12 u_13 u_14 u_15 u_16 u_17 u_18 u_19 u_20 hu_21) (cwV 1 hts gX5_readLine_X5_readGuest rfl rfl rfl (by decide +kernel) ⟨Nat.le_of_ble_eq_true rfl, Nat.le_of_ble_eq_true rfl⟩) hP hD hS [17, 18, 0, 1, 2, 19, 3, 4, 5, 6] [7, 8, 9, 10, 11, 12, 13, 14, 15, 16, 20] rfl rfl rfl rfl rfl (by decide) rfl rfl hl.1 rfl rfl (Nat.le_of_ble_eq_true rfl) ⟨Nat.zero_le _, Nat.zero_le _⟩ dX5_readLine_62 ?_
    intro H locs hP hD hS
    refine lv_goto (tgt := 127) hx hb dX5_readLine_65 (by decide) ?_
    cases hF
    exact ret_v C0 hP hD hS [11, 12, 13, 14, 15, 16, 17, 18, 19, 20, 0, 1, 2, 3, 4, 10, 5, 6, 7, 8, 9] rfl rfl rfl dX5_readLine_127
  have hF := it_n c_10 hF
  by_cases c_22 : u_1 = (2 : Int32)
  · have hF := it_p c_22 hF
    refine lv_tableIn (off := 63) (tgt := 68) hx hb dX5_readLine_5 (by rw [c_22]; decide) (by rw [c_22]; decide) (by rw [c_22]; rfl) (by decide) ?_
    refine lv_aload_n hx hb dX5_readLine_68 rfl (lv_at hl 0 rfl) ?_
    refine lv_aload_n hx hb dX5_readLine_69 rfl (lv_at hl 1 rfl) ?_
    obtain ⟨u_23, u_24, u_25, u_26, hu_27, hF⟩ := ob4_some hF
    refine call_v (wr := [aI g (p_r1 4) 7 f_r1_4, aI g (p_r1 5) 7 f_r1_5, aI g (p_r1 6) 7 f_r1_6, aI g (p_r1 10) 8 f_r1_10, aI g (p_r1 11) 8 f_r1_11, aI g (p_r1 12) 8 f_r1_12, aI g (p_r1 14) 4 f_r1_14, aI g (p_r1 15) 4 f_r1_15, aI g (p_r1_16 1) 5 f_r1_16_1, aI g (p_r1_16 2) 5 f_r1_16_2, aI g (p_r1_16 4) 6 f_r1_16_4, aI g (p_r1_16 5) 6 f_r1_16_5, aI g (p_r1_16 6) 6 f_r1_16_6, oX7 (p_r1 16) p_r1_16 o_r1_16]) (As := [.ref a_r1]) (rest := []) (ci := 5) (q0 := 0) C0 (mX5_readPair l g a_t a_r1 p_t p_r1 n u_2 u_3 f_t_0 f_t_12 f_t_13 f_t_14 o_r1 f_r1_7 u_23 u_24 u_25 u_26 hu_27) (cwV 1 hts gX5_readLine_X5_readPair rfl rfl rfl (by decide +kernel) ⟨Nat.le_of_ble_eq_true rfl, Nat.le_of_ble_eq_true rfl⟩) hP hD hS [17, 18, 0, 1, 2, 19, 6] [3, 4, 5, 7, 8, 9, 10, 11, 12, 13, 14, 15, 16, 20] rfl rfl rfl rfl rfl (by decide) rfl rfl hl.1 rfl rfl (Nat.le_of_ble_eq_true rfl) ⟨Nat.zero_le _, Nat.zero_le _⟩ dX5_readLine_70 ?_
    intro H locs hP hD hS
    refine lv_goto (tgt := 127) hx hb dX5_readLine_73 (by decide) ?_
    cases hF
    exact ret_v C0 hP hD hS [14, 15, 16, 17, 18, 19, 0, 1, 2, 20, 3, 4, 5, 6, 7, 13, 8, 9, 10, 11, 12] rfl rfl rfl dX5_readLine_127
  have hF := it_n c_22 hF
  by_cases c_28 : u_1 = (3 : Int32)
  · have hF := it_p c_28 hF
    refine lv_tableIn (off := 71) (tgt := 76) hx hb dX5_readLine_5 (by rw [c_28]; decide) (by rw [c_28]; decide) (by rw [c_28]; rfl) (by decide) ?_
    refine lv_aload_n hx hb dX5_readLine_76 rfl (lv_at hl 0 rfl) ?_
    refine lv_aload_n hx hb dX5_readLine_77 rfl (lv_at hl 1 rfl) ?_
    obtain ⟨u_29, u_30, u_31, u_32, u_33, u_34, hu_35, hF⟩ := ob6_some hF
    refine call_v (wr := [aI g (p_r1 4) 7 f_r1_4, aI g (p_r1 5) 7 f_r1_5, aI g (p_r1 6) 7 f_r1_6, aI g (p_r1 7) 7 f_r1_7, aI g (p_r1 14) 4 f_r1_14, aI g (p_r1 15) 4 f_r1_15, aI g (p_r1_16 1) 5 f_r1_16_1, aI g (p_r1_16 2) 5 f_r1_16_2, aI g (p_r1_16 4) 6 f_r1_16_4, aI g (p_r1_16 5) 6 f_r1_16_5, aI g (p_r1_16 6) 6 f_r1_16_6, oX7 (p_r1 16) p_r1_16 o_r1_16]) (As := [.ref a_r1]) (rest := []) (ci := 5) (q0 := 0) C0 (mX5_readDraws l g a_t a_r1 p_t p_r1 n u_2 u_3 f_t_0 f_t_12 f_t_13 f_t_14 o_r1 f_r1_10 f_r1_11 f_r1_12 u_29 u_30 u_31 u_32 u_33 u_34 hu_35) (cwV 1 hts gX5_readLine_X5_readDraws rfl rfl rfl (by decide +kernel) ⟨Nat.le_of_ble_eq_true rfl, Nat.le_of_ble_eq_true rfl⟩) hP hD hS [17, 18, 0, 1, 2, 19, 7, 8, 9] [3, 4, 5, 6, 10, 11, 12, 13, 14, 15, 16, 20] rfl rfl rfl rfl rfl (by decide) rfl rfl hl.1 rfl rfl (Nat.le_of_ble_eq_true rfl) ⟨Nat.zero_le _, Nat.zero_le _⟩ dX5_readLine_78 ?_
    intro H locs hP hD hS
    refine lv_goto (tgt := 127) hx hb dX5_readLine_81 (by decide) ?_
    cases hF
    exact ret_v C0 hP hD hS [12, 13, 14, 15, 16, 17, 0, 1, 2, 3, 18, 19, 20, 4, 5, 11, 6, 7, 8, 9, 10] rfl rfl rfl dX5_readLine_127
  have hF := it_n c_28 hF
  by_cases c_36 : u_1 = (4 : Int32)
  · have hF := it_p c_36 hF
    refine lv_tableIn (off := 79) (tgt := 84) hx hb dX5_readLine_5 (by rw [c_36]; decide) (by rw [c_36]; decide) (by rw [c_36]; rfl) (by decide) ?_
    refine lv_aload_n hx hb dX5_readLine_84 rfl (lv_at hl 0 rfl) ?_
    refine lv_aload_n hx hb dX5_readLine_85 rfl (lv_at hl 1 rfl) ?_
    obtain ⟨u_37, u_38, u_39, u_40, u_41, u_42, u_43, u_44, hu_45, hF⟩ := ob8_some hF
    refine call_v (wr := [aI g (p_r1 4) 7 f_r1_4, aI g (p_r1 5) 7 f_r1_5, aI g (p_r1 6) 7 f_r1_6, aI g (p_r1 7) 7 f_r1_7, aI g (p_r1 10) 8 f_r1_10, aI g (p_r1 11) 8 f_r1_11, aI g (p_r1 12) 8 f_r1_12, aI g (p_r1_16 1) 5 f_r1_16_1, aI g (p_r1_16 2) 5 f_r1_16_2, aI g (p_r1_16 4) 6 f_r1_16_4, aI g (p_r1_16 5) 6 f_r1_16_5, aI g (p_r1_16 6) 6 f_r1_16_6, oX7 (p_r1 16) p_r1_16 o_r1_16]) (As := [.ref a_r1]) (rest := []) (ci := 5) (q0 := 0) C0 (mX5_readTale l g a_t a_r1 p_t p_r1 n u_2 u_3 f_t_0 f_t_12 f_t_13 f_t_14 o_r1 f_r1_14 f_r1_15 u_37 u_38 u_39 u_40 u_41 u_42 u_43 u_44 hu_45) (cwV 1 hts gX5_readLine_X5_readTale rfl rfl rfl (by decide +kernel) ⟨Nat.le_of_ble_eq_true rfl, Nat.le_of_ble_eq_true rfl⟩) hP hD hS [17, 18, 0, 1, 2, 19, 10, 11] [3, 4, 5, 6, 7, 8, 9, 12, 13, 14, 15, 16, 20] rfl rfl rfl rfl rfl (by decide) rfl rfl hl.1 rfl rfl (Nat.le_of_ble_eq_true rfl) ⟨Nat.zero_le _, Nat.zero_le _⟩ dX5_readLine_86 ?_
    intro H locs hP hD hS
    refine lv_goto (tgt := 127) hx hb dX5_readLine_89 (by decide) ?_
    cases hF
    exact ret_v C0 hP hD hS [13, 14, 15, 16, 17, 18, 0, 1, 2, 3, 4, 5, 6, 19, 20, 12, 7, 8, 9, 10, 11] rfl rfl rfl dX5_readLine_127
  have hF := it_n c_36 hF
  by_cases c_46 : u_1 = (5 : Int32)
  · have hF := it_p c_46 hF
    refine lv_tableIn (off := 87) (tgt := 92) hx hb dX5_readLine_5 (by rw [c_46]; decide) (by rw [c_46]; decide) (by rw [c_46]; rfl) (by decide) ?_
    refine lv_aload_n hx hb dX5_readLine_92 rfl (lv_at hl 0 rfl) ?_
    refine lv_aload_n hx hb dX5_readLine_93 rfl (lv_at hl 1 rfl) ?_
    refine va_get (D := g.1) (ci := 1) (v := .ref (p_r1 16)) (C := RX1) (T := TX1) (N := 17) hx hb hts iX5_readLine_X1 hown hK.1 hP 19 rfl rfl 16 (by decide) (hts _ kX5_readLine_112) (fun _ h9 => h9) rfl dX5_readLine_94 ?_
    obtain ⟨u_47, u_48, u_49, u_50, u_51, u_52, u_53, u_54, hu_55, hF⟩ := ob8_some hF
    refine call_v (wr := [aI g (p_r1 4) 7 f_r1_4, aI g (p_r1 5) 7 f_r1_5, aI g (p_r1 6) 7 f_r1_6, aI g (p_r1 7) 7 f_r1_7, aI g (p_r1 10) 8 f_r1_10, aI g (p_r1 11) 8 f_r1_11, aI g (p_r1 12) 8 f_r1_12, aI g (p_r1 14) 4 f_r1_14, aI g (p_r1 15) 4 f_r1_15, aI g (p_r1_16 4) 6 f_r1_16_4, aI g (p_r1_16 5) 6 f_r1_16_5, aI g (p_r1_16 6) 6 f_r1_16_6, oX1 a_r1 p_r1 o_r1]) (As := [.ref (p_r1 16)]) (rest := []) (ci := 5) (q0 := 0) C0 (mX5_readNeed l g a_t (p_r1 16) p_t p_r1_16 n u_2 u_3 f_t_0 f_t_12 f_t_13 f_t_14 o_r1_16 f_r1_16_1 f_r1_16_2 u_47 u_48 u_49 u_50 u_51 u_52 u_53 u_54 hu_55) (cwV 1 hts gX5_readLine_X5_readNeed rfl rfl rfl (by decide +kernel) ⟨Nat.le_of_ble_eq_true rfl, Nat.le_of_ble_eq_true rfl⟩) hP hD hS [17, 18, 0, 1, 2, 20, 12, 13] [3, 4, 5, 6, 7, 8, 9, 10, 11, 14, 15, 16, 19] rfl rfl rfl rfl rfl (by decide) rfl rfl hl.1 rfl rfl (Nat.le_of_ble_eq_true rfl) ⟨Nat.zero_le _, Nat.zero_le _⟩ dX5_readLine_97 ?_
    intro H locs hP hD hS
    refine lv_goto (tgt := 127) hx hb dX5_readLine_100 (by decide) ?_
    cases hF
    exact ret_v C0 hP hD hS [13, 14, 15, 16, 17, 12, 0, 1, 2, 3, 4, 5, 6, 7, 8, 18, 19, 20, 9, 10, 11] rfl rfl rfl dX5_readLine_127
  have hF := it_n c_46 hF
  by_cases c_56 : u_1 = (6 : Int32)
  · have hF := it_p c_56 hF
    refine lv_tableIn (off := 98) (tgt := 103) hx hb dX5_readLine_5 (by rw [c_56]; decide) (by rw [c_56]; decide) (by rw [c_56]; rfl) (by decide) ?_
    refine lv_aload_n hx hb dX5_readLine_103 rfl (lv_at hl 0 rfl) ?_
    refine lv_aload_n hx hb dX5_readLine_104 rfl (lv_at hl 1 rfl) ?_
    refine va_get (D := g.1) (ci := 1) (v := .ref (p_r1 16)) (C := RX1) (T := TX1) (N := 17) hx hb hts iX5_readLine_X1 hown hK.1 hP 19 rfl rfl 16 (by decide) (hts _ kX5_readLine_112) (fun _ h9 => h9) rfl dX5_readLine_105 ?_
    refine lv_iconst (v := (1 : Int32)) hx hb dX5_readLine_108 (by decide) ?_
    obtain ⟨u_57, u_58, u_59, u_60, u_61, u_62, hu_63, hF⟩ := ob6_some hF
    refine call_v (wr := [aI g (p_r1 4) 7 f_r1_4, aI g (p_r1 5) 7 f_r1_5, aI g (p_r1 6) 7 f_r1_6, aI g (p_r1 7) 7 f_r1_7, aI g (p_r1 10) 8 f_r1_10, aI g (p_r1 11) 8 f_r1_11, aI g (p_r1 12) 8 f_r1_12, aI g (p_r1 14) 4 f_r1_14, aI g (p_r1 15) 4 f_r1_15, aI g (p_r1_16 1) 5 f_r1_16_1, aI g (p_r1_16 2) 5 f_r1_16_2, oX1 a_r1 p_r1 o_r1]) (As := [.ref (p_r1 16), .int (1 : Int32)]) (rest := []) (ci := 5) (q0 := 0) C0 (mX5_readSight l g a_t (p_r1 16) p_t p_r1_16 n (1 : Int32) u_2 u_3 f_t_0 f_t_12 f_t_13 f_t_14 o_r1_16 f_r1_16_4 f_r1_16_5 f_r1_16_6 u_57 u_58 u_59 u_60 u_61 u_62 hu_63) (cwV 2 hts gX5_readLine_X5_readSight rfl rfl rfl (by decide +kernel) ⟨Nat.le_of_ble_eq_true rfl, Nat.le_of_ble_eq_true rfl⟩) hP hD hS [17, 18, 0, 1, 2, 20, 14, 15, 16] [3, 4, 5, 6, 7, 8, 9, 10, 11, 12, 13, 19] rfl rfl rfl rfl rfl (by decide) rfl rfl hl.1 rfl rfl (Nat.le_of_ble_eq_true rfl) ⟨Nat.zero_le _, Nat.zero_le _⟩ dX5_readLine_109 ?_
    intro H locs hP hD hS
    refine lv_goto (tgt := 127) hx hb dX5_readLine_112 (by decide) ?_
    cases hF
    exact ret_v C0 hP hD hS [12, 13, 14, 15, 16, 11, 0, 1, 2, 3, 4, 5, 6, 7, 8, 17, 9, 10, 18, 19, 20] rfl rfl rfl dX5_readLine_127
  have hF := it_n c_56 hF
  by_cases c_64 : u_1 = (7 : Int32)
  · have hF := it_p c_64 hF
    refine lv_tableIn (off := 110) (tgt := 115) hx hb dX5_readLine_5 (by rw [c_64]; decide) (by rw [c_64]; decide) (by rw [c_64]; rfl) (by decide) ?_
    refine lv_aload_n hx hb dX5_readLine_115 rfl (lv_at hl 0 rfl) ?_
    refine lv_aload_n hx hb dX5_readLine_116 rfl (lv_at hl 1 rfl) ?_
    refine va_get (D := g.1) (ci := 1) (v := .ref (p_r1 16)) (C := RX1) (T := TX1) (N := 17) hx hb hts iX5_readLine_X1 hown hK.1 hP 19 rfl rfl 16 (by decide) (hts _ kX5_readLine_112) (fun _ h9 => h9) rfl dX5_readLine_117 ?_
    refine lv_iconst (v := (0 : Int32)) hx hb dX5_readLine_120 (by decide) ?_
    obtain ⟨u_65, u_66, u_67, u_68, u_69, u_70, hu_71, hF⟩ := ob6_some hF
    refine call_v (wr := [aI g (p_r1 4) 7 f_r1_4, aI g (p_r1 5) 7 f_r1_5, aI g (p_r1 6) 7 f_r1_6, aI g (p_r1 7) 7 f_r1_7, aI g (p_r1 10) 8 f_r1_10, aI g (p_r1 11) 8 f_r1_11, aI g (p_r1 12) 8 f_r1_12, aI g (p_r1 14) 4 f_r1_14, aI g (p_r1 15) 4 f_r1_15, aI g (p_r1_16 1) 5 f_r1_16_1, aI g (p_r1_16 2) 5 f_r1_16_2, oX1 a_r1 p_r1 o_r1]) (As := [.ref (p_r1 16), .int (0 : Int32)]) (rest := []) (ci := 5) (q0 := 0) C0 (mX5_readSight l g a_t (p_r1 16) p_t p_r1_16 n (0 : Int32) u_2 u_3 f_t_0 f_t_12 f_t_13 f_t_14 o_r1_16 f_r1_16_4 f_r1_16_5 f_r1_16_6 u_65 u_66 u_67 u_68 u_69 u_70 hu_71) (cwV 2 hts gX5_readLine_X5_readSight rfl rfl rfl (by decide +kernel) ⟨Nat.le_of_ble_eq_true rfl, Nat.le_of_ble_eq_true rfl⟩) hP hD hS [17, 18, 0, 1, 2, 20, 14, 15, 16] [3, 4, 5, 6, 7, 8, 9, 10, 11, 12, 13, 19] rfl rfl rfl rfl rfl (by decide) rfl rfl hl.1 rfl rfl (Nat.le_of_ble_eq_true rfl) ⟨Nat.zero_le _, Nat.zero_le _⟩ dX5_readLine_121 ?_
    intro H locs hP hD hS
    refine lv_goto (tgt := 127) hx hb dX5_readLine_124 (by decide) ?_
    cases hF
    exact ret_v C0 hP hD hS [12, 13, 14, 15, 16, 11, 0, 1, 2, 3, 4, 5, 6, 7, 8, 17, 9, 10, 18, 19, 20] rfl rfl rfl dX5_readLine_127
  have hF := it_n c_64 hF
  have tc_5 := lv_neT (a := 0) c_5 (by decide)
  have tc_10 := lv_neT (a := 1) c_10 (by decide)
  have tc_22 := lv_neT (a := 2) c_22 (by decide)
  have tc_28 := lv_neT (a := 3) c_28 (by decide)
  have tc_36 := lv_neT (a := 4) c_36 (by decide)
  have tc_46 := lv_neT (a := 5) c_46 (by decide)
  have tc_56 := lv_neT (a := 6) c_56 (by decide)
  have tc_64 := lv_neT (a := 7) c_64 (by decide)
  refine lv_tableOut (tgt := 127) hx hb dX5_readLine_5 (by omega) (by decide) ?_
  cases hF
  exact ret_v C0 hP hD hS [17, 18, 0, 1, 2, 19, 3, 4, 5, 6, 7, 8, 9, 10, 11, 20, 12, 13, 14, 15, 16] rfl rfl rfl dX5_readLine_127

theorem dAX5_takeMark : ∀ q ∈ ([(0, (.aload_n 0, 1)), (1, (.getfield 28, 3)), (4, (.iconst 3, 1)), (5, (.if_icmp .eq 9, 3)), (8, (.aload_n 0, 1)), (9, (.iconst 1, 1)), (10, (.invokevirtual 89, 3)), (13, (.pop, 1)), (14, (.aload_n 0, 1)), (15, (.iconst 0, 1)), (16, (.invokevirtual 132, 3)), (19, (.pop, 1)), (20, (.return_, 1))] : List (Nat × (Instr × Nat))), decode cX5_takeMark q.1 = .ok q.2 := by decide +kernel
theorem dX5_takeMark_0 : decode cX5_takeMark 0 = .ok (.aload_n 0, 1) := dAX5_takeMark (0, (.aload_n 0, 1)) (List.mem_of_getElem? (i := 0) rfl)
theorem dX5_takeMark_1 : decode cX5_takeMark 1 = .ok (.getfield 28, 3) := dAX5_takeMark (1, (.getfield 28, 3)) (List.mem_of_getElem? (i := 1) rfl)
theorem dX5_takeMark_4 : decode cX5_takeMark 4 = .ok (.iconst 3, 1) := dAX5_takeMark (4, (.iconst 3, 1)) (List.mem_of_getElem? (i := 2) rfl)
theorem dX5_takeMark_5 : decode cX5_takeMark 5 = .ok (.if_icmp .eq 9, 3) := dAX5_takeMark (5, (.if_icmp .eq 9, 3)) (List.mem_of_getElem? (i := 3) rfl)
theorem dX5_takeMark_8 : decode cX5_takeMark 8 = .ok (.aload_n 0, 1) := dAX5_takeMark (8, (.aload_n 0, 1)) (List.mem_of_getElem? (i := 4) rfl)
theorem dX5_takeMark_9 : decode cX5_takeMark 9 = .ok (.iconst 1, 1) := dAX5_takeMark (9, (.iconst 1, 1)) (List.mem_of_getElem? (i := 5) rfl)
theorem dX5_takeMark_10 : decode cX5_takeMark 10 = .ok (.invokevirtual 89, 3) := dAX5_takeMark (10, (.invokevirtual 89, 3)) (List.mem_of_getElem? (i := 6) rfl)
theorem dX5_takeMark_13 : decode cX5_takeMark 13 = .ok (.pop, 1) := dAX5_takeMark (13, (.pop, 1)) (List.mem_of_getElem? (i := 7) rfl)
theorem dX5_takeMark_14 : decode cX5_takeMark 14 = .ok (.aload_n 0, 1) := dAX5_takeMark (14, (.aload_n 0, 1)) (List.mem_of_getElem? (i := 8) rfl)
theorem dX5_takeMark_15 : decode cX5_takeMark 15 = .ok (.iconst 0, 1) := dAX5_takeMark (15, (.iconst 0, 1)) (List.mem_of_getElem? (i := 9) rfl)
theorem dX5_takeMark_16 : decode cX5_takeMark 16 = .ok (.invokevirtual 132, 3) := dAX5_takeMark (16, (.invokevirtual 132, 3)) (List.mem_of_getElem? (i := 10) rfl)
theorem dX5_takeMark_19 : decode cX5_takeMark 19 = .ok (.pop, 1) := dAX5_takeMark (19, (.pop, 1)) (List.mem_of_getElem? (i := 11) rfl)
theorem dX5_takeMark_20 : decode cX5_takeMark 20 = .ok (.return_, 1) := dAX5_takeMark (20, (.return_, 1)) (List.mem_of_getElem? (i := 12) rfl)
set_option maxRecDepth 20000 in
theorem ggX5_takeMark_X5_fail : GoodIn wsX5_takeMark wsX5_fail := goodIn_r _ [6, 7, 8, 9, 10, 11, 12, 5, 13, 35, 36, 37, 38, 39, 40, 41, 42, 43, 44, 45, 46, 47, 48, 49] rfl (by decide +kernel)
set_option maxRecDepth 20000 in
theorem gX5_takeMark_X5_fail : GoodIn wsX5_takeMark (wsV RX5 89 RX5 yX5_fail wsX5_fail) := goodIn_app (goodIn_of _ (by decide +kernel)) ggX5_takeMark_X5_fail
set_option maxRecDepth 20000 in
theorem ggX5_takeMark_X5_taken : GoodIn wsX5_takeMark wsX5_taken := goodIn_r _ [17, 10, 11, 12, 5, 13, 7, 18, 19, 20, 21, 22, 8, 23, 24, 1, 25, 26, 27, 28, 29, 30, 31, 32, 33, 34, 35, 36, 37, 38, 39, 40, 41, 42, 43, 44, 45, 46, 47, 48, 49] rfl (by decide +kernel)
set_option maxRecDepth 20000 in
theorem gX5_takeMark_X5_taken : GoodIn wsX5_takeMark (wsV RX5 132 RX5 yX5_taken wsX5_taken) := goodIn_app (goodIn_of _ (by decide +kernel)) ggX5_takeMark_X5_taken
theorem kX5_takeMark_28 : Cond.fieldLink RX5 28 "EveningVow$Reader" "sort" "I" ∈ wsX5_takeMark := List.mem_of_getElem? (i := 1) rfl
theorem iX5_takeMark_X5 : ∀ w ∈ u_ws RX5 TX5 15, w ∈ wsX5_takeMark := fun w h => (List.mem_cons_of_mem _ (List.mem_append_right _ h))
set_option maxHeartbeats 4000000 in
set_option maxRecDepth 100000 in
theorem mX5_takeMark (l : Launch) (g : GG) (a_t : Nat) (p_t : Nat → Nat) (n : Nat) (o_t : Nat → Int32) (c_t : Int64) (f_t_0 : Nat → Int32) (o_t' : Nat → Int32) (c_t' : Int64) (hF : fX5_takeMark n o_t c_t f_t_0 = some (o_t', c_t')) : MV l g yX5_takeMark wsX5_takeMark ({ frames := 3, cells := 0, slots := 0, locals := 61 } : Room) [.ref a_t] [oX5 a_t p_t o_t c_t, aI g (p_t 0) 800 f_t_0] [oX5 a_t p_t o_t' c_t', aI g (p_t 0) 800 f_t_0] := by
  refine MV.of (cc := cX5_takeMark) (maxL := 1) (own := RX5) rfl rfl (by decide) (Nat.le_of_ble_eq_true rfl) ?_
  intro p e s m args below meth c A C0 hP hD hS ls hl
  obtain ⟨hx, hb, hml, hown, hts, hr, hlk, hK, hA, hSW⟩ := id C0
  have hl : lv_has ls 1 [(0, .ref a_t)] := hl
  rw [fX5_takeMark] at hF
  refine lv_aload_n hx hb dX5_takeMark_0 rfl (lv_at hl 0 rfl) ?_
  refine va_get (D := g.1) (ci := 5) (v := .int (o_t 5)) (C := RX5) (T := TX5) (N := 15) hx hb hts iX5_takeMark_X5 hown hK.1 hP 0 rfl rfl 5 (by decide) (hts _ kX5_takeMark_28) (fun _ h9 => h9) rfl dX5_takeMark_1 ?_
  refine lv_iconst (v := (3 : Int32)) hx hb dX5_takeMark_4 (by decide) ?_
  refine lv_icmp_eq (tgt := 14) hx hb dX5_takeMark_5 (by decide) (fun c_1 => ?_) (fun c_1 => ?_)
  · have hF := it_p c_1 hF
    refine lv_aload_n hx hb dX5_takeMark_14 rfl (lv_at hl 0 rfl) ?_
    refine lv_iconst (v := (0 : Int32)) hx hb dX5_takeMark_15 (by decide) ?_
    obtain ⟨u_2, u_3, u_4, hu_5, hF⟩ := ob3_some hF
    refine call_i (wr := []) (As := [.int (0 : Int32)]) (rest := []) (ci := 5) (q0 := 0) C0 (mX5_taken l g a_t p_t n (0 : Int32) o_t c_t f_t_0 u_2 u_3 u_4 hu_5) (cwV 1 hts gX5_takeMark_X5_taken rfl rfl rfl (by decide +kernel) ⟨Nat.le_of_ble_eq_true rfl, Nat.le_of_ble_eq_true rfl⟩) hP hD hS [0, 1] [] rfl rfl rfl rfl rfl (by decide) rfl rfl hl.1 rfl rfl (Nat.le_of_ble_eq_true rfl) ⟨Nat.zero_le _, Nat.zero_le _⟩ dX5_takeMark_16 ?_
    intro H locs hP hD hS
    refine lv_pop hx hb dX5_takeMark_19 rfl ?_
    cases hF
    exact ret_v C0 hP hD hS [0, 1] rfl rfl rfl dX5_takeMark_20
  · have hF := it_n c_1 hF
    refine lv_aload_n hx hb dX5_takeMark_8 rfl (lv_at hl 0 rfl) ?_
    refine lv_iconst (v := (1 : Int32)) hx hb dX5_takeMark_9 (by decide) ?_
    obtain ⟨u_6, u_7, u_8, hu_9, hF⟩ := ob3_some hF
    refine call_i (wr := [aI g (p_t 0) 800 f_t_0]) (As := [.int (1 : Int32)]) (rest := []) (ci := 5) (q0 := 0) C0 (mX5_fail l g a_t p_t n (1 : Int32) o_t c_t u_6 u_7 u_8 hu_9) (cwV 1 hts gX5_takeMark_X5_fail rfl rfl rfl (by decide +kernel) ⟨Nat.le_of_ble_eq_true rfl, Nat.le_of_ble_eq_true rfl⟩) hP hD hS [0] [1] rfl rfl rfl rfl rfl (by decide) rfl rfl hl.1 rfl rfl (Nat.le_of_ble_eq_true rfl) ⟨Nat.zero_le _, Nat.zero_le _⟩ dX5_takeMark_10 ?_
    intro H locs hP hD hS
    refine lv_pop hx hb dX5_takeMark_13 rfl ?_
    refine lv_aload_n hx hb dX5_takeMark_14 rfl (lv_at hl 0 rfl) ?_
    refine lv_iconst (v := (0 : Int32)) hx hb dX5_takeMark_15 (by decide) ?_
    obtain ⟨u_10, u_11, u_12, hu_13, hF⟩ := ob3_some hF
    refine call_i (wr := []) (As := [.int (0 : Int32)]) (rest := []) (ci := 5) (q0 := 0) C0 (mX5_taken l g a_t p_t n (0 : Int32) u_7 u_8 f_t_0 u_10 u_11 u_12 hu_13) (cwV 1 hts gX5_takeMark_X5_taken rfl rfl rfl (by decide +kernel) ⟨Nat.le_of_ble_eq_true rfl, Nat.le_of_ble_eq_true rfl⟩) hP hD hS [1, 0] [] rfl rfl rfl rfl rfl (by decide) rfl rfl hl.1 rfl rfl (Nat.le_of_ble_eq_true rfl) ⟨Nat.zero_le _, Nat.zero_le _⟩ dX5_takeMark_16 ?_
    intro H locs hP hD hS
    refine lv_pop hx hb dX5_takeMark_19 rfl ?_
    cases hF
    exact ret_v C0 hP hD hS [0, 1] rfl rfl rfl dX5_takeMark_20

theorem dAX5_read : ∀ q ∈ ([(0, (.aload_n 0, 1)), (1, (.iconst 0, 1)), (2, (.putfield 19, 3)), (5, (.aload_n 0, 1)), (6, (.iconst (-1), 1)), (7, (.putfield 22, 3)), (10, (.aload_n 0, 1)), (11, (.iload_n 1, 1)), (12, (.sipush 800, 3)), (15, (.invokestatic 61, 3)), (18, (.putfield 25, 3)), (21, (.aload_n 0, 1)), (22, (.iconst 0, 1)), (23, (.putfield 34, 3)), (26, (.aload_n 0, 1)), (27, (.iconst 0, 1)), (28, (.putfield 44, 3)), (31, (.aload_n 0, 1)), (32, (.iconst 0, 1)), (33, (.putfield 48, 3)), (36, (.aload_n 2, 1)), (37, (.invokevirtual 67, 3)), (40, (.aload_n 0, 1)), (41, (.invokevirtual 72, 3)), (44, (.aload_n 0, 1)), (45, (.aload_n 2, 1)), (46, (.invokevirtual 75, 3)), (49, (.iconst 0, 1)), (50, (.istore_n 3, 1)), (51, (.iload_n 3, 1)), (52, (.aload_n 0, 1)), (53, (.getfield 25, 3)), (56, (.if_icmp .ge 32, 3)), (59, (.aload_n 0, 1)), (60, (.invokevirtual 79, 3)), (63, (.ifCond .ne 25, 3)), (66, (.aload_n 0, 1)), (67, (.getfield 28, 3)), (70, (.ifCond .eq 18, 3)), (73, (.aload_n 0, 1)), (74, (.invokevirtual 83, 3)), (77, (.aload_n 0, 1)), (78, (.aload_n 2, 1)), (79, (.invokevirtual 75, 3)), (82, (.iinc 3 1, 3)), (85, (.goto (-34), 3)), (88, (.aload_n 0, 1)), (89, (.invokevirtual 79, 3)), (92, (.ifCond .ne 17, 3)), (95, (.aload_n 2, 1)), (96, (.getfield 86, 3)), (99, (.ifCond .ne 10, 3)), (102, (.aload_n 0, 1)), (103, (.bipush 6, 2)), (105, (.invokevirtual 89, 3)), (108, (.pop, 1)), (109, (.aload_n 0, 1)), (110, (.invokevirtual 79, 3)), (113, (.ifCond .ne 7, 3)), (116, (.iconst 1, 1)), (117, (.goto 4, 3)), (120, (.iconst 0, 1)), (121, (.ireturn, 1))] : List (Nat × (Instr × Nat))), decode cX5_read q.1 = .ok q.2 := by decide +kernel
theorem dX5_read_0 : decode cX5_read 0 = .ok (.aload_n 0, 1) := dAX5_read (0, (.aload_n 0, 1)) (List.mem_of_getElem? (i := 0) rfl)
theorem dX5_read_1 : decode cX5_read 1 = .ok (.iconst 0, 1) := dAX5_read (1, (.iconst 0, 1)) (List.mem_of_getElem? (i := 1) rfl)
theorem dX5_read_2 : decode cX5_read 2 = .ok (.putfield 19, 3) := dAX5_read (2, (.putfield 19, 3)) (List.mem_of_getElem? (i := 2) rfl)
theorem dX5_read_5 : decode cX5_read 5 = .ok (.aload_n 0, 1) := dAX5_read (5, (.aload_n 0, 1)) (List.mem_of_getElem? (i := 3) rfl)
theorem dX5_read_6 : decode cX5_read 6 = .ok (.iconst (-1), 1) := dAX5_read (6, (.iconst (-1), 1)) (List.mem_of_getElem? (i := 4) rfl)
theorem dX5_read_7 : decode cX5_read 7 = .ok (.putfield 22, 3) := dAX5_read (7, (.putfield 22, 3)) (List.mem_of_getElem? (i := 5) rfl)
theorem dX5_read_10 : decode cX5_read 10 = .ok (.aload_n 0, 1) := dAX5_read (10, (.aload_n 0, 1)) (List.mem_of_getElem? (i := 6) rfl)
theorem dX5_read_11 : decode cX5_read 11 = .ok (.iload_n 1, 1) := dAX5_read (11, (.iload_n 1, 1)) (List.mem_of_getElem? (i := 7) rfl)
theorem dX5_read_12 : decode cX5_read 12 = .ok (.sipush 800, 3) := dAX5_read (12, (.sipush 800, 3)) (List.mem_of_getElem? (i := 8) rfl)
theorem dX5_read_15 : decode cX5_read 15 = .ok (.invokestatic 61, 3) := dAX5_read (15, (.invokestatic 61, 3)) (List.mem_of_getElem? (i := 9) rfl)
theorem dX5_read_18 : decode cX5_read 18 = .ok (.putfield 25, 3) := dAX5_read (18, (.putfield 25, 3)) (List.mem_of_getElem? (i := 10) rfl)
theorem dX5_read_21 : decode cX5_read 21 = .ok (.aload_n 0, 1) := dAX5_read (21, (.aload_n 0, 1)) (List.mem_of_getElem? (i := 11) rfl)
theorem dX5_read_22 : decode cX5_read 22 = .ok (.iconst 0, 1) := dAX5_read (22, (.iconst 0, 1)) (List.mem_of_getElem? (i := 12) rfl)
theorem dX5_read_23 : decode cX5_read 23 = .ok (.putfield 34, 3) := dAX5_read (23, (.putfield 34, 3)) (List.mem_of_getElem? (i := 13) rfl)
theorem dX5_read_26 : decode cX5_read 26 = .ok (.aload_n 0, 1) := dAX5_read (26, (.aload_n 0, 1)) (List.mem_of_getElem? (i := 14) rfl)
theorem dX5_read_27 : decode cX5_read 27 = .ok (.iconst 0, 1) := dAX5_read (27, (.iconst 0, 1)) (List.mem_of_getElem? (i := 15) rfl)
theorem dX5_read_28 : decode cX5_read 28 = .ok (.putfield 44, 3) := dAX5_read (28, (.putfield 44, 3)) (List.mem_of_getElem? (i := 16) rfl)
theorem dX5_read_31 : decode cX5_read 31 = .ok (.aload_n 0, 1) := dAX5_read (31, (.aload_n 0, 1)) (List.mem_of_getElem? (i := 17) rfl)
theorem dX5_read_32 : decode cX5_read 32 = .ok (.iconst 0, 1) := dAX5_read (32, (.iconst 0, 1)) (List.mem_of_getElem? (i := 18) rfl)
theorem dX5_read_33 : decode cX5_read 33 = .ok (.putfield 48, 3) := dAX5_read (33, (.putfield 48, 3)) (List.mem_of_getElem? (i := 19) rfl)
theorem dX5_read_36 : decode cX5_read 36 = .ok (.aload_n 2, 1) := dAX5_read (36, (.aload_n 2, 1)) (List.mem_of_getElem? (i := 20) rfl)
theorem dX5_read_37 : decode cX5_read 37 = .ok (.invokevirtual 67, 3) := dAX5_read (37, (.invokevirtual 67, 3)) (List.mem_of_getElem? (i := 21) rfl)
theorem dX5_read_40 : decode cX5_read 40 = .ok (.aload_n 0, 1) := dAX5_read (40, (.aload_n 0, 1)) (List.mem_of_getElem? (i := 22) rfl)
theorem dX5_read_41 : decode cX5_read 41 = .ok (.invokevirtual 72, 3) := dAX5_read (41, (.invokevirtual 72, 3)) (List.mem_of_getElem? (i := 23) rfl)
theorem dX5_read_44 : decode cX5_read 44 = .ok (.aload_n 0, 1) := dAX5_read (44, (.aload_n 0, 1)) (List.mem_of_getElem? (i := 24) rfl)
theorem dX5_read_45 : decode cX5_read 45 = .ok (.aload_n 2, 1) := dAX5_read (45, (.aload_n 2, 1)) (List.mem_of_getElem? (i := 25) rfl)
theorem dX5_read_46 : decode cX5_read 46 = .ok (.invokevirtual 75, 3) := dAX5_read (46, (.invokevirtual 75, 3)) (List.mem_of_getElem? (i := 26) rfl)
theorem dX5_read_49 : decode cX5_read 49 = .ok (.iconst 0, 1) := dAX5_read (49, (.iconst 0, 1)) (List.mem_of_getElem? (i := 27) rfl)
theorem dX5_read_50 : decode cX5_read 50 = .ok (.istore_n 3, 1) := dAX5_read (50, (.istore_n 3, 1)) (List.mem_of_getElem? (i := 28) rfl)
theorem dX5_read_51 : decode cX5_read 51 = .ok (.iload_n 3, 1) := dAX5_read (51, (.iload_n 3, 1)) (List.mem_of_getElem? (i := 29) rfl)
theorem dX5_read_52 : decode cX5_read 52 = .ok (.aload_n 0, 1) := dAX5_read (52, (.aload_n 0, 1)) (List.mem_of_getElem? (i := 30) rfl)
theorem dX5_read_53 : decode cX5_read 53 = .ok (.getfield 25, 3) := dAX5_read (53, (.getfield 25, 3)) (List.mem_of_getElem? (i := 31) rfl)
theorem dX5_read_56 : decode cX5_read 56 = .ok (.if_icmp .ge 32, 3) := dAX5_read (56, (.if_icmp .ge 32, 3)) (List.mem_of_getElem? (i := 32) rfl)
theorem dX5_read_59 : decode cX5_read 59 = .ok (.aload_n 0, 1) := dAX5_read (59, (.aload_n 0, 1)) (List.mem_of_getElem? (i := 33) rfl)
theorem dX5_read_60 : decode cX5_read 60 = .ok (.invokevirtual 79, 3) := dAX5_read (60, (.invokevirtual 79, 3)) (List.mem_of_getElem? (i := 34) rfl)
theorem dX5_read_63 : decode cX5_read 63 = .ok (.ifCond .ne 25, 3) := dAX5_read (63, (.ifCond .ne 25, 3)) (List.mem_of_getElem? (i := 35) rfl)
theorem dX5_read_66 : decode cX5_read 66 = .ok (.aload_n 0, 1) := dAX5_read (66, (.aload_n 0, 1)) (List.mem_of_getElem? (i := 36) rfl)
theorem dX5_read_67 : decode cX5_read 67 = .ok (.getfield 28, 3) := dAX5_read (67, (.getfield 28, 3)) (List.mem_of_getElem? (i := 37) rfl)
theorem dX5_read_70 : decode cX5_read 70 = .ok (.ifCond .eq 18, 3) := dAX5_read (70, (.ifCond .eq 18, 3)) (List.mem_of_getElem? (i := 38) rfl)
theorem dX5_read_73 : decode cX5_read 73 = .ok (.aload_n 0, 1) := dAX5_read (73, (.aload_n 0, 1)) (List.mem_of_getElem? (i := 39) rfl)
theorem dX5_read_74 : decode cX5_read 74 = .ok (.invokevirtual 83, 3) := dAX5_read (74, (.invokevirtual 83, 3)) (List.mem_of_getElem? (i := 40) rfl)
theorem dX5_read_77 : decode cX5_read 77 = .ok (.aload_n 0, 1) := dAX5_read (77, (.aload_n 0, 1)) (List.mem_of_getElem? (i := 41) rfl)
theorem dX5_read_78 : decode cX5_read 78 = .ok (.aload_n 2, 1) := dAX5_read (78, (.aload_n 2, 1)) (List.mem_of_getElem? (i := 42) rfl)
theorem dX5_read_79 : decode cX5_read 79 = .ok (.invokevirtual 75, 3) := dAX5_read (79, (.invokevirtual 75, 3)) (List.mem_of_getElem? (i := 43) rfl)
theorem dX5_read_82 : decode cX5_read 82 = .ok (.iinc 3 1, 3) := dAX5_read (82, (.iinc 3 1, 3)) (List.mem_of_getElem? (i := 44) rfl)
theorem dX5_read_85 : decode cX5_read 85 = .ok (.goto (-34), 3) := dAX5_read (85, (.goto (-34), 3)) (List.mem_of_getElem? (i := 45) rfl)
theorem dX5_read_88 : decode cX5_read 88 = .ok (.aload_n 0, 1) := dAX5_read (88, (.aload_n 0, 1)) (List.mem_of_getElem? (i := 46) rfl)
theorem dX5_read_89 : decode cX5_read 89 = .ok (.invokevirtual 79, 3) := dAX5_read (89, (.invokevirtual 79, 3)) (List.mem_of_getElem? (i := 47) rfl)
theorem dX5_read_92 : decode cX5_read 92 = .ok (.ifCond .ne 17, 3) := dAX5_read (92, (.ifCond .ne 17, 3)) (List.mem_of_getElem? (i := 48) rfl)
theorem dX5_read_95 : decode cX5_read 95 = .ok (.aload_n 2, 1) := dAX5_read (95, (.aload_n 2, 1)) (List.mem_of_getElem? (i := 49) rfl)
theorem dX5_read_96 : decode cX5_read 96 = .ok (.getfield 86, 3) := dAX5_read (96, (.getfield 86, 3)) (List.mem_of_getElem? (i := 50) rfl)
theorem dX5_read_99 : decode cX5_read 99 = .ok (.ifCond .ne 10, 3) := dAX5_read (99, (.ifCond .ne 10, 3)) (List.mem_of_getElem? (i := 51) rfl)
theorem dX5_read_102 : decode cX5_read 102 = .ok (.aload_n 0, 1) := dAX5_read (102, (.aload_n 0, 1)) (List.mem_of_getElem? (i := 52) rfl)
theorem dX5_read_103 : decode cX5_read 103 = .ok (.bipush 6, 2) := dAX5_read (103, (.bipush 6, 2)) (List.mem_of_getElem? (i := 53) rfl)
theorem dX5_read_105 : decode cX5_read 105 = .ok (.invokevirtual 89, 3) := dAX5_read (105, (.invokevirtual 89, 3)) (List.mem_of_getElem? (i := 54) rfl)
theorem dX5_read_108 : decode cX5_read 108 = .ok (.pop, 1) := dAX5_read (108, (.pop, 1)) (List.mem_of_getElem? (i := 55) rfl)
theorem dX5_read_109 : decode cX5_read 109 = .ok (.aload_n 0, 1) := dAX5_read (109, (.aload_n 0, 1)) (List.mem_of_getElem? (i := 56) rfl)
theorem dX5_read_110 : decode cX5_read 110 = .ok (.invokevirtual 79, 3) := dAX5_read (110, (.invokevirtual 79, 3)) (List.mem_of_getElem? (i := 57) rfl)
theorem dX5_read_113 : decode cX5_read 113 = .ok (.ifCond .ne 7, 3) := dAX5_read (113, (.ifCond .ne 7, 3)) (List.mem_of_getElem? (i := 58) rfl)
theorem dX5_read_116 : decode cX5_read 116 = .ok (.iconst 1, 1) := dAX5_read (116, (.iconst 1, 1)) (List.mem_of_getElem? (i := 59) rfl)
theorem dX5_read_117 : decode cX5_read 117 = .ok (.goto 4, 3) := dAX5_read (117, (.goto 4, 3)) (List.mem_of_getElem? (i := 60) rfl)
theorem dX5_read_120 : decode cX5_read 120 = .ok (.iconst 0, 1) := dAX5_read (120, (.iconst 0, 1)) (List.mem_of_getElem? (i := 61) rfl)
theorem dX5_read_121 : decode cX5_read 121 = .ok (.ireturn, 1) := dAX5_read (121, (.ireturn, 1)) (List.mem_of_getElem? (i := 62) rfl)
set_option maxRecDepth 20000 in
theorem ggX5_read_X1_clear : GoodIn wsX5_read wsX1_clear := goodIn_r _ [17, 18, 19, 20, 21, 22, 23, 24, 202, 203, 204, 205, 206, 207, 208, 209, 210, 211, 212, 213, 214, 215, 216, 217, 218, 219, 220, 221, 222, 223, 224, 225] rfl (by decide +kernel)
set_option maxRecDepth 20000 in
theorem gX5_read_X1_clear : GoodIn wsX5_read (wsV RX5 67 RX1 yX1_clear wsX1_clear) := goodIn_app (goodIn_of _ (by decide +kernel)) ggX5_read_X1_clear
set_option maxRecDepth 20000 in
theorem ggX5_read_X5_step : GoodIn wsX5_read wsX5_step := goodIn_r _ [29, 8, 30, 7, 31, 11, 32, 33, 34, 28, 35, 36, 37, 38, 39, 40, 41, 187, 188, 189, 190, 191, 192, 193, 194, 195, 196, 197, 198, 199, 200, 201] rfl (by decide +kernel)
set_option maxRecDepth 20000 in
theorem gX5_read_X5_step : GoodIn wsX5_read (wsV RX5 72 RX5 yX5_step wsX5_step) := goodIn_app (goodIn_of _ (by decide +kernel)) ggX5_read_X5_step
set_option maxRecDepth 20000 in
theorem ggX5_read_X5_readLine : GoodIn wsX5_read wsX5_readLine := goodIn_r _ [45, 46, 47, 48, 49, 28, 50, 9, 51, 52, 53, 54, 11, 36, 55, 56, 57, 58, 59, 60, 61, 62, 63, 64, 65, 66, 1, 30, 2, 67, 68, 69, 70, 71, 72, 73, 12, 74, 75, 76, 77, 78, 79, 80, 81, 25, 26, 27, 29, 8, 7, 31, 32, 33, 34, 35, 37, 38, 39, 40, 41, 82, 83, 84, 85, 86, 87, 88, 89, 90, 91, 92, 93, 94, 95, 96, 97, 98, 99, 100, 101, 102, 103, 104, 105, 106, 107, 108, 109, 10, 110, 111, 112, 113, 114, 115, 116, 117, 118, 119, 120, 121, 122, 123, 124, 125, 126, 127, 128, 129, 130, 131, 132, 133, 134, 135, 136, 137, 138, 139, 140, 141, 142, 143, 144, 145, 146, 147, 148, 149, 150, 151, 152, 153, 154, 155, 156, 16, 157, 20, 158, 159, 160, 161, 162, 163, 164, 165, 166, 167, 168, 169, 170, 171, 172, 173, 174, 175, 176, 177, 178, 179, 180, 181, 182, 202, 203, 204, 205, 206, 207, 208, 209, 210, 211, 212, 213, 214, 215, 216, 217, 218, 187, 188, 189, 190, 191, 192, 193, 194, 195, 196, 197, 198, 199, 200, 201, 219, 220, 221, 222, 223, 224, 225] rfl (by decide +kernel)
set_option maxRecDepth 20000 in
theorem gX5_read_X5_readLine : GoodIn wsX5_read (wsV RX5 75 RX5 yX5_readLine wsX5_readLine) := goodIn_app (goodIn_of _ (by decide +kernel)) ggX5_read_X5_readLine
set_option maxRecDepth 20000 in
theorem ggX5_read_X5_failed : GoodIn wsX5_read wsX5_failed := goodIn_r _ [70, 1, 187, 188, 189, 190, 191, 192, 193, 194, 195, 196, 197, 198, 199, 200, 201] rfl (by decide +kernel)
set_option maxRecDepth 20000 in
theorem gX5_read_X5_failed : GoodIn wsX5_read (wsV RX5 79 RX5 yX5_failed wsX5_failed) := goodIn_app (goodIn_of _ (by decide +kernel)) ggX5_read_X5_failed
set_option maxRecDepth 20000 in
theorem ggX5_read_X5_takeMark : GoodIn wsX5_read wsX5_takeMark := goodIn_r _ [186, 11, 63, 64, 65, 28, 66, 1, 30, 2, 67, 68, 69, 70, 78, 79, 80, 81, 25, 26, 27, 29, 8, 7, 31, 32, 33, 34, 35, 36, 37, 38, 39, 40, 41, 187, 188, 189, 190, 191, 192, 193, 194, 195, 196, 197, 198, 199, 200, 201] rfl (by decide +kernel)
set_option maxRecDepth 20000 in
theorem gX5_read_X5_takeMark : GoodIn wsX5_read (wsV RX5 83 RX5 yX5_takeMark wsX5_takeMark) := goodIn_app (goodIn_of _ (by decide +kernel)) ggX5_read_X5_takeMark
set_option maxRecDepth 20000 in
theorem ggX5_read_X5_fail : GoodIn wsX5_read wsX5_fail := goodIn_r _ [66, 1, 30, 2, 67, 68, 69, 28, 70, 187, 188, 189, 190, 191, 192, 193, 194, 195, 196, 197, 198, 199, 200, 201] rfl (by decide +kernel)
set_option maxRecDepth 20000 in
theorem gX5_read_X5_fail : GoodIn wsX5_read (wsV RX5 89 RX5 yX5_fail wsX5_fail) := goodIn_app (goodIn_of _ (by decide +kernel)) ggX5_read_X5_fail
theorem kX5_read_19 : Cond.fieldLink RX5 19 "EveningVow$Reader" "faultNumber" "I" ∈ wsX5_read := List.mem_of_getElem? (i := 1) rfl
theorem iX5_read_X5 : ∀ w ∈ u_ws RX5 TX5 15, w ∈ wsX5_read := fun w h => (List.mem_cons_of_mem _ (List.mem_append_left _ (List.mem_append_left _ (List.mem_append_right _ h))))
theorem kX5_read_22 : Cond.fieldLink RX5 22 "EveningVow$Reader" "faultPlace" "I" ∈ wsX5_read := List.mem_of_getElem? (i := 2) rfl
theorem kX5_read_61_a : Cond.methodLink RX5 61 Lib.Math.min.name ∈ wsX5_read := List.mem_of_getElem? (i := 3) rfl
theorem kX5_read_61_b : Cond.static Lib.Math.min.name ∈ wsX5_read := List.mem_of_getElem? (i := 4) rfl
theorem kX5_read_61_c : Cond.initialized "java/lang/Math" ∈ wsX5_read := List.mem_of_getElem? (i := 5) rfl
theorem kX5_read_61_d : Cond.code Lib.Math.min.name Lib.Math.min.code 2 (some .int) ∈ wsX5_read := List.mem_of_getElem? (i := 6) rfl
theorem kX5_read_25 : Cond.fieldLink RX5 25 "EveningVow$Reader" "length" "I" ∈ wsX5_read := List.mem_of_getElem? (i := 7) rfl
theorem kX5_read_34 : Cond.fieldLink RX5 34 "EveningVow$Reader" "to" "I" ∈ wsX5_read := List.mem_of_getElem? (i := 8) rfl
theorem kX5_read_44 : Cond.fieldLink RX5 44 "EveningVow$Reader" "opened" "Z" ∈ wsX5_read := List.mem_of_getElem? (i := 9) rfl
theorem kX5_read_48 : Cond.fieldLink RX5 48 "EveningVow$Reader" "names" "I" ∈ wsX5_read := List.mem_of_getElem? (i := 10) rfl
theorem kX5_read_28 : Cond.fieldLink RX5 28 "EveningVow$Reader" "sort" "I" ∈ wsX5_read := List.mem_of_getElem? (i := 11) rfl
theorem kX5_read_86 : Cond.fieldLink RX5 86 "EveningVow$House" "guests" "I" ∈ wsX5_read := List.mem_of_getElem? (i := 12) rfl
theorem iX5_read_X1 : ∀ w ∈ u_ws RX1 TX1 17, w ∈ wsX5_read := fun w h => (List.mem_cons_of_mem _ (List.mem_append_left _ (List.mem_append_right _ h)))
set_option maxHeartbeats 4000000 in
set_option maxRecDepth 100000 in
theorem wX5_read_L51 {p : Program} {l : Launch} {e : Env} {s : State} {m : MethodId} {args : Array Value} {below : List Frame} {meth : Method} {c : Code} {g : GG} {A : Nat → Prop} (C0 : Cx p s m args meth c cX5_read 4 (some .boolean) RX5 wsX5_read g A) (a_t : Nat) (a_r2 : Nat) (p_t : Nat → Nat) (p_r2 : Nat → Nat) (p_r2_16 : Nat → Nat) (n : Nat) (f_t_0 : Nat → Int32)  (r : Int32) (o_t' : Nat → Int32) (c_t' : Int64) (f_t_12' : Nat → Int64) (f_t_13' : Nat → Int32) (f_t_14' : Nat → Int32) (o_r2' : Nat → Int32) (f_r2_4' : Nat → Int32) (f_r2_5' : Nat → Int32) (f_r2_6' : Nat → Int32) (f_r2_7' : Nat → Int32) (f_r2_10' : Nat → Int32) (f_r2_11' : Nat → Int32) (f_r2_12' : Nat → Int32) (f_r2_14' : Nat → Int32) (f_r2_15' : Nat → Int32) (o_r2_16' : Nat → Int32) (f_r2_16_1' : Nat → Int32) (f_r2_16_2' : Nat → Int32) (f_r2_16_4' : Nat → Int32) (f_r2_16_5' : Nat → Int32) (f_r2_16_6' : Nat → Int32) (K : (Nat → Int32) → Int64 → (Nat → Int64) → (Nat → Int32) → (Nat → Int32) → (Nat → Int32) → (Nat → Int32) → (Nat → Int32) → (Nat → Int32) → (Nat → Int32) → (Nat → Int32) → (Nat → Int32) → (Nat → Int32) → (Nat → Int32) → (Nat → Int32) → (Nat → Int32) → (Nat → Int32) → (Nat → Int32) → (Nat → Int32) → (Nat → Int32) → (Nat → Int32) → Option (Int32 × (Nat → Int32) × Int64 × (Nat → Int64) × (Nat → Int32) × (Nat → Int32) × (Nat → Int32) × (Nat → Int32) × (Nat → Int32) × (Nat → Int32) × (Nat → Int32) × (Nat → Int32) × (Nat → Int32) × (Nat → Int32) × (Nat → Int32) × (Nat → Int32) × (Nat → Int32) × (Nat → Int32) × (Nat → Int32) × (Nat → Int32) × (Nat → Int32) × (Nat → Int32))) (hKx : ∀ (o_t : Nat → Int32) (c_t : Int64) (f_t_12 : Nat → Int64) (f_t_13 : Nat → Int32) (f_t_14 : Nat → Int32) (o_r2 : Nat → Int32) (f_r2_4 : Nat → Int32) (f_r2_5 : Nat → Int32) (f_r2_6 : Nat → Int32) (f_r2_7 : Nat → Int32) (f_r2_10 : Nat → Int32) (f_r2_11 : Nat → Int32) (f_r2_12 : Nat → Int32) (f_r2_14 : Nat → Int32) (f_r2_15 : Nat → Int32) (o_r2_16 : Nat → Int32) (f_r2_16_1 : Nat → Int32) (f_r2_16_2 : Nat → Int32) (f_r2_16_4 : Nat → Int32) (f_r2_16_5 : Nat → Int32) (f_r2_16_6 : Nat → Int32) (H : Heap) (locs : List Loc) (ls : Array Slot), K o_t c_t f_t_12 f_t_13 f_t_14 o_r2 f_r2_4 f_r2_5 f_r2_6 f_r2_7 f_r2_10 f_r2_11 f_r2_12 f_r2_14 f_r2_15 o_r2_16 f_r2_16_1 f_r2_16_2 f_r2_16_4 f_r2_16_5 f_r2_16_6 = some (r, o_t', c_t', f_t_12', f_t_13', f_t_14', o_r2', f_r2_4', f_r2_5', f_r2_6', f_r2_7', f_r2_10', f_r2_11', f_r2_12', f_r2_14', f_r2_15', o_r2_16', f_r2_16_1', f_r2_16_2', f_r2_16_4', f_r2_16_5', f_r2_16_6') → va_P g.1 vwCl [oX5 a_t p_t o_t c_t, aI g (p_t 0) 800 f_t_0, aJ g (p_t 12) 16 f_t_12, aI g (p_t 13) 16 f_t_13, aI g (p_t 14) 16 f_t_14, oX1 a_r2 p_r2 o_r2, aI g (p_r2 4) 7 f_r2_4, aI g (p_r2 5) 7 f_r2_5, aI g (p_r2 6) 7 f_r2_6, aI g (p_r2 7) 7 f_r2_7, aI g (p_r2 10) 8 f_r2_10, aI g (p_r2 11) 8 f_r2_11, aI g (p_r2 12) 8 f_r2_12, aI g (p_r2 14) 4 f_r2_14, aI g (p_r2 15) 4 f_r2_15, oX7 (p_r2 16) p_r2_16 o_r2_16, aI g (p_r2_16 1) 5 f_r2_16_1, aI g (p_r2_16 2) 5 f_r2_16_2, aI g (p_r2_16 4) 6 f_r2_16_4, aI g (p_r2_16 5) 6 f_r2_16_5, aI g (p_r2_16 6) 6 f_r2_16_6] H → va_D A [oX5 a_t p_t o_t c_t, aI g (p_t 0) 800 f_t_0, aJ g (p_t 12) 16 f_t_12, aI g (p_t 13) 16 f_t_13, aI g (p_t 14) 16 f_t_14, oX1 a_r2 p_r2 o_r2, aI g (p_r2 4) 7 f_r2_4, aI g (p_r2 5) 7 f_r2_5, aI g (p_r2 6) 7 f_r2_6, aI g (p_r2 7) 7 f_r2_7, aI g (p_r2 10) 8 f_r2_10, aI g (p_r2 11) 8 f_r2_11, aI g (p_r2 12) 8 f_r2_12, aI g (p_r2 14) 4 f_r2_14, aI g (p_r2 15) 4 f_r2_15, oX7 (p_r2 16) p_r2_16 o_r2_16, aI g (p_r2_16 1) 5 f_r2_16_1, aI g (p_r2_16 2) 5 f_r2_16_2, aI g (p_r2_16 4) 6 f_r2_16_4, aI g (p_r2_16 5) 6 f_r2_16_5, aI g (p_r2_16 6) 6 f_r2_16_6] → va_S A s.heap H locs → lv_has ls 4 [(0, .ref a_t), (2, .ref a_r2)] → W p l e ({ frames := 6, cells := 0, slots := 0, locals := 130 } : Room) s m args below meth c H locs 0 0 (MQ below (EndI g r [oX5 a_t p_t o_t' c_t', aI g (p_t 0) 800 f_t_0, aJ g (p_t 12) 16 f_t_12', aI g (p_t 13) 16 f_t_13', aI g (p_t 14) 16 f_t_14', oX1 a_r2 p_r2 o_r2', aI g (p_r2 4) 7 f_r2_4', aI g (p_r2 5) 7 f_r2_5', aI g (p_r2 6) 7 f_r2_6', aI g (p_r2 7) 7 f_r2_7', aI g (p_r2 10) 8 f_r2_10', aI g (p_r2 11) 8 f_r2_11', aI g (p_r2 12) 8 f_r2_12', aI g (p_r2 14) 4 f_r2_14', aI g (p_r2 15) 4 f_r2_15', oX7 (p_r2 16) p_r2_16 o_r2_16', aI g (p_r2_16 1) 5 f_r2_16_1', aI g (p_r2_16 2) 5 f_r2_16_2', aI g (p_r2_16 4) 6 f_r2_16_4', aI g (p_r2_16 5) 6 f_r2_16_5', aI g (p_r2_16 6) 6 f_r2_16_6'] A) args s 0 0 A) (F0 m 88 ls [])) : ∀ (k : Nat) (x3 : Int32) (o_t : Nat → Int32) (c_t : Int64) (f_t_12 : Nat → Int64) (f_t_13 : Nat → Int32) (f_t_14 : Nat → Int32) (o_r2 : Nat → Int32) (f_r2_4 : Nat → Int32) (f_r2_5 : Nat → Int32) (f_r2_6 : Nat → Int32) (f_r2_7 : Nat → Int32) (f_r2_10 : Nat → Int32) (f_r2_11 : Nat → Int32) (f_r2_12 : Nat → Int32) (f_r2_14 : Nat → Int32) (f_r2_15 : Nat → Int32) (o_r2_16 : Nat → Int32) (f_r2_16_1 : Nat → Int32) (f_r2_16_2 : Nat → Int32) (f_r2_16_4 : Nat → Int32) (f_r2_16_5 : Nat → Int32) (f_r2_16_6 : Nat → Int32), fX5_read_L51 n f_t_0 K k x3 o_t c_t f_t_12 f_t_13 f_t_14 o_r2 f_r2_4 f_r2_5 f_r2_6 f_r2_7 f_r2_10 f_r2_11 f_r2_12 f_r2_14 f_r2_15 o_r2_16 f_r2_16_1 f_r2_16_2 f_r2_16_4 f_r2_16_5 f_r2_16_6 = some (r, o_t', c_t', f_t_12', f_t_13', f_t_14', o_r2', f_r2_4', f_r2_5', f_r2_6', f_r2_7', f_r2_10', f_r2_11', f_r2_12', f_r2_14', f_r2_15', o_r2_16', f_r2_16_1', f_r2_16_2', f_r2_16_4', f_r2_16_5', f_r2_16_6') → ∀ (H : Heap) (locs : List Loc) (ls : Array Slot), va_P g.1 vwCl [oX5 a_t p_t o_t c_t, aI g (p_t 0) 800 f_t_0, aJ g (p_t 12) 16 f_t_12, aI g (p_t 13) 16 f_t_13, aI g (p_t 14) 16 f_t_14, oX1 a_r2 p_r2 o_r2, aI g (p_r2 4) 7 f_r2_4, aI g (p_r2 5) 7 f_r2_5, aI g (p_r2 6) 7 f_r2_6, aI g (p_r2 7) 7 f_r2_7, aI g (p_r2 10) 8 f_r2_10, aI g (p_r2 11) 8 f_r2_11, aI g (p_r2 12) 8 f_r2_12, aI g (p_r2 14) 4 f_r2_14, aI g (p_r2 15) 4 f_r2_15, oX7 (p_r2 16) p_r2_16 o_r2_16, aI g (p_r2_16 1) 5 f_r2_16_1, aI g (p_r2_16 2) 5 f_r2_16_2, aI g (p_r2_16 4) 6 f_r2_16_4, aI g (p_r2_16 5) 6 f_r2_16_5, aI g (p_r2_16 6) 6 f_r2_16_6] H → va_D A [oX5 a_t p_t o_t c_t, aI g (p_t 0) 800 f_t_0, aJ g (p_t 12) 16 f_t_12, aI g (p_t 13) 16 f_t_13, aI g (p_t 14) 16 f_t_14, oX1 a_r2 p_r2 o_r2, aI g (p_r2 4) 7 f_r2_4, aI g (p_r2 5) 7 f_r2_5, aI g (p_r2 6) 7 f_r2_6, aI g (p_r2 7) 7 f_r2_7, aI g (p_r2 10) 8 f_r2_10, aI g (p_r2 11) 8 f_r2_11, aI g (p_r2 12) 8 f_r2_12, aI g (p_r2 14) 4 f_r2_14, aI g (p_r2 15) 4 f_r2_15, oX7 (p_r2 16) p_r2_16 o_r2_16, aI g (p_r2_16 1) 5 f_r2_16_1, aI g (p_r2_16 2) 5 f_r2_16_2, aI g (p_r2_16 4) 6 f_r2_16_4, aI g (p_r2_16 5) 6 f_r2_16_5, aI g (p_r2_16 6) 6 f_r2_16_6] → va_S A s.heap H locs → lv_has ls 4 [(0, .ref a_t), (2, .ref a_r2), (3, .int x3)] → W p l e ({ frames := 6, cells := 0, slots := 0, locals := 130 } : Room) s m args below meth c H locs 0 0 (MQ below (EndI g r [oX5 a_t p_t o_t' c_t', aI g (p_t 0) 800 f_t_0, aJ g (p_t 12) 16 f_t_12', aI g (p_t 13) 16 f_t_13', aI g (p_t 14) 16 f_t_14', oX1 a_r2 p_r2 o_r2', aI g (p_r2 4) 7 f_r2_4', aI g (p_r2 5) 7 f_r2_5', aI g (p_r2 6) 7 f_r2_6', aI g (p_r2 7) 7 f_r2_7', aI g (p_r2 10) 8 f_r2_10', aI g (p_r2 11) 8 f_r2_11', aI g (p_r2 12) 8 f_r2_12', aI g (p_r2 14) 4 f_r2_14', aI g (p_r2 15) 4 f_r2_15', oX7 (p_r2 16) p_r2_16 o_r2_16', aI g (p_r2_16 1) 5 f_r2_16_1', aI g (p_r2_16 2) 5 f_r2_16_2', aI g (p_r2_16 4) 6 f_r2_16_4', aI g (p_r2_16 5) 6 f_r2_16_5', aI g (p_r2_16 6) 6 f_r2_16_6'] A) args s 0 0 A) (F0 m 51 ls []) := by
  obtain ⟨hx, hb, hml, hown, hts, hr, hlk, hK, hA, hSW⟩ := id C0
  intro k
  induction k with
  | zero =>
    intro x3 o_t c_t f_t_12 f_t_13 f_t_14 o_r2 f_r2_4 f_r2_5 f_r2_6 f_r2_7 f_r2_10 f_r2_11 f_r2_12 f_r2_14 f_r2_15 o_r2_16 f_r2_16_1 f_r2_16_2 f_r2_16_4 f_r2_16_5 f_r2_16_6 hF
    exact absurd hF (by simp [fX5_read_L51])
  | succ k ih =>
    intro x3 o_t c_t f_t_12 f_t_13 f_t_14 o_r2 f_r2_4 f_r2_5 f_r2_6 f_r2_7 f_r2_10 f_r2_11 f_r2_12 f_r2_14 f_r2_15 o_r2_16 f_r2_16_1 f_r2_16_2 f_r2_16_4 f_r2_16_5 f_r2_16_6 hF H locs ls hP hD hS hl
    rw [fX5_read_L51] at hF
    refine lv_iload_n hx hb dX5_read_51 rfl (lv_at hl 2 rfl) ?_
    refine lv_aload_n hx hb dX5_read_52 rfl (lv_at hl 0 rfl) ?_
    refine va_get (D := g.1) (ci := 5) (v := .int (o_t 4)) (C := RX5) (T := TX5) (N := 15) hx hb hts iX5_read_X5 hown hK.1 hP 0 rfl rfl 4 (by decide) (hts _ kX5_read_25) (fun _ h9 => h9) rfl dX5_read_53 ?_
    refine lv_icmp_ge (tgt := 88) hx hb dX5_read_56 (by decide) (fun c_29 => ?_) (fun c_29 => ?_)
    · have hF := it_p c_29 hF
      exact hKx o_t c_t f_t_12 f_t_13 f_t_14 o_r2 f_r2_4 f_r2_5 f_r2_6 f_r2_7 f_r2_10 f_r2_11 f_r2_12 f_r2_14 f_r2_15 o_r2_16 f_r2_16_1 f_r2_16_2 f_r2_16_4 f_r2_16_5 f_r2_16_6 _ _ _ hF (hP.sub [0, 1, 2, 3, 4, 5, 6, 7, 8, 9, 10, 11, 12, 13, 14, 15, 16, 17, 18, 19, 20] rfl) (hD.sub [0, 1, 2, 3, 4, 5, 6, 7, 8, 9, 10, 11, 12, 13, 14, 15, 16, 17, 18, 19, 20] rfl rfl) hS (lv_sub hl [0, 1] rfl)
    · have hF := it_n c_29 hF
      refine lv_aload_n hx hb dX5_read_59 rfl (lv_at hl 0 rfl) ?_
      obtain ⟨u_30, hu_31, hF⟩ := ob1_some hF
      refine call_i (wr := [aI g (p_t 0) 800 f_t_0, aJ g (p_t 12) 16 f_t_12, aI g (p_t 13) 16 f_t_13, aI g (p_t 14) 16 f_t_14, oX1 a_r2 p_r2 o_r2, aI g (p_r2 4) 7 f_r2_4, aI g (p_r2 5) 7 f_r2_5, aI g (p_r2 6) 7 f_r2_6, aI g (p_r2 7) 7 f_r2_7, aI g (p_r2 10) 8 f_r2_10, aI g (p_r2 11) 8 f_r2_11, aI g (p_r2 12) 8 f_r2_12, aI g (p_r2 14) 4 f_r2_14, aI g (p_r2 15) 4 f_r2_15, oX7 (p_r2 16) p_r2_16 o_r2_16, aI g (p_r2_16 1) 5 f_r2_16_1, aI g (p_r2_16 2) 5 f_r2_16_2, aI g (p_r2_16 4) 6 f_r2_16_4, aI g (p_r2_16 5) 6 f_r2_16_5, aI g (p_r2_16 6) 6 f_r2_16_6]) (As := []) (rest := []) (ci := 5) (q0 := 0) C0 (mX5_failed l g a_t p_t n o_t c_t u_30 hu_31) (cwV 0 hts gX5_read_X5_failed rfl rfl rfl (by decide +kernel) ⟨Nat.le_of_ble_eq_true rfl, Nat.le_of_ble_eq_true rfl⟩) hP hD hS [0] [1, 2, 3, 4, 5, 6, 7, 8, 9, 10, 11, 12, 13, 14, 15, 16, 17, 18, 19, 20] rfl rfl rfl rfl rfl (by decide) rfl rfl hl.1 rfl rfl (Nat.le_of_ble_eq_true rfl) ⟨Nat.zero_le _, Nat.zero_le _⟩ dX5_read_60 ?_
      intro H locs hP hD hS
      refine lv_if_ne (tgt := 88) hx hb dX5_read_63 (by decide) (fun c_32 => ?_) (fun c_32 => ?_)
      · have hF := it_n c_32 hF
        exact hKx o_t c_t f_t_12 f_t_13 f_t_14 o_r2 f_r2_4 f_r2_5 f_r2_6 f_r2_7 f_r2_10 f_r2_11 f_r2_12 f_r2_14 f_r2_15 o_r2_16 f_r2_16_1 f_r2_16_2 f_r2_16_4 f_r2_16_5 f_r2_16_6 _ _ _ hF (hP.sub [20, 0, 1, 2, 3, 4, 5, 6, 7, 8, 9, 10, 11, 12, 13, 14, 15, 16, 17, 18, 19] rfl) (hD.sub [20, 0, 1, 2, 3, 4, 5, 6, 7, 8, 9, 10, 11, 12, 13, 14, 15, 16, 17, 18, 19] rfl rfl) hS (lv_sub hl [0, 1] rfl)
      · have hF := it_p c_32 hF
        refine lv_aload_n hx hb dX5_read_66 rfl (lv_at hl 0 rfl) ?_
        refine va_get (D := g.1) (ci := 5) (v := .int (o_t 5)) (C := RX5) (T := TX5) (N := 15) hx hb hts iX5_read_X5 hown hK.1 hP 20 rfl rfl 5 (by decide) (hts _ kX5_read_28) (fun _ h9 => h9) rfl dX5_read_67 ?_
        refine lv_if_eq (tgt := 88) hx hb dX5_read_70 (by decide) (fun c_33 => ?_) (fun c_33 => ?_)
        · have hF := it_p c_33 hF
          exact hKx o_t c_t f_t_12 f_t_13 f_t_14 o_r2 f_r2_4 f_r2_5 f_r2_6 f_r2_7 f_r2_10 f_r2_11 f_r2_12 f_r2_14 f_r2_15 o_r2_16 f_r2_16_1 f_r2_16_2 f_r2_16_4 f_r2_16_5 f_r2_16_6 _ _ _ hF (hP.sub [20, 0, 1, 2, 3, 4, 5, 6, 7, 8, 9, 10, 11, 12, 13, 14, 15, 16, 17, 18, 19] rfl) (hD.sub [20, 0, 1, 2, 3, 4, 5, 6, 7, 8, 9, 10, 11, 12, 13, 14, 15, 16, 17, 18, 19] rfl rfl) hS (lv_sub hl [0, 1] rfl)
        · have hF := it_n c_33 hF
          refine lv_aload_n hx hb dX5_read_73 rfl (lv_at hl 0 rfl) ?_
          obtain ⟨u_34, u_35, hu_36, hF⟩ := ob2_some hF
          refine call_v (wr := [aJ g (p_t 12) 16 f_t_12, aI g (p_t 13) 16 f_t_13, aI g (p_t 14) 16 f_t_14, oX1 a_r2 p_r2 o_r2, aI g (p_r2 4) 7 f_r2_4, aI g (p_r2 5) 7 f_r2_5, aI g (p_r2 6) 7 f_r2_6, aI g (p_r2 7) 7 f_r2_7, aI g (p_r2 10) 8 f_r2_10, aI g (p_r2 11) 8 f_r2_11, aI g (p_r2 12) 8 f_r2_12, aI g (p_r2 14) 4 f_r2_14, aI g (p_r2 15) 4 f_r2_15, oX7 (p_r2 16) p_r2_16 o_r2_16, aI g (p_r2_16 1) 5 f_r2_16_1, aI g (p_r2_16 2) 5 f_r2_16_2, aI g (p_r2_16 4) 6 f_r2_16_4, aI g (p_r2_16 5) 6 f_r2_16_5, aI g (p_r2_16 6) 6 f_r2_16_6]) (As := []) (rest := []) (ci := 5) (q0 := 0) C0 (mX5_takeMark l g a_t p_t n o_t c_t f_t_0 u_34 u_35 hu_36) (cwV 0 hts gX5_read_X5_takeMark rfl rfl rfl (by decide +kernel) ⟨Nat.le_of_ble_eq_true rfl, Nat.le_of_ble_eq_true rfl⟩) hP hD hS [20, 0] [1, 2, 3, 4, 5, 6, 7, 8, 9, 10, 11, 12, 13, 14, 15, 16, 17, 18, 19] rfl rfl rfl rfl rfl (by decide) rfl rfl hl.1 rfl rfl (Nat.le_of_ble_eq_true rfl) ⟨Nat.zero_le _, Nat.zero_le _⟩ dX5_read_74 ?_
          intro H locs hP hD hS
          refine lv_aload_n hx hb dX5_read_77 rfl (lv_at hl 0 rfl) ?_
          refine lv_aload_n hx hb dX5_read_78 rfl (lv_at hl 1 rfl) ?_
          obtain ⟨u_37, u_38, u_39, u_40, u_41, u_42, u_43, u_44, u_45, u_46, u_47, u_48, u_49, u_50, u_51, u_52, u_53, u_54, u_55, u_56, u_57, hu_58, hF⟩ := ob21_some hF
          refine call_v (wr := []) (As := [.ref a_r2]) (rest := []) (ci := 5) (q0 := 0) C0 (mX5_readLine l g a_t a_r2 p_t p_r2 p_r2_16 n u_34 u_35 f_t_0 f_t_12 f_t_13 f_t_14 o_r2 f_r2_4 f_r2_5 f_r2_6 f_r2_7 f_r2_10 f_r2_11 f_r2_12 f_r2_14 f_r2_15 o_r2_16 f_r2_16_1 f_r2_16_2 f_r2_16_4 f_r2_16_5 f_r2_16_6 u_37 u_38 u_39 u_40 u_41 u_42 u_43 u_44 u_45 u_46 u_47 u_48 u_49 u_50 u_51 u_52 u_53 u_54 u_55 u_56 u_57 hu_58) (cwV 1 hts gX5_read_X5_readLine rfl rfl rfl (by decide +kernel) ⟨Nat.le_of_ble_eq_true rfl, Nat.le_of_ble_eq_true rfl⟩) hP hD hS [19, 20, 0, 1, 2, 3, 4, 5, 6, 7, 8, 9, 10, 11, 12, 13, 14, 15, 16, 17, 18] [] rfl rfl rfl rfl rfl (by decide) rfl rfl hl.1 rfl rfl (Nat.le_of_ble_eq_true rfl) ⟨Nat.zero_le _, Nat.zero_le _⟩ dX5_read_79 ?_
          intro H locs hP hD hS
          refine lv_iinc (v := (x3 + (1 : Int32))) (lv' := [(3, .int (x3 + (1 : Int32))), (0, .ref a_t), (2, .ref a_r2)]) hx hb dX5_read_82 hl (k := 2) rfl rfl (by decide) rfl (fun ls hl => ?_)
          refine lv_goto (tgt := 51) hx hb dX5_read_85 (by decide) ?_
          exact ih (x3 + (1 : Int32)) u_37 u_38 u_39 u_40 u_41 u_42 u_43 u_44 u_45 u_46 u_47 u_48 u_49 u_50 u_51 u_52 u_53 u_54 u_55 u_56 u_57 hF _ _ _ (hP.sub [0, 1, 2, 3, 4, 5, 6, 7, 8, 9, 10, 11, 12, 13, 14, 15, 16, 17, 18, 19, 20] rfl) (hD.sub [0, 1, 2, 3, 4, 5, 6, 7, 8, 9, 10, 11, 12, 13, 14, 15, 16, 17, 18, 19, 20] rfl rfl) hS (lv_sub hl [1, 2, 0] rfl)
set_option maxHeartbeats 4000000 in
set_option maxRecDepth 100000 in
theorem mX5_read (l : Launch) (g : GG) (a_t : Nat) (a_r2 : Nat) (p_t : Nat → Nat) (p_r2 : Nat → Nat) (p_r2_16 : Nat → Nat) (n : Nat) (x1 : Int32) (o_t : Nat → Int32) (c_t : Int64) (f_t_0 : Nat → Int32) (f_t_12 : Nat → Int64) (f_t_13 : Nat → Int32) (f_t_14 : Nat → Int32) (o_r2 : Nat → Int32) (f_r2_4 : Nat → Int32) (f_r2_5 : Nat → Int32) (f_r2_6 : Nat → Int32) (f_r2_7 : Nat → Int32) (f_r2_10 : Nat → Int32) (f_r2_11 : Nat → Int32) (f_r2_12 : Nat → Int32) (f_r2_14 : Nat → Int32) (f_r2_15 : Nat → Int32) (o_r2_16 : Nat → Int32) (f_r2_16_1 : Nat → Int32) (f_r2_16_2 : Nat → Int32) (f_r2_16_4 : Nat → Int32) (f_r2_16_5 : Nat → Int32) (f_r2_16_6 : Nat → Int32) (r : Int32) (o_t' : Nat → Int32) (c_t' : Int64) (f_t_12' : Nat → Int64) (f_t_13' : Nat → Int32) (f_t_14' : Nat → Int32) (o_r2' : Nat → Int32) (f_r2_4' : Nat → Int32) (f_r2_5' : Nat → Int32) (f_r2_6' : Nat → Int32) (f_r2_7' : Nat → Int32) (f_r2_10' : Nat → Int32) (f_r2_11' : Nat → Int32) (f_r2_12' : Nat → Int32) (f_r2_14' : Nat → Int32) (f_r2_15' : Nat → Int32) (o_r2_16' : Nat → Int32) (f_r2_16_1' : Nat → Int32) (f_r2_16_2' : Nat → Int32) (f_r2_16_4' : Nat → Int32) (f_r2_16_5' : Nat → Int32) (f_r2_16_6' : Nat → Int32) (hF : fX5_read n x1 o_t c_t f_t_0 f_t_12 f_t_13 f_t_14 o_r2 f_r2_4 f_r2_5 f_r2_6 f_r2_7 f_r2_10 f_r2_11 f_r2_12 f_r2_14 f_r2_15 o_r2_16 f_r2_16_1 f_r2_16_2 f_r2_16_4 f_r2_16_5 f_r2_16_6 = some (r, o_t', c_t', f_t_12', f_t_13', f_t_14', o_r2', f_r2_4', f_r2_5', f_r2_6', f_r2_7', f_r2_10', f_r2_11', f_r2_12', f_r2_14', f_r2_15', o_r2_16', f_r2_16_1', f_r2_16_2', f_r2_16_4', f_r2_16_5', f_r2_16_6')) : MI l g yX5_read wsX5_read ({ frames := 6, cells := 0, slots := 0, locals := 130 } : Room) [.ref a_t, .int x1, .ref a_r2] [oX5 a_t p_t o_t c_t, aI g (p_t 0) 800 f_t_0, aJ g (p_t 12) 16 f_t_12, aI g (p_t 13) 16 f_t_13, aI g (p_t 14) 16 f_t_14, oX1 a_r2 p_r2 o_r2, aI g (p_r2 4) 7 f_r2_4, aI g (p_r2 5) 7 f_r2_5, aI g (p_r2 6) 7 f_r2_6, aI g (p_r2 7) 7 f_r2_7, aI g (p_r2 10) 8 f_r2_10, aI g (p_r2 11) 8 f_r2_11, aI g (p_r2 12) 8 f_r2_12, aI g (p_r2 14) 4 f_r2_14, aI g (p_r2 15) 4 f_r2_15, oX7 (p_r2 16) p_r2_16 o_r2_16, aI g (p_r2_16 1) 5 f_r2_16_1, aI g (p_r2_16 2) 5 f_r2_16_2, aI g (p_r2_16 4) 6 f_r2_16_4, aI g (p_r2_16 5) 6 f_r2_16_5, aI g (p_r2_16 6) 6 f_r2_16_6] r [oX5 a_t p_t o_t' c_t', aI g (p_t 0) 800 f_t_0, aJ g (p_t 12) 16 f_t_12', aI g (p_t 13) 16 f_t_13', aI g (p_t 14) 16 f_t_14', oX1 a_r2 p_r2 o_r2', aI g (p_r2 4) 7 f_r2_4', aI g (p_r2 5) 7 f_r2_5', aI g (p_r2 6) 7 f_r2_6', aI g (p_r2 7) 7 f_r2_7', aI g (p_r2 10) 8 f_r2_10', aI g (p_r2 11) 8 f_r2_11', aI g (p_r2 12) 8 f_r2_12', aI g (p_r2 14) 4 f_r2_14', aI g (p_r2 15) 4 f_r2_15', oX7 (p_r2 16) p_r2_16 o_r2_16', aI g (p_r2_16 1) 5 f_r2_16_1', aI g (p_r2_16 2) 5 f_r2_16_2', aI g (p_r2_16 4) 6 f_r2_16_4', aI g (p_r2_16 5) 6 f_r2_16_5', aI g (p_r2_16 6) 6 f_r2_16_6'] := by
  refine MI.of (cc := cX5_read) (maxL := 4) (rt := .boolean) (own := RX5) rfl rfl (by decide) (Nat.le_of_ble_eq_true rfl) ?_
  intro p e s m args below meth c A C0 hP hD hS ls hl
  obtain ⟨hx, hb, hml, hown, hts, hr, hlk, hK, hA, hSW⟩ := id C0
  have hl : lv_has ls 4 [(0, .ref a_t), (1, .int x1), (2, .ref a_r2)] := hl
  rw [fX5_read] at hF
  refine lv_aload_n hx hb dX5_read_0 rfl (lv_at hl 0 rfl) ?_
  refine lv_iconst (v := (0 : Int32)) hx hb dX5_read_1 (by decide) ?_
  refine va_put (D := g.1) (ci := 5) (v := .int (0 : Int32)) (ty := .int) (C := RX5) (T := TX5) (N := 15) hx hb hts iX5_read_X5 tyX5 tyX5_ok nmX5 hown hK.1 hP hD hS 0 rfl rfl 2 (by decide) (hts _ kX5_read_19) (fun _ h9 => h9) rfl (by decide +kernel) rfl rfl (Nat.le_of_ble_eq_true rfl) dX5_read_2 (fun H locs hP hD hS => ?_)
  have hP : va_P g.1 vwCl [oX5 a_t p_t (upd o_t 2 (0 : Int32)) c_t, aI g (p_t 0) 800 f_t_0, aJ g (p_t 12) 16 f_t_12, aI g (p_t 13) 16 f_t_13, aI g (p_t 14) 16 f_t_14, oX1 a_r2 p_r2 o_r2, aI g (p_r2 4) 7 f_r2_4, aI g (p_r2 5) 7 f_r2_5, aI g (p_r2 6) 7 f_r2_6, aI g (p_r2 7) 7 f_r2_7, aI g (p_r2 10) 8 f_r2_10, aI g (p_r2 11) 8 f_r2_11, aI g (p_r2 12) 8 f_r2_12, aI g (p_r2 14) 4 f_r2_14, aI g (p_r2 15) 4 f_r2_15, oX7 (p_r2 16) p_r2_16 o_r2_16, aI g (p_r2_16 1) 5 f_r2_16_1, aI g (p_r2_16 2) 5 f_r2_16_2, aI g (p_r2_16 4) 6 f_r2_16_4, aI g (p_r2_16 5) 6 f_r2_16_5, aI g (p_r2_16 6) 6 f_r2_16_6] H := hP
  have hD : va_D A [oX5 a_t p_t (upd o_t 2 (0 : Int32)) c_t, aI g (p_t 0) 800 f_t_0, aJ g (p_t 12) 16 f_t_12, aI g (p_t 13) 16 f_t_13, aI g (p_t 14) 16 f_t_14, oX1 a_r2 p_r2 o_r2, aI g (p_r2 4) 7 f_r2_4, aI g (p_r2 5) 7 f_r2_5, aI g (p_r2 6) 7 f_r2_6, aI g (p_r2 7) 7 f_r2_7, aI g (p_r2 10) 8 f_r2_10, aI g (p_r2 11) 8 f_r2_11, aI g (p_r2 12) 8 f_r2_12, aI g (p_r2 14) 4 f_r2_14, aI g (p_r2 15) 4 f_r2_15, oX7 (p_r2 16) p_r2_16 o_r2_16, aI g (p_r2_16 1) 5 f_r2_16_1, aI g (p_r2_16 2) 5 f_r2_16_2, aI g (p_r2_16 4) 6 f_r2_16_4, aI g (p_r2_16 5) 6 f_r2_16_5, aI g (p_r2_16 6) 6 f_r2_16_6] := hD
  refine lv_aload_n hx hb dX5_read_5 rfl (lv_at hl 0 rfl) ?_
  refine lv_iconst (v := (-1 : Int32)) hx hb dX5_read_6 (by decide) ?_
  refine va_put (D := g.1) (ci := 5) (v := .int (-1 : Int32)) (ty := .int) (C := RX5) (T := TX5) (N := 15) hx hb hts iX5_read_X5 tyX5 tyX5_ok nmX5 hown hK.1 hP hD hS 0 rfl rfl 3 (by decide) (hts _ kX5_read_22) (fun _ h9 => h9) rfl (by decide +kernel) rfl rfl (Nat.le_of_ble_eq_true rfl) dX5_read_7 (fun H locs hP hD hS => ?_)
  have hP : va_P g.1 vwCl [oX5 a_t p_t (upd (upd o_t 2 (0 : Int32)) 3 (-1 : Int32)) c_t, aI g (p_t 0) 800 f_t_0, aJ g (p_t 12) 16 f_t_12, aI g (p_t 13) 16 f_t_13, aI g (p_t 14) 16 f_t_14, oX1 a_r2 p_r2 o_r2, aI g (p_r2 4) 7 f_r2_4, aI g (p_r2 5) 7 f_r2_5, aI g (p_r2 6) 7 f_r2_6, aI g (p_r2 7) 7 f_r2_7, aI g (p_r2 10) 8 f_r2_10, aI g (p_r2 11) 8 f_r2_11, aI g (p_r2 12) 8 f_r2_12, aI g (p_r2 14) 4 f_r2_14, aI g (p_r2 15) 4 f_r2_15, oX7 (p_r2 16) p_r2_16 o_r2_16, aI g (p_r2_16 1) 5 f_r2_16_1, aI g (p_r2_16 2) 5 f_r2_16_2, aI g (p_r2_16 4) 6 f_r2_16_4, aI g (p_r2_16 5) 6 f_r2_16_5, aI g (p_r2_16 6) 6 f_r2_16_6] H := hP
  have hD : va_D A [oX5 a_t p_t (upd (upd o_t 2 (0 : Int32)) 3 (-1 : Int32)) c_t, aI g (p_t 0) 800 f_t_0, aJ g (p_t 12) 16 f_t_12, aI g (p_t 13) 16 f_t_13, aI g (p_t 14) 16 f_t_14, oX1 a_r2 p_r2 o_r2, aI g (p_r2 4) 7 f_r2_4, aI g (p_r2 5) 7 f_r2_5, aI g (p_r2 6) 7 f_r2_6, aI g (p_r2 7) 7 f_r2_7, aI g (p_r2 10) 8 f_r2_10, aI g (p_r2 11) 8 f_r2_11, aI g (p_r2 12) 8 f_r2_12, aI g (p_r2 14) 4 f_r2_14, aI g (p_r2 15) 4 f_r2_15, oX7 (p_r2 16) p_r2_16 o_r2_16, aI g (p_r2_16 1) 5 f_r2_16_1, aI g (p_r2_16 2) 5 f_r2_16_2, aI g (p_r2_16 4) 6 f_r2_16_4, aI g (p_r2_16 5) 6 f_r2_16_5, aI g (p_r2_16 6) 6 f_r2_16_6] := hD
  refine lv_aload_n hx hb dX5_read_10 rfl (lv_at hl 0 rfl) ?_
  refine lv_iload_n hx hb dX5_read_11 rfl (lv_at hl 1 rfl) ?_
  refine lv_sipush (v := (800 : Int32)) hx hb dX5_read_12 (by decide) ?_
  refine va_mmin hx hb (hml.trans hl.1.symm) hown (hts _ kX5_read_61_a) (hts _ kX5_read_61_b) (hts _ kX5_read_61_c) (hts _ kX5_read_61_d) (Nat.le_of_ble_eq_true rfl) (Nat.le_of_ble_eq_true rfl) (Nat.zero_le _) (Nat.zero_le _) dX5_read_15 ?_
  refine va_put (D := g.1) (ci := 5) (v := .int (if (800 : Int32) < x1 then (800 : Int32) else x1)) (ty := .int) (C := RX5) (T := TX5) (N := 15) hx hb hts iX5_read_X5 tyX5 tyX5_ok nmX5 hown hK.1 hP hD hS 0 rfl rfl 4 (by decide) (hts _ kX5_read_25) (fun _ h9 => h9) rfl (by decide +kernel) rfl rfl (Nat.le_of_ble_eq_true rfl) dX5_read_18 (fun H locs hP hD hS => ?_)
  have hP : va_P g.1 vwCl [oX5 a_t p_t (upd (upd (upd o_t 2 (0 : Int32)) 3 (-1 : Int32)) 4 (if (800 : Int32) < x1 then (800 : Int32) else x1)) c_t, aI g (p_t 0) 800 f_t_0, aJ g (p_t 12) 16 f_t_12, aI g (p_t 13) 16 f_t_13, aI g (p_t 14) 16 f_t_14, oX1 a_r2 p_r2 o_r2, aI g (p_r2 4) 7 f_r2_4, aI g (p_r2 5) 7 f_r2_5, aI g (p_r2 6) 7 f_r2_6, aI g (p_r2 7) 7 f_r2_7, aI g (p_r2 10) 8 f_r2_10, aI g (p_r2 11) 8 f_r2_11, aI g (p_r2 12) 8 f_r2_12, aI g (p_r2 14) 4 f_r2_14, aI g (p_r2 15) 4 f_r2_15, oX7 (p_r2 16) p_r2_16 o_r2_16, aI g (p_r2_16 1) 5 f_r2_16_1, aI g (p_r2_16 2) 5 f_r2_16_2, aI g (p_r2_16 4) 6 f_r2_16_4, aI g (p_r2_16 5) 6 f_r2_16_5, aI g (p_r2_16 6) 6 f_r2_16_6] H := hP
  have hD : va_D A [oX5 a_t p_t (upd (upd (upd o_t 2 (0 : Int32)) 3 (-1 : Int32)) 4 (if (800 : Int32) < x1 then (800 : Int32) else x1)) c_t, aI g (p_t 0) 800 f_t_0, aJ g (p_t 12) 16 f_t_12, aI g (p_t 13) 16 f_t_13, aI g (p_t 14) 16 f_t_14, oX1 a_r2 p_r2 o_r2, aI g (p_r2 4) 7 f_r2_4, aI g (p_r2 5) 7 f_r2_5, aI g (p_r2 6) 7 f_r2_6, aI g (p_r2 7) 7 f_r2_7, aI g (p_r2 10) 8 f_r2_10, aI g (p_r2 11) 8 f_r2_11, aI g (p_r2 12) 8 f_r2_12, aI g (p_r2 14) 4 f_r2_14, aI g (p_r2 15) 4 f_r2_15, oX7 (p_r2 16) p_r2_16 o_r2_16, aI g (p_r2_16 1) 5 f_r2_16_1, aI g (p_r2_16 2) 5 f_r2_16_2, aI g (p_r2_16 4) 6 f_r2_16_4, aI g (p_r2_16 5) 6 f_r2_16_5, aI g (p_r2_16 6) 6 f_r2_16_6] := hD
  refine lv_aload_n hx hb dX5_read_21 rfl (lv_at hl 0 rfl) ?_
  refine lv_iconst (v := (0 : Int32)) hx hb dX5_read_22 (by decide) ?_
  refine va_put (D := g.1) (ci := 5) (v := .int (0 : Int32)) (ty := .int) (C := RX5) (T := TX5) (N := 15) hx hb hts iX5_read_X5 tyX5 tyX5_ok nmX5 hown hK.1 hP hD hS 0 rfl rfl 7 (by decide) (hts _ kX5_read_34) (fun _ h9 => h9) rfl (by decide +kernel) rfl rfl (Nat.le_of_ble_eq_true rfl) dX5_read_23 (fun H locs hP hD hS => ?_)
  have hP : va_P g.1 vwCl [oX5 a_t p_t (upd (upd (upd (upd o_t 2 (0 : Int32)) 3 (-1 : Int32)) 4 (if (800 : Int32) < x1 then (800 : Int32) else x1)) 7 (0 : Int32)) c_t, aI g (p_t 0) 800 f_t_0, aJ g (p_t 12) 16 f_t_12, aI g (p_t 13) 16 f_t_13, aI g (p_t 14) 16 f_t_14, oX1 a_r2 p_r2 o_r2, aI g (p_r2 4) 7 f_r2_4, aI g (p_r2 5) 7 f_r2_5, aI g (p_r2 6) 7 f_r2_6, aI g (p_r2 7) 7 f_r2_7, aI g (p_r2 10) 8 f_r2_10, aI g (p_r2 11) 8 f_r2_11, aI g (p_r2 12) 8 f_r2_12, aI g (p_r2 14) 4 f_r2_14, aI g (p_r2 15) 4 f_r2_15, oX7 (p_r2 16) p_r2_16 o_r2_16, aI g (p_r2_16 1) 5 f_r2_16_1, aI g (p_r2_16 2) 5 f_r2_16_2, aI g (p_r2_16 4) 6 f_r2_16_4, aI g (p_r2_16 5) 6 f_r2_16_5, aI g (p_r2_16 6) 6 f_r2_16_6] H := hP
  have hD : va_D A [oX5 a_t p_t (upd (upd (upd (upd o_t 2 (0 : Int32)) 3 (-1 : Int32)) 4 (if (800 : Int32) < x1 then (800 : Int32) else x1)) 7 (0 : Int32)) c_t, aI g (p_t 0) 800 f_t_0, aJ g (p_t 12) 16 f_t_12, aI g (p_t 13) 16 f_t_13, aI g (p_t 14) 16 f_t_14, oX1 a_r2 p_r2 o_r2, aI g (p_r2 4) 7 f_r2_4, aI g (p_r2 5) 7 f_r2_5, aI g (p_r2 6) 7 f_r2_6, aI g (p_r2 7) 7 f_r2_7, aI g (p_r2 10) 8 f_r2_10, aI g (p_r2 11) 8 f_r2_11, aI g (p_r2 12) 8 f_r2_12, aI g (p_r2 14) 4 f_r2_14, aI g (p_r2 15) 4 f_r2_15, oX7 (p_r2 16) p_r2_16 o_r2_16, aI g (p_r2_16 1) 5 f_r2_16_1, aI g (p_r2_16 2) 5 f_r2_16_2, aI g (p_r2_16 4) 6 f_r2_16_4, aI g (p_r2_16 5) 6 f_r2_16_5, aI g (p_r2_16 6) 6 f_r2_16_6] := hD
  refine lv_aload_n hx hb dX5_read_26 rfl (lv_at hl 0 rfl) ?_
  refine lv_iconst (v := (0 : Int32)) hx hb dX5_read_27 (by decide) ?_
  refine va_put (D := g.1) (ci := 5) (v := .int (0 : Int32)) (ty := .boolean) (C := RX5) (T := TX5) (N := 15) hx hb hts iX5_read_X5 tyX5 tyX5_ok nmX5 hown hK.1 hP hD hS 0 rfl rfl 10 (by decide) (hts _ kX5_read_44) (fun _ h9 => h9) rfl (by decide +kernel) rfl rfl (Nat.le_of_ble_eq_true rfl) dX5_read_28 (fun H locs hP hD hS => ?_)
  have hP : va_P g.1 vwCl [oX5 a_t p_t (upd (upd (upd (upd (upd o_t 2 (0 : Int32)) 3 (-1 : Int32)) 4 (if (800 : Int32) < x1 then (800 : Int32) else x1)) 7 (0 : Int32)) 10 (0 : Int32)) c_t, aI g (p_t 0) 800 f_t_0, aJ g (p_t 12) 16 f_t_12, aI g (p_t 13) 16 f_t_13, aI g (p_t 14) 16 f_t_14, oX1 a_r2 p_r2 o_r2, aI g (p_r2 4) 7 f_r2_4, aI g (p_r2 5) 7 f_r2_5, aI g (p_r2 6) 7 f_r2_6, aI g (p_r2 7) 7 f_r2_7, aI g (p_r2 10) 8 f_r2_10, aI g (p_r2 11) 8 f_r2_11, aI g (p_r2 12) 8 f_r2_12, aI g (p_r2 14) 4 f_r2_14, aI g (p_r2 15) 4 f_r2_15, oX7 (p_r2 16) p_r2_16 o_r2_16, aI g (p_r2_16 1) 5 f_r2_16_1, aI g (p_r2_16 2) 5 f_r2_16_2, aI g (p_r2_16 4) 6 f_r2_16_4, aI g (p_r2_16 5) 6 f_r2_16_5, aI g (p_r2_16 6) 6 f_r2_16_6] H := hP
  have hD : va_D A [oX5 a_t p_t (upd (upd (upd (upd (upd o_t 2 (0 : Int32)) 3 (-1 : Int32)) 4 (if (800 : Int32) < x1 then (800 : Int32) else x1)) 7 (0 : Int32)) 10 (0 : Int32)) c_t, aI g (p_t 0) 800 f_t_0, aJ g (p_t 12) 16 f_t_12, aI g (p_t 13) 16 f_t_13, aI g (p_t 14) 16 f_t_14, oX1 a_r2 p_r2 o_r2, aI g (p_r2 4) 7 f_r2_4, aI g (p_r2 5) 7 f_r2_5, aI g (p_r2 6) 7 f_r2_6, aI g (p_r2 7) 7 f_r2_7, aI g (p_r2 10) 8 f_r2_10, aI g (p_r2 11) 8 f_r2_11, aI g (p_r2 12) 8 f_r2_12, aI g (p_r2 14) 4 f_r2_14, aI g (p_r2 15) 4 f_r2_15, oX7 (p_r2 16) p_r2_16 o_r2_16, aI g (p_r2_16 1) 5 f_r2_16_1, aI g (p_r2_16 2) 5 f_r2_16_2, aI g (p_r2_16 4) 6 f_r2_16_4, aI g (p_r2_16 5) 6 f_r2_16_5, aI g (p_r2_16 6) 6 f_r2_16_6] := hD
  refine lv_aload_n hx hb dX5_read_31 rfl (lv_at hl 0 rfl) ?_
  refine lv_iconst (v := (0 : Int32)) hx hb dX5_read_32 (by decide) ?_
  refine va_put (D := g.1) (ci := 5) (v := .int (0 : Int32)) (ty := .int) (C := RX5) (T := TX5) (N := 15) hx hb hts iX5_read_X5 tyX5 tyX5_ok nmX5 hown hK.1 hP hD hS 0 rfl rfl 11 (by decide) (hts _ kX5_read_48) (fun _ h9 => h9) rfl (by decide +kernel) rfl rfl (Nat.le_of_ble_eq_true rfl) dX5_read_33 (fun H locs hP hD hS => ?_)
  have hP : va_P g.1 vwCl [oX5 a_t p_t (upd (upd (upd (upd (upd (upd o_t 2 (0 : Int32)) 3 (-1 : Int32)) 4 (if (800 : Int32) < x1 then (800 : Int32) else x1)) 7 (0 : Int32)) 10 (0 : Int32)) 11 (0 : Int32)) c_t, aI g (p_t 0) 800 f_t_0, aJ g (p_t 12) 16 f_t_12, aI g (p_t 13) 16 f_t_13, aI g (p_t 14) 16 f_t_14, oX1 a_r2 p_r2 o_r2, aI g (p_r2 4) 7 f_r2_4, aI g (p_r2 5) 7 f_r2_5, aI g (p_r2 6) 7 f_r2_6, aI g (p_r2 7) 7 f_r2_7, aI g (p_r2 10) 8 f_r2_10, aI g (p_r2 11) 8 f_r2_11, aI g (p_r2 12) 8 f_r2_12, aI g (p_r2 14) 4 f_r2_14, aI g (p_r2 15) 4 f_r2_15, oX7 (p_r2 16) p_r2_16 o_r2_16, aI g (p_r2_16 1) 5 f_r2_16_1, aI g (p_r2_16 2) 5 f_r2_16_2, aI g (p_r2_16 4) 6 f_r2_16_4, aI g (p_r2_16 5) 6 f_r2_16_5, aI g (p_r2_16 6) 6 f_r2_16_6] H := hP
  have hD : va_D A [oX5 a_t p_t (upd (upd (upd (upd (upd (upd o_t 2 (0 : Int32)) 3 (-1 : Int32)) 4 (if (800 : Int32) < x1 then (800 : Int32) else x1)) 7 (0 : Int32)) 10 (0 : Int32)) 11 (0 : Int32)) c_t, aI g (p_t 0) 800 f_t_0, aJ g (p_t 12) 16 f_t_12, aI g (p_t 13) 16 f_t_13, aI g (p_t 14) 16 f_t_14, oX1 a_r2 p_r2 o_r2, aI g (p_r2 4) 7 f_r2_4, aI g (p_r2 5) 7 f_r2_5, aI g (p_r2 6) 7 f_r2_6, aI g (p_r2 7) 7 f_r2_7, aI g (p_r2 10) 8 f_r2_10, aI g (p_r2 11) 8 f_r2_11, aI g (p_r2 12) 8 f_r2_12, aI g (p_r2 14) 4 f_r2_14, aI g (p_r2 15) 4 f_r2_15, oX7 (p_r2 16) p_r2_16 o_r2_16, aI g (p_r2_16 1) 5 f_r2_16_1, aI g (p_r2_16 2) 5 f_r2_16_2, aI g (p_r2_16 4) 6 f_r2_16_4, aI g (p_r2_16 5) 6 f_r2_16_5, aI g (p_r2_16 6) 6 f_r2_16_6] := hD
  refine lv_aload_n hx hb dX5_read_36 rfl (lv_at hl 2 rfl) ?_
  obtain ⟨u_1, u_2, hu_3, hF⟩ := ob2_some hF
  refine call_v (wr := [oX5 a_t p_t (upd (upd (upd (upd (upd (upd o_t 2 (0 : Int32)) 3 (-1 : Int32)) 4 (if (800 : Int32) < x1 then (800 : Int32) else x1)) 7 (0 : Int32)) 10 (0 : Int32)) 11 (0 : Int32)) c_t, aI g (p_t 0) 800 f_t_0, aJ g (p_t 12) 16 f_t_12, aI g (p_t 13) 16 f_t_13, aI g (p_t 14) 16 f_t_14, aI g (p_r2 4) 7 f_r2_4, aI g (p_r2 5) 7 f_r2_5, aI g (p_r2 6) 7 f_r2_6, aI g (p_r2 7) 7 f_r2_7, aI g (p_r2 10) 8 f_r2_10, aI g (p_r2 11) 8 f_r2_11, aI g (p_r2 12) 8 f_r2_12, aI g (p_r2 14) 4 f_r2_14, aI g (p_r2 15) 4 f_r2_15, aI g (p_r2_16 1) 5 f_r2_16_1, aI g (p_r2_16 2) 5 f_r2_16_2, aI g (p_r2_16 4) 6 f_r2_16_4, aI g (p_r2_16 5) 6 f_r2_16_5, aI g (p_r2_16 6) 6 f_r2_16_6]) (As := []) (rest := []) (ci := 1) (q0 := 0) C0 (mX1_clear l g a_r2 p_r2 p_r2_16 n o_r2 o_r2_16 u_1 u_2 hu_3) (cwV 0 hts gX5_read_X1_clear rfl rfl rfl (by decide +kernel) ⟨Nat.le_of_ble_eq_true rfl, Nat.le_of_ble_eq_true rfl⟩) hP hD hS [5, 15] [0, 1, 2, 3, 4, 6, 7, 8, 9, 10, 11, 12, 13, 14, 16, 17, 18, 19, 20] rfl rfl rfl rfl rfl (by decide) rfl rfl hl.1 rfl rfl (Nat.le_of_ble_eq_true rfl) ⟨Nat.zero_le _, Nat.zero_le _⟩ dX5_read_37 ?_
  intro H locs hP hD hS
  refine lv_aload_n hx hb dX5_read_40 rfl (lv_at hl 0 rfl) ?_
  obtain ⟨u_4, u_5, hu_6, hF⟩ := ob2_some hF
  refine call_v (wr := [aJ g (p_t 12) 16 f_t_12, aI g (p_t 13) 16 f_t_13, aI g (p_t 14) 16 f_t_14, aI g (p_r2 4) 7 f_r2_4, aI g (p_r2 5) 7 f_r2_5, aI g (p_r2 6) 7 f_r2_6, aI g (p_r2 7) 7 f_r2_7, aI g (p_r2 10) 8 f_r2_10, aI g (p_r2 11) 8 f_r2_11, aI g (p_r2 12) 8 f_r2_12, aI g (p_r2 14) 4 f_r2_14, aI g (p_r2 15) 4 f_r2_15, aI g (p_r2_16 1) 5 f_r2_16_1, aI g (p_r2_16 2) 5 f_r2_16_2, aI g (p_r2_16 4) 6 f_r2_16_4, aI g (p_r2_16 5) 6 f_r2_16_5, aI g (p_r2_16 6) 6 f_r2_16_6, oX1 a_r2 p_r2 u_1, oX7 (p_r2 16) p_r2_16 u_2]) (As := []) (rest := []) (ci := 5) (q0 := 0) C0 (mX5_step l g a_t p_t n (upd (upd (upd (upd (upd (upd o_t 2 (0 : Int32)) 3 (-1 : Int32)) 4 (if (800 : Int32) < x1 then (800 : Int32) else x1)) 7 (0 : Int32)) 10 (0 : Int32)) 11 (0 : Int32)) c_t f_t_0 u_4 u_5 hu_6) (cwV 0 hts gX5_read_X5_step rfl rfl rfl (by decide +kernel) ⟨Nat.le_of_ble_eq_true rfl, Nat.le_of_ble_eq_true rfl⟩) hP hD hS [0, 1] [2, 3, 4, 5, 6, 7, 8, 9, 10, 11, 12, 13, 14, 15, 16, 17, 18, 19, 20] rfl rfl rfl rfl rfl (by decide) rfl rfl hl.1 rfl rfl (Nat.le_of_ble_eq_true rfl) ⟨Nat.zero_le _, Nat.zero_le _⟩ dX5_read_41 ?_
  intro H locs hP hD hS
  refine lv_aload_n hx hb dX5_read_44 rfl (lv_at hl 0 rfl) ?_
  refine lv_aload_n hx hb dX5_read_45 rfl (lv_at hl 2 rfl) ?_
  obtain ⟨u_7, u_8, u_9, u_10, u_11, u_12, u_13, u_14, u_15, u_16, u_17, u_18, u_19, u_20, u_21, u_22, u_23, u_24, u_25, u_26, u_27, hu_28, hF⟩ := ob21_some hF
  refine call_v (wr := []) (As := [.ref a_r2]) (rest := []) (ci := 5) (q0 := 0) C0 (mX5_readLine l g a_t a_r2 p_t p_r2 p_r2_16 n u_4 u_5 f_t_0 f_t_12 f_t_13 f_t_14 u_1 f_r2_4 f_r2_5 f_r2_6 f_r2_7 f_r2_10 f_r2_11 f_r2_12 f_r2_14 f_r2_15 u_2 f_r2_16_1 f_r2_16_2 f_r2_16_4 f_r2_16_5 f_r2_16_6 u_7 u_8 u_9 u_10 u_11 u_12 u_13 u_14 u_15 u_16 u_17 u_18 u_19 u_20 u_21 u_22 u_23 u_24 u_25 u_26 u_27 hu_28) (cwV 1 hts gX5_read_X5_readLine rfl rfl rfl (by decide +kernel) ⟨Nat.le_of_ble_eq_true rfl, Nat.le_of_ble_eq_true rfl⟩) hP hD hS [19, 20, 0, 1, 2, 17, 3, 4, 5, 6, 7, 8, 9, 10, 11, 18, 12, 13, 14, 15, 16] [] rfl rfl rfl rfl rfl (by decide) rfl rfl hl.1 rfl rfl (Nat.le_of_ble_eq_true rfl) ⟨Nat.zero_le _, Nat.zero_le _⟩ dX5_read_46 ?_
  intro H locs hP hD hS
  refine lv_iconst (v := (0 : Int32)) hx hb dX5_read_49 (by decide) ?_
  refine lv_istore_n (lv' := [(3, .int (0 : Int32)), (0, .ref a_t), (1, .int x1), (2, .ref a_r2)]) hx hb dX5_read_50 rfl hl (by decide) rfl (fun ls hl => ?_)
  refine wX5_read_L51 C0 a_t a_r2 p_t p_r2 p_r2_16 n f_t_0 r o_t' c_t' f_t_12' f_t_13' f_t_14' o_r2' f_r2_4' f_r2_5' f_r2_6' f_r2_7' f_r2_10' f_r2_11' f_r2_12' f_r2_14' f_r2_15' o_r2_16' f_r2_16_1' f_r2_16_2' f_r2_16_4' f_r2_16_5' f_r2_16_6' _ ?_ n (0 : Int32) u_7 u_8 u_9 u_10 u_11 u_12 u_13 u_14 u_15 u_16 u_17 u_18 u_19 u_20 u_21 u_22 u_23 u_24 u_25 u_26 u_27 hF _ _ _ (hP.sub [0, 1, 2, 3, 4, 5, 6, 7, 8, 9, 10, 11, 12, 13, 14, 15, 16, 17, 18, 19, 20] rfl) (hD.sub [0, 1, 2, 3, 4, 5, 6, 7, 8, 9, 10, 11, 12, 13, 14, 15, 16, 17, 18, 19, 20] rfl rfl) hS (lv_sub hl [1, 3, 0] rfl)
  · intro o_t_x51 c_t_x51 f_t_12_x51 f_t_13_x51 f_t_14_x51 o_r2_x51 f_r2_4_x51 f_r2_5_x51 f_r2_6_x51 f_r2_7_x51 f_r2_10_x51 f_r2_11_x51 f_r2_12_x51 f_r2_14_x51 f_r2_15_x51 o_r2_16_x51 f_r2_16_1_x51 f_r2_16_2_x51 f_r2_16_4_x51 f_r2_16_5_x51 f_r2_16_6_x51 H locs ls hF hP hD hS hl
    refine lv_aload_n hx hb dX5_read_88 rfl (lv_at hl 0 rfl) ?_
    obtain ⟨u_59, hu_60, hF⟩ := ob1_some hF
    refine call_i (wr := [aI g (p_t 0) 800 f_t_0, aJ g (p_t 12) 16 f_t_12_x51, aI g (p_t 13) 16 f_t_13_x51, aI g (p_t 14) 16 f_t_14_x51, oX1 a_r2 p_r2 o_r2_x51, aI g (p_r2 4) 7 f_r2_4_x51, aI g (p_r2 5) 7 f_r2_5_x51, aI g (p_r2 6) 7 f_r2_6_x51, aI g (p_r2 7) 7 f_r2_7_x51, aI g (p_r2 10) 8 f_r2_10_x51, aI g (p_r2 11) 8 f_r2_11_x51, aI g (p_r2 12) 8 f_r2_12_x51, aI g (p_r2 14) 4 f_r2_14_x51, aI g (p_r2 15) 4 f_r2_15_x51, oX7 (p_r2 16) p_r2_16 o_r2_16_x51, aI g (p_r2_16 1) 5 f_r2_16_1_x51, aI g (p_r2_16 2) 5 f_r2_16_2_x51, aI g (p_r2_16 4) 6 f_r2_16_4_x51, aI g (p_r2_16 5) 6 f_r2_16_5_x51, aI g (p_r2_16 6) 6 f_r2_16_6_x51]) (As := []) (rest := []) (ci := 5) (q0 := 0) C0 (mX5_failed l g a_t p_t n o_t_x51 c_t_x51 u_59 hu_60) (cwV 0 hts gX5_read_X5_failed rfl rfl rfl (by decide +kernel) ⟨Nat.le_of_ble_eq_true rfl, Nat.le_of_ble_eq_true rfl⟩) hP hD hS [0] [1, 2, 3, 4, 5, 6, 7, 8, 9, 10, 11, 12, 13, 14, 15, 16, 17, 18, 19, 20] rfl rfl rfl rfl rfl (by decide) rfl rfl hl.1 rfl rfl (Nat.le_of_ble_eq_true rfl) ⟨Nat.zero_le _, Nat.zero_le _⟩ dX5_read_89 ?_
    intro H locs hP hD hS
    refine lv_if_ne (tgt := 109) hx hb dX5_read_92 (by decide) (fun c_61 => ?_) (fun c_61 => ?_)
    · have hF := it_n c_61 hF
      refine lv_aload_n hx hb dX5_read_109 rfl (lv_at hl 0 rfl) ?_
      obtain ⟨u_62, hu_63, hF⟩ := ob1_some hF
      refine call_i (wr := [aI g (p_t 0) 800 f_t_0, aJ g (p_t 12) 16 f_t_12_x51, aI g (p_t 13) 16 f_t_13_x51, aI g (p_t 14) 16 f_t_14_x51, oX1 a_r2 p_r2 o_r2_x51, aI g (p_r2 4) 7 f_r2_4_x51, aI g (p_r2 5) 7 f_r2_5_x51, aI g (p_r2 6) 7 f_r2_6_x51, aI g (p_r2 7) 7 f_r2_7_x51, aI g (p_r2 10) 8 f_r2_10_x51, aI g (p_r2 11) 8 f_r2_11_x51, aI g (p_r2 12) 8 f_r2_12_x51, aI g (p_r2 14) 4 f_r2_14_x51, aI g (p_r2 15) 4 f_r2_15_x51, oX7 (p_r2 16) p_r2_16 o_r2_16_x51, aI g (p_r2_16 1) 5 f_r2_16_1_x51, aI g (p_r2_16 2) 5 f_r2_16_2_x51, aI g (p_r2_16 4) 6 f_r2_16_4_x51, aI g (p_r2_16 5) 6 f_r2_16_5_x51, aI g (p_r2_16 6) 6 f_r2_16_6_x51]) (As := []) (rest := []) (ci := 5) (q0 := 0) C0 (mX5_failed l g a_t p_t n o_t_x51 c_t_x51 u_62 hu_63) (cwV 0 hts gX5_read_X5_failed rfl rfl rfl (by decide +kernel) ⟨Nat.le_of_ble_eq_true rfl, Nat.le_of_ble_eq_true rfl⟩) hP hD hS [20] [0, 1, 2, 3, 4, 5, 6, 7, 8, 9, 10, 11, 12, 13, 14, 15, 16, 17, 18, 19] rfl rfl rfl rfl rfl (by decide) rfl rfl hl.1 rfl rfl (Nat.le_of_ble_eq_true rfl) ⟨Nat.zero_le _, Nat.zero_le _⟩ dX5_read_110 ?_
      intro H locs hP hD hS
      refine lv_if_ne (tgt := 120) hx hb dX5_read_113 (by decide) (fun c_64 => ?_) (fun c_64 => ?_)
      · have hF := it_n c_64 hF
        refine lv_iconst (v := (0 : Int32)) hx hb dX5_read_120 (by decide) ?_
        cases hF
        exact ret_z C0 hP hD hS [20, 0, 1, 2, 3, 4, 5, 6, 7, 8, 9, 10, 11, 12, 13, 14, 15, 16, 17, 18, 19] rfl rfl rfl dX5_read_121 rfl rfl
      · have hF := it_p c_64 hF
        refine lv_iconst (v := (1 : Int32)) hx hb dX5_read_116 (by decide) ?_
        refine lv_goto (tgt := 121) hx hb dX5_read_117 (by decide) ?_
        cases hF
        exact ret_z C0 hP hD hS [20, 0, 1, 2, 3, 4, 5, 6, 7, 8, 9, 10, 11, 12, 13, 14, 15, 16, 17, 18, 19] rfl rfl rfl dX5_read_121 rfl rfl
    · have hF := it_p c_61 hF
      refine lv_aload_n hx hb dX5_read_95 rfl (lv_at hl 1 rfl) ?_
      refine va_get (D := g.1) (ci := 1) (v := .int (o_r2_x51 3)) (C := RX1) (T := TX1) (N := 17) hx hb hts iX5_read_X1 hown hK.1 hP 4 rfl rfl 3 (by decide) (hts _ kX5_read_86) (fun _ h9 => h9) rfl dX5_read_96 ?_
      refine lv_if_ne (tgt := 109) hx hb dX5_read_99 (by decide) (fun c_65 => ?_) (fun c_65 => ?_)
      · have hF := it_n c_65 hF
        refine lv_aload_n hx hb dX5_read_109 rfl (lv_at hl 0 rfl) ?_
        obtain ⟨u_66, hu_67, hF⟩ := ob1_some hF
        refine call_i (wr := [aI g (p_t 0) 800 f_t_0, aJ g (p_t 12) 16 f_t_12_x51, aI g (p_t 13) 16 f_t_13_x51, aI g (p_t 14) 16 f_t_14_x51, oX1 a_r2 p_r2 o_r2_x51, aI g (p_r2 4) 7 f_r2_4_x51, aI g (p_r2 5) 7 f_r2_5_x51, aI g (p_r2 6) 7 f_r2_6_x51, aI g (p_r2 7) 7 f_r2_7_x51, aI g (p_r2 10) 8 f_r2_10_x51, aI g (p_r2 11) 8 f_r2_11_x51, aI g (p_r2 12) 8 f_r2_12_x51, aI g (p_r2 14) 4 f_r2_14_x51, aI g (p_r2 15) 4 f_r2_15_x51, oX7 (p_r2 16) p_r2_16 o_r2_16_x51, aI g (p_r2_16 1) 5 f_r2_16_1_x51, aI g (p_r2_16 2) 5 f_r2_16_2_x51, aI g (p_r2_16 4) 6 f_r2_16_4_x51, aI g (p_r2_16 5) 6 f_r2_16_5_x51, aI g (p_r2_16 6) 6 f_r2_16_6_x51]) (As := []) (rest := []) (ci := 5) (q0 := 0) C0 (mX5_failed l g a_t p_t n o_t_x51 c_t_x51 u_66 hu_67) (cwV 0 hts gX5_read_X5_failed rfl rfl rfl (by decide +kernel) ⟨Nat.le_of_ble_eq_true rfl, Nat.le_of_ble_eq_true rfl⟩) hP hD hS [20] [0, 1, 2, 3, 4, 5, 6, 7, 8, 9, 10, 11, 12, 13, 14, 15, 16, 17, 18, 19] rfl rfl rfl rfl rfl (by decide) rfl rfl hl.1 rfl rfl (Nat.le_of_ble_eq_true rfl) ⟨Nat.zero_le _, Nat.zero_le _⟩ dX5_read_110 ?_
        intro H locs hP hD hS
        refine lv_if_ne (tgt := 120) hx hb dX5_read_113 (by decide) (fun c_68 => ?_) (fun c_68 => ?_)
        · have hF := it_n c_68 hF
          refine lv_iconst (v := (0 : Int32)) hx hb dX5_read_120 (by decide) ?_
          cases hF
          exact ret_z C0 hP hD hS [20, 0, 1, 2, 3, 4, 5, 6, 7, 8, 9, 10, 11, 12, 13, 14, 15, 16, 17, 18, 19] rfl rfl rfl dX5_read_121 rfl rfl
        · have hF := it_p c_68 hF
          refine lv_iconst (v := (1 : Int32)) hx hb dX5_read_116 (by decide) ?_
          refine lv_goto (tgt := 121) hx hb dX5_read_117 (by decide) ?_
          cases hF
          exact ret_z C0 hP hD hS [20, 0, 1, 2, 3, 4, 5, 6, 7, 8, 9, 10, 11, 12, 13, 14, 15, 16, 17, 18, 19] rfl rfl rfl dX5_read_121 rfl rfl
      · have hF := it_p c_65 hF
        refine lv_aload_n hx hb dX5_read_102 rfl (lv_at hl 0 rfl) ?_
        refine lv_bipush (v := (6 : Int32)) hx hb dX5_read_103 (by decide) ?_
        obtain ⟨u_69, u_70, u_71, hu_72, hF⟩ := ob3_some hF
        refine call_i (wr := [aI g (p_t 0) 800 f_t_0, aJ g (p_t 12) 16 f_t_12_x51, aI g (p_t 13) 16 f_t_13_x51, aI g (p_t 14) 16 f_t_14_x51, oX1 a_r2 p_r2 o_r2_x51, aI g (p_r2 4) 7 f_r2_4_x51, aI g (p_r2 5) 7 f_r2_5_x51, aI g (p_r2 6) 7 f_r2_6_x51, aI g (p_r2 7) 7 f_r2_7_x51, aI g (p_r2 10) 8 f_r2_10_x51, aI g (p_r2 11) 8 f_r2_11_x51, aI g (p_r2 12) 8 f_r2_12_x51, aI g (p_r2 14) 4 f_r2_14_x51, aI g (p_r2 15) 4 f_r2_15_x51, oX7 (p_r2 16) p_r2_16 o_r2_16_x51, aI g (p_r2_16 1) 5 f_r2_16_1_x51, aI g (p_r2_16 2) 5 f_r2_16_2_x51, aI g (p_r2_16 4) 6 f_r2_16_4_x51, aI g (p_r2_16 5) 6 f_r2_16_5_x51, aI g (p_r2_16 6) 6 f_r2_16_6_x51]) (As := [.int (6 : Int32)]) (rest := []) (ci := 5) (q0 := 0) C0 (mX5_fail l g a_t p_t n (6 : Int32) o_t_x51 c_t_x51 u_69 u_70 u_71 hu_72) (cwV 1 hts gX5_read_X5_fail rfl rfl rfl (by decide +kernel) ⟨Nat.le_of_ble_eq_true rfl, Nat.le_of_ble_eq_true rfl⟩) hP hD hS [20] [0, 1, 2, 3, 4, 5, 6, 7, 8, 9, 10, 11, 12, 13, 14, 15, 16, 17, 18, 19] rfl rfl rfl rfl rfl (by decide) rfl rfl hl.1 rfl rfl (Nat.le_of_ble_eq_true rfl) ⟨Nat.zero_le _, Nat.zero_le _⟩ dX5_read_105 ?_
        intro H locs hP hD hS
        refine lv_pop hx hb dX5_read_108 rfl ?_
        refine lv_aload_n hx hb dX5_read_109 rfl (lv_at hl 0 rfl) ?_
        obtain ⟨u_73, hu_74, hF⟩ := ob1_some hF
        refine call_i (wr := [aI g (p_t 0) 800 f_t_0, aJ g (p_t 12) 16 f_t_12_x51, aI g (p_t 13) 16 f_t_13_x51, aI g (p_t 14) 16 f_t_14_x51, oX1 a_r2 p_r2 o_r2_x51, aI g (p_r2 4) 7 f_r2_4_x51, aI g (p_r2 5) 7 f_r2_5_x51, aI g (p_r2 6) 7 f_r2_6_x51, aI g (p_r2 7) 7 f_r2_7_x51, aI g (p_r2 10) 8 f_r2_10_x51, aI g (p_r2 11) 8 f_r2_11_x51, aI g (p_r2 12) 8 f_r2_12_x51, aI g (p_r2 14) 4 f_r2_14_x51, aI g (p_r2 15) 4 f_r2_15_x51, oX7 (p_r2 16) p_r2_16 o_r2_16_x51, aI g (p_r2_16 1) 5 f_r2_16_1_x51, aI g (p_r2_16 2) 5 f_r2_16_2_x51, aI g (p_r2_16 4) 6 f_r2_16_4_x51, aI g (p_r2_16 5) 6 f_r2_16_5_x51, aI g (p_r2_16 6) 6 f_r2_16_6_x51]) (As := []) (rest := []) (ci := 5) (q0 := 0) C0 (mX5_failed l g a_t p_t n u_70 u_71 u_73 hu_74) (cwV 0 hts gX5_read_X5_failed rfl rfl rfl (by decide +kernel) ⟨Nat.le_of_ble_eq_true rfl, Nat.le_of_ble_eq_true rfl⟩) hP hD hS [20] [0, 1, 2, 3, 4, 5, 6, 7, 8, 9, 10, 11, 12, 13, 14, 15, 16, 17, 18, 19] rfl rfl rfl rfl rfl (by decide) rfl rfl hl.1 rfl rfl (Nat.le_of_ble_eq_true rfl) ⟨Nat.zero_le _, Nat.zero_le _⟩ dX5_read_110 ?_
        intro H locs hP hD hS
        refine lv_if_ne (tgt := 120) hx hb dX5_read_113 (by decide) (fun c_75 => ?_) (fun c_75 => ?_)
        · have hF := it_n c_75 hF
          refine lv_iconst (v := (0 : Int32)) hx hb dX5_read_120 (by decide) ?_
          cases hF
          exact ret_z C0 hP hD hS [20, 0, 1, 2, 3, 4, 5, 6, 7, 8, 9, 10, 11, 12, 13, 14, 15, 16, 17, 18, 19] rfl rfl rfl dX5_read_121 rfl rfl
        · have hF := it_p c_75 hF
          refine lv_iconst (v := (1 : Int32)) hx hb dX5_read_116 (by decide) ?_
          refine lv_goto (tgt := 121) hx hb dX5_read_117 (by decide) ?_
          cases hF
          exact ret_z C0 hP hD hS [20, 0, 1, 2, 3, 4, 5, 6, 7, 8, 9, 10, 11, 12, 13, 14, 15, 16, 17, 18, 19] rfl rfl rfl dX5_read_121 rfl rfl

