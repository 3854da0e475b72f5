theorem dAX9_keeps : ∀ q ∈ ([(0, (.aload_n 0, 1)), (1, (.iload_n 1, 1)), (2, (.invokevirtual 118, 3)), (5, (.ifCond .eq 12, 3)), (8, (.aload_n 0, 1)), (9, (.iload_n 2, 1)), (10, (.iload_n 3, 1)), (11, (.invokevirtual 297, 3)), (14, (.ifCond .ne 5, 3)), (17, (.iconst (-1), 1)), (18, (.ireturn, 1)), (19, (.aload_n 0, 1)), (20, (.getfield 53, 3)), (23, (.iload_n 2, 1)), (24, (.putfield 291, 3)), (27, (.iconst 0, 1)), (28, (.istore 4, 2)), (30, (.iconst 0, 1)), (31, (.istore 5, 2)), (33, (.iload 5, 2)), (35, (.iload_n 3, 1)), (36, (.if_icmp .ge 35, 3)), (39, (.aload_n 0, 1)), (40, (.invokevirtual 294, 3)), (43, (.bipush 60, 2)), (45, (.if_icmp .gt 20, 3)), (48, (.aload_n 0, 1)), (49, (.getfield 41, 3)), (52, (.getfield 200, 3)), (55, (.iload_n 1, 1)), (56, (.invokestatic 181, 3)), (59, (.ifCond .eq 6, 3)), (62, (.iinc 4 1, 3)), (65, (.iinc 5 1, 3)), (68, (.goto (-35), 3)), (71, (.iload 4, 2)), (73, (.ireturn, 1))] : List (Nat × (Instr × Nat))), decode cX9_keeps q.1 = .ok q.2 := by decide +kernel
theorem dX9_keeps_0 : decode cX9_keeps 0 = .ok (.aload_n 0, 1) := dAX9_keeps (0, (.aload_n 0, 1)) (List.mem_of_getElem? (i := 0) rfl)
theorem dX9_keeps_1 : decode cX9_keeps 1 = .ok (.iload_n 1, 1) := dAX9_keeps (1, (.iload_n 1, 1)) (List.mem_of_getElem? (i := 1) rfl)
theorem dX9_keeps_2 : decode cX9_keeps 2 = .ok (.invokevirtual 118, 3) := dAX9_keeps (2, (.invokevirtual 118, 3)) (List.mem_of_getElem? (i := 2) rfl)
theorem dX9_keeps_5 : decode cX9_keeps 5 = .ok (.ifCond .eq 12, 3) := dAX9_keeps (5, (.ifCond .eq 12, 3)) (List.mem_of_getElem? (i := 3) rfl)
theorem dX9_keeps_8 : decode cX9_keeps 8 = .ok (.aload_n 0, 1) := dAX9_keeps (8, (.aload_n 0, 1)) (List.mem_of_getElem? (i := 4) rfl)
theorem dX9_keeps_9 : decode cX9_keeps 9 = .ok (.iload_n 2, 1) := dAX9_keeps (9, (.iload_n 2, 1)) (List.mem_of_getElem? (i := 5) rfl)
theorem dX9_keeps_10 : decode cX9_keeps 10 = .ok (.iload_n 3, 1) := dAX9_keeps (10, (.iload_n 3, 1)) (List.mem_of_getElem? (i := 6) rfl)
theorem dX9_keeps_11 : decode cX9_keeps 11 = .ok (.invokevirtual 297, 3) := dAX9_keeps (11, (.invokevirtual 297, 3)) (List.mem_of_getElem? (i := 7) rfl)
theorem dX9_keeps_14 : decode cX9_keeps 14 = .ok (.ifCond .ne 5, 3) := dAX9_keeps (14, (.ifCond .ne 5, 3)) (List.mem_of_getElem? (i := 8) rfl)
theorem dX9_keeps_17 : decode cX9_keeps 17 = .ok (.iconst (-1), 1) := dAX9_keeps (17, (.iconst (-1), 1)) (List.mem_of_getElem? (i := 9) rfl)
theorem dX9_keeps_18 : decode cX9_keeps 18 = .ok (.ireturn, 1) := dAX9_keeps (18, (.ireturn, 1)) (List.mem_of_getElem? (i := 10) rfl)
theorem dX9_keeps_19 : decode cX9_keeps 19 = .ok (.aload_n 0, 1) := dAX9_keeps (19, (.aload_n 0, 1)) (List.mem_of_getElem? (i := 11) rfl)
theorem dX9_keeps_20 : decode cX9_keeps 20 = .ok (.getfield 53, 3) := dAX9_keeps (20, (.getfield 53, 3)) (List.mem_of_getElem? (i := 12) rfl)
theorem dX9_keeps_23 : decode cX9_keeps 23 = .ok (.iload_n 2, 1) := dAX9_keeps (23, (.iload_n 2, 1)) (List.mem_of_getElem? (i := 13) rfl)
theorem dX9_keeps_24 : decode cX9_keeps 24 = .ok (.putfield 291, 3) := dAX9_keeps (24, (.putfield 291, 3)) (List.mem_of_getElem? (i := 14) rfl)
theorem dX9_keeps_27 : decode cX9_keeps 27 = .ok (.iconst 0, 1) := dAX9_keeps (27, (.iconst 0, 1)) (List.mem_of_getElem? (i := 15) rfl)
theorem dX9_keeps_28 : decode cX9_keeps 28 = .ok (.istore 4, 2) := dAX9_keeps (28, (.istore 4, 2)) (List.mem_of_getElem? (i := 16) rfl)
theorem dX9_keeps_30 : decode cX9_keeps 30 = .ok (.iconst 0, 1) := dAX9_keeps (30, (.iconst 0, 1)) (List.mem_of_getElem? (i := 17) rfl)
theorem dX9_keeps_31 : decode cX9_keeps 31 = .ok (.istore 5, 2) := dAX9_keeps (31, (.istore 5, 2)) (List.mem_of_getElem? (i := 18) rfl)
theorem dX9_keeps_33 : decode cX9_keeps 33 = .ok (.iload 5, 2) := dAX9_keeps (33, (.iload 5, 2)) (List.mem_of_getElem? (i := 19) rfl)
theorem dX9_keeps_35 : decode cX9_keeps 35 = .ok (.iload_n 3, 1) := dAX9_keeps (35, (.iload_n 3, 1)) (List.mem_of_getElem? (i := 20) rfl)
theorem dX9_keeps_36 : decode cX9_keeps 36 = .ok (.if_icmp .ge 35, 3) := dAX9_keeps (36, (.if_icmp .ge 35, 3)) (List.mem_of_getElem? (i := 21) rfl)
theorem dX9_keeps_39 : decode cX9_keeps 39 = .ok (.aload_n 0, 1) := dAX9_keeps (39, (.aload_n 0, 1)) (List.mem_of_getElem? (i := 22) rfl)
theorem dX9_keeps_40 : decode cX9_keeps 40 = .ok (.invokevirtual 294, 3) := dAX9_keeps (40, (.invokevirtual 294, 3)) (List.mem_of_getElem? (i := 23) rfl)
theorem dX9_keeps_43 : decode cX9_keeps 43 = .ok (.bipush 60, 2) := dAX9_keeps (43, (.bipush 60, 2)) (List.mem_of_getElem? (i := 24) rfl)
theorem dX9_keeps_45 : decode cX9_keeps 45 = .ok (.if_icmp .gt 20, 3) := dAX9_keeps (45, (.if_icmp .gt 20, 3)) (List.mem_of_getElem? (i := 25) rfl)
theorem dX9_keeps_48 : decode cX9_keeps 48 = .ok (.aload_n 0, 1) := dAX9_keeps (48, (.aload_n 0, 1)) (List.mem_of_getElem? (i := 26) rfl)
theorem dX9_keeps_49 : decode cX9_keeps 49 = .ok (.getfield 41, 3) := dAX9_keeps (49, (.getfield 41, 3)) (List.mem_of_getElem? (i := 27) rfl)
theorem dX9_keeps_52 : decode cX9_keeps 52 = .ok (.getfield 200, 3) := dAX9_keeps (52, (.getfield 200, 3)) (List.mem_of_getElem? (i := 28) rfl)
theorem dX9_keeps_55 : decode cX9_keeps 55 = .ok (.iload_n 1, 1) := dAX9_keeps (55, (.iload_n 1, 1)) (List.mem_of_getElem? (i := 29) rfl)
theorem dX9_keeps_56 : decode cX9_keeps 56 = .ok (.invokestatic 181, 3) := dAX9_keeps (56, (.invokestatic 181, 3)) (List.mem_of_getElem? (i := 30) rfl)
theorem dX9_keeps_59 : decode cX9_keeps 59 = .ok (.ifCond .eq 6, 3) := dAX9_keeps (59, (.ifCond .eq 6, 3)) (List.mem_of_getElem? (i := 31) rfl)
theorem dX9_keeps_62 : decode cX9_keeps 62 = .ok (.iinc 4 1, 3) := dAX9_keeps (62, (.iinc 4 1, 3)) (List.mem_of_getElem? (i := 32) rfl)
theorem dX9_keeps_65 : decode cX9_keeps 65 = .ok (.iinc 5 1, 3) := dAX9_keeps (65, (.iinc 5 1, 3)) (List.mem_of_getElem? (i := 33) rfl)
theorem dX9_keeps_68 : decode cX9_keeps 68 = .ok (.goto (-35), 3) := dAX9_keeps (68, (.goto (-35), 3)) (List.mem_of_getElem? (i := 34) rfl)
theorem dX9_keeps_71 : decode cX9_keeps 71 = .ok (.iload 4, 2) := dAX9_keeps (71, (.iload 4, 2)) (List.mem_of_getElem? (i := 35) rfl)
theorem dX9_keeps_73 : decode cX9_keeps 73 = .ok (.ireturn, 1) := dAX9_keeps (73, (.ireturn, 1)) (List.mem_of_getElem? (i := 36) rfl)
set_option maxRecDepth 20000 in
theorem ggX9_keeps_X9_guestAsked : GoodIn wsX9_keeps wsX9_guestAsked := goodIn_r _ [9, 10, 11, 12, 93, 94, 95, 96, 97, 98, 99, 100, 101, 102, 103, 104, 105, 106, 107, 119, 120, 121, 122, 123, 124, 125, 126, 127, 128, 129, 130, 131, 132, 133, 134, 135] rfl (by decide +kernel)
set_option maxRecDepth 20000 in
theorem gX9_keeps_X9_guestAsked : GoodIn wsX9_keeps (wsV RX9 118 RX9 yX9_guestAsked wsX9_guestAsked) := goodIn_app (goodIn_of _ (by decide +kernel)) ggX9_keeps_X9_guestAsked
set_option maxRecDepth 20000 in
theorem ggX9_keeps_X9_drawsAsked : GoodIn wsX9_keeps wsX9_drawsAsked := goodIn_r _ [16, 17, 18, 19, 20, 8, 21, 12, 93, 94, 95, 96, 97, 98, 99, 100, 101, 102, 103, 104, 105, 106, 107] rfl (by decide +kernel)
set_option maxRecDepth 20000 in
theorem gX9_keeps_X9_drawsAsked : GoodIn wsX9_keeps (wsV RX9 297 RX9 yX9_drawsAsked wsX9_drawsAsked) := goodIn_app (goodIn_of _ (by decide +kernel)) ggX9_keeps_X9_drawsAsked
set_option maxRecDepth 20000 in
theorem ggX9_keeps_X9_endsDrawn : GoodIn wsX9_keeps wsX9_endsDrawn := goodIn_r _ [25, 3, 26, 10, 1, 27, 28, 29, 30, 31, 32, 33, 34, 35, 36, 37, 38, 39, 40, 41, 42, 43, 44, 45, 46, 47, 48, 49, 50, 51, 52, 53, 54, 55, 56, 57, 58, 59, 60, 61, 62, 63, 64, 65, 66, 67, 68, 69, 70, 71, 72, 73, 74, 75, 76, 77, 78, 79, 80, 81, 82, 83, 84, 85, 86, 87, 88, 89, 93, 94, 95, 96, 97, 98, 99, 100, 101, 102, 103, 104, 105, 106, 107, 110, 111, 112, 113, 114, 115, 116, 117, 118, 119, 120, 121, 122, 123, 124, 125, 126, 127, 128, 129, 130, 131, 132, 133, 134, 135, 108, 109] rfl (by decide +kernel)
set_option maxRecDepth 20000 in
theorem gX9_keeps_X9_endsDrawn : GoodIn wsX9_keeps (wsV RX9 294 RX9 yX9_endsDrawn wsX9_endsDrawn) := goodIn_app (goodIn_of _ (by decide +kernel)) ggX9_keeps_X9_endsDrawn
set_option maxRecDepth 20000 in
theorem ggX9_keeps_X9_inBits : GoodIn wsX9_keeps wsX9_inBits := goodIn_r _ [92] rfl (by decide +kernel)
set_option maxRecDepth 20000 in
theorem gX9_keeps_X9_inBits : GoodIn wsX9_keeps (va_wsS RX9 181 yX9_inBits wsX9_inBits) := goodIn_app (goodIn_of _ (by decide +kernel)) ggX9_keeps_X9_inBits
theorem kX9_keeps_53 : Cond.fieldLink RX9 53 "EveningVow" "byDraws" "LEveningVow$Pace;" ∈ wsX9_keeps := List.mem_of_getElem? (i := 1) rfl
theorem iX9_keeps_X9 : ∀ w ∈ u_ws RX9 TX9 15, w ∈ wsX9_keeps := fun w h => (List.mem_cons_of_mem _ (List.mem_append_left _ (List.mem_append_left _ (List.mem_append_left _ (List.mem_append_right _ h)))))
theorem kX9_keeps_291 : Cond.fieldLink RX9 291 "EveningVow$Pace" "seed" "I" ∈ wsX9_keeps := List.mem_of_getElem? (i := 2) rfl
theorem iX9_keeps_X3 : ∀ w ∈ u_ws RX3 TX3 2, w ∈ wsX9_keeps := fun w h => (List.mem_cons_of_mem _ (List.mem_append_left _ (List.mem_append_left _ (List.mem_append_right _ h))))
theorem kX9_keeps_41 : Cond.fieldLink RX9 41 "EveningVow" "trial" "LEveningVow$Night;" ∈ wsX9_keeps := List.mem_of_getElem? (i := 3) rfl
theorem kX9_keeps_200 : Cond.fieldLink RX9 200 "EveningVow$Night" "leftLatest" "I" ∈ wsX9_keeps := List.mem_of_getElem? (i := 4) rfl
theorem iX9_keeps_X2 : ∀ w ∈ u_ws RX2 TX2 9, w ∈ wsX9_keeps := fun w h => (List.mem_cons_of_mem _ (List.mem_append_left _ (List.mem_append_right _ h)))
set_option maxHeartbeats 4000000 in
set_option maxRecDepth 100000 in
theorem wX9_keeps_L33 {p : Program} {l : Launch} {e : Env} {s : State} {m : MethodId} {args : Array Value} {below : List Frame} {meth : Method} {c : Code} {g : GG} {A : Nat → Prop} (C0 : Cx p s m args meth c cX9_keeps 6 (some .int) RX9 wsX9_keeps g A) (a_t : Nat) (p_t : Nat → Nat) (p_t_1 : Nat → Nat) (p_t_5 : Nat → Nat) (p_t_6 : Nat → Nat) (p_t_8 : Nat → Nat) (n : Nat) (x1 : Int32) (x3 : Int32) (o_t : Nat → Int32) (o_t_1 : Nat → Int32) (f_t_1_4 : Nat → Int32) (f_t_1_6 : Nat → Int32) (f_t_1_7 : Nat → Int32) (f_t_1_10 : Nat → Int32) (f_t_1_11 : Nat → Int32) (f_t_1_12 : Nat → Int32) (o_t_5 : Nat → Int32) (f_t_5_6 : Nat → Int32) (f_t_5_7 : Nat → Int32)  (r : Int32) (o_t' : Nat → Int32) (o_t_6' : Nat → Int32) (f_t_6_6' : Nat → Int32) (f_t_6_7' : Nat → Int32) (f_t_6_8' : Nat → Int32) (o_t_8' : Nat → Int32) (K : Int32 → (Nat → Int32) → (Nat → Int32) → (Nat → Int32) → (Nat → Int32) → (Nat → Int32) → Option (Int32 × (Nat → Int32) × (Nat → Int32) × (Nat → Int32) × (Nat → Int32) × (Nat → Int32) × (Nat → Int32))) (hKx : ∀ (x4 : Int32) (o_t_6 : Nat → Int32) (f_t_6_6 : Nat → Int32) (f_t_6_7 : Nat → Int32) (f_t_6_8 : Nat → Int32) (o_t_8 : Nat → Int32) (H : Heap) (locs : List Loc) (ls : Array Slot), K x4 o_t_6 f_t_6_6 f_t_6_7 f_t_6_8 o_t_8 = some (r, o_t', o_t_6', f_t_6_6', f_t_6_7', f_t_6_8', o_t_8') → va_P g.1 vwCl [oX9 a_t p_t o_t, oX1 (p_t 1) p_t_1 o_t_1, aI g (p_t_1 4) 7 f_t_1_4, aI g (p_t_1 6) 7 f_t_1_6, aI g (p_t_1 7) 7 f_t_1_7, aI g (p_t_1 10) 8 f_t_1_10, aI g (p_t_1 11) 8 f_t_1_11, aI g (p_t_1 12) 8 f_t_1_12, oX2 (p_t 5) p_t_5 o_t_5, aI g (p_t_5 6) 7 f_t_5_6, aI g (p_t_5 7) 7 f_t_5_7, oX2 (p_t 6) p_t_6 o_t_6, aI g (p_t_6 6) 7 f_t_6_6, aI g (p_t_6 7) 7 f_t_6_7, aI g (p_t_6 8) 7 f_t_6_8, oX3 (p_t 8) p_t_8 o_t_8] H → va_D A [oX9 a_t p_t o_t, oX1 (p_t 1) p_t_1 o_t_1, aI g (p_t_1 4) 7 f_t_1_4, aI g (p_t_1 6) 7 f_t_1_6, aI g (p_t_1 7) 7 f_t_1_7, aI g (p_t_1 10) 8 f_t_1_10, aI g (p_t_1 11) 8 f_t_1_11, aI g (p_t_1 12) 8 f_t_1_12, oX2 (p_t 5) p_t_5 o_t_5, aI g (p_t_5 6) 7 f_t_5_6, aI g (p_t_5 7) 7 f_t_5_7, oX2 (p_t 6) p_t_6 o_t_6, aI g (p_t_6 6) 7 f_t_6_6, aI g (p_t_6 7) 7 f_t_6_7, aI g (p_t_6 8) 7 f_t_6_8, oX3 (p_t 8) p_t_8 o_t_8] → va_S A s.heap H locs → lv_has ls 6 [(4, .int x4)] → W p l e ({ frames := 5, cells := 0, slots := 0, locals := 115 } : Room) s m args below meth c H locs 0 0 (MQ below (EndI g r [oX9 a_t p_t o_t', oX1 (p_t 1) p_t_1 o_t_1, aI g (p_t_1 4) 7 f_t_1_4, aI g (p_t_1 6) 7 f_t_1_6, aI g (p_t_1 7) 7 f_t_1_7, aI g (p_t_1 10) 8 f_t_1_10, aI g (p_t_1 11) 8 f_t_1_11, aI g (p_t_1 12) 8 f_t_1_12, oX2 (p_t 5) p_t_5 o_t_5, aI g (p_t_5 6) 7 f_t_5_6, aI g (p_t_5 7) 7 f_t_5_7, oX2 (p_t 6) p_t_6 o_t_6', aI g (p_t_6 6) 7 f_t_6_6', aI g (p_t_6 7) 7 f_t_6_7', aI g (p_t_6 8) 7 f_t_6_8', oX3 (p_t 8) p_t_8 o_t_8'] A) args s 0 0 A) (F0 m 71 ls [])) : ∀ (k : Nat) (x4 : Int32) (x5 : Int32) (o_t_6 : Nat → Int32) (f_t_6_6 : Nat → Int32) (f_t_6_7 : Nat → Int32) (f_t_6_8 : Nat → Int32) (o_t_8 : Nat → Int32), fX9_keeps_L33 n x1 x3 o_t o_t_1 f_t_1_4 f_t_1_6 f_t_1_7 f_t_1_10 f_t_1_11 f_t_1_12 o_t_5 f_t_5_6 f_t_5_7 K k x4 x5 o_t_6 f_t_6_6 f_t_6_7 f_t_6_8 o_t_8 = some (r, o_t', o_t_6', f_t_6_6', f_t_6_7', f_t_6_8', o_t_8') → ∀ (H : Heap) (locs : List Loc) (ls : Array Slot), va_P g.1 vwCl [oX9 a_t p_t o_t, oX1 (p_t 1) p_t_1 o_t_1, aI g (p_t_1 4) 7 f_t_1_4, aI g (p_t_1 6) 7 f_t_1_6, aI g (p_t_1 7) 7 f_t_1_7, aI g (p_t_1 10) 8 f_t_1_10, aI g (p_t_1 11) 8 f_t_1_11, aI g (p_t_1 12) 8 f_t_1_12, oX2 (p_t 5) p_t_5 o_t_5, aI g (p_t_5 6) 7 f_t_5_6, aI g (p_t_5 7) 7 f_t_5_7, oX2 (p_t 6) p_t_6 o_t_6, aI g (p_t_6 6) 7 f_t_6_6, aI g (p_t_6 7) 7 f_t_6_7, aI g (p_t_6 8) 7 f_t_6_8, oX3 (p_t 8) p_t_8 o_t_8] H → va_D A [oX9 a_t p_t o_t, oX1 (p_t 1) p_t_1 o_t_1, aI g (p_t_1 4) 7 f_t_1_4, aI g (p_t_1 6) 7 f_t_1_6, aI g (p_t_1 7) 7 f_t_1_7, aI g (p_t_1 10) 8 f_t_1_10, aI g (p_t_1 11) 8 f_t_1_11, aI g (p_t_1 12) 8 f_t_1_12, oX2 (p_t 5) p_t_5 o_t_5, aI g (p_t_5 6) 7 f_t_5_6, aI g (p_t_5 7) 7 f_t_5_7, oX2 (p_t 6) p_t_6 o_t_6, aI g (p_t_6 6) 7 f_t_6_6, aI g (p_t_6 7) 7 f_t_6_7, aI g (p_t_6 8) 7 f_t_6_8, oX3 (p_t 8) p_t_8 o_t_8] → va_S A s.heap H locs → lv_has ls 6 [(0, .ref a_t), (1, .int x1), (3, .int x3), (4, .int x4), (5, .int x5)] → W p l e ({ frames := 5, cells := 0, slots := 0, locals := 115 } : Room) s m args below meth c H locs 0 0 (MQ below (EndI g r [oX9 a_t p_t o_t', oX1 (p_t 1) p_t_1 o_t_1, aI g (p_t_1 4) 7 f_t_1_4, aI g (p_t_1 6) 7 f_t_1_6, aI g (p_t_1 7) 7 f_t_1_7, aI g (p_t_1 10) 8 f_t_1_10, aI g (p_t_1 11) 8 f_t_1_11, aI g (p_t_1 12) 8 f_t_1_12, oX2 (p_t 5) p_t_5 o_t_5, aI g (p_t_5 6) 7 f_t_5_6, aI g (p_t_5 7) 7 f_t_5_7, oX2 (p_t 6) p_t_6 o_t_6', aI g (p_t_6 6) 7 f_t_6_6', aI g (p_t_6 7) 7 f_t_6_7', aI g (p_t_6 8) 7 f_t_6_8', oX3 (p_t 8) p_t_8 o_t_8'] A) args s 0 0 A) (F0 m 33 ls []) := by
  obtain ⟨hx, hb, hml, hown, hts, hr, hlk, hK, hA, hSW⟩ := id C0
  intro k
  induction k with
  | zero =>
    intro x4 x5 o_t_6 f_t_6_6 f_t_6_7 f_t_6_8 o_t_8 hF
    exact absurd hF (by simp [fX9_keeps_L33])
  | succ k ih =>
    intro x4 x5 o_t_6 f_t_6_6 f_t_6_7 f_t_6_8 o_t_8 hF H locs ls hP hD hS hl
    rw [fX9_keeps_L33] at hF
    refine lv_iload hx hb dX9_keeps_33 (lv_at hl 4 rfl) ?_
    refine lv_iload_n hx hb dX9_keeps_35 rfl (lv_at hl 2 rfl) ?_
    refine lv_icmp_ge (tgt := 71) hx hb dX9_keeps_36 (by decide) (fun c_9 => ?_) (fun c_9 => ?_)
    · have hF := it_p c_9 hF
      exact hKx x4 o_t_6 f_t_6_6 f_t_6_7 f_t_6_8 o_t_8 _ _ _ hF (hP.sub [0, 1, 2, 3, 4, 5, 6, 7, 8, 9, 10, 11, 12, 13, 14, 15] rfl) (hD.sub [0, 1, 2, 3, 4, 5, 6, 7, 8, 9, 10, 11, 12, 13, 14, 15] rfl rfl) hS (lv_sub hl [3] rfl)
    · have hF := it_n c_9 hF
      refine lv_aload_n hx hb dX9_keeps_39 rfl (lv_at hl 0 rfl) ?_
      obtain ⟨u_10, u_11, u_12, u_13, u_14, u_15, hu_16, hF⟩ := ob6_some hF
      refine call_i (wr := []) (As := []) (rest := []) (ci := 9) (q0 := 0) C0 (mX9_endsDrawn l g a_t p_t p_t_1 p_t_5 p_t_6 p_t_8 n o_t o_t_1 f_t_1_4 f_t_1_6 f_t_1_7 f_t_1_10 f_t_1_11 f_t_1_12 o_t_5 f_t_5_6 f_t_5_7 o_t_6 f_t_6_6 f_t_6_7 f_t_6_8 o_t_8 u_10 u_11 u_12 u_13 u_14 u_15 hu_16) (cwV 0 hts gX9_keeps_X9_endsDrawn rfl rfl rfl (by decide +kernel) ⟨Nat.le_of_ble_eq_true rfl, Nat.le_of_ble_eq_true rfl⟩) hP hD hS [0, 1, 2, 3, 4, 5, 6, 7, 8, 9, 10, 11, 12, 13, 14, 15] [] rfl rfl rfl rfl rfl (by decide) rfl rfl hl.1 rfl rfl (Nat.le_of_ble_eq_true rfl) ⟨Nat.zero_le _, Nat.zero_le _⟩ dX9_keeps_40 ?_
      intro H locs hP hD hS
      refine lv_bipush (v := (60 : Int32)) hx hb dX9_keeps_43 (by decide) ?_
      refine lv_icmp_gt (tgt := 65) hx hb dX9_keeps_45 (by decide) (fun c_17 => ?_) (fun c_17 => ?_)
      · have hF := it_p c_17 hF
        refine lv_iinc (v := (x5 + (1 : Int32))) (lv' := [(5, .int (x5 + (1 : Int32))), (0, .ref a_t), (1, .int x1), (3, .int x3), (4, .int x4)]) hx hb dX9_keeps_65 hl (k := 4) rfl rfl (by decide) rfl (fun ls hl => ?_)
        refine lv_goto (tgt := 33) hx hb dX9_keeps_68 (by decide) ?_
        exact ih x4 (x5 + (1 : Int32)) u_11 u_12 u_13 u_14 u_15 hF _ _ _ (hP.sub [0, 1, 2, 3, 4, 5, 6, 7, 8, 9, 10, 11, 12, 13, 14, 15] rfl) (hD.sub [0, 1, 2, 3, 4, 5, 6, 7, 8, 9, 10, 11, 12, 13, 14, 15] rfl rfl) hS (lv_sub hl [1, 2, 3, 4, 0] rfl)
      · have hF := it_n c_17 hF
        refine lv_aload_n hx hb dX9_keeps_48 rfl (lv_at hl 0 rfl) ?_
        refine va_get (D := g.1) (ci := 9) (v := .ref (p_t 6)) (C := RX9) (T := TX9) (N := 15) hx hb hts iX9_keeps_X9 hown hK.1 hP 0 rfl rfl 6 (by decide) (hts _ kX9_keeps_41) (fun _ h9 => h9) rfl dX9_keeps_49 ?_
        refine va_get (D := g.1) (ci := 2) (v := .int (u_11 5)) (C := RX2) (T := TX2) (N := 9) hx hb hts iX9_keeps_X2 hown hK.1 hP 11 rfl rfl 5 (by decide) (hts _ kX9_keeps_200) (fun _ h9 => h9) rfl dX9_keeps_52 ?_
        refine lv_iload_n hx hb dX9_keeps_55 rfl (lv_at hl 1 rfl) ?_
        obtain ⟨u_18, hu_19, hF⟩ := ob1_some hF
        refine call_si (wr := [oX9 a_t p_t o_t, oX1 (p_t 1) p_t_1 o_t_1, aI g (p_t_1 4) 7 f_t_1_4, aI g (p_t_1 6) 7 f_t_1_6, aI g (p_t_1 7) 7 f_t_1_7, aI g (p_t_1 10) 8 f_t_1_10, aI g (p_t_1 11) 8 f_t_1_11, aI g (p_t_1 12) 8 f_t_1_12, oX2 (p_t 5) p_t_5 o_t_5, aI g (p_t_5 6) 7 f_t_5_6, aI g (p_t_5 7) 7 f_t_5_7, oX2 (p_t 6) p_t_6 u_11, aI g (p_t_6 6) 7 u_12, aI g (p_t_6 7) 7 u_13, aI g (p_t_6 8) 7 u_14, oX3 (p_t 8) p_t_8 u_15]) (As := [.int (u_11 5), .int x1]) (rest := []) C0 (mX9_inBits l g n (u_11 5) x1 u_18 hu_19) (va_cwS 2 hts gX9_keeps_X9_inBits rfl rfl rfl (by decide +kernel) ⟨Nat.le_of_ble_eq_true rfl, Nat.le_of_ble_eq_true rfl⟩) hP hD hS [] [0, 1, 2, 3, 4, 5, 6, 7, 8, 9, 10, 11, 12, 13, 14, 15] rfl rfl rfl rfl rfl (by decide) hl.1 rfl rfl (Nat.le_of_ble_eq_true rfl) ⟨Nat.zero_le _, Nat.zero_le _⟩ dX9_keeps_56 ?_
        intro H locs hP hD hS
        refine lv_if_eq (tgt := 65) hx hb dX9_keeps_59 (by decide) (fun c_20 => ?_) (fun c_20 => ?_)
        · have hF := it_p c_20 hF
          refine lv_iinc (v := (x5 + (1 : Int32))) (lv' := [(5, .int (x5 + (1 : Int32))), (0, .ref a_t), (1, .int x1), (3, .int x3), (4, .int x4)]) hx hb dX9_keeps_65 hl (k := 4) rfl rfl (by decide) rfl (fun ls hl => ?_)
          refine lv_goto (tgt := 33) hx hb dX9_keeps_68 (by decide) ?_
          exact ih x4 (x5 + (1 : Int32)) u_11 u_12 u_13 u_14 u_15 hF _ _ _ (hP.sub [0, 1, 2, 3, 4, 5, 6, 7, 8, 9, 10, 11, 12, 13, 14, 15] rfl) (hD.sub [0, 1, 2, 3, 4, 5, 6, 7, 8, 9, 10, 11, 12, 13, 14, 15] rfl rfl) hS (lv_sub hl [1, 2, 3, 4, 0] rfl)
        · have hF := it_n c_20 hF
          refine lv_iinc (v := (x4 + (1 : Int32))) (lv' := [(4, .int (x4 + (1 : Int32))), (0, .ref a_t), (1, .int x1), (3, .int x3), (5, .int x5)]) hx hb dX9_keeps_62 hl (k := 3) rfl rfl (by decide) rfl (fun ls hl => ?_)
          refine lv_iinc (v := (x5 + (1 : Int32))) (lv' := [(5, .int (x5 + (1 : Int32))), (4, .int (x4 + (1 : Int32))), (0, .ref a_t), (1, .int x1), (3, .int x3)]) hx hb dX9_keeps_65 hl (k := 4) rfl rfl (by decide) rfl (fun ls hl => ?_)
          refine lv_goto (tgt := 33) hx hb dX9_keeps_68 (by decide) ?_
          exact ih (x4 + (1 : Int32)) (x5 + (1 : Int32)) u_11 u_12 u_13 u_14 u_15 hF _ _ _ (hP.sub [0, 1, 2, 3, 4, 5, 6, 7, 8, 9, 10, 11, 12, 13, 14, 15] rfl) (hD.sub [0, 1, 2, 3, 4, 5, 6, 7, 8, 9, 10, 11, 12, 13, 14, 15] rfl rfl) hS (lv_sub hl [2, 3, 4, 1, 0] rfl)
set_option maxHeartbeats 4000000 in
set_option maxRecDepth 100000 in
theorem mX9_keeps (l : Launch) (g : GG) (a_t : Nat) (p_t : Nat → Nat) (p_t_1 : Nat → Nat) (p_t_5 : Nat → Nat) (p_t_6 : Nat → Nat) (p_t_8 : Nat → Nat) (n : Nat) (x1 : Int32) (x2 : Int32) (x3 : Int32) (o_t : Nat → Int32) (o_t_1 : Nat → Int32) (f_t_1_4 : Nat → Int32) (f_t_1_6 : Nat → Int32) (f_t_1_7 : Nat → Int32) (f_t_1_10 : Nat → Int32) (f_t_1_11 : Nat → Int32) (f_t_1_12 : Nat → Int32) (o_t_5 : Nat → Int32) (f_t_5_6 : Nat → Int32) (f_t_5_7 : Nat → Int32) (o_t_6 : Nat → Int32) (f_t_6_6 : Nat → Int32) (f_t_6_7 : Nat → Int32) (f_t_6_8 : Nat → Int32) (o_t_8 : Nat → Int32) (r : Int32) (o_t' : Nat → Int32) (o_t_6' : Nat → Int32) (f_t_6_6' : Nat → Int32) (f_t_6_7' : Nat → Int32) (f_t_6_8' : Nat → Int32) (o_t_8' : Nat → Int32) (hF : fX9_keeps n x1 x2 x3 o_t o_t_1 f_t_1_4 f_t_1_6 f_t_1_7 f_t_1_10 f_t_1_11 f_t_1_12 o_t_5 f_t_5_6 f_t_5_7 o_t_6 f_t_6_6 f_t_6_7 f_t_6_8 o_t_8 = some (r, o_t', o_t_6', f_t_6_6', f_t_6_7', f_t_6_8', o_t_8')) : MI l g yX9_keeps wsX9_keeps ({ frames := 5, cells := 0, slots := 0, locals := 115 } : Room) [.ref a_t, .int x1, .int x2, .int x3] [oX9 a_t p_t o_t, oX1 (p_t 1) p_t_1 o_t_1, aI g (p_t_1 4) 7 f_t_1_4, aI g (p_t_1 6) 7 f_t_1_6, aI g (p_t_1 7) 7 f_t_1_7, aI g (p_t_1 10) 8 f_t_1_10, aI g (p_t_1 11) 8 f_t_1_11, aI g (p_t_1 12) 8 f_t_1_12, oX2 (p_t 5) p_t_5 o_t_5, aI g (p_t_5 6) 7 f_t_5_6, aI g (p_t_5 7) 7 f_t_5_7, oX2 (p_t 6) p_t_6 o_t_6, aI g (p_t_6 6) 7 f_t_6_6, aI g (p_t_6 7) 7 f_t_6_7, aI g (p_t_6 8) 7 f_t_6_8, oX3 (p_t 8) p_t_8 o_t_8] r [oX9 a_t p_t o_t', oX1 (p_t 1) p_t_1 o_t_1, aI g (p_t_1 4) 7 f_t_1_4, aI g (p_t_1 6) 7 f_t_1_6, aI g (p_t_1 7) 7 f_t_1_7, aI g (p_t_1 10) 8 f_t_1_10, aI g (p_t_1 11) 8 f_t_1_11, aI g (p_t_1 12) 8 f_t_1_12, oX2 (p_t 5) p_t_5 o_t_5, aI g (p_t_5 6) 7 f_t_5_6, aI g (p_t_5 7) 7 f_t_5_7, oX2 (p_t 6) p_t_6 o_t_6', aI g (p_t_6 6) 7 f_t_6_6', aI g (p_t_6 7) 7 f_t_6_7', aI g (p_t_6 8) 7 f_t_6_8', oX3 (p_t 8) p_t_8 o_t_8'] := by
  refine MI.of (cc := cX9_keeps) (maxL := 6) (rt := .int) (own := RX9) rfl rfl (by decide) (Nat.le_of_ble_eq_true rfl) ?_
  intro p e s m args below meth c A C0 hP hD hS ls hl
  obtain ⟨hx, hb, hml, hown, hts, hr, hlk, hK, hA, hSW⟩ := id C0
  have hl : lv_has ls 6 [(0, .ref a_t), (1, .int x1), (2, .int x2), (3, .int x3)] := hl
  rw [fX9_keeps] at hF
  refine lv_aload_n hx hb dX9_keeps_0 rfl (lv_at hl 0 rfl) ?_
  refine lv_iload_n hx hb dX9_keeps_1 rfl (lv_at hl 1 rfl) ?_
  obtain ⟨u_1, u_2, hu_3, hF⟩ := ob2_some hF
  refine call_i (wr := [aI g (p_t_1 4) 7 f_t_1_4, aI g (p_t_1 6) 7 f_t_1_6, aI g (p_t_1 7) 7 f_t_1_7, aI g (p_t_1 10) 8 f_t_1_10, aI g (p_t_1 11) 8 f_t_1_11, aI g (p_t_1 12) 8 f_t_1_12, oX2 (p_t 5) p_t_5 o_t_5, aI g (p_t_5 6) 7 f_t_5_6, aI g (p_t_5 7) 7 f_t_5_7, oX2 (p_t 6) p_t_6 o_t_6, aI g (p_t_6 6) 7 f_t_6_6, aI g (p_t_6 7) 7 f_t_6_7, aI g (p_t_6 8) 7 f_t_6_8, oX3 (p_t 8) p_t_8 o_t_8]) (As := [.int x1]) (rest := []) (ci := 9) (q0 := 0) C0 (mX9_guestAsked l g a_t p_t p_t_1 n x1 o_t o_t_1 u_1 u_2 hu_3) (cwV 1 hts gX9_keeps_X9_guestAsked rfl rfl rfl (by decide +kernel) ⟨Nat.le_of_ble_eq_true rfl, Nat.le_of_ble_eq_true rfl⟩) hP hD hS [0, 1] [2, 3, 4, 5, 6, 7, 8, 9, 10, 11, 12, 13, 14, 15] rfl rfl rfl rfl rfl (by decide) rfl rfl hl.1 rfl rfl (Nat.le_of_ble_eq_true rfl) ⟨Nat.zero_le _, Nat.zero_le _⟩ dX9_keeps_2 ?_
  intro H locs hP hD hS
  refine lv_if_eq (tgt := 17) hx hb dX9_keeps_5 (by decide) (fun c_4 => ?_) (fun c_4 => ?_)
  · have hF := it_p c_4 hF
    refine lv_iconst (v := (-1 : Int32)) hx hb dX9_keeps_17 (by decide) ?_
    cases hF
    exact ret_i C0 hP hD hS [14, 15, 0, 1, 2, 3, 4, 5, 6, 7, 8, 9, 10, 11, 12, 13] rfl rfl rfl dX9_keeps_18 rfl
  · have hF := it_n c_4 hF
    refine lv_aload_n hx hb dX9_keeps_8 rfl (lv_at hl 0 rfl) ?_
    refine lv_iload_n hx hb dX9_keeps_9 rfl (lv_at hl 2 rfl) ?_
    refine lv_iload_n hx hb dX9_keeps_10 rfl (lv_at hl 3 rfl) ?_
    obtain ⟨u_5, u_6, hu_7, hF⟩ := ob2_some hF
    refine call_i (wr := [aI g (p_t_1 4) 7 f_t_1_4, aI g (p_t_1 6) 7 f_t_1_6, aI g (p_t_1 7) 7 f_t_1_7, aI g (p_t_1 10) 8 f_t_1_10, aI g (p_t_1 11) 8 f_t_1_11, aI g (p_t_1 12) 8 f_t_1_12, oX2 (p_t 5) p_t_5 o_t_5, aI g (p_t_5 6) 7 f_t_5_6, aI g (p_t_5 7) 7 f_t_5_7, oX2 (p_t 6) p_t_6 o_t_6, aI g (p_t_6 6) 7 f_t_6_6, aI g (p_t_6 7) 7 f_t_6_7, aI g (p_t_6 8) 7 f_t_6_8, oX3 (p_t 8) p_t_8 o_t_8, oX1 (p_t 1) p_t_1 o_t_1]) (As := [.int x2, .int x3]) (rest := []) (ci := 9) (q0 := 0) C0 (mX9_drawsAsked l g a_t p_t n x2 x3 u_2 u_5 u_6 hu_7) (cwV 2 hts gX9_keeps_X9_drawsAsked rfl rfl rfl (by decide +kernel) ⟨Nat.le_of_ble_eq_true rfl, Nat.le_of_ble_eq_true rfl⟩) hP hD hS [14] [0, 1, 2, 3, 4, 5, 6, 7, 8, 9, 10, 11, 12, 13, 15] rfl rfl rfl rfl rfl (by decide) rfl rfl hl.1 rfl rfl (Nat.le_of_ble_eq_true rfl) ⟨Nat.zero_le _, Nat.zero_le _⟩ dX9_keeps_11 ?_
    intro H locs hP hD hS
    refine lv_if_ne (tgt := 19) hx hb dX9_keeps_14 (by decide) (fun c_8 => ?_) (fun c_8 => ?_)
    · have hF := it_n c_8 hF
      refine lv_aload_n hx hb dX9_keeps_19 rfl (lv_at hl 0 rfl) ?_
      refine va_get (D := g.1) (ci := 9) (v := .ref (p_t 8)) (C := RX9) (T := TX9) (N := 15) hx hb hts iX9_keeps_X9 hown hK.1 hP 15 rfl rfl 8 (by decide) (hts _ kX9_keeps_53) (fun _ h9 => h9) rfl dX9_keeps_20 ?_
      refine lv_iload_n hx hb dX9_keeps_23 rfl (lv_at hl 2 rfl) ?_
      refine va_put (D := g.1) (ci := 3) (v := .int x2) (ty := .int) (C := RX3) (T := TX3) (N := 2) hx hb hts iX9_keeps_X3 tyX3 tyX3_ok nmX3 hown hK.1 hP hD hS 13 rfl rfl 1 (by decide) (hts _ kX9_keeps_291) (fun _ h9 => h9) rfl (by decide +kernel) rfl rfl (Nat.le_of_ble_eq_true rfl) dX9_keeps_24 (fun H locs hP hD hS => ?_)
      have hP : va_P g.1 vwCl [aI g (p_t_1 4) 7 f_t_1_4, aI g (p_t_1 6) 7 f_t_1_6, aI g (p_t_1 7) 7 f_t_1_7, aI g (p_t_1 10) 8 f_t_1_10, aI g (p_t_1 11) 8 f_t_1_11, aI g (p_t_1 12) 8 f_t_1_12, oX2 (p_t 5) p_t_5 o_t_5, aI g (p_t_5 6) 7 f_t_5_6, aI g (p_t_5 7) 7 f_t_5_7, oX2 (p_t 6) p_t_6 o_t_6, aI g (p_t_6 6) 7 f_t_6_6, aI g (p_t_6 7) 7 f_t_6_7, aI g (p_t_6 8) 7 f_t_6_8, oX3 (p_t 8) p_t_8 (upd o_t_8 1 x2), oX1 (p_t 1) p_t_1 o_t_1, oX9 a_t p_t u_6] H := hP
      have hD : va_D A [aI g (p_t_1 4) 7 f_t_1_4, aI g (p_t_1 6) 7 f_t_1_6, aI g (p_t_1 7) 7 f_t_1_7, aI g (p_t_1 10) 8 f_t_1_10, aI g (p_t_1 11) 8 f_t_1_11, aI g (p_t_1 12) 8 f_t_1_12, oX2 (p_t 5) p_t_5 o_t_5, aI g (p_t_5 6) 7 f_t_5_6, aI g (p_t_5 7) 7 f_t_5_7, oX2 (p_t 6) p_t_6 o_t_6, aI g (p_t_6 6) 7 f_t_6_6, aI g (p_t_6 7) 7 f_t_6_7, aI g (p_t_6 8) 7 f_t_6_8, oX3 (p_t 8) p_t_8 (upd o_t_8 1 x2), oX1 (p_t 1) p_t_1 o_t_1, oX9 a_t p_t u_6] := hD
      refine lv_iconst (v := (0 : Int32)) hx hb dX9_keeps_27 (by decide) ?_
      refine lv_istore (lv' := [(4, .int (0 : Int32)), (0, .ref a_t), (1, .int x1), (2, .int x2), (3, .int x3)]) hx hb dX9_keeps_28 hl (by decide) rfl (fun ls hl => ?_)
      refine lv_iconst (v := (0 : Int32)) hx hb dX9_keeps_30 (by decide) ?_
      refine lv_istore (lv' := [(5, .int (0 : Int32)), (4, .int (0 : Int32)), (0, .ref a_t), (1, .int x1), (2, .int x2), (3, .int x3)]) hx hb dX9_keeps_31 hl (by decide) rfl (fun ls hl => ?_)
      refine wX9_keeps_L33 C0 a_t p_t p_t_1 p_t_5 p_t_6 p_t_8 n x1 x3 u_6 o_t_1 f_t_1_4 f_t_1_6 f_t_1_7 f_t_1_10 f_t_1_11 f_t_1_12 o_t_5 f_t_5_6 f_t_5_7 r o_t' o_t_6' f_t_6_6' f_t_6_7' f_t_6_8' o_t_8' _ ?_ n (0 : Int32) (0 : Int32) o_t_6 f_t_6_6 f_t_6_7 f_t_6_8 (upd o_t_8 1 x2) hF _ _ _ (hP.sub [15, 14, 0, 1, 2, 3, 4, 5, 6, 7, 8, 9, 10, 11, 12, 13] rfl) (hD.sub [15, 14, 0, 1, 2, 3, 4, 5, 6, 7, 8, 9, 10, 11, 12, 13] rfl rfl) hS (lv_sub hl [2, 3, 5, 1, 0] rfl)
      · intro x4_x33 o_t_6_x33 f_t_6_6_x33 f_t_6_7_x33 f_t_6_8_x33 o_t_8_x33 H locs ls hF hP hD hS hl
        refine lv_iload hx hb dX9_keeps_71 (lv_at hl 0 rfl) ?_
        cases hF
        exact ret_i C0 hP hD hS [0, 1, 2, 3, 4, 5, 6, 7, 8, 9, 10, 11, 12, 13, 14, 15] rfl rfl rfl dX9_keeps_73 rfl
    · have hF := it_p c_8 hF
      refine lv_iconst (v := (-1 : Int32)) hx hb dX9_keeps_17 (by decide) ?_
      cases hF
      exact ret_i C0 hP hD hS [15, 14, 0, 1, 2, 3, 4, 5, 6, 7, 8, 9, 10, 11, 12, 13] rfl rfl rfl dX9_keeps_18 rfl

theorem dAX9_size : ∀ q ∈ ([(0, (.iload_n 1, 1)), (1, (.tableswitch 189 0 13 #[71, 79, 87, 95, 103, 111, 119, 127, 138, 149, 157, 168, 176, 181], 71)), (72, (.aload_n 0, 1)), (73, (.getfield 37, 3)), (76, (.getfield 308, 3)), (79, (.ireturn, 1)), (80, (.aload_n 0, 1)), (81, (.getfield 19, 3)), (84, (.getfield 311, 3)), (87, (.ireturn, 1)), (88, (.aload_n 0, 1)), (89, (.getfield 19, 3)), (92, (.getfield 212, 3)), (95, (.ireturn, 1)), (96, (.aload_n 0, 1)), (97, (.getfield 19, 3)), (100, (.getfield 109, 3)), (103, (.ireturn, 1)), (104, (.aload_n 0, 1)), (105, (.getfield 19, 3)), (108, (.getfield 333, 3)), (111, (.ireturn, 1)), (112, (.aload_n 0, 1)), (113, (.getfield 19, 3)), (116, (.getfield 184, 3)), (119, (.ireturn, 1)), (120, (.aload_n 0, 1)), (121, (.getfield 19, 3)), (124, (.getfield 327, 3)), (127, (.ireturn, 1)), (128, (.aload_n 0, 1)), (129, (.getfield 19, 3)), (132, (.getfield 272, 3)), (135, (.getfield 336, 3)), (138, (.ireturn, 1)), (139, (.aload_n 0, 1)), (140, (.getfield 19, 3)), (143, (.getfield 272, 3)), (146, (.getfield 339, 3)), (149, (.ireturn, 1)), (150, (.aload_n 0, 1)), (151, (.getfield 37, 3)), (154, (.getfield 281, 3)), (157, (.ireturn, 1)), (158, (.aload_n 0, 1)), (159, (.getfield 37, 3)), (162, (.getfield 157, 3)), (165, (.invokestatic 176, 3)), (168, (.ireturn, 1)), (169, (.aload_n 0, 1)), (170, (.getfield 59, 3)), (173, (.getfield 342, 3)), (176, (.ireturn, 1)), (177, (.aload_n 0, 1)), (178, (.getfield 67, 3)), (181, (.ireturn, 1)), (182, (.aload_n 0, 1)), (183, (.getfield 12, 3)), (186, (.getfield 91, 3)), (189, (.ireturn, 1)), (190, (.iconst (-1), 1)), (191, (.ireturn, 1))] : List (Nat × (Instr × Nat))), decode cX9_size q.1 = .ok q.2 := by decide +kernel
theorem dX9_size_0 : decode cX9_size 0 = .ok (.iload_n 1, 1) := dAX9_size (0, (.iload_n 1, 1)) (List.mem_of_getElem? (i := 0) rfl)
theorem dX9_size_1 : decode cX9_size 1 = .ok (.tableswitch 189 0 13 #[71, 79, 87, 95, 103, 111, 119, 127, 138, 149, 157, 168, 176, 181], 71) := dAX9_size (1, (.tableswitch 189 0 13 #[71, 79, 87, 95, 103, 111, 119, 127, 138, 149, 157, 168, 176, 181], 71)) (List.mem_of_getElem? (i := 1) rfl)
theorem dX9_size_72 : decode cX9_size 72 = .ok (.aload_n 0, 1) := dAX9_size (72, (.aload_n 0, 1)) (List.mem_of_getElem? (i := 2) rfl)
theorem dX9_size_73 : decode cX9_size 73 = .ok (.getfield 37, 3) := dAX9_size (73, (.getfield 37, 3)) (List.mem_of_getElem? (i := 3) rfl)
theorem dX9_size_76 : decode cX9_size 76 = .ok (.getfield 308, 3) := dAX9_size (76, (.getfield 308, 3)) (List.mem_of_getElem? (i := 4) rfl)
theorem dX9_size_79 : decode cX9_size 79 = .ok (.ireturn, 1) := dAX9_size (79, (.ireturn, 1)) (List.mem_of_getElem? (i := 5) rfl)
theorem dX9_size_80 : decode cX9_size 80 = .ok (.aload_n 0, 1) := dAX9_size (80, (.aload_n 0, 1)) (List.mem_of_getElem? (i := 6) rfl)
theorem dX9_size_81 : decode cX9_size 81 = .ok (.getfield 19, 3) := dAX9_size (81, (.getfield 19, 3)) (List.mem_of_getElem? (i := 7) rfl)
theorem dX9_size_84 : decode cX9_size 84 = .ok (.getfield 311, 3) := dAX9_size (84, (.getfield 311, 3)) (List.mem_of_getElem? (i := 8) rfl)
theorem dX9_size_87 : decode cX9_size 87 = .ok (.ireturn, 1) := dAX9_size (87, (.ireturn, 1)) (List.mem_of_getElem? (i := 9) rfl)
theorem dX9_size_88 : decode cX9_size 88 = .ok (.aload_n 0, 1) := dAX9_size (88, (.aload_n 0, 1)) (List.mem_of_getElem? (i := 10) rfl)
theorem dX9_size_89 : decode cX9_size 89 = .ok (.getfield 19, 3) := dAX9_size (89, (.getfield 19, 3)) (List.mem_of_getElem? (i := 11) rfl)
theorem dX9_size_92 : decode cX9_size 92 = .ok (.getfield 212, 3) := dAX9_size (92, (.getfield 212, 3)) (List.mem_of_getElem? (i := 12) rfl)
theorem dX9_size_95 : decode cX9_size 95 = .ok (.ireturn, 1) := dAX9_size (95, (.ireturn, 1)) (List.mem_of_getElem? (i := 13) rfl)
theorem dX9_size_96 : decode cX9_size 96 = .ok (.aload_n 0, 1) := dAX9_size (96, (.aload_n 0, 1)) (List.mem_of_getElem? (i := 14) rfl)
theorem dX9_size_97 : decode cX9_size 97 = .ok (.getfield 19, 3) := dAX9_size (97, (.getfield 19, 3)) (List.mem_of_getElem? (i := 15) rfl)
theorem dX9_size_100 : decode cX9_size 100 = .ok (.getfield 109, 3) := dAX9_size (100, (.getfield 109, 3)) (List.mem_of_getElem? (i := 16) rfl)
theorem dX9_size_103 : decode cX9_size 103 = .ok (.ireturn, 1) := dAX9_size (103, (.ireturn, 1)) (List.mem_of_getElem? (i := 17) rfl)
theorem dX9_size_104 : decode cX9_size 104 = .ok (.aload_n 0, 1) := dAX9_size (104, (.aload_n 0, 1)) (List.mem_of_getElem? (i := 18) rfl)
theorem dX9_size_105 : decode cX9_size 105 = .ok (.getfield 19, 3) := dAX9_size (105, (.getfield 19, 3)) (List.mem_of_getElem? (i := 19) rfl)
theorem dX9_size_108 : decode cX9_size 108 = .ok (.getfield 333, 3) := dAX9_size (108, (.getfield 333, 3)) (List.mem_of_getElem? (i := 20) rfl)
theorem dX9_size_111 : decode cX9_size 111 = .ok (.ireturn, 1) := dAX9_size (111, (.ireturn, 1)) (List.mem_of_getElem? (i := 21) rfl)
theorem dX9_size_112 : decode cX9_size 112 = .ok (.aload_n 0, 1) := dAX9_size (112, (.aload_n 0, 1)) (List.mem_of_getElem? (i := 22) rfl)
theorem dX9_size_113 : decode cX9_size 113 = .ok (.getfield 19, 3) := dAX9_size (113, (.getfield 19, 3)) (List.mem_of_getElem? (i := 23) rfl)
theorem dX9_size_116 : decode cX9_size 116 = .ok (.getfield 184, 3) := dAX9_size (116, (.getfield 184, 3)) (List.mem_of_getElem? (i := 24) rfl)
theorem dX9_size_119 : decode cX9_size 119 = .ok (.ireturn, 1) := dAX9_size (119, (.ireturn, 1)) (List.mem_of_getElem? (i := 25) rfl)
theorem dX9_size_120 : decode cX9_size 120 = .ok (.aload_n 0, 1) := dAX9_size (120, (.aload_n 0, 1)) (List.mem_of_getElem? (i := 26) rfl)
theorem dX9_size_121 : decode cX9_size 121 = .ok (.getfield 19, 3) := dAX9_size (121, (.getfield 19, 3)) (List.mem_of_getElem? (i := 27) rfl)
theorem dX9_size_124 : decode cX9_size 124 = .ok (.getfield 327, 3) := dAX9_size (124, (.getfield 327, 3)) (List.mem_of_getElem? (i := 28) rfl)
theorem dX9_size_127 : decode cX9_size 127 = .ok (.ireturn, 1) := dAX9_size (127, (.ireturn, 1)) (List.mem_of_getElem? (i := 29) rfl)
theorem dX9_size_128 : decode cX9_size 128 = .ok (.aload_n 0, 1) := dAX9_size (128, (.aload_n 0, 1)) (List.mem_of_getElem? (i := 30) rfl)
theorem dX9_size_129 : decode cX9_size 129 = .ok (.getfield 19, 3) := dAX9_size (129, (.getfield 19, 3)) (List.mem_of_getElem? (i := 31) rfl)
theorem dX9_size_132 : decode cX9_size 132 = .ok (.getfield 272, 3) := dAX9_size (132, (.getfield 272, 3)) (List.mem_of_getElem? (i := 32) rfl)
theorem dX9_size_135 : decode cX9_size 135 = .ok (.getfield 336, 3) := dAX9_size (135, (.getfield 336, 3)) (List.mem_of_getElem? (i := 33) rfl)
theorem dX9_size_138 : decode cX9_size 138 = .ok (.ireturn, 1) := dAX9_size (138, (.ireturn, 1)) (List.mem_of_getElem? (i := 34) rfl)
theorem dX9_size_139 : decode cX9_size 139 = .ok (.aload_n 0, 1) := dAX9_size (139, (.aload_n 0, 1)) (List.mem_of_getElem? (i := 35) rfl)
theorem dX9_size_140 : decode cX9_size 140 = .ok (.getfield 19, 3) := dAX9_size (140, (.getfield 19, 3)) (List.mem_of_getElem? (i := 36) rfl)
theorem dX9_size_143 : decode cX9_size 143 = .ok (.getfield 272, 3) := dAX9_size (143, (.getfield 272, 3)) (List.mem_of_getElem? (i := 37) rfl)
theorem dX9_size_146 : decode cX9_size 146 = .ok (.getfield 339, 3) := dAX9_size (146, (.getfield 339, 3)) (List.mem_of_getElem? (i := 38) rfl)
theorem dX9_size_149 : decode cX9_size 149 = .ok (.ireturn, 1) := dAX9_size (149, (.ireturn, 1)) (List.mem_of_getElem? (i := 39) rfl)
theorem dX9_size_150 : decode cX9_size 150 = .ok (.aload_n 0, 1) := dAX9_size (150, (.aload_n 0, 1)) (List.mem_of_getElem? (i := 40) rfl)
theorem dX9_size_151 : decode cX9_size 151 = .ok (.getfield 37, 3) := dAX9_size (151, (.getfield 37, 3)) (List.mem_of_getElem? (i := 41) rfl)
theorem dX9_size_154 : decode cX9_size 154 = .ok (.getfield 281, 3) := dAX9_size (154, (.getfield 281, 3)) (List.mem_of_getElem? (i := 42) rfl)
theorem dX9_size_157 : decode cX9_size 157 = .ok (.ireturn, 1) := dAX9_size (157, (.ireturn, 1)) (List.mem_of_getElem? (i := 43) rfl)
theorem dX9_size_158 : decode cX9_size 158 = .ok (.aload_n 0, 1) := dAX9_size (158, (.aload_n 0, 1)) (List.mem_of_getElem? (i := 44) rfl)
theorem dX9_size_159 : decode cX9_size 159 = .ok (.getfield 37, 3) := dAX9_size (159, (.getfield 37, 3)) (List.mem_of_getElem? (i := 45) rfl)
theorem dX9_size_162 : decode cX9_size 162 = .ok (.getfield 157, 3) := dAX9_size (162, (.getfield 157, 3)) (List.mem_of_getElem? (i := 46) rfl)
theorem dX9_size_165 : decode cX9_size 165 = .ok (.invokestatic 176, 3) := dAX9_size (165, (.invokestatic 176, 3)) (List.mem_of_getElem? (i := 47) rfl)
theorem dX9_size_168 : decode cX9_size 168 = .ok (.ireturn, 1) := dAX9_size (168, (.ireturn, 1)) (List.mem_of_getElem? (i := 48) rfl)
theorem dX9_size_169 : decode cX9_size 169 = .ok (.aload_n 0, 1) := dAX9_size (169, (.aload_n 0, 1)) (List.mem_of_getElem? (i := 49) rfl)
theorem dX9_size_170 : decode cX9_size 170 = .ok (.getfield 59, 3) := dAX9_size (170, (.getfield 59, 3)) (List.mem_of_getElem? (i := 50) rfl)
theorem dX9_size_173 : decode cX9_size 173 = .ok (.getfield 342, 3) := dAX9_size (173, (.getfield 342, 3)) (List.mem_of_getElem? (i := 51) rfl)
theorem dX9_size_176 : decode cX9_size 176 = .ok (.ireturn, 1) := dAX9_size (176, (.ireturn, 1)) (List.mem_of_getElem? (i := 52) rfl)
theorem dX9_size_177 : decode cX9_size 177 = .ok (.aload_n 0, 1) := dAX9_size (177, (.aload_n 0, 1)) (List.mem_of_getElem? (i := 53) rfl)
theorem dX9_size_178 : decode cX9_size 178 = .ok (.getfield 67, 3) := dAX9_size (178, (.getfield 67, 3)) (List.mem_of_getElem? (i := 54) rfl)
theorem dX9_size_181 : decode cX9_size 181 = .ok (.ireturn, 1) := dAX9_size (181, (.ireturn, 1)) (List.mem_of_getElem? (i := 55) rfl)
theorem dX9_size_182 : decode cX9_size 182 = .ok (.aload_n 0, 1) := dAX9_size (182, (.aload_n 0, 1)) (List.mem_of_getElem? (i := 56) rfl)
theorem dX9_size_183 : decode cX9_size 183 = .ok (.getfield 12, 3) := dAX9_size (183, (.getfield 12, 3)) (List.mem_of_getElem? (i := 57) rfl)
theorem dX9_size_186 : decode cX9_size 186 = .ok (.getfield 91, 3) := dAX9_size (186, (.getfield 91, 3)) (List.mem_of_getElem? (i := 58) rfl)
theorem dX9_size_189 : decode cX9_size 189 = .ok (.ireturn, 1) := dAX9_size (189, (.ireturn, 1)) (List.mem_of_getElem? (i := 59) rfl)
theorem dX9_size_190 : decode cX9_size 190 = .ok (.iconst (-1), 1) := dAX9_size (190, (.iconst (-1), 1)) (List.mem_of_getElem? (i := 60) rfl)
theorem dX9_size_191 : decode cX9_size 191 = .ok (.ireturn, 1) := dAX9_size (191, (.ireturn, 1)) (List.mem_of_getElem? (i := 61) rfl)
set_option maxRecDepth 20000 in
theorem ggX9_size_J6_bitCount_0f7a4 : GoodIn wsX9_size wsJ6_bitCount_0f7a4 := goodIn_r _ [23, 24, 25, 26] rfl (by decide +kernel)
set_option maxRecDepth 20000 in
theorem gX9_size_J6_bitCount_0f7a4 : GoodIn wsX9_size (va_wsS RX9 176 yJ6_bitCount_0f7a4 wsJ6_bitCount_0f7a4) := goodIn_app (goodIn_of _ (by decide +kernel)) ggX9_size_J6_bitCount_0f7a4
theorem kX9_size_37 : Cond.fieldLink RX9 37 "EveningVow" "now" "LEveningVow$Night;" ∈ wsX9_size := List.mem_of_getElem? (i := 1) rfl
theorem iX9_size_X9 : ∀ w ∈ u_ws RX9 TX9 15, w ∈ wsX9_size := fun w h => (List.mem_cons_of_mem _ (List.mem_append_left _ (List.mem_append_left _ (List.mem_append_left _ (List.mem_append_left _ (List.mem_append_left _ (List.mem_append_right _ h)))))))
theorem kX9_size_308 : Cond.fieldLink RX9 308 "EveningVow$Night" "cupsLeft" "I" ∈ wsX9_size := List.mem_of_getElem? (i := 2) rfl
theorem iX9_size_X2 : ∀ w ∈ u_ws RX2 TX2 9, w ∈ wsX9_size := fun w h => (List.mem_cons_of_mem _ (List.mem_append_left _ (List.mem_append_left _ (List.mem_append_left _ (List.mem_append_left _ (List.mem_append_right _ h))))))
theorem kX9_size_19 : Cond.fieldLink RX9 19 "EveningVow" "told" "LEveningVow$House;" ∈ wsX9_size := List.mem_of_getElem? (i := 3) rfl
theorem kX9_size_311 : Cond.fieldLink RX9 311 "EveningVow$House" "wakes" "I" ∈ wsX9_size := List.mem_of_getElem? (i := 4) rfl
theorem iX9_size_X1 : ∀ w ∈ u_ws RX1 TX1 17, w ∈ wsX9_size := fun w h => (List.mem_cons_of_mem _ (List.mem_append_left _ (List.mem_append_left _ (List.mem_append_left _ (List.mem_append_right _ h)))))
theorem kX9_size_212 : Cond.fieldLink RX9 212 "EveningVow$House" "grief" "I" ∈ wsX9_size := List.mem_of_getElem? (i := 5) rfl
theorem kX9_size_109 : Cond.fieldLink RX9 109 "EveningVow$House" "guests" "I" ∈ wsX9_size := List.mem_of_getElem? (i := 6) rfl
theorem kX9_size_333 : Cond.fieldLink RX9 333 "EveningVow$House" "pairs" "I" ∈ wsX9_size := List.mem_of_getElem? (i := 7) rfl
theorem kX9_size_184 : Cond.fieldLink RX9 184 "EveningVow$House" "draws" "I" ∈ wsX9_size := List.mem_of_getElem? (i := 8) rfl
theorem kX9_size_327 : Cond.fieldLink RX9 327 "EveningVow$House" "tales" "I" ∈ wsX9_size := List.mem_of_getElem? (i := 9) rfl
theorem kX9_size_272 : Cond.fieldLink RX9 272 "EveningVow$House" "town" "LEveningVow$Town;" ∈ wsX9_size := List.mem_of_getElem? (i := 10) rfl
theorem kX9_size_336 : Cond.fieldLink RX9 336 "EveningVow$Town" "needs" "I" ∈ wsX9_size := List.mem_of_getElem? (i := 11) rfl
theorem iX9_size_X7 : ∀ w ∈ u_ws RX7 TX7 7, w ∈ wsX9_size := fun w h => (List.mem_cons_of_mem _ (List.mem_append_left _ (List.mem_append_left _ (List.mem_append_right _ h))))
theorem kX9_size_339 : Cond.fieldLink RX9 339 "EveningVow$Town" "sights" "I" ∈ wsX9_size := List.mem_of_getElem? (i := 12) rfl
theorem kX9_size_281 : Cond.fieldLink RX9 281 "EveningVow$Night" "clock" "I" ∈ wsX9_size := List.mem_of_getElem? (i := 13) rfl
theorem kX9_size_157 : Cond.fieldLink RX9 157 "EveningVow$Night" "there" "I" ∈ wsX9_size := List.mem_of_getElem? (i := 14) rfl
theorem kX9_size_59 : Cond.fieldLink RX9 59 "EveningVow" "past" "LEveningVow$Past;" ∈ wsX9_size := List.mem_of_getElem? (i := 15) rfl
theorem kX9_size_342 : Cond.fieldLink RX9 342 "EveningVow$Past" "count" "I" ∈ wsX9_size := List.mem_of_getElem? (i := 16) rfl
theorem iX9_size_X4 : ∀ w ∈ u_ws RX4 TX4 3, w ∈ wsX9_size := fun w h => (List.mem_cons_of_mem _ (List.mem_append_left _ (List.mem_append_right _ h)))
theorem kX9_size_67 : Cond.fieldLink RX9 67 "EveningVow" "imageCount" "I" ∈ wsX9_size := List.mem_of_getElem? (i := 17) rfl
theorem kX9_size_12 : Cond.fieldLink RX9 12 "EveningVow" "reader" "LEveningVow$Reader;" ∈ wsX9_size := List.mem_of_getElem? (i := 18) rfl
theorem kX9_size_91 : Cond.fieldLink RX9 91 "EveningVow$Reader" "tapeBytes" "I" ∈ wsX9_size := List.mem_of_getElem? (i := 19) rfl
theorem iX9_size_X5 : ∀ w ∈ u_ws RX5 TX5 15, w ∈ wsX9_size := fun w h => (List.mem_cons_of_mem _ (List.mem_append_right _ h))
set_option maxHeartbeats 4000000 in
set_option maxRecDepth 100000 in
theorem mX9_size (l : Launch) (g : GG) (a_t : Nat) (p_t : Nat → Nat) (p_t_0 : Nat → Nat) (p_t_1 : Nat → Nat) (p_t_1_16 : Nat → Nat) (p_t_5 : Nat → Nat) (p_t_9 : Nat → Nat) (n : Nat) (x1 : Int32) (o_t : Nat → Int32) (o_t_0 : Nat → Int32) (c_t_0 : Int64) (o_t_1 : Nat → Int32) (o_t_1_16 : Nat → Int32) (o_t_5 : Nat → Int32) (o_t_9 : Nat → Int32) (r : Int32) (hF : fX9_size n x1 o_t o_t_0 c_t_0 o_t_1 o_t_1_16 o_t_5 o_t_9 = some (r)) : MI l g yX9_size wsX9_size ({ frames := 1, cells := 0, slots := 0, locals := 20 } : Room) [.ref a_t, .int x1] [oX9 a_t p_t o_t, oX5 (p_t 0) p_t_0 o_t_0 c_t_0, oX1 (p_t 1) p_t_1 o_t_1, oX7 (p_t_1 16) p_t_1_16 o_t_1_16, oX2 (p_t 5) p_t_5 o_t_5, oX4 (p_t 9) p_t_9 o_t_9] r [oX9 a_t p_t o_t, oX5 (p_t 0) p_t_0 o_t_0 c_t_0, oX1 (p_t 1) p_t_1 o_t_1, oX7 (p_t_1 16) p_t_1_16 o_t_1_16, oX2 (p_t 5) p_t_5 o_t_5, oX4 (p_t 9) p_t_9 o_t_9] := by
  refine MI.of (cc := cX9_size) (maxL := 2) (rt := .int) (own := RX9) rfl rfl (by decide) (Nat.le_of_ble_eq_true rfl) ?_
  intro p e s m args below meth c A C0 hP hD hS ls hl
  obtain ⟨hx, hb, hml, hown, hts, hr, hlk, hK, hA, hSW⟩ := id C0
  have hl : lv_has ls 2 [(0, .ref a_t), (1, .int x1)] := hl
  rw [fX9_size] at hF
  refine lv_iload_n hx hb dX9_size_0 rfl (lv_at hl 1 rfl) ?_
  by_cases c_1 : x1 = (0 : Int32)
  · have hF := it_p c_1 hF
    refine lv_tableIn (off := 71) (tgt := 72) hx hb dX9_size_1 (by rw [c_1]; decide) (by rw [c_1]; decide) (by rw [c_1]; rfl) (by decide) ?_
    refine lv_aload_n hx hb dX9_size_72 rfl (lv_at hl 0 rfl) ?_
    refine va_get (D := g.1) (ci := 9) (v := .ref (p_t 5)) (C := RX9) (T := TX9) (N := 15) hx hb hts iX9_size_X9 hown hK.1 hP 0 rfl rfl 5 (by decide) (hts _ kX9_size_37) (fun _ h9 => h9) rfl dX9_size_73 ?_
    refine va_get (D := g.1) (ci := 2) (v := .int (o_t_5 2)) (C := RX2) (T := TX2) (N := 9) hx hb hts iX9_size_X2 hown hK.1 hP 4 rfl rfl 2 (by decide) (hts _ kX9_size_308) (fun _ h9 => h9) rfl dX9_size_76 ?_
    cases hF
    exact ret_i C0 hP hD hS [0, 1, 2, 3, 4, 5] rfl rfl rfl dX9_size_79 rfl
  have hF := it_n c_1 hF
  by_cases c_2 : x1 = (1 : Int32)
  · have hF := it_p c_2 hF
    refine lv_tableIn (off := 79) (tgt := 80) hx hb dX9_size_1 (by rw [c_2]; decide) (by rw [c_2]; decide) (by rw [c_2]; rfl) (by decide) ?_
    refine lv_aload_n hx hb dX9_size_80 rfl (lv_at hl 0 rfl) ?_
    refine va_get (D := g.1) (ci := 9) (v := .ref (p_t 1)) (C := RX9) (T := TX9) (N := 15) hx hb hts iX9_size_X9 hown hK.1 hP 0 rfl rfl 1 (by decide) (hts _ kX9_size_19) (fun _ h9 => h9) rfl dX9_size_81 ?_
    refine va_get (D := g.1) (ci := 1) (v := .int (o_t_1 1)) (C := RX1) (T := TX1) (N := 17) hx hb hts iX9_size_X1 hown hK.1 hP 2 rfl rfl 1 (by decide) (hts _ kX9_size_311) (fun _ h9 => h9) rfl dX9_size_84 ?_
    cases hF
    exact ret_i C0 hP hD hS [0, 1, 2, 3, 4, 5] rfl rfl rfl dX9_size_87 rfl
  have hF := it_n c_2 hF
  by_cases c_3 : x1 = (2 : Int32)
  · have hF := it_p c_3 hF
    refine lv_tableIn (off := 87) (tgt := 88) hx hb dX9_size_1 (by rw [c_3]; decide) (by rw [c_3]; decide) (by rw [c_3]; rfl) (by decide) ?_
    refine lv_aload_n hx hb dX9_size_88 rfl (lv_at hl 0 rfl) ?_
    refine va_get (D := g.1) (ci := 9) (v := .ref (p_t 1)) (C := RX9) (T := TX9) (N := 15) hx hb hts iX9_size_X9 hown hK.1 hP 0 rfl rfl 1 (by decide) (hts _ kX9_size_19) (fun _ h9 => h9) rfl dX9_size_89 ?_
    refine va_get (D := g.1) (ci := 1) (v := .int (o_t_1 2)) (C := RX1) (T := TX1) (N := 17) hx hb hts iX9_size_X1 hown hK.1 hP 2 rfl rfl 2 (by decide) (hts _ kX9_size_212) (fun _ h9 => h9) rfl dX9_size_92 ?_
    cases hF
    exact ret_i C0 hP hD hS [0, 1, 2, 3, 4, 5] rfl rfl rfl dX9_size_95 rfl
  have hF := it_n c_3 hF
  by_cases c_4 : x1 = (3 : Int32)
  · have hF := it_p c_4 hF
    refine lv_tableIn (off := 95) (tgt := 96) hx hb dX9_size_1 (by rw [c_4]; decide) (by rw [c_4]; decide) (by rw [c_4]; rfl) (by decide) ?_
    refine lv_aload_n hx hb dX9_size_96 rfl (lv_at hl 0 rfl) ?_
    refine va_get (D := g.1) (ci := 9) (v := .ref (p_t 1)) (C := RX9) (T := TX9) (N := 15) hx hb hts iX9_size_X9 hown hK.1 hP 0 rfl rfl 1 (by decide) (hts _ kX9_size_19) (fun _ h9 => h9) rfl dX9_size_97 ?_
    refine va_get (D := g.1) (ci := 1) (v := .int (o_t_1 3)) (C := RX1) (T := TX1) (N := 17) hx hb hts iX9_size_X1 hown hK.1 hP 2 rfl rfl 3 (by decide) (hts _ kX9_size_109) (fun _ h9 => h9) rfl dX9_size_100 ?_
    cases hF
    exact ret_i C0 hP hD hS [0, 1, 2, 3, 4, 5] rfl rfl rfl dX9_size_103 rfl
  have hF := it_n c_4 hF
  by_cases c_5 : x1 = (4 : Int32)
  · have hF := it_p c_5 hF
    refine lv_tableIn (off := 103) (tgt := 104) hx hb dX9_size_1 (by rw [c_5]; decide) (by rw [c_5]; decide) (by rw [c_5]; rfl) (by decide) ?_
    refine lv_aload_n hx hb dX9_size_104 rfl (lv_at hl 0 rfl) ?_
    refine va_get (D := g.1) (ci := 9) (v := .ref (p_t 1)) (C := RX9) (T := TX9) (N := 15) hx hb hts iX9_size_X9 hown hK.1 hP 0 rfl rfl 1 (by decide) (hts _ kX9_size_19) (fun _ h9 => h9) rfl dX9_size_105 ?_
    refine va_get (D := g.1) (ci := 1) (v := .int (o_t_1 8)) (C := RX1) (T := TX1) (N := 17) hx hb hts iX9_size_X1 hown hK.1 hP 2 rfl rfl 8 (by decide) (hts _ kX9_size_333) (fun _ h9 => h9) rfl dX9_size_108 ?_
    cases hF
    exact ret_i C0 hP hD hS [0, 1, 2, 3, 4, 5] rfl rfl rfl dX9_size_111 rfl
  have hF := it_n c_5 hF
  by_cases c_6 : x1 = (5 : Int32)
  · have hF := it_p c_6 hF
    refine lv_tableIn (off := 111) (tgt := 112) hx hb dX9_size_1 (by rw [c_6]; decide) (by rw [c_6]; decide) (by rw [c_6]; rfl) (by decide) ?_
    refine lv_aload_n hx hb dX9_size_112 rfl (lv_at hl 0 rfl) ?_
    refine va_get (D := g.1) (ci := 9) (v := .ref (p_t 1)) (C := RX9) (T := TX9) (N := 15) hx hb hts iX9_size_X9 hown hK.1 hP 0 rfl rfl 1 (by decide) (hts _ kX9_size_19) (fun _ h9 => h9) rfl dX9_size_113 ?_
    refine va_get (D := g.1) (ci := 1) (v := .int (o_t_1 9)) (C := RX1) (T := TX1) (N := 17) hx hb hts iX9_size_X1 hown hK.1 hP 2 rfl rfl 9 (by decide) (hts _ kX9_size_184) (fun _ h9 => h9) rfl dX9_size_116 ?_
    cases hF
    exact ret_i C0 hP hD hS [0, 1, 2, 3, 4, 5] rfl rfl rfl dX9_size_119 rfl
  have hF := it_n c_6 hF
  by_cases c_7 : x1 = (6 : Int32)
  · have hF := it_p c_7 hF
    refine lv_tableIn (off := 119) (tgt := 120) hx hb dX9_size_1 (by rw [c_7]; decide) (by rw [c_7]; decide) (by rw [c_7]; rfl) (by decide) ?_
    refine lv_aload_n hx hb dX9_size_120 rfl (lv_at hl 0 rfl) ?_
    refine va_get (D := g.1) (ci := 9) (v := .ref (p_t 1)) (C := RX9) (T := TX9) (N := 15) hx hb hts iX9_size_X9 hown hK.1 hP 0 rfl rfl 1 (by decide) (hts _ kX9_size_19) (fun _ h9 => h9) rfl dX9_size_121 ?_
    refine va_get (D := g.1) (ci := 1) (v := .int (o_t_1 13)) (C := RX1) (T := TX1) (N := 17) hx hb hts iX9_size_X1 hown hK.1 hP 2 rfl rfl 13 (by decide) (hts _ kX9_size_327) (fun _ h9 => h9) rfl dX9_size_124 ?_
    cases hF
    exact ret_i C0 hP hD hS [0, 1, 2, 3, 4, 5] rfl rfl rfl dX9_size_127 rfl
  have hF := it_n c_7 hF
  by_cases c_8 : x1 = (7 : Int32)
  · have hF := it_p c_8 hF
    refine lv_tableIn (off := 127) (tgt := 128) hx hb dX9_size_1 (by rw [c_8]; decide) (by rw [c_8]; decide) (by rw [c_8]; rfl) (by decide) ?_
    refine lv_aload_n hx hb dX9_size_128 rfl (lv_at hl 0 rfl) ?_
    refine va_get (D := g.1) (ci := 9) (v := .ref (p_t 1)) (C := RX9) (T := TX9) (N := 15) hx hb hts iX9_size_X9 hown hK.1 hP 0 rfl rfl 1 (by decide) (hts _ kX9_size_19) (fun _ h9 => h9) rfl dX9_size_129 ?_
    refine va_get (D := g.1) (ci := 1) (v := .ref (p_t_1 16)) (C := RX1) (T := TX1) (N := 17) hx hb hts iX9_size_X1 hown hK.1 hP 2 rfl rfl 16 (by decide) (hts _ kX9_size_272) (fun _ h9 => h9) rfl dX9_size_132 ?_
    refine va_get (D := g.1) (ci := 7) (v := .int (o_t_1_16 0)) (C := RX7) (T := TX7) (N := 7) hx hb hts iX9_size_X7 hown hK.1 hP 3 rfl rfl 0 (by decide) (hts _ kX9_size_336) (fun _ h9 => h9) rfl dX9_size_135 ?_
    cases hF
    exact ret_i C0 hP hD hS [0, 1, 2, 3, 4, 5] rfl rfl rfl dX9_size_138 rfl
  have hF := it_n c_8 hF
  by_cases c_9 : x1 = (8 : Int32)
  · have hF := it_p c_9 hF
    refine lv_tableIn (off := 138) (tgt := 139) hx hb dX9_size_1 (by rw [c_9]; decide) (by rw [c_9]; decide) (by rw [c_9]; rfl) (by decide) ?_
    refine lv_aload_n hx hb dX9_size_139 rfl (lv_at hl 0 rfl) ?_
    refine va_get (D := g.1) (ci := 9) (v := .ref (p_t 1)) (C := RX9) (T := TX9) (N := 15) hx hb hts iX9_size_X9 hown hK.1 hP 0 rfl rfl 1 (by decide) (hts _ kX9_size_19) (fun _ h9 => h9) rfl dX9_size_140 ?_
    refine va_get (D := g.1) (ci := 1) (v := .ref (p_t_1 16)) (C := RX1) (T := TX1) (N := 17) hx hb hts iX9_size_X1 hown hK.1 hP 2 rfl rfl 16 (by decide) (hts _ kX9_size_272) (fun _ h9 => h9) rfl dX9_size_143 ?_
    refine va_get (D := g.1) (ci := 7) (v := .int (o_t_1_16 3)) (C := RX7) (T := TX7) (N := 7) hx hb hts iX9_size_X7 hown hK.1 hP 3 rfl rfl 3 (by decide) (hts _ kX9_size_339) (fun _ h9 => h9) rfl dX9_size_146 ?_
    cases hF
    exact ret_i C0 hP hD hS [0, 1, 2, 3, 4, 5] rfl rfl rfl dX9_size_149 rfl
  have hF := it_n c_9 hF
  by_cases c_10 : x1 = (9 : Int32)
  · have hF := it_p c_10 hF
    refine lv_tableIn (off := 149) (tgt := 150) hx hb dX9_size_1 (by rw [c_10]; decide) (by rw [c_10]; decide) (by rw [c_10]; rfl) (by decide) ?_
    refine lv_aload_n hx hb dX9_size_150 rfl (lv_at hl 0 rfl) ?_
    refine va_get (D := g.1) (ci := 9) (v := .ref (p_t 5)) (C := RX9) (T := TX9) (N := 15) hx hb hts iX9_size_X9 hown hK.1 hP 0 rfl rfl 5 (by decide) (hts _ kX9_size_37) (fun _ h9 => h9) rfl dX9_size_151 ?_
    refine va_get (D := g.1) (ci := 2) (v := .int (o_t_5 0)) (C := RX2) (T := TX2) (N := 9) hx hb hts iX9_size_X2 hown hK.1 hP 4 rfl rfl 0 (by decide) (hts _ kX9_size_281) (fun _ h9 => h9) rfl dX9_size_154 ?_
    cases hF
    exact ret_i C0 hP hD hS [0, 1, 2, 3, 4, 5] rfl rfl rfl dX9_size_157 rfl
  have hF := it_n c_10 hF
  by_cases c_11 : x1 = (10 : Int32)
  · have hF := it_p c_11 hF
    refine lv_tableIn (off := 157) (tgt := 158) hx hb dX9_size_1 (by rw [c_11]; decide) (by rw [c_11]; decide) (by rw [c_11]; rfl) (by decide) ?_
    refine lv_aload_n hx hb dX9_size_158 rfl (lv_at hl 0 rfl) ?_
    refine va_get (D := g.1) (ci := 9) (v := .ref (p_t 5)) (C := RX9) (T := TX9) (N := 15) hx hb hts iX9_size_X9 hown hK.1 hP 0 rfl rfl 5 (by decide) (hts _ kX9_size_37) (fun _ h9 => h9) rfl dX9_size_159 ?_
    refine va_get (D := g.1) (ci := 2) (v := .int (o_t_5 1)) (C := RX2) (T := TX2) (N := 9) hx hb hts iX9_size_X2 hown hK.1 hP 4 rfl rfl 1 (by decide) (hts _ kX9_size_157) (fun _ h9 => h9) rfl dX9_size_162 ?_
    obtain ⟨u_12, hu_13, hF⟩ := ob1_some hF
    refine call_si (wr := [oX9 a_t p_t o_t, oX5 (p_t 0) p_t_0 o_t_0 c_t_0, oX1 (p_t 1) p_t_1 o_t_1, oX7 (p_t_1 16) p_t_1_16 o_t_1_16, oX2 (p_t 5) p_t_5 o_t_5, oX4 (p_t 9) p_t_9 o_t_9]) (As := [.int (o_t_5 1)]) (rest := []) C0 (mJ6_bitCount_0f7a4 l g n (o_t_5 1) u_12 hu_13) (va_cwS 1 hts gX9_size_J6_bitCount_0f7a4 rfl rfl rfl (by decide +kernel) ⟨Nat.le_of_ble_eq_true rfl, Nat.le_of_ble_eq_true rfl⟩) hP hD hS [] [0, 1, 2, 3, 4, 5] rfl rfl rfl rfl rfl (by decide) hl.1 rfl rfl (Nat.le_of_ble_eq_true rfl) ⟨Nat.zero_le _, Nat.zero_le _⟩ dX9_size_165 ?_
    intro H locs hP hD hS
    cases hF
    exact ret_i C0 hP hD hS [0, 1, 2, 3, 4, 5] rfl rfl rfl dX9_size_168 rfl
  have hF := it_n c_11 hF
  by_cases c_14 : x1 = (11 : Int32)
  · have hF := it_p c_14 hF
    refine lv_tableIn (off := 168) (tgt := 169) hx hb dX9_size_1 (by rw [c_14]; decide) (by rw [c_14]; decide) (by rw [c_14]; rfl) (by decide) ?_
    refine lv_aload_n hx hb dX9_size_169 rfl (lv_at hl 0 rfl) ?_
    refine va_get (D := g.1) (ci := 9) (v := .ref (p_t 9)) (C := RX9) (T := TX9) (N := 15) hx hb hts iX9_size_X9 hown hK.1 hP 0 rfl rfl 9 (by decide) (hts _ kX9_size_59) (fun _ h9 => h9) rfl dX9_size_170 ?_
    refine va_get (D := g.1) (ci := 4) (v := .int (o_t_9 2)) (C := RX4) (T := TX4) (N := 3) hx hb hts iX9_size_X4 hown hK.1 hP 5 rfl rfl 2 (by decide) (hts _ kX9_size_342) (fun _ h9 => h9) rfl dX9_size_173 ?_
    cases hF
    exact ret_i C0 hP hD hS [0, 1, 2, 3, 4, 5] rfl rfl rfl dX9_size_176 rfl
  have hF := it_n c_14 hF
  by_cases c_15 : x1 = (12 : Int32)
  · have hF := it_p c_15 hF
    refine lv_tableIn (off := 176) (tgt := 177) hx hb dX9_size_1 (by rw [c_15]; decide) (by rw [c_15]; decide) (by rw [c_15]; rfl) (by decide) ?_
    refine lv_aload_n hx hb dX9_size_177 rfl (lv_at hl 0 rfl) ?_
    refine va_get (D := g.1) (ci := 9) (v := .int (o_t 11)) (C := RX9) (T := TX9) (N := 15) hx hb hts iX9_size_X9 hown hK.1 hP 0 rfl rfl 11 (by decide) (hts _ kX9_size_67) (fun _ h9 => h9) rfl dX9_size_178 ?_
    cases hF
    exact ret_i C0 hP hD hS [0, 1, 2, 3, 4, 5] rfl rfl rfl dX9_size_181 rfl
  have hF := it_n c_15 hF
  by_cases c_16 : x1 = (13 : Int32)
  · have hF := it_p c_16 hF
    refine lv_tableIn (off := 181) (tgt := 182) hx hb dX9_size_1 (by rw [c_16]; decide) (by rw [c_16]; decide) (by rw [c_16]; rfl) (by decide) ?_
    refine lv_aload_n hx hb dX9_size_182 rfl (lv_at hl 0 rfl) ?_
    refine va_get (D := g.1) (ci := 9) (v := .ref (p_t 0)) (C := RX9) (T := TX9) (N := 15) hx hb hts iX9_size_X9 hown hK.1 hP 0 rfl rfl 0 (by decide) (hts _ kX9_size_12) (fun _ h9 => h9) rfl dX9_size_183 ?_
    refine va_get (D := g.1) (ci := 5) (v := .int (o_t_0 1)) (C := RX5) (T := TX5) (N := 15) hx hb hts iX9_size_X5 hown hK.1 hP 1 rfl rfl 1 (by decide) (hts _ kX9_size_91) (fun _ h9 => h9) rfl dX9_size_186 ?_
    cases hF
    exact ret_i C0 hP hD hS [0, 1, 2, 3, 4, 5] rfl rfl rfl dX9_size_189 rfl
  have hF := it_n c_16 hF
  have tc_1 := lv_neT (a := 0) c_1 (by decide)
  have tc_2 := lv_neT (a := 1) c_2 (by decide)
  have tc_3 := lv_neT (a := 2) c_3 (by decide)
  have tc_4 := lv_neT (a := 3) c_4 (by decide)
  have tc_5 := lv_neT (a := 4) c_5 (by decide)
  have tc_6 := lv_neT (a := 5) c_6 (by decide)
  have tc_7 := lv_neT (a := 6) c_7 (by decide)
  have tc_8 := lv_neT (a := 7) c_8 (by decide)
  have tc_9 := lv_neT (a := 8) c_9 (by decide)
  have tc_10 := lv_neT (a := 9) c_10 (by decide)
  have tc_11 := lv_neT (a := 10) c_11 (by decide)
  have tc_14 := lv_neT (a := 11) c_14 (by decide)
  have tc_15 := lv_neT (a := 12) c_15 (by decide)
  have tc_16 := lv_neT (a := 13) c_16 (by decide)
  refine lv_tableOut (tgt := 190) hx hb dX9_size_1 (by omega) (by decide) ?_
  refine lv_iconst (v := (-1 : Int32)) hx hb dX9_size_190 (by decide) ?_
  cases hF
  exact ret_i C0 hP hD hS [0, 1, 2, 3, 4, 5] rfl rfl rfl dX9_size_191 rfl

theorem dAX9_trouble : ∀ q ∈ ([(0, (.aload_n 0, 1)), (1, (.getfield 30, 3)), (4, (.ireturn, 1))] : List (Nat × (Instr × Nat))), decode cX9_trouble q.1 = .ok q.2 := by decide +kernel
theorem dX9_trouble_0 : decode cX9_trouble 0 = .ok (.aload_n 0, 1) := dAX9_trouble (0, (.aload_n 0, 1)) (List.mem_of_getElem? (i := 0) rfl)
theorem dX9_trouble_1 : decode cX9_trouble 1 = .ok (.getfield 30, 3) := dAX9_trouble (1, (.getfield 30, 3)) (List.mem_of_getElem? (i := 1) rfl)
theorem dX9_trouble_4 : decode cX9_trouble 4 = .ok (.ireturn, 1) := dAX9_trouble (4, (.ireturn, 1)) (List.mem_of_getElem? (i := 2) rfl)
theorem kX9_trouble_30 : Cond.fieldLink RX9 30 "EveningVow" "refusal" "I" ∈ wsX9_trouble := List.mem_of_getElem? (i := 1) rfl
theorem iX9_trouble_X9 : ∀ w ∈ u_ws RX9 TX9 15, w ∈ wsX9_trouble := fun w h => (List.mem_cons_of_mem _ (List.mem_append_right _ h))
set_option maxHeartbeats 4000000 in
set_option maxRecDepth 100000 in
theorem mX9_trouble (l : Launch) (g : GG) (a_t : Nat) (p_t : Nat → Nat) (n : Nat) (o_t : Nat → Int32) (r : Int32) (hF : fX9_trouble n o_t = some (r)) : MI l g yX9_trouble wsX9_trouble ({ frames := 0, cells := 0, slots := 0, locals := 0 } : Room) [.ref a_t] [oX9 a_t p_t o_t] r [oX9 a_t p_t o_t] := by
  refine MI.of (cc := cX9_trouble) (maxL := 1) (rt := .int) (own := RX9) rfl rfl (by decide) (Nat.le_of_ble_eq_true rfl) ?_
  intro p e s m args below meth c A C0 hP hD hS ls hl
  obtain ⟨hx, hb, hml, hown, hts, hr, hlk, hK, hA, hSW⟩ := id C0
  have hl : lv_has ls 1 [(0, .ref a_t)] := hl
  rw [fX9_trouble] at hF
  refine lv_aload_n hx hb dX9_trouble_0 rfl (lv_at hl 0 rfl) ?_
  refine va_get (D := g.1) (ci := 9) (v := .int (o_t 4)) (C := RX9) (T := TX9) (N := 15) hx hb hts iX9_trouble_X9 hown hK.1 hP 0 rfl rfl 4 (by decide) (hts _ kX9_trouble_30) (fun _ h9 => h9) rfl dX9_trouble_1 ?_
  cases hF
  exact ret_i C0 hP hD hS [0] rfl rfl rfl dX9_trouble_4 rfl

