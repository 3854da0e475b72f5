theorem dAX10_pull : ∀ q ∈ ([(0, (.aload_n 0, 1)), (1, (.invokevirtual 159, 3)), (4, (.aload_n 0, 1)), (5, (.iload_n 1, 1)), (6, (.invokevirtual 300, 3)), (9, (.ifCond .ne 9, 3)), (12, (.aload_n 0, 1)), (13, (.iconst 1, 1)), (14, (.invokevirtual 162, 3)), (17, (.ireturn, 1)), (18, (.iconst 0, 1)), (19, (.istore_n 2, 1)), (20, (.iconst 0, 1)), (21, (.istore_n 3, 1)), (22, (.iload_n 3, 1)), (23, (.aload_n 0, 1)), (24, (.getfield 20, 3)), (27, (.iconst 3, 1)), (28, (.iaload, 1)), (29, (.if_icmp .ge 46, 3)), (32, (.iload_n 2, 1)), (33, (.iload_n 3, 1)), (34, (.iload_n 1, 1)), (35, (.if_icmp .eq 31, 3)), (38, (.aload_n 0, 1)), (39, (.getfield 26, 3)), (42, (.iload_n 3, 1)), (43, (.invokestatic 248, 3)), (46, (.ifCond .eq 20, 3)), (49, (.aload_n 0, 1)), (50, (.getfield 20, 3)), (53, (.bipush 37, 2)), (55, (.bipush 7, 2)), (57, (.iload_n 3, 1)), (58, (.imul, 1)), (59, (.iadd, 1)), (60, (.iload_n 1, 1)), (61, (.iadd, 1)), (62, (.iaload, 1)), (63, (.goto 4, 3)), (66, (.iconst 0, 1)), (67, (.iadd, 1)), (68, (.istore_n 2, 1)), (69, (.iinc 3 1, 3)), (72, (.goto (-50), 3)), (75, (.iload_n 2, 1)), (76, (.ireturn, 1))] : List (Nat × (Instr × Nat))), decode cX10_pull q.1 = .ok q.2 := by decide +kernel
theorem dX10_pull_0 : decode cX10_pull 0 = .ok (.aload_n 0, 1) := dAX10_pull (0, (.aload_n 0, 1)) (List.mem_of_getElem? (i := 0) rfl)
theorem dX10_pull_1 : decode cX10_pull 1 = .ok (.invokevirtual 159, 3) := dAX10_pull (1, (.invokevirtual 159, 3)) (List.mem_of_getElem? (i := 1) rfl)
theorem dX10_pull_4 : decode cX10_pull 4 = .ok (.aload_n 0, 1) := dAX10_pull (4, (.aload_n 0, 1)) (List.mem_of_getElem? (i := 2) rfl)
theorem dX10_pull_5 : decode cX10_pull 5 = .ok (.iload_n 1, 1) := dAX10_pull (5, (.iload_n 1, 1)) (List.mem_of_getElem? (i := 3) rfl)
theorem dX10_pull_6 : decode cX10_pull 6 = .ok (.invokevirtual 300, 3) := dAX10_pull (6, (.invokevirtual 300, 3)) (List.mem_of_getElem? (i := 4) rfl)
theorem dX10_pull_9 : decode cX10_pull 9 = .ok (.ifCond .ne 9, 3) := dAX10_pull (9, (.ifCond .ne 9, 3)) (List.mem_of_getElem? (i := 5) rfl)
theorem dX10_pull_12 : decode cX10_pull 12 = .ok (.aload_n 0, 1) := dAX10_pull (12, (.aload_n 0, 1)) (List.mem_of_getElem? (i := 6) rfl)
theorem dX10_pull_13 : decode cX10_pull 13 = .ok (.iconst 1, 1) := dAX10_pull (13, (.iconst 1, 1)) (List.mem_of_getElem? (i := 7) rfl)
theorem dX10_pull_14 : decode cX10_pull 14 = .ok (.invokevirtual 162, 3) := dAX10_pull (14, (.invokevirtual 162, 3)) (List.mem_of_getElem? (i := 8) rfl)
theorem dX10_pull_17 : decode cX10_pull 17 = .ok (.ireturn, 1) := dAX10_pull (17, (.ireturn, 1)) (List.mem_of_getElem? (i := 9) rfl)
theorem dX10_pull_18 : decode cX10_pull 18 = .ok (.iconst 0, 1) := dAX10_pull (18, (.iconst 0, 1)) (List.mem_of_getElem? (i := 10) rfl)
theorem dX10_pull_19 : decode cX10_pull 19 = .ok (.istore_n 2, 1) := dAX10_pull (19, (.istore_n 2, 1)) (List.mem_of_getElem? (i := 11) rfl)
theorem dX10_pull_20 : decode cX10_pull 20 = .ok (.iconst 0, 1) := dAX10_pull (20, (.iconst 0, 1)) (List.mem_of_getElem? (i := 12) rfl)
theorem dX10_pull_21 : decode cX10_pull 21 = .ok (.istore_n 3, 1) := dAX10_pull (21, (.istore_n 3, 1)) (List.mem_of_getElem? (i := 13) rfl)
theorem dX10_pull_22 : decode cX10_pull 22 = .ok (.iload_n 3, 1) := dAX10_pull (22, (.iload_n 3, 1)) (List.mem_of_getElem? (i := 14) rfl)
theorem dX10_pull_23 : decode cX10_pull 23 = .ok (.aload_n 0, 1) := dAX10_pull (23, (.aload_n 0, 1)) (List.mem_of_getElem? (i := 15) rfl)
theorem dX10_pull_24 : decode cX10_pull 24 = .ok (.getfield 20, 3) := dAX10_pull (24, (.getfield 20, 3)) (List.mem_of_getElem? (i := 16) rfl)
theorem dX10_pull_27 : decode cX10_pull 27 = .ok (.iconst 3, 1) := dAX10_pull (27, (.iconst 3, 1)) (List.mem_of_getElem? (i := 17) rfl)
theorem dX10_pull_28 : decode cX10_pull 28 = .ok (.iaload, 1) := dAX10_pull (28, (.iaload, 1)) (List.mem_of_getElem? (i := 18) rfl)
theorem dX10_pull_29 : decode cX10_pull 29 = .ok (.if_icmp .ge 46, 3) := dAX10_pull (29, (.if_icmp .ge 46, 3)) (List.mem_of_getElem? (i := 19) rfl)
theorem dX10_pull_32 : decode cX10_pull 32 = .ok (.iload_n 2, 1) := dAX10_pull (32, (.iload_n 2, 1)) (List.mem_of_getElem? (i := 20) rfl)
theorem dX10_pull_33 : decode cX10_pull 33 = .ok (.iload_n 3, 1) := dAX10_pull (33, (.iload_n 3, 1)) (List.mem_of_getElem? (i := 21) rfl)
theorem dX10_pull_34 : decode cX10_pull 34 = .ok (.iload_n 1, 1) := dAX10_pull (34, (.iload_n 1, 1)) (List.mem_of_getElem? (i := 22) rfl)
theorem dX10_pull_35 : decode cX10_pull 35 = .ok (.if_icmp .eq 31, 3) := dAX10_pull (35, (.if_icmp .eq 31, 3)) (List.mem_of_getElem? (i := 23) rfl)
theorem dX10_pull_38 : decode cX10_pull 38 = .ok (.aload_n 0, 1) := dAX10_pull (38, (.aload_n 0, 1)) (List.mem_of_getElem? (i := 24) rfl)
theorem dX10_pull_39 : decode cX10_pull 39 = .ok (.getfield 26, 3) := dAX10_pull (39, (.getfield 26, 3)) (List.mem_of_getElem? (i := 25) rfl)
theorem dX10_pull_42 : decode cX10_pull 42 = .ok (.iload_n 3, 1) := dAX10_pull (42, (.iload_n 3, 1)) (List.mem_of_getElem? (i := 26) rfl)
theorem dX10_pull_43 : decode cX10_pull 43 = .ok (.invokestatic 248, 3) := dAX10_pull (43, (.invokestatic 248, 3)) (List.mem_of_getElem? (i := 27) rfl)
theorem dX10_pull_46 : decode cX10_pull 46 = .ok (.ifCond .eq 20, 3) := dAX10_pull (46, (.ifCond .eq 20, 3)) (List.mem_of_getElem? (i := 28) rfl)
theorem dX10_pull_49 : decode cX10_pull 49 = .ok (.aload_n 0, 1) := dAX10_pull (49, (.aload_n 0, 1)) (List.mem_of_getElem? (i := 29) rfl)
theorem dX10_pull_50 : decode cX10_pull 50 = .ok (.getfield 20, 3) := dAX10_pull (50, (.getfield 20, 3)) (List.mem_of_getElem? (i := 30) rfl)
theorem dX10_pull_53 : decode cX10_pull 53 = .ok (.bipush 37, 2) := dAX10_pull (53, (.bipush 37, 2)) (List.mem_of_getElem? (i := 31) rfl)
theorem dX10_pull_55 : decode cX10_pull 55 = .ok (.bipush 7, 2) := dAX10_pull (55, (.bipush 7, 2)) (List.mem_of_getElem? (i := 32) rfl)
theorem dX10_pull_57 : decode cX10_pull 57 = .ok (.iload_n 3, 1) := dAX10_pull (57, (.iload_n 3, 1)) (List.mem_of_getElem? (i := 33) rfl)
theorem dX10_pull_58 : decode cX10_pull 58 = .ok (.imul, 1) := dAX10_pull (58, (.imul, 1)) (List.mem_of_getElem? (i := 34) rfl)
theorem dX10_pull_59 : decode cX10_pull 59 = .ok (.iadd, 1) := dAX10_pull (59, (.iadd, 1)) (List.mem_of_getElem? (i := 35) rfl)
theorem dX10_pull_60 : decode cX10_pull 60 = .ok (.iload_n 1, 1) := dAX10_pull (60, (.iload_n 1, 1)) (List.mem_of_getElem? (i := 36) rfl)
theorem dX10_pull_61 : decode cX10_pull 61 = .ok (.iadd, 1) := dAX10_pull (61, (.iadd, 1)) (List.mem_of_getElem? (i := 37) rfl)
theorem dX10_pull_62 : decode cX10_pull 62 = .ok (.iaload, 1) := dAX10_pull (62, (.iaload, 1)) (List.mem_of_getElem? (i := 38) rfl)
theorem dX10_pull_63 : decode cX10_pull 63 = .ok (.goto 4, 3) := dAX10_pull (63, (.goto 4, 3)) (List.mem_of_getElem? (i := 39) rfl)
theorem dX10_pull_66 : decode cX10_pull 66 = .ok (.iconst 0, 1) := dAX10_pull (66, (.iconst 0, 1)) (List.mem_of_getElem? (i := 40) rfl)
theorem dX10_pull_67 : decode cX10_pull 67 = .ok (.iadd, 1) := dAX10_pull (67, (.iadd, 1)) (List.mem_of_getElem? (i := 41) rfl)
theorem dX10_pull_68 : decode cX10_pull 68 = .ok (.istore_n 2, 1) := dAX10_pull (68, (.istore_n 2, 1)) (List.mem_of_getElem? (i := 42) rfl)
theorem dX10_pull_69 : decode cX10_pull 69 = .ok (.iinc 3 1, 3) := dAX10_pull (69, (.iinc 3 1, 3)) (List.mem_of_getElem? (i := 43) rfl)
theorem dX10_pull_72 : decode cX10_pull 72 = .ok (.goto (-50), 3) := dAX10_pull (72, (.goto (-50), 3)) (List.mem_of_getElem? (i := 44) rfl)
theorem dX10_pull_75 : decode cX10_pull 75 = .ok (.iload_n 2, 1) := dAX10_pull (75, (.iload_n 2, 1)) (List.mem_of_getElem? (i := 45) rfl)
theorem dX10_pull_76 : decode cX10_pull 76 = .ok (.ireturn, 1) := dAX10_pull (76, (.ireturn, 1)) (List.mem_of_getElem? (i := 46) rfl)
set_option maxRecDepth 20000 in
theorem ggX10_pull_X10_good : GoodIn wsX10_pull wsX10_good := goodIn_r _ [7, 8, 9, 25, 26, 27, 28, 29, 30, 31, 32, 33, 34, 35, 36, 37, 38, 39, 40, 41, 42, 43, 44, 45, 46, 47, 48, 49, 50, 51, 52, 53, 54, 55, 56, 57, 58, 59] rfl (by decide +kernel)
set_option maxRecDepth 20000 in
theorem gX10_pull_X10_good : GoodIn wsX10_pull (wsV RX10 159 RX10 yX10_good wsX10_good) := goodIn_app (goodIn_of _ (by decide +kernel)) ggX10_pull_X10_good
set_option maxRecDepth 20000 in
theorem ggX10_pull_X10_isGuest : GoodIn wsX10_pull wsX10_isGuest := goodIn_r _ [13, 14, 1, 15, 16, 6, 17, 25, 26, 27, 28, 29, 30, 31, 32, 33, 34, 35, 36, 37, 38, 39, 40, 41, 42, 43, 44, 45, 46, 47, 48, 49, 50, 51, 52, 53, 54, 55, 56, 57, 58, 59] rfl (by decide +kernel)
set_option maxRecDepth 20000 in
theorem gX10_pull_X10_isGuest : GoodIn wsX10_pull (wsV RX10 300 RX10 yX10_isGuest wsX10_isGuest) := goodIn_app (goodIn_of _ (by decide +kernel)) ggX10_pull_X10_isGuest
set_option maxRecDepth 20000 in
theorem ggX10_pull_X10_no : GoodIn wsX10_pull wsX10_no := goodIn_r _ [21, 9, 25, 26, 27, 28, 29, 30, 31, 32, 33, 34, 35, 36, 37, 38, 39, 40, 41, 42, 43, 44, 45, 46, 47, 48, 49, 50, 51, 52, 53, 54, 55, 56, 57, 58, 59] rfl (by decide +kernel)
set_option maxRecDepth 20000 in
theorem gX10_pull_X10_no : GoodIn wsX10_pull (wsV RX10 162 RX10 yX10_no wsX10_no) := goodIn_app (goodIn_of _ (by decide +kernel)) ggX10_pull_X10_no
set_option maxRecDepth 20000 in
theorem ggX10_pull_X10_isIn : GoodIn wsX10_pull wsX10_isIn := goodIn_r _ [24] rfl (by decide +kernel)
set_option maxRecDepth 20000 in
theorem gX10_pull_X10_isIn : GoodIn wsX10_pull (va_wsS RX10 248 yX10_isIn wsX10_isIn) := goodIn_app (goodIn_of _ (by decide +kernel)) ggX10_pull_X10_isIn
theorem kX10_pull_20 : Cond.fieldLink RX10 20 "EveningVowModel" "\x72" "[I" ∈ wsX10_pull := List.mem_of_getElem? (i := 1) rfl
theorem iX10_pull_X10 : ∀ w ∈ u_ws RX10 TX10 35, w ∈ wsX10_pull := fun w h => (List.mem_cons_of_mem _ (List.mem_append_right _ h))
theorem kX10_pull_26 : Cond.fieldLink RX10 26 "EveningVowModel" "st" "[I" ∈ wsX10_pull := List.mem_of_getElem? (i := 2) rfl
set_option maxHeartbeats 4000000 in
set_option maxRecDepth 100000 in
theorem wX10_pull_L22 {p : Program} {l : Launch} {e : Env} {s : State} {m : MethodId} {args : Array Value} {below : List Frame} {meth : Method} {c : Code} {g : GG} {A : Nat → Prop} (C0 : Cx p s m args meth c cX10_pull 4 (some .int) RX10 wsX10_pull g A) (a_t : Nat) (p_t : Nat → Nat) (n : Nat) (x1 : Int32) (o_t : Nat → Int32) (f_t_15 : Nat → Int32) (f_t_17 : Nat → Int32)  (r : Int32) (o_t' : Nat → Int32) (K : Int32 → Option (Int32 × (Nat → Int32))) (hKx : ∀ (x2 : Int32) (H : Heap) (locs : List Loc) (ls : Array Slot), K x2 = some (r, o_t') → va_P g.1 vwCl [oX10 a_t p_t o_t, aI g (p_t 15) 266 f_t_15, aI g (p_t 17) 17 f_t_17] H → va_D A [oX10 a_t p_t o_t, aI g (p_t 15) 266 f_t_15, aI g (p_t 17) 17 f_t_17] → va_S A s.heap H locs → lv_has ls 4 [(2, .int x2)] → W p l e ({ frames := 2, cells := 0, slots := 0, locals := 43 } : Room) s m args below meth c H locs 0 0 (MQ below (EndI g r [oX10 a_t p_t o_t', aI g (p_t 15) 266 f_t_15, aI g (p_t 17) 17 f_t_17] A) args s 0 0 A) (F0 m 75 ls [])) : ∀ (k : Nat) (x2 : Int32) (x3 : Int32), fX10_pull_L22 n x1 o_t f_t_15 f_t_17 K k x2 x3 = some (r, o_t') → ∀ (H : Heap) (locs : List Loc) (ls : Array Slot), va_P g.1 vwCl [oX10 a_t p_t o_t, aI g (p_t 15) 266 f_t_15, aI g (p_t 17) 17 f_t_17] H → va_D A [oX10 a_t p_t o_t, aI g (p_t 15) 266 f_t_15, aI g (p_t 17) 17 f_t_17] → va_S A s.heap H locs → lv_has ls 4 [(0, .ref a_t), (1, .int x1), (2, .int x2), (3, .int x3)] → W p l e ({ frames := 2, cells := 0, slots := 0, locals := 43 } : Room) s m args below meth c H locs 0 0 (MQ below (EndI g r [oX10 a_t p_t o_t', aI g (p_t 15) 266 f_t_15, aI g (p_t 17) 17 f_t_17] A) args s 0 0 A) (F0 m 22 ls []) := by
  obtain ⟨hx, hb, hml, hown, hts, hr, hlk, hK, hA, hSW⟩ := id C0
  intro k
  induction k with
  | zero =>
    intro x2 x3 hF
    exact absurd hF (by simp [fX10_pull_L22])
  | succ k ih =>
    intro x2 x3 hF H locs ls hP hD hS hl
    rw [fX10_pull_L22] at hF
    refine lv_iload_n hx hb dX10_pull_22 rfl (lv_at hl 3 rfl) ?_
    refine lv_aload_n hx hb dX10_pull_23 rfl (lv_at hl 0 rfl) ?_
    refine va_get (D := g.1) (ci := 10) (v := .ref (p_t 15)) (C := RX10) (T := TX10) (N := 35) hx hb hts iX10_pull_X10 hown hK.1 hP 0 rfl rfl 15 (by decide) (hts _ kX10_pull_20) (fun _ h9 => h9) rfl dX10_pull_24 ?_
    refine lv_iconst (v := (3 : Int32)) hx hb dX10_pull_27 (by decide) ?_
    refine va_iald_k (j := 3) hx hb hK.1 hP 1 0 rfl rfl (by unfold vp_in; decide) rfl dX10_pull_28 ?_
    refine lv_icmp_ge (tgt := 75) hx hb dX10_pull_29 (by decide) (fun c_6 => ?_) (fun c_6 => ?_)
    · have hF := it_p c_6 hF
      exact hKx x2 _ _ _ hF (hP.sub [0, 1, 2] rfl) (hD.sub [0, 1, 2] rfl rfl) hS (lv_sub hl [2] rfl)
    · have hF := it_n c_6 hF
      refine lv_iload_n hx hb dX10_pull_32 rfl (lv_at hl 2 rfl) ?_
      refine lv_iload_n hx hb dX10_pull_33 rfl (lv_at hl 3 rfl) ?_
      refine lv_iload_n hx hb dX10_pull_34 rfl (lv_at hl 1 rfl) ?_
      refine lv_icmp_eq (tgt := 66) hx hb dX10_pull_35 (by decide) (fun c_7 => ?_) (fun c_7 => ?_)
      · have hF := it_p c_7 hF
        refine lv_iconst (v := (0 : Int32)) hx hb dX10_pull_66 (by decide) ?_
        refine lv_iadd hx hb dX10_pull_67 ?_
        refine lv_istore_n (lv' := [(2, .int (x2 + (0 : Int32))), (0, .ref a_t), (1, .int x1), (3, .int x3)]) hx hb dX10_pull_68 rfl hl (by decide) rfl (fun ls hl => ?_)
        refine lv_iinc (v := (x3 + (1 : Int32))) (lv' := [(3, .int (x3 + (1 : Int32))), (2, .int (x2 + (0 : Int32))), (0, .ref a_t), (1, .int x1)]) hx hb dX10_pull_69 hl (k := 3) rfl rfl (by decide) rfl (fun ls hl => ?_)
        refine lv_goto (tgt := 22) hx hb dX10_pull_72 (by decide) ?_
        exact ih (x2 + (0 : Int32)) (x3 + (1 : Int32)) hF _ _ _ (hP.sub [0, 1, 2] rfl) (hD.sub [0, 1, 2] rfl rfl) hS (lv_sub hl [2, 3, 1, 0] rfl)
      · have hF := it_n c_7 hF
        refine lv_aload_n hx hb dX10_pull_38 rfl (lv_at hl 0 rfl) ?_
        refine va_get (D := g.1) (ci := 10) (v := .ref (p_t 17)) (C := RX10) (T := TX10) (N := 35) hx hb hts iX10_pull_X10 hown hK.1 hP 0 rfl rfl 17 (by decide) (hts _ kX10_pull_26) (fun _ h9 => h9) rfl dX10_pull_39 ?_
        refine lv_iload_n hx hb dX10_pull_42 rfl (lv_at hl 3 rfl) ?_
        obtain ⟨u_8, hu_9, hF⟩ := ob1_some hF
        refine call_si (wr := [oX10 a_t p_t o_t, aI g (p_t 15) 266 f_t_15]) (As := [.ref (p_t 17), .int x3]) (rest := [.int x2]) C0 (mX10_isIn l g (p_t 17) n x3 f_t_17 u_8 hu_9) (va_cwS 2 hts gX10_pull_X10_isIn rfl rfl rfl (by decide +kernel) ⟨Nat.le_of_ble_eq_true rfl, Nat.le_of_ble_eq_true rfl⟩) hP hD hS [2] [0, 1] rfl rfl rfl rfl rfl (by decide) hl.1 rfl rfl (Nat.le_of_ble_eq_true rfl) ⟨Nat.zero_le _, Nat.zero_le _⟩ dX10_pull_43 ?_
        intro H locs hP hD hS
        refine lv_if_eq (tgt := 66) hx hb dX10_pull_46 (by decide) (fun c_10 => ?_) (fun c_10 => ?_)
        · have hF := it_p c_10 hF
          refine lv_iconst (v := (0 : Int32)) hx hb dX10_pull_66 (by decide) ?_
          refine lv_iadd hx hb dX10_pull_67 ?_
          refine lv_istore_n (lv' := [(2, .int (x2 + (0 : Int32))), (0, .ref a_t), (1, .int x1), (3, .int x3)]) hx hb dX10_pull_68 rfl hl (by decide) rfl (fun ls hl => ?_)
          refine lv_iinc (v := (x3 + (1 : Int32))) (lv' := [(3, .int (x3 + (1 : Int32))), (2, .int (x2 + (0 : Int32))), (0, .ref a_t), (1, .int x1)]) hx hb dX10_pull_69 hl (k := 3) rfl rfl (by decide) rfl (fun ls hl => ?_)
          refine lv_goto (tgt := 22) hx hb dX10_pull_72 (by decide) ?_
          exact ih (x2 + (0 : Int32)) (x3 + (1 : Int32)) hF _ _ _ (hP.sub [0, 1, 2] rfl) (hD.sub [0, 1, 2] rfl rfl) hS (lv_sub hl [2, 3, 1, 0] rfl)
        · have hF := it_n c_10 hF
          refine lv_aload_n hx hb dX10_pull_49 rfl (lv_at hl 0 rfl) ?_
          refine va_get (D := g.1) (ci := 10) (v := .ref (p_t 15)) (C := RX10) (T := TX10) (N := 35) hx hb hts iX10_pull_X10 hown hK.1 hP 0 rfl rfl 15 (by decide) (hts _ kX10_pull_20) (fun _ h9 => h9) rfl dX10_pull_50 ?_
          refine lv_bipush (v := (37 : Int32)) hx hb dX10_pull_53 (by decide) ?_
          refine lv_bipush (v := (7 : Int32)) hx hb dX10_pull_55 (by decide) ?_
          refine lv_iload_n hx hb dX10_pull_57 rfl (lv_at hl 3 rfl) ?_
          refine lv_imul hx hb dX10_pull_58 ?_
          refine lv_iadd hx hb dX10_pull_59 ?_
          refine lv_iload_n hx hb dX10_pull_60 rfl (lv_at hl 1 rfl) ?_
          refine lv_iadd hx hb dX10_pull_61 ?_
          obtain ⟨h_11, hF⟩ := it_ck hF
          refine va_iald hx hb hK.1 hP 1 0 rfl rfl h_11 dX10_pull_62 ?_
          refine lv_goto (tgt := 67) hx hb dX10_pull_63 (by decide) ?_
          refine lv_iadd hx hb dX10_pull_67 ?_
          refine lv_istore_n (lv' := [(2, .int (x2 + (f_t_15 ((((37 : Int32) + ((7 : Int32) * x3)) + x1)).toNatClampNeg))), (0, .ref a_t), (1, .int x1), (3, .int x3)]) hx hb dX10_pull_68 rfl hl (by decide) rfl (fun ls hl => ?_)
          refine lv_iinc (v := (x3 + (1 : Int32))) (lv' := [(3, .int (x3 + (1 : Int32))), (2, .int (x2 + (f_t_15 ((((37 : Int32) + ((7 : Int32) * x3)) + x1)).toNatClampNeg))), (0, .ref a_t), (1, .int x1)]) hx hb dX10_pull_69 hl (k := 3) rfl rfl (by decide) rfl (fun ls hl => ?_)
          refine lv_goto (tgt := 22) hx hb dX10_pull_72 (by decide) ?_
          exact ih (x2 + (f_t_15 ((((37 : Int32) + ((7 : Int32) * x3)) + x1)).toNatClampNeg)) (x3 + (1 : Int32)) hF _ _ _ (hP.sub [0, 1, 2] rfl) (hD.sub [0, 1, 2] rfl rfl) hS (lv_sub hl [2, 3, 1, 0] rfl)
set_option maxHeartbeats 4000000 in
set_option maxRecDepth 100000 in
theorem mX10_pull (l : Launch) (g : GG) (a_t : Nat) (p_t : Nat → Nat) (n : Nat) (x1 : Int32) (o_t : Nat → Int32) (f_t_15 : Nat → Int32) (f_t_17 : Nat → Int32) (r : Int32) (o_t' : Nat → Int32) (hF : fX10_pull n x1 o_t f_t_15 f_t_17 = some (r, o_t')) : MI l g yX10_pull wsX10_pull ({ frames := 2, cells := 0, slots := 0, locals := 43 } : Room) [.ref a_t, .int x1] [oX10 a_t p_t o_t, aI g (p_t 15) 266 f_t_15, aI g (p_t 17) 17 f_t_17] r [oX10 a_t p_t o_t', aI g (p_t 15) 266 f_t_15, aI g (p_t 17) 17 f_t_17] := by
  refine MI.of (cc := cX10_pull) (maxL := 4) (rt := .int) (own := RX10) rfl rfl (by decide) (Nat.le_of_ble_eq_true rfl) ?_
  intro p e s m args below meth c A C0 hP hD hS ls hl
  obtain ⟨hx, hb, hml, hown, hts, hr, hlk, hK, hA, hSW⟩ := id C0
  have hl : lv_has ls 4 [(0, .ref a_t), (1, .int x1)] := hl
  rw [fX10_pull] at hF
  refine lv_aload_n hx hb dX10_pull_0 rfl (lv_at hl 0 rfl) ?_
  obtain ⟨u_1, hu_2, hF⟩ := ob1_some hF
  refine call_v (wr := [aI g (p_t 15) 266 f_t_15, aI g (p_t 17) 17 f_t_17]) (As := []) (rest := []) (ci := 10) (q0 := 0) C0 (mX10_good l g a_t p_t n o_t u_1 hu_2) (cwV 0 hts gX10_pull_X10_good rfl rfl rfl (by decide +kernel) ⟨Nat.le_of_ble_eq_true rfl, Nat.le_of_ble_eq_true rfl⟩) hP hD hS [0] [1, 2] rfl rfl rfl rfl rfl (by decide) rfl rfl hl.1 rfl rfl (Nat.le_of_ble_eq_true rfl) ⟨Nat.zero_le _, Nat.zero_le _⟩ dX10_pull_1 ?_
  intro H locs hP hD hS
  refine lv_aload_n hx hb dX10_pull_4 rfl (lv_at hl 0 rfl) ?_
  refine lv_iload_n hx hb dX10_pull_5 rfl (lv_at hl 1 rfl) ?_
  obtain ⟨u_3, hu_4, hF⟩ := ob1_some hF
  refine call_i (wr := [aI g (p_t 17) 17 f_t_17]) (As := [.int x1]) (rest := []) (ci := 10) (q0 := 0) C0 (mX10_isGuest l g a_t p_t n x1 u_1 f_t_15 u_3 hu_4) (cwV 1 hts gX10_pull_X10_isGuest rfl rfl rfl (by decide +kernel) ⟨Nat.le_of_ble_eq_true rfl, Nat.le_of_ble_eq_true rfl⟩) hP hD hS [2, 0] [1] rfl rfl rfl rfl rfl (by decide) rfl rfl hl.1 rfl rfl (Nat.le_of_ble_eq_true rfl) ⟨Nat.zero_le _, Nat.zero_le _⟩ dX10_pull_6 ?_
  intro H locs hP hD hS
  refine lv_if_ne (tgt := 18) hx hb dX10_pull_9 (by decide) (fun c_5 => ?_) (fun c_5 => ?_)
  · have hF := it_n c_5 hF
    refine lv_iconst (v := (0 : Int32)) hx hb dX10_pull_18 (by decide) ?_
    refine lv_istore_n (lv' := [(2, .int (0 : Int32)), (0, .ref a_t), (1, .int x1)]) hx hb dX10_pull_19 rfl hl (by decide) rfl (fun ls hl => ?_)
    refine lv_iconst (v := (0 : Int32)) hx hb dX10_pull_20 (by decide) ?_
    refine lv_istore_n (lv' := [(3, .int (0 : Int32)), (2, .int (0 : Int32)), (0, .ref a_t), (1, .int x1)]) hx hb dX10_pull_21 rfl hl (by decide) rfl (fun ls hl => ?_)
    refine wX10_pull_L22 C0 a_t p_t n x1 u_1 f_t_15 f_t_17 r o_t' _ ?_ n (0 : Int32) (0 : Int32) hF _ _ _ (hP.sub [1, 2, 0] rfl) (hD.sub [1, 2, 0] rfl rfl) hS (lv_sub hl [2, 3, 1, 0] rfl)
    · intro x2_x22 H locs ls hF hP hD hS hl
      refine lv_iload_n hx hb dX10_pull_75 rfl (lv_at hl 0 rfl) ?_
      cases hF
      exact ret_i C0 hP hD hS [0, 1, 2] rfl rfl rfl dX10_pull_76 rfl
  · have hF := it_p c_5 hF
    refine lv_aload_n hx hb dX10_pull_12 rfl (lv_at hl 0 rfl) ?_
    refine lv_iconst (v := (1 : Int32)) hx hb dX10_pull_13 (by decide) ?_
    obtain ⟨u_12, u_13, hu_14, hF⟩ := ob2_some hF
    refine call_i (wr := [aI g (p_t 17) 17 f_t_17, aI g (p_t 15) 266 f_t_15]) (As := [.int (1 : Int32)]) (rest := []) (ci := 10) (q0 := 0) C0 (mX10_no l g a_t p_t n (1 : Int32) u_1 u_12 u_13 hu_14) (cwV 1 hts gX10_pull_X10_no rfl rfl rfl (by decide +kernel) ⟨Nat.le_of_ble_eq_true rfl, Nat.le_of_ble_eq_true rfl⟩) hP hD hS [1] [0, 2] rfl rfl rfl rfl rfl (by decide) rfl rfl hl.1 rfl rfl (Nat.le_of_ble_eq_true rfl) ⟨Nat.zero_le _, Nat.zero_le _⟩ dX10_pull_14 ?_
    intro H locs hP hD hS
    cases hF
    exact ret_i C0 hP hD hS [2, 1, 0] rfl rfl rfl dX10_pull_17 rfl

theorem dAX10_ends : ∀ q ∈ ([(0, (.aload_n 0, 1)), (1, (.invokevirtual 159, 3)), (4, (.aload_n 0, 1)), (5, (.getfield 176, 3)), (8, (.ifCond .eq 10, 3)), (11, (.aload_n 0, 1)), (12, (.invokevirtual 309, 3)), (15, (.goto 8, 3)), (18, (.aload_n 0, 1)), (19, (.iconst 1, 1)), (20, (.invokevirtual 162, 3)), (23, (.ireturn, 1))] : List (Nat × (Instr × Nat))), decode cX10_ends q.1 = .ok q.2 := by decide +kernel
theorem dX10_ends_0 : decode cX10_ends 0 = .ok (.aload_n 0, 1) := dAX10_ends (0, (.aload_n 0, 1)) (List.mem_of_getElem? (i := 0) rfl)
theorem dX10_ends_1 : decode cX10_ends 1 = .ok (.invokevirtual 159, 3) := dAX10_ends (1, (.invokevirtual 159, 3)) (List.mem_of_getElem? (i := 1) rfl)
theorem dX10_ends_4 : decode cX10_ends 4 = .ok (.aload_n 0, 1) := dAX10_ends (4, (.aload_n 0, 1)) (List.mem_of_getElem? (i := 2) rfl)
theorem dX10_ends_5 : decode cX10_ends 5 = .ok (.getfield 176, 3) := dAX10_ends (5, (.getfield 176, 3)) (List.mem_of_getElem? (i := 3) rfl)
theorem dX10_ends_8 : decode cX10_ends 8 = .ok (.ifCond .eq 10, 3) := dAX10_ends (8, (.ifCond .eq 10, 3)) (List.mem_of_getElem? (i := 4) rfl)
theorem dX10_ends_11 : decode cX10_ends 11 = .ok (.aload_n 0, 1) := dAX10_ends (11, (.aload_n 0, 1)) (List.mem_of_getElem? (i := 5) rfl)
theorem dX10_ends_12 : decode cX10_ends 12 = .ok (.invokevirtual 309, 3) := dAX10_ends (12, (.invokevirtual 309, 3)) (List.mem_of_getElem? (i := 6) rfl)
theorem dX10_ends_15 : decode cX10_ends 15 = .ok (.goto 8, 3) := dAX10_ends (15, (.goto 8, 3)) (List.mem_of_getElem? (i := 7) rfl)
theorem dX10_ends_18 : decode cX10_ends 18 = .ok (.aload_n 0, 1) := dAX10_ends (18, (.aload_n 0, 1)) (List.mem_of_getElem? (i := 8) rfl)
theorem dX10_ends_19 : decode cX10_ends 19 = .ok (.iconst 1, 1) := dAX10_ends (19, (.iconst 1, 1)) (List.mem_of_getElem? (i := 9) rfl)
theorem dX10_ends_20 : decode cX10_ends 20 = .ok (.invokevirtual 162, 3) := dAX10_ends (20, (.invokevirtual 162, 3)) (List.mem_of_getElem? (i := 10) rfl)
theorem dX10_ends_23 : decode cX10_ends 23 = .ok (.ireturn, 1) := dAX10_ends (23, (.ireturn, 1)) (List.mem_of_getElem? (i := 11) rfl)
set_option maxRecDepth 20000 in
theorem ggX10_ends_X10_good : GoodIn wsX10_ends wsX10_good := goodIn_r _ [6, 7, 8, 73, 74, 75, 76, 77, 78, 79, 80, 81, 82, 83, 84, 85, 86, 87, 88, 89, 90, 91, 92, 93, 94, 95, 96, 97, 98, 99, 100, 101, 102, 103, 104, 105, 106, 107] rfl (by decide +kernel)
set_option maxRecDepth 20000 in
theorem gX10_ends_X10_good : GoodIn wsX10_ends (wsV RX10 159 RX10 yX10_good wsX10_good) := goodIn_app (goodIn_of _ (by decide +kernel)) ggX10_ends_X10_good
set_option maxRecDepth 20000 in
theorem ggX10_ends_X10_endsNow : GoodIn wsX10_ends wsX10_endsNow := goodIn_r _ [12, 13, 14, 15, 16, 5, 17, 18, 19, 20, 21, 22, 23, 24, 25, 26, 27, 28, 29, 30, 31, 32, 33, 34, 35, 36, 37, 38, 39, 40, 41, 42, 43, 44, 45, 46, 47, 48, 49, 50, 51, 52, 53, 54, 55, 56, 57, 58, 59, 60, 61, 62, 63, 64, 65, 66, 67, 68, 73, 74, 75, 76, 77, 78, 79, 80, 81, 82, 83, 84, 85, 86, 87, 88, 89, 90, 91, 92, 93, 94, 95, 96, 97, 98, 99, 100, 101, 102, 103, 104, 105, 106, 107] rfl (by decide +kernel)
set_option maxRecDepth 20000 in
theorem gX10_ends_X10_endsNow : GoodIn wsX10_ends (wsV RX10 309 RX10 yX10_endsNow wsX10_endsNow) := goodIn_app (goodIn_of _ (by decide +kernel)) ggX10_ends_X10_endsNow
set_option maxRecDepth 20000 in
theorem ggX10_ends_X10_no : GoodIn wsX10_ends wsX10_no := goodIn_r _ [72, 8, 73, 74, 75, 76, 77, 78, 79, 80, 81, 82, 83, 84, 85, 86, 87, 88, 89, 90, 91, 92, 93, 94, 95, 96, 97, 98, 99, 100, 101, 102, 103, 104, 105, 106, 107] rfl (by decide +kernel)
set_option maxRecDepth 20000 in
theorem gX10_ends_X10_no : GoodIn wsX10_ends (wsV RX10 162 RX10 yX10_no wsX10_no) := goodIn_app (goodIn_of _ (by decide +kernel)) ggX10_ends_X10_no
theorem kX10_ends_176 : Cond.fieldLink RX10 176 "EveningVowModel" "hasEvening" "Z" ∈ wsX10_ends := List.mem_of_getElem? (i := 1) rfl
theorem iX10_ends_X10 : ∀ w ∈ u_ws RX10 TX10 35, w ∈ wsX10_ends := fun w h => (List.mem_cons_of_mem _ (List.mem_append_right _ h))
set_option maxHeartbeats 4000000 in
set_option maxRecDepth 100000 in
theorem mX10_ends (l : Launch) (g : GG) (a_t : Nat) (p_t : Nat → Nat) (n : Nat) (o_t : Nat → Int32) (f_t_15 : Nat → Int32) (f_t_17 : Nat → Int32) (f_t_25 : Nat → Int32) (r : Int32) (o_t' : Nat → Int32) (f_t_25' : Nat → Int32) (hF : fX10_ends n o_t f_t_15 f_t_17 f_t_25 = some (r, o_t', f_t_25')) : MI l g yX10_ends wsX10_ends ({ frames := 6, cells := 0, slots := 0, locals := 136 } : Room) [.ref a_t] [oX10 a_t p_t o_t, aI g (p_t 15) 266 f_t_15, aI g (p_t 17) 17 f_t_17, aI g (p_t 25) 17 f_t_25] r [oX10 a_t p_t o_t', aI g (p_t 15) 266 f_t_15, aI g (p_t 17) 17 f_t_17, aI g (p_t 25) 17 f_t_25'] := by
  refine MI.of (cc := cX10_ends) (maxL := 1) (rt := .int) (own := RX10) rfl rfl (by decide) (Nat.le_of_ble_eq_true rfl) ?_
  intro p e s m args below meth c A C0 hP hD hS ls hl
  obtain ⟨hx, hb, hml, hown, hts, hr, hlk, hK, hA, hSW⟩ := id C0
  have hl : lv_has ls 1 [(0, .ref a_t)] := hl
  rw [fX10_ends] at hF
  refine lv_aload_n hx hb dX10_ends_0 rfl (lv_at hl 0 rfl) ?_
  obtain ⟨u_1, hu_2, hF⟩ := ob1_some hF
  refine call_v (wr := [aI g (p_t 15) 266 f_t_15, aI g (p_t 17) 17 f_t_17, aI g (p_t 25) 17 f_t_25]) (As := []) (rest := []) (ci := 10) (q0 := 0) C0 (mX10_good l g a_t p_t n o_t u_1 hu_2) (cwV 0 hts gX10_ends_X10_good rfl rfl rfl (by decide +kernel) ⟨Nat.le_of_ble_eq_true rfl, Nat.le_of_ble_eq_true rfl⟩) hP hD hS [0] [1, 2, 3] rfl rfl rfl rfl rfl (by decide) rfl rfl hl.1 rfl rfl (Nat.le_of_ble_eq_true rfl) ⟨Nat.zero_le _, Nat.zero_le _⟩ dX10_ends_1 ?_
  intro H locs hP hD hS
  refine lv_aload_n hx hb dX10_ends_4 rfl (lv_at hl 0 rfl) ?_
  refine va_get (D := g.1) (ci := 10) (v := .int (u_1 14)) (C := RX10) (T := TX10) (N := 35) hx hb hts iX10_ends_X10 hown hK.1 hP 3 rfl rfl 14 (by decide) (hts _ kX10_ends_176) (fun _ h9 => h9) rfl dX10_ends_5 ?_
  refine lv_if_eq (tgt := 18) hx hb dX10_ends_8 (by decide) (fun c_3 => ?_) (fun c_3 => ?_)
  · have hF := it_p c_3 hF
    refine lv_aload_n hx hb dX10_ends_18 rfl (lv_at hl 0 rfl) ?_
    refine lv_iconst (v := (1 : Int32)) hx hb dX10_ends_19 (by decide) ?_
    obtain ⟨u_4, u_5, hu_6, hF⟩ := ob2_some hF
    refine call_i (wr := [aI g (p_t 15) 266 f_t_15, aI g (p_t 17) 17 f_t_17, aI g (p_t 25) 17 f_t_25]) (As := [.int (1 : Int32)]) (rest := []) (ci := 10) (q0 := 0) C0 (mX10_no l g a_t p_t n (1 : Int32) u_1 u_4 u_5 hu_6) (cwV 1 hts gX10_ends_X10_no rfl rfl rfl (by decide +kernel) ⟨Nat.le_of_ble_eq_true rfl, Nat.le_of_ble_eq_true rfl⟩) hP hD hS [3] [0, 1, 2] rfl rfl rfl rfl rfl (by decide) rfl rfl hl.1 rfl rfl (Nat.le_of_ble_eq_true rfl) ⟨Nat.zero_le _, Nat.zero_le _⟩ dX10_ends_20 ?_
    intro H locs hP hD hS
    cases hF
    exact ret_i C0 hP hD hS [3, 0, 1, 2] rfl rfl rfl dX10_ends_23 rfl
  · have hF := it_n c_3 hF
    refine lv_aload_n hx hb dX10_ends_11 rfl (lv_at hl 0 rfl) ?_
    obtain ⟨u_7, u_8, u_9, hu_10, hF⟩ := ob3_some hF
    refine call_i (wr := []) (As := []) (rest := []) (ci := 10) (q0 := 0) C0 (mX10_endsNow l g a_t p_t n u_1 f_t_15 f_t_17 f_t_25 u_7 u_8 u_9 hu_10) (cwV 0 hts gX10_ends_X10_endsNow rfl rfl rfl (by decide +kernel) ⟨Nat.le_of_ble_eq_true rfl, Nat.le_of_ble_eq_true rfl⟩) hP hD hS [3, 0, 1, 2] [] rfl rfl rfl rfl rfl (by decide) rfl rfl hl.1 rfl rfl (Nat.le_of_ble_eq_true rfl) ⟨Nat.zero_le _, Nat.zero_le _⟩ dX10_ends_12 ?_
    intro H locs hP hD hS
    refine lv_goto (tgt := 23) hx hb dX10_ends_15 (by decide) ?_
    cases hF
    exact ret_i C0 hP hD hS [0, 1, 2, 3] rfl rfl rfl dX10_ends_23 rfl

theorem dAX10_last : ∀ q ∈ ([(0, (.aload_n 0, 1)), (1, (.invokevirtual 159, 3)), (4, (.aload_n 0, 1)), (5, (.getfield 176, 3)), (8, (.ifCond .ne 9, 3)), (11, (.aload_n 0, 1)), (12, (.iconst 1, 1)), (13, (.invokevirtual 162, 3)), (16, (.ireturn, 1)), (17, (.aload_n 0, 1)), (18, (.invokevirtual 309, 3)), (21, (.ifCond .ge 8, 3)), (24, (.bipush (-2), 2)), (26, (.goto 7, 3)), (29, (.aload_n 0, 1)), (30, (.getfield 287, 3)), (33, (.ireturn, 1))] : List (Nat × (Instr × Nat))), decode cX10_last q.1 = .ok q.2 := by decide +kernel
theorem dX10_last_0 : decode cX10_last 0 = .ok (.aload_n 0, 1) := dAX10_last (0, (.aload_n 0, 1)) (List.mem_of_getElem? (i := 0) rfl)
theorem dX10_last_1 : decode cX10_last 1 = .ok (.invokevirtual 159, 3) := dAX10_last (1, (.invokevirtual 159, 3)) (List.mem_of_getElem? (i := 1) rfl)
theorem dX10_last_4 : decode cX10_last 4 = .ok (.aload_n 0, 1) := dAX10_last (4, (.aload_n 0, 1)) (List.mem_of_getElem? (i := 2) rfl)
theorem dX10_last_5 : decode cX10_last 5 = .ok (.getfield 176, 3) := dAX10_last (5, (.getfield 176, 3)) (List.mem_of_getElem? (i := 3) rfl)
theorem dX10_last_8 : decode cX10_last 8 = .ok (.ifCond .ne 9, 3) := dAX10_last (8, (.ifCond .ne 9, 3)) (List.mem_of_getElem? (i := 4) rfl)
theorem dX10_last_11 : decode cX10_last 11 = .ok (.aload_n 0, 1) := dAX10_last (11, (.aload_n 0, 1)) (List.mem_of_getElem? (i := 5) rfl)
theorem dX10_last_12 : decode cX10_last 12 = .ok (.iconst 1, 1) := dAX10_last (12, (.iconst 1, 1)) (List.mem_of_getElem? (i := 6) rfl)
theorem dX10_last_13 : decode cX10_last 13 = .ok (.invokevirtual 162, 3) := dAX10_last (13, (.invokevirtual 162, 3)) (List.mem_of_getElem? (i := 7) rfl)
theorem dX10_last_16 : decode cX10_last 16 = .ok (.ireturn, 1) := dAX10_last (16, (.ireturn, 1)) (List.mem_of_getElem? (i := 8) rfl)
theorem dX10_last_17 : decode cX10_last 17 = .ok (.aload_n 0, 1) := dAX10_last (17, (.aload_n 0, 1)) (List.mem_of_getElem? (i := 9) rfl)
theorem dX10_last_18 : decode cX10_last 18 = .ok (.invokevirtual 309, 3) := dAX10_last (18, (.invokevirtual 309, 3)) (List.mem_of_getElem? (i := 10) rfl)
theorem dX10_last_21 : decode cX10_last 21 = .ok (.ifCond .ge 8, 3) := dAX10_last (21, (.ifCond .ge 8, 3)) (List.mem_of_getElem? (i := 11) rfl)
theorem dX10_last_24 : decode cX10_last 24 = .ok (.bipush (-2), 2) := dAX10_last (24, (.bipush (-2), 2)) (List.mem_of_getElem? (i := 12) rfl)
theorem dX10_last_26 : decode cX10_last 26 = .ok (.goto 7, 3) := dAX10_last (26, (.goto 7, 3)) (List.mem_of_getElem? (i := 13) rfl)
theorem dX10_last_29 : decode cX10_last 29 = .ok (.aload_n 0, 1) := dAX10_last (29, (.aload_n 0, 1)) (List.mem_of_getElem? (i := 14) rfl)
theorem dX10_last_30 : decode cX10_last 30 = .ok (.getfield 287, 3) := dAX10_last (30, (.getfield 287, 3)) (List.mem_of_getElem? (i := 15) rfl)
theorem dX10_last_33 : decode cX10_last 33 = .ok (.ireturn, 1) := dAX10_last (33, (.ireturn, 1)) (List.mem_of_getElem? (i := 16) rfl)
set_option maxRecDepth 20000 in
theorem ggX10_last_X10_good : GoodIn wsX10_last wsX10_good := goodIn_r _ [7, 8, 9, 73, 74, 75, 76, 77, 78, 79, 80, 81, 82, 83, 84, 85, 86, 87, 88, 89, 90, 91, 92, 93, 94, 95, 96, 97, 98, 99, 100, 101, 102, 103, 104, 105, 106, 107] rfl (by decide +kernel)
set_option maxRecDepth 20000 in
theorem gX10_last_X10_good : GoodIn wsX10_last (wsV RX10 159 RX10 yX10_good wsX10_good) := goodIn_app (goodIn_of _ (by decide +kernel)) ggX10_last_X10_good
set_option maxRecDepth 20000 in
theorem ggX10_last_X10_no : GoodIn wsX10_last wsX10_no := goodIn_r _ [13, 9, 73, 74, 75, 76, 77, 78, 79, 80, 81, 82, 83, 84, 85, 86, 87, 88, 89, 90, 91, 92, 93, 94, 95, 96, 97, 98, 99, 100, 101, 102, 103, 104, 105, 106, 107] rfl (by decide +kernel)
set_option maxRecDepth 20000 in
theorem gX10_last_X10_no : GoodIn wsX10_last (wsV RX10 162 RX10 yX10_no wsX10_no) := goodIn_app (goodIn_of _ (by decide +kernel)) ggX10_last_X10_no
set_option maxRecDepth 20000 in
theorem ggX10_last_X10_endsNow : GoodIn wsX10_last wsX10_endsNow := goodIn_r _ [17, 18, 19, 20, 21, 6, 22, 23, 24, 25, 26, 2, 27, 28, 29, 30, 31, 32, 33, 34, 35, 36, 37, 38, 39, 40, 41, 42, 43, 44, 45, 46, 47, 48, 49, 50, 51, 52, 53, 54, 55, 56, 57, 58, 59, 60, 61, 62, 63, 64, 65, 66, 67, 68, 69, 70, 71, 72, 73, 74, 75, 76, 77, 78, 79, 80, 81, 82, 83, 84, 85, 86, 87, 88, 89, 90, 91, 92, 93, 94, 95, 96, 97, 98, 99, 100, 101, 102, 103, 104, 105, 106, 107] rfl (by decide +kernel)
set_option maxRecDepth 20000 in
theorem gX10_last_X10_endsNow : GoodIn wsX10_last (wsV RX10 309 RX10 yX10_endsNow wsX10_endsNow) := goodIn_app (goodIn_of _ (by decide +kernel)) ggX10_last_X10_endsNow
theorem kX10_last_176 : Cond.fieldLink RX10 176 "EveningVowModel" "hasEvening" "Z" ∈ wsX10_last := List.mem_of_getElem? (i := 1) rfl
theorem iX10_last_X10 : ∀ w ∈ u_ws RX10 TX10 35, w ∈ wsX10_last := fun w h => (List.mem_cons_of_mem _ (List.mem_append_right _ h))
theorem kX10_last_287 : Cond.fieldLink RX10 287 "EveningVowModel" "lastOnes" "I" ∈ wsX10_last := List.mem_of_getElem? (i := 2) rfl
set_option maxHeartbeats 4000000 in
set_option maxRecDepth 100000 in
theorem mX10_last (l : Launch) (g : GG) (a_t : Nat) (p_t : Nat → Nat) (n : Nat) (o_t : Nat → Int32) (f_t_15 : Nat → Int32) (f_t_17 : Nat → Int32) (f_t_25 : Nat → Int32) (r : Int32) (o_t' : Nat → Int32) (f_t_25' : Nat → Int32) (hF : fX10_last n o_t f_t_15 f_t_17 f_t_25 = some (r, o_t', f_t_25')) : MI l g yX10_last wsX10_last ({ frames := 6, cells := 0, slots := 0, locals := 136 } : Room) [.ref a_t] [oX10 a_t p_t o_t, aI g (p_t 15) 266 f_t_15, aI g (p_t 17) 17 f_t_17, aI g (p_t 25) 17 f_t_25] r [oX10 a_t p_t o_t', aI g (p_t 15) 266 f_t_15, aI g (p_t 17) 17 f_t_17, aI g (p_t 25) 17 f_t_25'] := by
  refine MI.of (cc := cX10_last) (maxL := 1) (rt := .int) (own := RX10) rfl rfl (by decide) (Nat.le_of_ble_eq_true rfl) ?_
  intro p e s m args below meth c A C0 hP hD hS ls hl
  obtain ⟨hx, hb, hml, hown, hts, hr, hlk, hK, hA, hSW⟩ := id C0
  have hl : lv_has ls 1 [(0, .ref a_t)] := hl
  rw [fX10_last] at hF
  refine lv_aload_n hx hb dX10_last_0 rfl (lv_at hl 0 rfl) ?_
  obtain ⟨u_1, hu_2, hF⟩ := ob1_some hF
  refine call_v (wr := [aI g (p_t 15) 266 f_t_15, aI g (p_t 17) 17 f_t_17, aI g (p_t 25) 17 f_t_25]) (As := []) (rest := []) (ci := 10) (q0 := 0) C0 (mX10_good l g a_t p_t n o_t u_1 hu_2) (cwV 0 hts gX10_last_X10_good rfl rfl rfl (by decide +kernel) ⟨Nat.le_of_ble_eq_true rfl, Nat.le_of_ble_eq_true rfl⟩) hP hD hS [0] [1, 2, 3] rfl rfl rfl rfl rfl (by decide) rfl rfl hl.1 rfl rfl (Nat.le_of_ble_eq_true rfl) ⟨Nat.zero_le _, Nat.zero_le _⟩ dX10_last_1 ?_
  intro H locs hP hD hS
  refine lv_aload_n hx hb dX10_last_4 rfl (lv_at hl 0 rfl) ?_
  refine va_get (D := g.1) (ci := 10) (v := .int (u_1 14)) (C := RX10) (T := TX10) (N := 35) hx hb hts iX10_last_X10 hown hK.1 hP 3 rfl rfl 14 (by decide) (hts _ kX10_last_176) (fun _ h9 => h9) rfl dX10_last_5 ?_
  refine lv_if_ne (tgt := 17) hx hb dX10_last_8 (by decide) (fun c_3 => ?_) (fun c_3 => ?_)
  · have hF := it_n c_3 hF
    refine lv_aload_n hx hb dX10_last_17 rfl (lv_at hl 0 rfl) ?_
    obtain ⟨u_4, u_5, u_6, hu_7, hF⟩ := ob3_some hF
    refine call_i (wr := []) (As := []) (rest := []) (ci := 10) (q0 := 0) C0 (mX10_endsNow l g a_t p_t n u_1 f_t_15 f_t_17 f_t_25 u_4 u_5 u_6 hu_7) (cwV 0 hts gX10_last_X10_endsNow rfl rfl rfl (by decide +kernel) ⟨Nat.le_of_ble_eq_true rfl, Nat.le_of_ble_eq_true rfl⟩) hP hD hS [3, 0, 1, 2] [] rfl rfl rfl rfl rfl (by decide) rfl rfl hl.1 rfl rfl (Nat.le_of_ble_eq_true rfl) ⟨Nat.zero_le _, Nat.zero_le _⟩ dX10_last_18 ?_
    intro H locs hP hD hS
    refine lv_if_ge (tgt := 29) hx hb dX10_last_21 (by decide) (fun c_8 => ?_) (fun c_8 => ?_)
    · have hF := it_p c_8 hF
      refine lv_aload_n hx hb dX10_last_29 rfl (lv_at hl 0 rfl) ?_
      refine va_get (D := g.1) (ci := 10) (v := .int (u_5 24)) (C := RX10) (T := TX10) (N := 35) hx hb hts iX10_last_X10 hown hK.1 hP 0 rfl rfl 24 (by decide) (hts _ kX10_last_287) (fun _ h9 => h9) rfl dX10_last_30 ?_
      cases hF
      exact ret_i C0 hP hD hS [0, 1, 2, 3] rfl rfl rfl dX10_last_33 rfl
    · have hF := it_n c_8 hF
      refine lv_bipush (v := (-2 : Int32)) hx hb dX10_last_24 (by decide) ?_
      refine lv_goto (tgt := 33) hx hb dX10_last_26 (by decide) ?_
      cases hF
      exact ret_i C0 hP hD hS [0, 1, 2, 3] rfl rfl rfl dX10_last_33 rfl
  · have hF := it_p c_3 hF
    refine lv_aload_n hx hb dX10_last_11 rfl (lv_at hl 0 rfl) ?_
    refine lv_iconst (v := (1 : Int32)) hx hb dX10_last_12 (by decide) ?_
    obtain ⟨u_9, u_10, hu_11, hF⟩ := ob2_some hF
    refine call_i (wr := [aI g (p_t 15) 266 f_t_15, aI g (p_t 17) 17 f_t_17, aI g (p_t 25) 17 f_t_25]) (As := [.int (1 : Int32)]) (rest := []) (ci := 10) (q0 := 0) C0 (mX10_no l g a_t p_t n (1 : Int32) u_1 u_9 u_10 hu_11) (cwV 1 hts gX10_last_X10_no rfl rfl rfl (by decide +kernel) ⟨Nat.le_of_ble_eq_true rfl, Nat.le_of_ble_eq_true rfl⟩) hP hD hS [3] [0, 1, 2] rfl rfl rfl rfl rfl (by decide) rfl rfl hl.1 rfl rfl (Nat.le_of_ble_eq_true rfl) ⟨Nat.zero_le _, Nat.zero_le _⟩ dX10_last_13 ?_
    intro H locs hP hD hS
    cases hF
    exact ret_i C0 hP hD hS [3, 0, 1, 2] rfl rfl rfl dX10_last_16 rfl

theorem dAX10_sends : ∀ q ∈ ([(0, (.aload_n 0, 1)), (1, (.aload_n 1, 1)), (2, (.iload_n 2, 1)), (3, (.invokevirtual 270, 3)), (6, (.iload_n 2, 1)), (7, (.aload_n 0, 1)), (8, (.aload_n 1, 1)), (9, (.invokevirtual 280, 3)), (12, (.ior, 1)), (13, (.ireturn, 1))] : List (Nat × (Instr × Nat))), decode cX10_sends q.1 = .ok q.2 := by decide +kernel
theorem dX10_sends_0 : decode cX10_sends 0 = .ok (.aload_n 0, 1) := dAX10_sends (0, (.aload_n 0, 1)) (List.mem_of_getElem? (i := 0) rfl)
theorem dX10_sends_1 : decode cX10_sends 1 = .ok (.aload_n 1, 1) := dAX10_sends (1, (.aload_n 1, 1)) (List.mem_of_getElem? (i := 1) rfl)
theorem dX10_sends_2 : decode cX10_sends 2 = .ok (.iload_n 2, 1) := dAX10_sends (2, (.iload_n 2, 1)) (List.mem_of_getElem? (i := 2) rfl)
theorem dX10_sends_3 : decode cX10_sends 3 = .ok (.invokevirtual 270, 3) := dAX10_sends (3, (.invokevirtual 270, 3)) (List.mem_of_getElem? (i := 3) rfl)
theorem dX10_sends_6 : decode cX10_sends 6 = .ok (.iload_n 2, 1) := dAX10_sends (6, (.iload_n 2, 1)) (List.mem_of_getElem? (i := 4) rfl)
theorem dX10_sends_7 : decode cX10_sends 7 = .ok (.aload_n 0, 1) := dAX10_sends (7, (.aload_n 0, 1)) (List.mem_of_getElem? (i := 5) rfl)
theorem dX10_sends_8 : decode cX10_sends 8 = .ok (.aload_n 1, 1) := dAX10_sends (8, (.aload_n 1, 1)) (List.mem_of_getElem? (i := 6) rfl)
theorem dX10_sends_9 : decode cX10_sends 9 = .ok (.invokevirtual 280, 3) := dAX10_sends (9, (.invokevirtual 280, 3)) (List.mem_of_getElem? (i := 7) rfl)
theorem dX10_sends_12 : decode cX10_sends 12 = .ok (.ior, 1) := dAX10_sends (12, (.ior, 1)) (List.mem_of_getElem? (i := 8) rfl)
theorem dX10_sends_13 : decode cX10_sends 13 = .ok (.ireturn, 1) := dAX10_sends (13, (.ireturn, 1)) (List.mem_of_getElem? (i := 9) rfl)
set_option maxRecDepth 20000 in
theorem ggX10_sends_X10_goes : GoodIn wsX10_sends wsX10_goes := goodIn_r _ [5, 6, 7, 8, 4, 9, 10, 11, 12, 30, 31, 32, 33, 34, 35, 36, 37, 38, 39, 40, 41, 42, 43, 44, 45, 46, 47, 48, 49, 50, 51, 52, 53, 54, 55, 56, 57, 58, 59, 60, 61, 62, 63, 64] rfl (by decide +kernel)
set_option maxRecDepth 20000 in
theorem gX10_sends_X10_goes : GoodIn wsX10_sends (wsV RX10 270 RX10 yX10_goes wsX10_goes) := goodIn_app (goodIn_of _ (by decide +kernel)) ggX10_sends_X10_goes
set_option maxRecDepth 20000 in
theorem ggX10_sends_X10_leaves : GoodIn wsX10_sends wsX10_leaves := goodIn_r _ [16, 17, 6, 18, 19, 20, 4, 21, 10, 11, 12, 22, 23, 24, 25, 26, 27, 28, 29, 1, 2, 3, 5, 7, 8, 9, 30, 31, 32, 33, 34, 35, 36, 37, 38, 39, 40, 41, 42, 43, 44, 45, 46, 47, 48, 49, 50, 51, 52, 53, 54, 55, 56, 57, 58, 59, 60, 61, 62, 63, 64] rfl (by decide +kernel)
set_option maxRecDepth 20000 in
theorem gX10_sends_X10_leaves : GoodIn wsX10_sends (wsV RX10 280 RX10 yX10_leaves wsX10_leaves) := goodIn_app (goodIn_of _ (by decide +kernel)) ggX10_sends_X10_leaves
set_option maxHeartbeats 4000000 in
set_option maxRecDepth 100000 in
theorem mX10_sends (l : Launch) (g : GG) (a_t : Nat) (a_r1 : Nat) (p_t : Nat → Nat) (n : Nat) (x2 : Int32) (o_t : Nat → Int32) (f_t_15 : Nat → Int32) (f_r1 : Nat → Int32) (r : Int32) (o_t' : Nat → Int32) (f_r1' : Nat → Int32) (hF : fX10_sends n x2 o_t f_t_15 f_r1 = some (r, o_t', f_r1')) : MI l g yX10_sends wsX10_sends ({ frames := 3, cells := 0, slots := 0, locals := 71 } : Room) [.ref a_t, .ref a_r1, .int x2] [oX10 a_t p_t o_t, aI g (p_t 15) 266 f_t_15, aI g a_r1 17 f_r1] r [oX10 a_t p_t o_t', aI g (p_t 15) 266 f_t_15, aI g a_r1 17 f_r1'] := by
  refine MI.of (cc := cX10_sends) (maxL := 3) (rt := .int) (own := RX10) rfl rfl (by decide) (Nat.le_of_ble_eq_true rfl) ?_
  intro p e s m args below meth c A C0 hP hD hS ls hl
  obtain ⟨hx, hb, hml, hown, hts, hr, hlk, hK, hA, hSW⟩ := id C0
  have hl : lv_has ls 3 [(0, .ref a_t), (1, .ref a_r1), (2, .int x2)] := hl
  rw [fX10_sends] at hF
  refine lv_aload_n hx hb dX10_sends_0 rfl (lv_at hl 0 rfl) ?_
  refine lv_aload_n hx hb dX10_sends_1 rfl (lv_at hl 1 rfl) ?_
  refine lv_iload_n hx hb dX10_sends_2 rfl (lv_at hl 2 rfl) ?_
  obtain ⟨u_1, hu_2, hF⟩ := ob1_some hF
  refine call_v (wr := []) (As := [.ref a_r1, .int x2]) (rest := []) (ci := 10) (q0 := 0) C0 (mX10_goes l g a_t a_r1 p_t n x2 o_t f_t_15 f_r1 u_1 hu_2) (cwV 2 hts gX10_sends_X10_goes rfl rfl rfl (by decide +kernel) ⟨Nat.le_of_ble_eq_true rfl, Nat.le_of_ble_eq_true rfl⟩) hP hD hS [0, 1, 2] [] rfl rfl rfl rfl rfl (by decide) rfl rfl hl.1 rfl rfl (Nat.le_of_ble_eq_true rfl) ⟨Nat.zero_le _, Nat.zero_le _⟩ dX10_sends_3 ?_
  intro H locs hP hD hS
  refine lv_iload_n hx hb dX10_sends_6 rfl (lv_at hl 2 rfl) ?_
  refine lv_aload_n hx hb dX10_sends_7 rfl (lv_at hl 0 rfl) ?_
  refine lv_aload_n hx hb dX10_sends_8 rfl (lv_at hl 1 rfl) ?_
  obtain ⟨u_3, u_4, u_5, hu_6, hF⟩ := ob3_some hF
  refine call_i (wr := []) (As := [.ref a_r1]) (rest := [.int x2]) (ci := 10) (q0 := 0) C0 (mX10_leaves l g a_t a_r1 p_t n o_t f_t_15 u_1 u_3 u_4 u_5 hu_6) (cwV 1 hts gX10_sends_X10_leaves rfl rfl rfl (by decide +kernel) ⟨Nat.le_of_ble_eq_true rfl, Nat.le_of_ble_eq_true rfl⟩) hP hD hS [0, 1, 2] [] rfl rfl rfl rfl rfl (by decide) rfl rfl hl.1 rfl rfl (Nat.le_of_ble_eq_true rfl) ⟨Nat.zero_le _, Nat.zero_le _⟩ dX10_sends_9 ?_
  intro H locs hP hD hS
  refine lv_ior hx hb dX10_sends_12 ?_
  cases hF
  exact ret_i C0 hP hD hS [0, 1, 2] rfl rfl rfl dX10_sends_13 rfl

theorem dAX10_thereWhy : ∀ q ∈ ([(0, (.aload_n 0, 1)), (1, (.iload_n 1, 1)), (2, (.invokevirtual 300, 3)), (5, (.ifCond .ne 7, 3)), (8, (.iconst 1, 1)), (9, (.goto 19, 3)), (12, (.aload_n 0, 1)), (13, (.getfield 26, 3)), (16, (.iload_n 1, 1)), (17, (.invokestatic 248, 3)), (20, (.ifCond .eq 7, 3)), (23, (.iconst 0, 1)), (24, (.goto 4, 3)), (27, (.iconst 5, 1)), (28, (.ireturn, 1))] : List (Nat × (Instr × Nat))), decode cX10_thereWhy q.1 = .ok q.2 := by decide +kernel
theorem dX10_thereWhy_0 : decode cX10_thereWhy 0 = .ok (.aload_n 0, 1) := dAX10_thereWhy (0, (.aload_n 0, 1)) (List.mem_of_getElem? (i := 0) rfl)
theorem dX10_thereWhy_1 : decode cX10_thereWhy 1 = .ok (.iload_n 1, 1) := dAX10_thereWhy (1, (.iload_n 1, 1)) (List.mem_of_getElem? (i := 1) rfl)
theorem dX10_thereWhy_2 : decode cX10_thereWhy 2 = .ok (.invokevirtual 300, 3) := dAX10_thereWhy (2, (.invokevirtual 300, 3)) (List.mem_of_getElem? (i := 2) rfl)
theorem dX10_thereWhy_5 : decode cX10_thereWhy 5 = .ok (.ifCond .ne 7, 3) := dAX10_thereWhy (5, (.ifCond .ne 7, 3)) (List.mem_of_getElem? (i := 3) rfl)
theorem dX10_thereWhy_8 : decode cX10_thereWhy 8 = .ok (.iconst 1, 1) := dAX10_thereWhy (8, (.iconst 1, 1)) (List.mem_of_getElem? (i := 4) rfl)
theorem dX10_thereWhy_9 : decode cX10_thereWhy 9 = .ok (.goto 19, 3) := dAX10_thereWhy (9, (.goto 19, 3)) (List.mem_of_getElem? (i := 5) rfl)
theorem dX10_thereWhy_12 : decode cX10_thereWhy 12 = .ok (.aload_n 0, 1) := dAX10_thereWhy (12, (.aload_n 0, 1)) (List.mem_of_getElem? (i := 6) rfl)
theorem dX10_thereWhy_13 : decode cX10_thereWhy 13 = .ok (.getfield 26, 3) := dAX10_thereWhy (13, (.getfield 26, 3)) (List.mem_of_getElem? (i := 7) rfl)
theorem dX10_thereWhy_16 : decode cX10_thereWhy 16 = .ok (.iload_n 1, 1) := dAX10_thereWhy (16, (.iload_n 1, 1)) (List.mem_of_getElem? (i := 8) rfl)
theorem dX10_thereWhy_17 : decode cX10_thereWhy 17 = .ok (.invokestatic 248, 3) := dAX10_thereWhy (17, (.invokestatic 248, 3)) (List.mem_of_getElem? (i := 9) rfl)
theorem dX10_thereWhy_20 : decode cX10_thereWhy 20 = .ok (.ifCond .eq 7, 3) := dAX10_thereWhy (20, (.ifCond .eq 7, 3)) (List.mem_of_getElem? (i := 10) rfl)
theorem dX10_thereWhy_23 : decode cX10_thereWhy 23 = .ok (.iconst 0, 1) := dAX10_thereWhy (23, (.iconst 0, 1)) (List.mem_of_getElem? (i := 11) rfl)
theorem dX10_thereWhy_24 : decode cX10_thereWhy 24 = .ok (.goto 4, 3) := dAX10_thereWhy (24, (.goto 4, 3)) (List.mem_of_getElem? (i := 12) rfl)
theorem dX10_thereWhy_27 : decode cX10_thereWhy 27 = .ok (.iconst 5, 1) := dAX10_thereWhy (27, (.iconst 5, 1)) (List.mem_of_getElem? (i := 13) rfl)
theorem dX10_thereWhy_28 : decode cX10_thereWhy 28 = .ok (.ireturn, 1) := dAX10_thereWhy (28, (.ireturn, 1)) (List.mem_of_getElem? (i := 14) rfl)
set_option maxRecDepth 20000 in
theorem ggX10_thereWhy_X10_isGuest : GoodIn wsX10_thereWhy wsX10_isGuest := goodIn_r _ [6, 7, 8, 9, 10, 5, 11, 15, 16, 17, 18, 19, 20, 21, 22, 23, 24, 25, 26, 27, 28, 29, 30, 31, 32, 33, 34, 35, 36, 37, 38, 39, 40, 41, 42, 43, 44, 45, 46, 47, 48, 49] rfl (by decide +kernel)
set_option maxRecDepth 20000 in
theorem gX10_thereWhy_X10_isGuest : GoodIn wsX10_thereWhy (wsV RX10 300 RX10 yX10_isGuest wsX10_isGuest) := goodIn_app (goodIn_of _ (by decide +kernel)) ggX10_thereWhy_X10_isGuest
set_option maxRecDepth 20000 in
theorem ggX10_thereWhy_X10_isIn : GoodIn wsX10_thereWhy wsX10_isIn := goodIn_r _ [14] rfl (by decide +kernel)
set_option maxRecDepth 20000 in
theorem gX10_thereWhy_X10_isIn : GoodIn wsX10_thereWhy (va_wsS RX10 248 yX10_isIn wsX10_isIn) := goodIn_app (goodIn_of _ (by decide +kernel)) ggX10_thereWhy_X10_isIn
theorem kX10_thereWhy_26 : Cond.fieldLink RX10 26 "EveningVowModel" "st" "[I" ∈ wsX10_thereWhy := List.mem_of_getElem? (i := 1) rfl
theorem iX10_thereWhy_X10 : ∀ w ∈ u_ws RX10 TX10 35, w ∈ wsX10_thereWhy := fun w h => (List.mem_cons_of_mem _ (List.mem_append_right _ h))
set_option maxHeartbeats 4000000 in
set_option maxRecDepth 100000 in
theorem mX10_thereWhy (l : Launch) (g : GG) (a_t : Nat) (p_t : Nat → Nat) (n : Nat) (x1 : Int32) (o_t : Nat → Int32) (f_t_15 : Nat → Int32) (f_t_17 : Nat → Int32) (r : Int32) (hF : fX10_thereWhy n x1 o_t f_t_15 f_t_17 = some (r)) : MI l g yX10_thereWhy wsX10_thereWhy ({ frames := 2, cells := 0, slots := 0, locals := 43 } : Room) [.ref a_t, .int x1] [oX10 a_t p_t o_t, aI g (p_t 15) 266 f_t_15, aI g (p_t 17) 17 f_t_17] r [oX10 a_t p_t o_t, aI g (p_t 15) 266 f_t_15, aI g (p_t 17) 17 f_t_17] := by
  refine MI.of (cc := cX10_thereWhy) (maxL := 2) (rt := .int) (own := RX10) rfl rfl (by decide) (Nat.le_of_ble_eq_true rfl) ?_
  intro p e s m args below meth c A C0 hP hD hS ls hl
  obtain ⟨hx, hb, hml, hown, hts, hr, hlk, hK, hA, hSW⟩ := id C0
  have hl : lv_has ls 2 [(0, .ref a_t), (1, .int x1)] := hl
  rw [fX10_thereWhy] at hF
  refine lv_aload_n hx hb dX10_thereWhy_0 rfl (lv_at hl 0 rfl) ?_
  refine lv_iload_n hx hb dX10_thereWhy_1 rfl (lv_at hl 1 rfl) ?_
  obtain ⟨u_1, hu_2, hF⟩ := ob1_some hF
  refine call_i (wr := [aI g (p_t 17) 17 f_t_17]) (As := [.int x1]) (rest := []) (ci := 10) (q0 := 0) C0 (mX10_isGuest l g a_t p_t n x1 o_t f_t_15 u_1 hu_2) (cwV 1 hts gX10_thereWhy_X10_isGuest rfl rfl rfl (by decide +kernel) ⟨Nat.le_of_ble_eq_true rfl, Nat.le_of_ble_eq_true rfl⟩) hP hD hS [0, 1] [2] rfl rfl rfl rfl rfl (by decide) rfl rfl hl.1 rfl rfl (Nat.le_of_ble_eq_true rfl) ⟨Nat.zero_le _, Nat.zero_le _⟩ dX10_thereWhy_2 ?_
  intro H locs hP hD hS
  refine lv_if_ne (tgt := 12) hx hb dX10_thereWhy_5 (by decide) (fun c_3 => ?_) (fun c_3 => ?_)
  · have hF := it_n c_3 hF
    refine lv_aload_n hx hb dX10_thereWhy_12 rfl (lv_at hl 0 rfl) ?_
    refine va_get (D := g.1) (ci := 10) (v := .ref (p_t 17)) (C := RX10) (T := TX10) (N := 35) hx hb hts iX10_thereWhy_X10 hown hK.1 hP 1 rfl rfl 17 (by decide) (hts _ kX10_thereWhy_26) (fun _ h9 => h9) rfl dX10_thereWhy_13 ?_
    refine lv_iload_n hx hb dX10_thereWhy_16 rfl (lv_at hl 1 rfl) ?_
    obtain ⟨u_4, hu_5, hF⟩ := ob1_some hF
    refine call_si (wr := [oX10 a_t p_t o_t, aI g (p_t 15) 266 f_t_15]) (As := [.ref (p_t 17), .int x1]) (rest := []) C0 (mX10_isIn l g (p_t 17) n x1 f_t_17 u_4 hu_5) (va_cwS 2 hts gX10_thereWhy_X10_isIn rfl rfl rfl (by decide +kernel) ⟨Nat.le_of_ble_eq_true rfl, Nat.le_of_ble_eq_true rfl⟩) hP hD hS [0] [1, 2] rfl rfl rfl rfl rfl (by decide) hl.1 rfl rfl (Nat.le_of_ble_eq_true rfl) ⟨Nat.zero_le _, Nat.zero_le _⟩ dX10_thereWhy_17 ?_
    intro H locs hP hD hS
    refine lv_if_eq (tgt := 27) hx hb dX10_thereWhy_20 (by decide) (fun c_6 => ?_) (fun c_6 => ?_)
    · have hF := it_p c_6 hF
      refine lv_iconst (v := (5 : Int32)) hx hb dX10_thereWhy_27 (by decide) ?_
      cases hF
      exact ret_i C0 hP hD hS [0, 1, 2] rfl rfl rfl dX10_thereWhy_28 rfl
    · have hF := it_n c_6 hF
      refine lv_iconst (v := (0 : Int32)) hx hb dX10_thereWhy_23 (by decide) ?_
      refine lv_goto (tgt := 28) hx hb dX10_thereWhy_24 (by decide) ?_
      cases hF
      exact ret_i C0 hP hD hS [0, 1, 2] rfl rfl rfl dX10_thereWhy_28 rfl
  · have hF := it_p c_3 hF
    refine lv_iconst (v := (1 : Int32)) hx hb dX10_thereWhy_8 (by decide) ?_
    refine lv_goto (tgt := 28) hx hb dX10_thereWhy_9 (by decide) ?_
    cases hF
    exact ret_i C0 hP hD hS [1, 2, 0] rfl rfl rfl dX10_thereWhy_28 rfl

theorem dAX10_chain : ∀ q ∈ ([(0, (.aload_n 0, 1)), (1, (.invokevirtual 159, 3)), (4, (.aload_n 0, 1)), (5, (.iload_n 1, 1)), (6, (.invokevirtual 312, 3)), (9, (.ifCond .eq 13, 3)), (12, (.aload_n 0, 1)), (13, (.aload_n 0, 1)), (14, (.iload_n 1, 1)), (15, (.invokevirtual 312, 3)), (18, (.invokevirtual 162, 3)), (21, (.ireturn, 1)), (22, (.aload_n 0, 1)), (23, (.getfield 26, 3)), (26, (.iconst 0, 1)), (27, (.aload_n 0, 1)), (28, (.getfield 35, 3)), (31, (.iconst 0, 1)), (32, (.bipush 17, 2)), (34, (.invokestatic 168, 3)), (37, (.aload_n 0, 1)), (38, (.aload_n 0, 1)), (39, (.getfield 35, 3)), (42, (.iconst 1, 1)), (43, (.iload_n 1, 1)), (44, (.ishl, 1)), (45, (.invokevirtual 315, 3)), (48, (.ireturn, 1))] : List (Nat × (Instr × Nat))), decode cX10_chain q.1 = .ok q.2 := by decide +kernel
theorem dX10_chain_0 : decode cX10_chain 0 = .ok (.aload_n 0, 1) := dAX10_chain (0, (.aload_n 0, 1)) (List.mem_of_getElem? (i := 0) rfl)
theorem dX10_chain_1 : decode cX10_chain 1 = .ok (.invokevirtual 159, 3) := dAX10_chain (1, (.invokevirtual 159, 3)) (List.mem_of_getElem? (i := 1) rfl)
theorem dX10_chain_4 : decode cX10_chain 4 = .ok (.aload_n 0, 1) := dAX10_chain (4, (.aload_n 0, 1)) (List.mem_of_getElem? (i := 2) rfl)
theorem dX10_chain_5 : decode cX10_chain 5 = .ok (.iload_n 1, 1) := dAX10_chain (5, (.iload_n 1, 1)) (List.mem_of_getElem? (i := 3) rfl)
theorem dX10_chain_6 : decode cX10_chain 6 = .ok (.invokevirtual 312, 3) := dAX10_chain (6, (.invokevirtual 312, 3)) (List.mem_of_getElem? (i := 4) rfl)
theorem dX10_chain_9 : decode cX10_chain 9 = .ok (.ifCond .eq 13, 3) := dAX10_chain (9, (.ifCond .eq 13, 3)) (List.mem_of_getElem? (i := 5) rfl)
theorem dX10_chain_12 : decode cX10_chain 12 = .ok (.aload_n 0, 1) := dAX10_chain (12, (.aload_n 0, 1)) (List.mem_of_getElem? (i := 6) rfl)
theorem dX10_chain_13 : decode cX10_chain 13 = .ok (.aload_n 0, 1) := dAX10_chain (13, (.aload_n 0, 1)) (List.mem_of_getElem? (i := 7) rfl)
theorem dX10_chain_14 : decode cX10_chain 14 = .ok (.iload_n 1, 1) := dAX10_chain (14, (.iload_n 1, 1)) (List.mem_of_getElem? (i := 8) rfl)
theorem dX10_chain_15 : decode cX10_chain 15 = .ok (.invokevirtual 312, 3) := dAX10_chain (15, (.invokevirtual 312, 3)) (List.mem_of_getElem? (i := 9) rfl)
theorem dX10_chain_18 : decode cX10_chain 18 = .ok (.invokevirtual 162, 3) := dAX10_chain (18, (.invokevirtual 162, 3)) (List.mem_of_getElem? (i := 10) rfl)
theorem dX10_chain_21 : decode cX10_chain 21 = .ok (.ireturn, 1) := dAX10_chain (21, (.ireturn, 1)) (List.mem_of_getElem? (i := 11) rfl)
theorem dX10_chain_22 : decode cX10_chain 22 = .ok (.aload_n 0, 1) := dAX10_chain (22, (.aload_n 0, 1)) (List.mem_of_getElem? (i := 12) rfl)
theorem dX10_chain_23 : decode cX10_chain 23 = .ok (.getfield 26, 3) := dAX10_chain (23, (.getfield 26, 3)) (List.mem_of_getElem? (i := 13) rfl)
theorem dX10_chain_26 : decode cX10_chain 26 = .ok (.iconst 0, 1) := dAX10_chain (26, (.iconst 0, 1)) (List.mem_of_getElem? (i := 14) rfl)
theorem dX10_chain_27 : decode cX10_chain 27 = .ok (.aload_n 0, 1) := dAX10_chain (27, (.aload_n 0, 1)) (List.mem_of_getElem? (i := 15) rfl)
theorem dX10_chain_28 : decode cX10_chain 28 = .ok (.getfield 35, 3) := dAX10_chain (28, (.getfield 35, 3)) (List.mem_of_getElem? (i := 16) rfl)
theorem dX10_chain_31 : decode cX10_chain 31 = .ok (.iconst 0, 1) := dAX10_chain (31, (.iconst 0, 1)) (List.mem_of_getElem? (i := 17) rfl)
theorem dX10_chain_32 : decode cX10_chain 32 = .ok (.bipush 17, 2) := dAX10_chain (32, (.bipush 17, 2)) (List.mem_of_getElem? (i := 18) rfl)
theorem dX10_chain_34 : decode cX10_chain 34 = .ok (.invokestatic 168, 3) := dAX10_chain (34, (.invokestatic 168, 3)) (List.mem_of_getElem? (i := 19) rfl)
theorem dX10_chain_37 : decode cX10_chain 37 = .ok (.aload_n 0, 1) := dAX10_chain (37, (.aload_n 0, 1)) (List.mem_of_getElem? (i := 20) rfl)
theorem dX10_chain_38 : decode cX10_chain 38 = .ok (.aload_n 0, 1) := dAX10_chain (38, (.aload_n 0, 1)) (List.mem_of_getElem? (i := 21) rfl)
theorem dX10_chain_39 : decode cX10_chain 39 = .ok (.getfield 35, 3) := dAX10_chain (39, (.getfield 35, 3)) (List.mem_of_getElem? (i := 22) rfl)
theorem dX10_chain_42 : decode cX10_chain 42 = .ok (.iconst 1, 1) := dAX10_chain (42, (.iconst 1, 1)) (List.mem_of_getElem? (i := 23) rfl)
theorem dX10_chain_43 : decode cX10_chain 43 = .ok (.iload_n 1, 1) := dAX10_chain (43, (.iload_n 1, 1)) (List.mem_of_getElem? (i := 24) rfl)
theorem dX10_chain_44 : decode cX10_chain 44 = .ok (.ishl, 1) := dAX10_chain (44, (.ishl, 1)) (List.mem_of_getElem? (i := 25) rfl)
theorem dX10_chain_45 : decode cX10_chain 45 = .ok (.invokevirtual 315, 3) := dAX10_chain (45, (.invokevirtual 315, 3)) (List.mem_of_getElem? (i := 26) rfl)
theorem dX10_chain_48 : decode cX10_chain 48 = .ok (.ireturn, 1) := dAX10_chain (48, (.ireturn, 1)) (List.mem_of_getElem? (i := 27) rfl)
set_option maxRecDepth 20000 in
theorem ggX10_chain_X10_good : GoodIn wsX10_chain wsX10_good := goodIn_r _ [7, 8, 9, 61, 62, 63, 64, 65, 66, 67, 68, 69, 70, 71, 72, 73, 74, 75, 76, 77, 78, 79, 80, 81, 82, 83, 84, 85, 86, 87, 88, 89, 90, 91, 92, 93, 94, 95] rfl (by decide +kernel)
set_option maxRecDepth 20000 in
theorem gX10_chain_X10_good : GoodIn wsX10_chain (wsV RX10 159 RX10 yX10_good wsX10_good) := goodIn_app (goodIn_of _ (by decide +kernel)) ggX10_chain_X10_good
set_option maxRecDepth 20000 in
theorem ggX10_chain_X10_thereWhy : GoodIn wsX10_chain wsX10_thereWhy := goodIn_r _ [13, 1, 14, 15, 16, 6, 17, 18, 19, 20, 21, 22, 23, 24, 25, 61, 62, 63, 64, 65, 66, 67, 68, 69, 70, 71, 72, 73, 74, 75, 76, 77, 78, 79, 80, 81, 82, 83, 84, 85, 86, 87, 88, 89, 90, 91, 92, 93, 94, 95] rfl (by decide +kernel)
set_option maxRecDepth 20000 in
theorem gX10_chain_X10_thereWhy : GoodIn wsX10_chain (wsV RX10 312 RX10 yX10_thereWhy wsX10_thereWhy) := goodIn_app (goodIn_of _ (by decide +kernel)) ggX10_chain_X10_thereWhy
set_option maxRecDepth 20000 in
theorem ggX10_chain_X10_no : GoodIn wsX10_chain wsX10_no := goodIn_r _ [29, 9, 61, 62, 63, 64, 65, 66, 67, 68, 69, 70, 71, 72, 73, 74, 75, 76, 77, 78, 79, 80, 81, 82, 83, 84, 85, 86, 87, 88, 89, 90, 91, 92, 93, 94, 95] rfl (by decide +kernel)
set_option maxRecDepth 20000 in
theorem gX10_chain_X10_no : GoodIn wsX10_chain (wsV RX10 162 RX10 yX10_no wsX10_no) := goodIn_app (goodIn_of _ (by decide +kernel)) ggX10_chain_X10_no
set_option maxRecDepth 20000 in
theorem ggX10_chain_X10_copy : GoodIn wsX10_chain wsX10_copy := goodIn_r _ [32] rfl (by decide +kernel)
set_option maxRecDepth 20000 in
theorem gX10_chain_X10_copy : GoodIn wsX10_chain (va_wsS RX10 168 yX10_copy wsX10_copy) := goodIn_app (goodIn_of _ (by decide +kernel)) ggX10_chain_X10_copy
set_option maxRecDepth 20000 in
theorem ggX10_chain_X10_sends : GoodIn wsX10_chain wsX10_sends := goodIn_r _ [36, 37, 38, 39, 6, 40, 19, 41, 42, 43, 23, 24, 25, 44, 45, 46, 47, 48, 49, 50, 51, 52, 53, 54, 55, 56, 57, 58, 59, 60, 61, 62, 63, 64, 65, 66, 67, 68, 69, 70, 71, 72, 73, 74, 75, 76, 77, 78, 79, 80, 81, 82, 83, 84, 85, 86, 87, 88, 89, 90, 91, 92, 93, 94, 95] rfl (by decide +kernel)
set_option maxRecDepth 20000 in
theorem gX10_chain_X10_sends : GoodIn wsX10_chain (wsV RX10 315 RX10 yX10_sends wsX10_sends) := goodIn_app (goodIn_of _ (by decide +kernel)) ggX10_chain_X10_sends
theorem kX10_chain_26 : Cond.fieldLink RX10 26 "EveningVowModel" "st" "[I" ∈ wsX10_chain := List.mem_of_getElem? (i := 1) rfl
theorem iX10_chain_X10 : ∀ w ∈ u_ws RX10 TX10 35, w ∈ wsX10_chain := fun w h => (List.mem_cons_of_mem _ (List.mem_append_right _ h))
theorem kX10_chain_35 : Cond.fieldLink RX10 35 "EveningVowModel" "trial" "[I" ∈ wsX10_chain := List.mem_of_getElem? (i := 2) rfl
set_option maxHeartbeats 4000000 in
set_option maxRecDepth 100000 in
theorem mX10_chain (l : Launch) (g : GG) (a_t : Nat) (p_t : Nat → Nat) (n : Nat) (x1 : Int32) (o_t : Nat → Int32) (f_t_15 : Nat → Int32) (f_t_17 : Nat → Int32) (f_t_25 : Nat → Int32) (r : Int32) (o_t' : Nat → Int32) (f_t_25' : Nat → Int32) (hF : fX10_chain n x1 o_t f_t_15 f_t_17 f_t_25 = some (r, o_t', f_t_25')) : MI l g yX10_chain wsX10_chain ({ frames := 4, cells := 0, slots := 0, locals := 93 } : Room) [.ref a_t, .int x1] [oX10 a_t p_t o_t, aI g (p_t 15) 266 f_t_15, aI g (p_t 17) 17 f_t_17, aI g (p_t 25) 17 f_t_25] r [oX10 a_t p_t o_t', aI g (p_t 15) 266 f_t_15, aI g (p_t 17) 17 f_t_17, aI g (p_t 25) 17 f_t_25'] := by
  refine MI.of (cc := cX10_chain) (maxL := 2) (rt := .int) (own := RX10) rfl rfl (by decide) (Nat.le_of_ble_eq_true rfl) ?_
  intro p e s m args below meth c A C0 hP hD hS ls hl
  obtain ⟨hx, hb, hml, hown, hts, hr, hlk, hK, hA, hSW⟩ := id C0
  have hl : lv_has ls 2 [(0, .ref a_t), (1, .int x1)] := hl
  rw [fX10_chain] at hF
  refine lv_aload_n hx hb dX10_chain_0 rfl (lv_at hl 0 rfl) ?_
  obtain ⟨u_1, hu_2, hF⟩ := ob1_some hF
  refine call_v (wr := [aI g (p_t 15) 266 f_t_15, aI g (p_t 17) 17 f_t_17, aI g (p_t 25) 17 f_t_25]) (As := []) (rest := []) (ci := 10) (q0 := 0) C0 (mX10_good l g a_t p_t n o_t u_1 hu_2) (cwV 0 hts gX10_chain_X10_good rfl rfl rfl (by decide +kernel) ⟨Nat.le_of_ble_eq_true rfl, Nat.le_of_ble_eq_true rfl⟩) hP hD hS [0] [1, 2, 3] rfl rfl rfl rfl rfl (by decide) rfl rfl hl.1 rfl rfl (Nat.le_of_ble_eq_true rfl) ⟨Nat.zero_le _, Nat.zero_le _⟩ dX10_chain_1 ?_
  intro H locs hP hD hS
  refine lv_aload_n hx hb dX10_chain_4 rfl (lv_at hl 0 rfl) ?_
  refine lv_iload_n hx hb dX10_chain_5 rfl (lv_at hl 1 rfl) ?_
  obtain ⟨u_3, hu_4, hF⟩ := ob1_some hF
  refine call_i (wr := [aI g (p_t 25) 17 f_t_25]) (As := [.int x1]) (rest := []) (ci := 10) (q0 := 0) C0 (mX10_thereWhy l g a_t p_t n x1 u_1 f_t_15 f_t_17 u_3 hu_4) (cwV 1 hts gX10_chain_X10_thereWhy rfl rfl rfl (by decide +kernel) ⟨Nat.le_of_ble_eq_true rfl, Nat.le_of_ble_eq_true rfl⟩) hP hD hS [3, 0, 1] [2] rfl rfl rfl rfl rfl (by decide) rfl rfl hl.1 rfl rfl (Nat.le_of_ble_eq_true rfl) ⟨Nat.zero_le _, Nat.zero_le _⟩ dX10_chain_6 ?_
  intro H locs hP hD hS
  refine lv_if_eq (tgt := 22) hx hb dX10_chain_9 (by decide) (fun c_5 => ?_) (fun c_5 => ?_)
  · have hF := it_p c_5 hF
    refine lv_aload_n hx hb dX10_chain_22 rfl (lv_at hl 0 rfl) ?_
    refine va_get (D := g.1) (ci := 10) (v := .ref (p_t 17)) (C := RX10) (T := TX10) (N := 35) hx hb hts iX10_chain_X10 hown hK.1 hP 1 rfl rfl 17 (by decide) (hts _ kX10_chain_26) (fun _ h9 => h9) rfl dX10_chain_23 ?_
    refine lv_iconst (v := (0 : Int32)) hx hb dX10_chain_26 (by decide) ?_
    refine lv_aload_n hx hb dX10_chain_27 rfl (lv_at hl 0 rfl) ?_
    refine va_get (D := g.1) (ci := 10) (v := .ref (p_t 25)) (C := RX10) (T := TX10) (N := 35) hx hb hts iX10_chain_X10 hown hK.1 hP 1 rfl rfl 25 (by decide) (hts _ kX10_chain_35) (fun _ h9 => h9) rfl dX10_chain_28 ?_
    refine lv_iconst (v := (0 : Int32)) hx hb dX10_chain_31 (by decide) ?_
    refine lv_bipush (v := (17 : Int32)) hx hb dX10_chain_32 (by decide) ?_
    obtain ⟨u_6, hu_7, hF⟩ := ob1_some hF
    refine call_sv (wr := [oX10 a_t p_t u_1, aI g (p_t 15) 266 f_t_15]) (As := [.ref (p_t 17), .int (0 : Int32), .ref (p_t 25), .int (0 : Int32), .int (17 : Int32)]) (rest := []) C0 (mX10_copy l g (p_t 17) (p_t 25) n (0 : Int32) (0 : Int32) (17 : Int32) 17 17 f_t_17 f_t_25 u_6 hu_7) (va_cwS 5 hts gX10_chain_X10_copy rfl rfl rfl (by decide +kernel) ⟨Nat.le_of_ble_eq_true rfl, Nat.le_of_ble_eq_true rfl⟩) hP hD hS [3, 0] [1, 2] rfl rfl rfl rfl rfl (by decide) hl.1 rfl rfl (Nat.le_of_ble_eq_true rfl) ⟨Nat.zero_le _, Nat.zero_le _⟩ dX10_chain_34 ?_
    intro H locs hP hD hS
    refine lv_aload_n hx hb dX10_chain_37 rfl (lv_at hl 0 rfl) ?_
    refine lv_aload_n hx hb dX10_chain_38 rfl (lv_at hl 0 rfl) ?_
    refine va_get (D := g.1) (ci := 10) (v := .ref (p_t 25)) (C := RX10) (T := TX10) (N := 35) hx hb hts iX10_chain_X10 hown hK.1 hP 0 rfl rfl 25 (by decide) (hts _ kX10_chain_35) (fun _ h9 => h9) rfl dX10_chain_39 ?_
    refine lv_iconst (v := (1 : Int32)) hx hb dX10_chain_42 (by decide) ?_
    refine lv_iload_n hx hb dX10_chain_43 rfl (lv_at hl 1 rfl) ?_
    refine lv_ishl hx hb dX10_chain_44 ?_
    obtain ⟨u_8, u_9, u_10, hu_11, hF⟩ := ob3_some hF
    refine call_i (wr := [aI g (p_t 17) 17 f_t_17]) (As := [.ref (p_t 25), .int ((1 : Int32) <<< (x1 &&& 31))]) (rest := []) (ci := 10) (q0 := 0) C0 (mX10_sends l g a_t (p_t 25) p_t n ((1 : Int32) <<< (x1 &&& 31)) u_1 f_t_15 u_6 u_8 u_9 u_10 hu_11) (cwV 2 hts gX10_chain_X10_sends rfl rfl rfl (by decide +kernel) ⟨Nat.le_of_ble_eq_true rfl, Nat.le_of_ble_eq_true rfl⟩) hP hD hS [0, 1, 3] [2] rfl rfl rfl rfl rfl (by decide) rfl rfl hl.1 rfl rfl (Nat.le_of_ble_eq_true rfl) ⟨Nat.zero_le _, Nat.zero_le _⟩ dX10_chain_45 ?_
    intro H locs hP hD hS
    cases hF
    exact ret_i C0 hP hD hS [1, 2, 0, 3] rfl rfl rfl dX10_chain_48 rfl
  · have hF := it_n c_5 hF
    refine lv_aload_n hx hb dX10_chain_12 rfl (lv_at hl 0 rfl) ?_
    refine lv_aload_n hx hb dX10_chain_13 rfl (lv_at hl 0 rfl) ?_
    refine lv_iload_n hx hb dX10_chain_14 rfl (lv_at hl 1 rfl) ?_
    obtain ⟨u_12, hu_13, hF⟩ := ob1_some hF
    refine call_i (wr := [aI g (p_t 25) 17 f_t_25]) (As := [.int x1]) (rest := [.ref a_t]) (ci := 10) (q0 := 0) C0 (mX10_thereWhy l g a_t p_t n x1 u_1 f_t_15 f_t_17 u_12 hu_13) (cwV 1 hts gX10_chain_X10_thereWhy rfl rfl rfl (by decide +kernel) ⟨Nat.le_of_ble_eq_true rfl, Nat.le_of_ble_eq_true rfl⟩) hP hD hS [1, 2, 3] [0] rfl rfl rfl rfl rfl (by decide) rfl rfl hl.1 rfl rfl (Nat.le_of_ble_eq_true rfl) ⟨Nat.zero_le _, Nat.zero_le _⟩ dX10_chain_15 ?_
    intro H locs hP hD hS
    obtain ⟨u_14, u_15, hu_16, hF⟩ := ob2_some hF
    refine call_i (wr := [aI g (p_t 25) 17 f_t_25, aI g (p_t 15) 266 f_t_15, aI g (p_t 17) 17 f_t_17]) (As := [.int u_12]) (rest := []) (ci := 10) (q0 := 0) C0 (mX10_no l g a_t p_t n u_12 u_1 u_14 u_15 hu_16) (cwV 1 hts gX10_chain_X10_no rfl rfl rfl (by decide +kernel) ⟨Nat.le_of_ble_eq_true rfl, Nat.le_of_ble_eq_true rfl⟩) hP hD hS [1] [0, 2, 3] rfl rfl rfl rfl rfl (by decide) rfl rfl hl.1 rfl rfl (Nat.le_of_ble_eq_true rfl) ⟨Nat.zero_le _, Nat.zero_le _⟩ dX10_chain_18 ?_
    intro H locs hP hD hS
    cases hF
    exact ret_i C0 hP hD hS [3, 1, 2, 0] rfl rfl rfl dX10_chain_21 rfl

theorem dAX10_biggest : ∀ q ∈ ([(0, (.aload_n 0, 1)), (1, (.invokevirtual 159, 3)), (4, (.aload_n 0, 1)), (5, (.getfield 176, 3)), (8, (.ifCond .ne 9, 3)), (11, (.aload_n 0, 1)), (12, (.iconst 1, 1)), (13, (.invokevirtual 162, 3)), (16, (.ireturn, 1)), (17, (.bipush (-2), 2)), (19, (.istore_n 1, 1)), (20, (.iconst 0, 1)), (21, (.istore_n 2, 1)), (22, (.iconst 0, 1)), (23, (.istore_n 3, 1)), (24, (.iload_n 3, 1)), (25, (.aload_n 0, 1)), (26, (.getfield 20, 3)), (29, (.iconst 3, 1)), (30, (.iaload, 1)), (31, (.if_icmp .ge 69, 3)), (34, (.aload_n 0, 1)), (35, (.getfield 26, 3)), (38, (.iconst 0, 1)), (39, (.aload_n 0, 1)), (40, (.getfield 35, 3)), (43, (.iconst 0, 1)), (44, (.bipush 17, 2)), (46, (.invokestatic 168, 3)), (49, (.aload_n 0, 1)), (50, (.getfield 26, 3)), (53, (.iload_n 3, 1)), (54, (.invokestatic 248, 3)), (57, (.ifCond .eq 20, 3)), (60, (.aload_n 0, 1)), (61, (.aload_n 0, 1)), (62, (.getfield 35, 3)), (65, (.iconst 1, 1)), (66, (.iload_n 3, 1)), (67, (.ishl, 1)), (68, (.invokevirtual 315, 3)), (71, (.invokestatic 306, 3)), (74, (.goto 4, 3)), (77, (.iconst 0, 1)), (78, (.istore 4, 2)), (80, (.iload 4, 2)), (82, (.iload_n 2, 1)), (83, (.if_icmp .gt 6, 3)), (86, (.goto 8, 3)), (89, (.iload_n 3, 1)), (90, (.istore_n 1, 1)), (91, (.iload 4, 2)), (93, (.istore_n 2, 1)), (94, (.iinc 3 1, 3)), (97, (.goto (-73), 3)), (100, (.iload_n 1, 1)), (101, (.ireturn, 1))] : List (Nat × (Instr × Nat))), decode cX10_biggest q.1 = .ok q.2 := by decide +kernel
theorem dX10_biggest_0 : decode cX10_biggest 0 = .ok (.aload_n 0, 1) := dAX10_biggest (0, (.aload_n 0, 1)) (List.mem_of_getElem? (i := 0) rfl)
theorem dX10_biggest_1 : decode cX10_biggest 1 = .ok (.invokevirtual 159, 3) := dAX10_biggest (1, (.invokevirtual 159, 3)) (List.mem_of_getElem? (i := 1) rfl)
theorem dX10_biggest_4 : decode cX10_biggest 4 = .ok (.aload_n 0, 1) := dAX10_biggest (4, (.aload_n 0, 1)) (List.mem_of_getElem? (i := 2) rfl)
theorem dX10_biggest_5 : decode cX10_biggest 5 = .ok (.getfield 176, 3) := dAX10_biggest (5, (.getfield 176, 3)) (List.mem_of_getElem? (i := 3) rfl)
theorem dX10_biggest_8 : decode cX10_biggest 8 = .ok (.ifCond .ne 9, 3) := dAX10_biggest (8, (.ifCond .ne 9, 3)) (List.mem_of_getElem? (i := 4) rfl)
theorem dX10_biggest_11 : decode cX10_biggest 11 = .ok (.aload_n 0, 1) := dAX10_biggest (11, (.aload_n 0, 1)) (List.mem_of_getElem? (i := 5) rfl)
theorem dX10_biggest_12 : decode cX10_biggest 12 = .ok (.iconst 1, 1) := dAX10_biggest (12, (.iconst 1, 1)) (List.mem_of_getElem? (i := 6) rfl)
theorem dX10_biggest_13 : decode cX10_biggest 13 = .ok (.invokevirtual 162, 3) := dAX10_biggest (13, (.invokevirtual 162, 3)) (List.mem_of_getElem? (i := 7) rfl)
theorem dX10_biggest_16 : decode cX10_biggest 16 = .ok (.ireturn, 1) := dAX10_biggest (16, (.ireturn, 1)) (List.mem_of_getElem? (i := 8) rfl)
theorem dX10_biggest_17 : decode cX10_biggest 17 = .ok (.bipush (-2), 2) := dAX10_biggest (17, (.bipush (-2), 2)) (List.mem_of_getElem? (i := 9) rfl)
theorem dX10_biggest_19 : decode cX10_biggest 19 = .ok (.istore_n 1, 1) := dAX10_biggest (19, (.istore_n 1, 1)) (List.mem_of_getElem? (i := 10) rfl)
theorem dX10_biggest_20 : decode cX10_biggest 20 = .ok (.iconst 0, 1) := dAX10_biggest (20, (.iconst 0, 1)) (List.mem_of_getElem? (i := 11) rfl)
theorem dX10_biggest_21 : decode cX10_biggest 21 = .ok (.istore_n 2, 1) := dAX10_biggest (21, (.istore_n 2, 1)) (List.mem_of_getElem? (i := 12) rfl)
theorem dX10_biggest_22 : decode cX10_biggest 22 = .ok (.iconst 0, 1) := dAX10_biggest (22, (.iconst 0, 1)) (List.mem_of_getElem? (i := 13) rfl)
theorem dX10_biggest_23 : decode cX10_biggest 23 = .ok (.istore_n 3, 1) := dAX10_biggest (23, (.istore_n 3, 1)) (List.mem_of_getElem? (i := 14) rfl)
theorem dX10_biggest_24 : decode cX10_biggest 24 = .ok (.iload_n 3, 1) := dAX10_biggest (24, (.iload_n 3, 1)) (List.mem_of_getElem? (i := 15) rfl)
theorem dX10_biggest_25 : decode cX10_biggest 25 = .ok (.aload_n 0, 1) := dAX10_biggest (25, (.aload_n 0, 1)) (List.mem_of_getElem? (i := 16) rfl)
theorem dX10_biggest_26 : decode cX10_biggest 26 = .ok (.getfield 20, 3) := dAX10_biggest (26, (.getfield 20, 3)) (List.mem_of_getElem? (i := 17) rfl)
theorem dX10_biggest_29 : decode cX10_biggest 29 = .ok (.iconst 3, 1) := dAX10_biggest (29, (.iconst 3, 1)) (List.mem_of_getElem? (i := 18) rfl)
theorem dX10_biggest_30 : decode cX10_biggest 30 = .ok (.iaload, 1) := dAX10_biggest (30, (.iaload, 1)) (List.mem_of_getElem? (i := 19) rfl)
theorem dX10_biggest_31 : decode cX10_biggest 31 = .ok (.if_icmp .ge 69, 3) := dAX10_biggest (31, (.if_icmp .ge 69, 3)) (List.mem_of_getElem? (i := 20) rfl)
theorem dX10_biggest_34 : decode cX10_biggest 34 = .ok (.aload_n 0, 1) := dAX10_biggest (34, (.aload_n 0, 1)) (List.mem_of_getElem? (i := 21) rfl)
theorem dX10_biggest_35 : decode cX10_biggest 35 = .ok (.getfield 26, 3) := dAX10_biggest (35, (.getfield 26, 3)) (List.mem_of_getElem? (i := 22) rfl)
theorem dX10_biggest_38 : decode cX10_biggest 38 = .ok (.iconst 0, 1) := dAX10_biggest (38, (.iconst 0, 1)) (List.mem_of_getElem? (i := 23) rfl)
theorem dX10_biggest_39 : decode cX10_biggest 39 = .ok (.aload_n 0, 1) := dAX10_biggest (39, (.aload_n 0, 1)) (List.mem_of_getElem? (i := 24) rfl)
theorem dX10_biggest_40 : decode cX10_biggest 40 = .ok (.getfield 35, 3) := dAX10_biggest (40, (.getfield 35, 3)) (List.mem_of_getElem? (i := 25) rfl)
theorem dX10_biggest_43 : decode cX10_biggest 43 = .ok (.iconst 0, 1) := dAX10_biggest (43, (.iconst 0, 1)) (List.mem_of_getElem? (i := 26) rfl)
theorem dX10_biggest_44 : decode cX10_biggest 44 = .ok (.bipush 17, 2) := dAX10_biggest (44, (.bipush 17, 2)) (List.mem_of_getElem? (i := 27) rfl)
theorem dX10_biggest_46 : decode cX10_biggest 46 = .ok (.invokestatic 168, 3) := dAX10_biggest (46, (.invokestatic 168, 3)) (List.mem_of_getElem? (i := 28) rfl)
theorem dX10_biggest_49 : decode cX10_biggest 49 = .ok (.aload_n 0, 1) := dAX10_biggest (49, (.aload_n 0, 1)) (List.mem_of_getElem? (i := 29) rfl)
theorem dX10_biggest_50 : decode cX10_biggest 50 = .ok (.getfield 26, 3) := dAX10_biggest (50, (.getfield 26, 3)) (List.mem_of_getElem? (i := 30) rfl)
theorem dX10_biggest_53 : decode cX10_biggest 53 = .ok (.iload_n 3, 1) := dAX10_biggest (53, (.iload_n 3, 1)) (List.mem_of_getElem? (i := 31) rfl)
theorem dX10_biggest_54 : decode cX10_biggest 54 = .ok (.invokestatic 248, 3) := dAX10_biggest (54, (.invokestatic 248, 3)) (List.mem_of_getElem? (i := 32) rfl)
theorem dX10_biggest_57 : decode cX10_biggest 57 = .ok (.ifCond .eq 20, 3) := dAX10_biggest (57, (.ifCond .eq 20, 3)) (List.mem_of_getElem? (i := 33) rfl)
theorem dX10_biggest_60 : decode cX10_biggest 60 = .ok (.aload_n 0, 1) := dAX10_biggest (60, (.aload_n 0, 1)) (List.mem_of_getElem? (i := 34) rfl)
theorem dX10_biggest_61 : decode cX10_biggest 61 = .ok (.aload_n 0, 1) := dAX10_biggest (61, (.aload_n 0, 1)) (List.mem_of_getElem? (i := 35) rfl)
theorem dX10_biggest_62 : decode cX10_biggest 62 = .ok (.getfield 35, 3) := dAX10_biggest (62, (.getfield 35, 3)) (List.mem_of_getElem? (i := 36) rfl)
theorem dX10_biggest_65 : decode cX10_biggest 65 = .ok (.iconst 1, 1) := dAX10_biggest (65, (.iconst 1, 1)) (List.mem_of_getElem? (i := 37) rfl)
theorem dX10_biggest_66 : decode cX10_biggest 66 = .ok (.iload_n 3, 1) := dAX10_biggest (66, (.iload_n 3, 1)) (List.mem_of_getElem? (i := 38) rfl)
theorem dX10_biggest_67 : decode cX10_biggest 67 = .ok (.ishl, 1) := dAX10_biggest (67, (.ishl, 1)) (List.mem_of_getElem? (i := 39) rfl)
theorem dX10_biggest_68 : decode cX10_biggest 68 = .ok (.invokevirtual 315, 3) := dAX10_biggest (68, (.invokevirtual 315, 3)) (List.mem_of_getElem? (i := 40) rfl)
theorem dX10_biggest_71 : decode cX10_biggest 71 = .ok (.invokestatic 306, 3) := dAX10_biggest (71, (.invokestatic 306, 3)) (List.mem_of_getElem? (i := 41) rfl)
theorem dX10_biggest_74 : decode cX10_biggest 74 = .ok (.goto 4, 3) := dAX10_biggest (74, (.goto 4, 3)) (List.mem_of_getElem? (i := 42) rfl)
theorem dX10_biggest_77 : decode cX10_biggest 77 = .ok (.iconst 0, 1) := dAX10_biggest (77, (.iconst 0, 1)) (List.mem_of_getElem? (i := 43) rfl)
theorem dX10_biggest_78 : decode cX10_biggest 78 = .ok (.istore 4, 2) := dAX10_biggest (78, (.istore 4, 2)) (List.mem_of_getElem? (i := 44) rfl)
theorem dX10_biggest_80 : decode cX10_biggest 80 = .ok (.iload 4, 2) := dAX10_biggest (80, (.iload 4, 2)) (List.mem_of_getElem? (i := 45) rfl)
theorem dX10_biggest_82 : decode cX10_biggest 82 = .ok (.iload_n 2, 1) := dAX10_biggest (82, (.iload_n 2, 1)) (List.mem_of_getElem? (i := 46) rfl)
theorem dX10_biggest_83 : decode cX10_biggest 83 = .ok (.if_icmp .gt 6, 3) := dAX10_biggest (83, (.if_icmp .gt 6, 3)) (List.mem_of_getElem? (i := 47) rfl)
theorem dX10_biggest_86 : decode cX10_biggest 86 = .ok (.goto 8, 3) := dAX10_biggest (86, (.goto 8, 3)) (List.mem_of_getElem? (i := 48) rfl)
theorem dX10_biggest_89 : decode cX10_biggest 89 = .ok (.iload_n 3, 1) := dAX10_biggest (89, (.iload_n 3, 1)) (List.mem_of_getElem? (i := 49) rfl)
theorem dX10_biggest_90 : decode cX10_biggest 90 = .ok (.istore_n 1, 1) := dAX10_biggest (90, (.istore_n 1, 1)) (List.mem_of_getElem? (i := 50) rfl)
theorem dX10_biggest_91 : decode cX10_biggest 91 = .ok (.iload 4, 2) := dAX10_biggest (91, (.iload 4, 2)) (List.mem_of_getElem? (i := 51) rfl)
theorem dX10_biggest_93 : decode cX10_biggest 93 = .ok (.istore_n 2, 1) := dAX10_biggest (93, (.istore_n 2, 1)) (List.mem_of_getElem? (i := 52) rfl)
theorem dX10_biggest_94 : decode cX10_biggest 94 = .ok (.iinc 3 1, 3) := dAX10_biggest (94, (.iinc 3 1, 3)) (List.mem_of_getElem? (i := 53) rfl)
theorem dX10_biggest_97 : decode cX10_biggest 97 = .ok (.goto (-73), 3) := dAX10_biggest (97, (.goto (-73), 3)) (List.mem_of_getElem? (i := 54) rfl)
theorem dX10_biggest_100 : decode cX10_biggest 100 = .ok (.iload_n 1, 1) := dAX10_biggest (100, (.iload_n 1, 1)) (List.mem_of_getElem? (i := 55) rfl)
theorem dX10_biggest_101 : decode cX10_biggest 101 = .ok (.ireturn, 1) := dAX10_biggest (101, (.ireturn, 1)) (List.mem_of_getElem? (i := 56) rfl)
set_option maxRecDepth 20000 in
theorem ggX10_biggest_X10_good : GoodIn wsX10_biggest wsX10_good := goodIn_r _ [9, 10, 11, 53, 54, 55, 56, 57, 58, 59, 60, 61, 62, 63, 64, 65, 66, 67, 68, 69, 70, 71, 72, 73, 74, 75, 76, 77, 78, 79, 80, 81, 82, 83, 84, 85, 86, 87] rfl (by decide +kernel)
set_option maxRecDepth 20000 in
theorem gX10_biggest_X10_good : GoodIn wsX10_biggest (wsV RX10 159 RX10 yX10_good wsX10_good) := goodIn_app (goodIn_of _ (by decide +kernel)) ggX10_biggest_X10_good
set_option maxRecDepth 20000 in
theorem ggX10_biggest_X10_no : GoodIn wsX10_biggest wsX10_no := goodIn_r _ [15, 11, 53, 54, 55, 56, 57, 58, 59, 60, 61, 62, 63, 64, 65, 66, 67, 68, 69, 70, 71, 72, 73, 74, 75, 76, 77, 78, 79, 80, 81, 82, 83, 84, 85, 86, 87] rfl (by decide +kernel)
set_option maxRecDepth 20000 in
theorem gX10_biggest_X10_no : GoodIn wsX10_biggest (wsV RX10 162 RX10 yX10_no wsX10_no) := goodIn_app (goodIn_of _ (by decide +kernel)) ggX10_biggest_X10_no
set_option maxRecDepth 20000 in
theorem ggX10_biggest_X10_copy : GoodIn wsX10_biggest wsX10_copy := goodIn_r _ [18] rfl (by decide +kernel)
set_option maxRecDepth 20000 in
theorem gX10_biggest_X10_copy : GoodIn wsX10_biggest (va_wsS RX10 168 yX10_copy wsX10_copy) := goodIn_app (goodIn_of _ (by decide +kernel)) ggX10_biggest_X10_copy
set_option maxRecDepth 20000 in
theorem ggX10_biggest_X10_isIn : GoodIn wsX10_biggest wsX10_isIn := goodIn_r _ [21] rfl (by decide +kernel)
set_option maxRecDepth 20000 in
theorem gX10_biggest_X10_isIn : GoodIn wsX10_biggest (va_wsS RX10 248 yX10_isIn wsX10_isIn) := goodIn_app (goodIn_of _ (by decide +kernel)) ggX10_biggest_X10_isIn
set_option maxRecDepth 20000 in
theorem ggX10_biggest_X10_sends : GoodIn wsX10_biggest wsX10_sends := goodIn_r _ [25, 26, 27, 28, 8, 29, 2, 30, 31, 32, 19, 20, 21, 33, 34, 35, 36, 37, 38, 39, 40, 41, 42, 43, 44, 45, 46, 47, 48, 49, 53, 54, 55, 56, 57, 58, 59, 60, 61, 62, 63, 64, 65, 66, 67, 68, 69, 70, 71, 72, 73, 74, 75, 76, 77, 78, 79, 80, 81, 82, 83, 84, 85, 86, 87] rfl (by decide +kernel)
set_option maxRecDepth 20000 in
theorem gX10_biggest_X10_sends : GoodIn wsX10_biggest (wsV RX10 315 RX10 yX10_sends wsX10_sends) := goodIn_app (goodIn_of _ (by decide +kernel)) ggX10_biggest_X10_sends
set_option maxRecDepth 20000 in
theorem ggX10_biggest_X10_ones : GoodIn wsX10_biggest wsX10_ones := goodIn_r _ [52] rfl (by decide +kernel)
set_option maxRecDepth 20000 in
theorem gX10_biggest_X10_ones : GoodIn wsX10_biggest (va_wsS RX10 306 yX10_ones wsX10_ones) := goodIn_app (goodIn_of _ (by decide +kernel)) ggX10_biggest_X10_ones
theorem kX10_biggest_176 : Cond.fieldLink RX10 176 "EveningVowModel" "hasEvening" "Z" ∈ wsX10_biggest := List.mem_of_getElem? (i := 1) rfl
theorem iX10_biggest_X10 : ∀ w ∈ u_ws RX10 TX10 35, w ∈ wsX10_biggest := fun w h => (List.mem_cons_of_mem _ (List.mem_append_right _ h))
theorem kX10_biggest_20 : Cond.fieldLink RX10 20 "EveningVowModel" "\x72" "[I" ∈ wsX10_biggest := List.mem_of_getElem? (i := 2) rfl
theorem kX10_biggest_26 : Cond.fieldLink RX10 26 "EveningVowModel" "st" "[I" ∈ wsX10_biggest := List.mem_of_getElem? (i := 3) rfl
theorem kX10_biggest_35 : Cond.fieldLink RX10 35 "EveningVowModel" "trial" "[I" ∈ wsX10_biggest := List.mem_of_getElem? (i := 4) rfl
set_option maxHeartbeats 4000000 in
set_option maxRecDepth 100000 in
theorem wX10_biggest_L24 {p : Program} {l : Launch} {e : Env} {s : State} {m : MethodId} {args : Array Value} {below : List Frame} {meth : Method} {c : Code} {g : GG} {A : Nat → Prop} (C0 : Cx p s m args meth c cX10_biggest 5 (some .int) RX10 wsX10_biggest g A) (a_t : Nat) (p_t : Nat → Nat) (n : Nat) (f_t_15 : Nat → Int32) (f_t_17 : Nat → Int32)  (r : Int32) (o_t' : Nat → Int32) (f_t_25' : Nat → Int32) (K : Int32 → (Nat → Int32) → (Nat → Int32) → Option (Int32 × (Nat → Int32) × (Nat → Int32))) (hKx : ∀ (x1 : Int32) (o_t : Nat → Int32) (f_t_25 : Nat → Int32) (H : Heap) (locs : List Loc) (ls : Array Slot), K x1 o_t f_t_25 = some (r, o_t', f_t_25') → va_P g.1 vwCl [oX10 a_t p_t o_t, aI g (p_t 15) 266 f_t_15, aI g (p_t 17) 17 f_t_17, aI g (p_t 25) 17 f_t_25] H → va_D A [oX10 a_t p_t o_t, aI g (p_t 15) 266 f_t_15, aI g (p_t 17) 17 f_t_17, aI g (p_t 25) 17 f_t_25] → va_S A s.heap H locs → lv_has ls 5 [(1, .int x1)] → W p l e ({ frames := 4, cells := 0, slots := 0, locals := 93 } : Room) s m args below meth c H locs 0 0 (MQ below (EndI g r [oX10 a_t p_t o_t', aI g (p_t 15) 266 f_t_15, aI g (p_t 17) 17 f_t_17, aI g (p_t 25) 17 f_t_25'] A) args s 0 0 A) (F0 m 100 ls [])) : ∀ (k : Nat) (x1 : Int32) (x2 : Int32) (x3 : Int32) (o_t : Nat → Int32) (f_t_25 : Nat → Int32), fX10_biggest_L24 n f_t_15 f_t_17 K k x1 x2 x3 o_t f_t_25 = some (r, o_t', f_t_25') → ∀ (H : Heap) (locs : List Loc) (ls : Array Slot), va_P g.1 vwCl [oX10 a_t p_t o_t, aI g (p_t 15) 266 f_t_15, aI g (p_t 17) 17 f_t_17, aI g (p_t 25) 17 f_t_25] H → va_D A [oX10 a_t p_t o_t, aI g (p_t 15) 266 f_t_15, aI g (p_t 17) 17 f_t_17, aI g (p_t 25) 17 f_t_25] → va_S A s.heap H locs → lv_has ls 5 [(0, .ref a_t), (1, .int x1), (2, .int x2), (3, .int x3)] → W p l e ({ frames := 4, cells := 0, slots := 0, locals := 93 } : Room) s m args below meth c H locs 0 0 (MQ below (EndI g r [oX10 a_t p_t o_t', aI g (p_t 15) 266 f_t_15, aI g (p_t 17) 17 f_t_17, aI g (p_t 25) 17 f_t_25'] A) args s 0 0 A) (F0 m 24 ls []) := by
  obtain ⟨hx, hb, hml, hown, hts, hr, hlk, hK, hA, hSW⟩ := id C0
  intro k
  induction k with
  | zero =>
    intro x1 x2 x3 o_t f_t_25 hF
    exact absurd hF (by simp [fX10_biggest_L24])
  | succ k ih =>
    intro x1 x2 x3 o_t f_t_25 hF H locs ls hP hD hS hl
    rw [fX10_biggest_L24] at hF
    refine lv_iload_n hx hb dX10_biggest_24 rfl (lv_at hl 3 rfl) ?_
    refine lv_aload_n hx hb dX10_biggest_25 rfl (lv_at hl 0 rfl) ?_
    refine va_get (D := g.1) (ci := 10) (v := .ref (p_t 15)) (C := RX10) (T := TX10) (N := 35) hx hb hts iX10_biggest_X10 hown hK.1 hP 0 rfl rfl 15 (by decide) (hts _ kX10_biggest_20) (fun _ h9 => h9) rfl dX10_biggest_26 ?_
    refine lv_iconst (v := (3 : Int32)) hx hb dX10_biggest_29 (by decide) ?_
    refine va_iald_k (j := 3) hx hb hK.1 hP 1 0 rfl rfl (by unfold vp_in; decide) rfl dX10_biggest_30 ?_
    refine lv_icmp_ge (tgt := 100) hx hb dX10_biggest_31 (by decide) (fun c_4 => ?_) (fun c_4 => ?_)
    · have hF := it_p c_4 hF
      exact hKx x1 o_t f_t_25 _ _ _ hF (hP.sub [0, 1, 2, 3] rfl) (hD.sub [0, 1, 2, 3] rfl rfl) hS (lv_sub hl [1] rfl)
    · have hF := it_n c_4 hF
      refine lv_aload_n hx hb dX10_biggest_34 rfl (lv_at hl 0 rfl) ?_
      refine va_get (D := g.1) (ci := 10) (v := .ref (p_t 17)) (C := RX10) (T := TX10) (N := 35) hx hb hts iX10_biggest_X10 hown hK.1 hP 0 rfl rfl 17 (by decide) (hts _ kX10_biggest_26) (fun _ h9 => h9) rfl dX10_biggest_35 ?_
      refine lv_iconst (v := (0 : Int32)) hx hb dX10_biggest_38 (by decide) ?_
      refine lv_aload_n hx hb dX10_biggest_39 rfl (lv_at hl 0 rfl) ?_
      refine va_get (D := g.1) (ci := 10) (v := .ref (p_t 25)) (C := RX10) (T := TX10) (N := 35) hx hb hts iX10_biggest_X10 hown hK.1 hP 0 rfl rfl 25 (by decide) (hts _ kX10_biggest_35) (fun _ h9 => h9) rfl dX10_biggest_40 ?_
      refine lv_iconst (v := (0 : Int32)) hx hb dX10_biggest_43 (by decide) ?_
      refine lv_bipush (v := (17 : Int32)) hx hb dX10_biggest_44 (by decide) ?_
      obtain ⟨u_5, hu_6, hF⟩ := ob1_some hF
      refine call_sv (wr := [oX10 a_t p_t o_t, aI g (p_t 15) 266 f_t_15]) (As := [.ref (p_t 17), .int (0 : Int32), .ref (p_t 25), .int (0 : Int32), .int (17 : Int32)]) (rest := []) C0 (mX10_copy l g (p_t 17) (p_t 25) n (0 : Int32) (0 : Int32) (17 : Int32) 17 17 f_t_17 f_t_25 u_5 hu_6) (va_cwS 5 hts gX10_biggest_X10_copy rfl rfl rfl (by decide +kernel) ⟨Nat.le_of_ble_eq_true rfl, Nat.le_of_ble_eq_true rfl⟩) hP hD hS [2, 3] [0, 1] rfl rfl rfl rfl rfl (by decide) hl.1 rfl rfl (Nat.le_of_ble_eq_true rfl) ⟨Nat.zero_le _, Nat.zero_le _⟩ dX10_biggest_46 ?_
      intro H locs hP hD hS
      refine lv_aload_n hx hb dX10_biggest_49 rfl (lv_at hl 0 rfl) ?_
      refine va_get (D := g.1) (ci := 10) (v := .ref (p_t 17)) (C := RX10) (T := TX10) (N := 35) hx hb hts iX10_biggest_X10 hown hK.1 hP 0 rfl rfl 17 (by decide) (hts _ kX10_biggest_26) (fun _ h9 => h9) rfl dX10_biggest_50 ?_
      refine lv_iload_n hx hb dX10_biggest_53 rfl (lv_at hl 3 rfl) ?_
      obtain ⟨u_7, hu_8, hF⟩ := ob1_some hF
      refine call_si (wr := [oX10 a_t p_t o_t, aI g (p_t 15) 266 f_t_15, aI g (p_t 25) 17 u_5]) (As := [.ref (p_t 17), .int x3]) (rest := []) C0 (mX10_isIn l g (p_t 17) n x3 f_t_17 u_7 hu_8) (va_cwS 2 hts gX10_biggest_X10_isIn rfl rfl rfl (by decide +kernel) ⟨Nat.le_of_ble_eq_true rfl, Nat.le_of_ble_eq_true rfl⟩) hP hD hS [2] [0, 1, 3] rfl rfl rfl rfl rfl (by decide) hl.1 rfl rfl (Nat.le_of_ble_eq_true rfl) ⟨Nat.zero_le _, Nat.zero_le _⟩ dX10_biggest_54 ?_
      intro H locs hP hD hS
      refine lv_if_eq (tgt := 77) hx hb dX10_biggest_57 (by decide) (fun c_9 => ?_) (fun c_9 => ?_)
      · have hF := it_p c_9 hF
        refine lv_iconst (v := (0 : Int32)) hx hb dX10_biggest_77 (by decide) ?_
        refine lv_istore (lv' := [(4, .int (0 : Int32)), (0, .ref a_t), (1, .int x1), (2, .int x2), (3, .int x3)]) hx hb dX10_biggest_78 hl (by decide) rfl (fun ls hl => ?_)
        refine lv_iload hx hb dX10_biggest_80 (lv_at hl 0 rfl) ?_
        refine lv_iload_n hx hb dX10_biggest_82 rfl (lv_at hl 3 rfl) ?_
        refine lv_icmp_gt (tgt := 89) hx hb dX10_biggest_83 (by decide) (fun c_10 => ?_) (fun c_10 => ?_)
        · have hF := it_p c_10 hF
          refine lv_iload_n hx hb dX10_biggest_89 rfl (lv_at hl 4 rfl) ?_
          refine lv_istore_n (lv' := [(1, .int x3), (4, .int (0 : Int32)), (0, .ref a_t), (2, .int x2), (3, .int x3)]) hx hb dX10_biggest_90 rfl hl (by decide) rfl (fun ls hl => ?_)
          refine lv_iload hx hb dX10_biggest_91 (lv_at hl 1 rfl) ?_
          refine lv_istore_n (lv' := [(2, .int (0 : Int32)), (1, .int x3), (4, .int (0 : Int32)), (0, .ref a_t), (3, .int x3)]) hx hb dX10_biggest_93 rfl hl (by decide) rfl (fun ls hl => ?_)
          refine lv_iinc (v := (x3 + (1 : Int32))) (lv' := [(3, .int (x3 + (1 : Int32))), (2, .int (0 : Int32)), (1, .int x3), (4, .int (0 : Int32)), (0, .ref a_t)]) hx hb dX10_biggest_94 hl (k := 4) rfl rfl (by decide) rfl (fun ls hl => ?_)
          refine lv_goto (tgt := 24) hx hb dX10_biggest_97 (by decide) ?_
          exact ih x3 (0 : Int32) (x3 + (1 : Int32)) o_t u_5 hF _ _ _ (hP.sub [0, 1, 3, 2] rfl) (hD.sub [0, 1, 3, 2] rfl rfl) hS (lv_sub hl [4, 2, 1, 0] rfl)
        · have hF := it_n c_10 hF
          refine lv_goto (tgt := 94) hx hb dX10_biggest_86 (by decide) ?_
          refine lv_iinc (v := (x3 + (1 : Int32))) (lv' := [(3, .int (x3 + (1 : Int32))), (4, .int (0 : Int32)), (0, .ref a_t), (1, .int x1), (2, .int x2)]) hx hb dX10_biggest_94 hl (k := 4) rfl rfl (by decide) rfl (fun ls hl => ?_)
          refine lv_goto (tgt := 24) hx hb dX10_biggest_97 (by decide) ?_
          exact ih x1 x2 (x3 + (1 : Int32)) o_t u_5 hF _ _ _ (hP.sub [0, 1, 3, 2] rfl) (hD.sub [0, 1, 3, 2] rfl rfl) hS (lv_sub hl [2, 3, 4, 0] rfl)
      · have hF := it_n c_9 hF
        refine lv_aload_n hx hb dX10_biggest_60 rfl (lv_at hl 0 rfl) ?_
        refine lv_aload_n hx hb dX10_biggest_61 rfl (lv_at hl 0 rfl) ?_
        refine va_get (D := g.1) (ci := 10) (v := .ref (p_t 25)) (C := RX10) (T := TX10) (N := 35) hx hb hts iX10_biggest_X10 hown hK.1 hP 0 rfl rfl 25 (by decide) (hts _ kX10_biggest_35) (fun _ h9 => h9) rfl dX10_biggest_62 ?_
        refine lv_iconst (v := (1 : Int32)) hx hb dX10_biggest_65 (by decide) ?_
        refine lv_iload_n hx hb dX10_biggest_66 rfl (lv_at hl 3 rfl) ?_
        refine lv_ishl hx hb dX10_biggest_67 ?_
        obtain ⟨u_11, u_12, u_13, hu_14, hF⟩ := ob3_some hF
        refine call_i (wr := [aI g (p_t 17) 17 f_t_17]) (As := [.ref (p_t 25), .int ((1 : Int32) <<< (x3 &&& 31))]) (rest := []) (ci := 10) (q0 := 0) C0 (mX10_sends l g a_t (p_t 25) p_t n ((1 : Int32) <<< (x3 &&& 31)) o_t f_t_15 u_5 u_11 u_12 u_13 hu_14) (cwV 2 hts gX10_biggest_X10_sends rfl rfl rfl (by decide +kernel) ⟨Nat.le_of_ble_eq_true rfl, Nat.le_of_ble_eq_true rfl⟩) hP hD hS [0, 1, 2] [3] rfl rfl rfl rfl rfl (by decide) rfl rfl hl.1 rfl rfl (Nat.le_of_ble_eq_true rfl) ⟨Nat.zero_le _, Nat.zero_le _⟩ dX10_biggest_68 ?_
        intro H locs hP hD hS
        obtain ⟨u_15, hu_16, hF⟩ := ob1_some hF
        refine call_si (wr := [aI g (p_t 17) 17 f_t_17, oX10 a_t p_t u_12, aI g (p_t 15) 266 f_t_15, aI g (p_t 25) 17 u_13]) (As := [.int u_11]) (rest := []) C0 (mX10_ones l g n u_11 u_15 hu_16) (va_cwS 1 hts gX10_biggest_X10_ones rfl rfl rfl (by decide +kernel) ⟨Nat.le_of_ble_eq_true rfl, Nat.le_of_ble_eq_true rfl⟩) hP hD hS [] [0, 1, 2, 3] rfl rfl rfl rfl rfl (by decide) hl.1 rfl rfl (Nat.le_of_ble_eq_true rfl) ⟨Nat.zero_le _, Nat.zero_le _⟩ dX10_biggest_71 ?_
        intro H locs hP hD hS
        refine lv_goto (tgt := 78) hx hb dX10_biggest_74 (by decide) ?_
        refine lv_istore (lv' := [(4, .int u_15), (0, .ref a_t), (1, .int x1), (2, .int x2), (3, .int x3)]) hx hb dX10_biggest_78 hl (by decide) rfl (fun ls hl => ?_)
        refine lv_iload hx hb dX10_biggest_80 (lv_at hl 0 rfl) ?_
        refine lv_iload_n hx hb dX10_biggest_82 rfl (lv_at hl 3 rfl) ?_
        refine lv_icmp_gt (tgt := 89) hx hb dX10_biggest_83 (by decide) (fun c_17 => ?_) (fun c_17 => ?_)
        · have hF := it_p c_17 hF
          refine lv_iload_n hx hb dX10_biggest_89 rfl (lv_at hl 4 rfl) ?_
          refine lv_istore_n (lv' := [(1, .int x3), (4, .int u_15), (0, .ref a_t), (2, .int x2), (3, .int x3)]) hx hb dX10_biggest_90 rfl hl (by decide) rfl (fun ls hl => ?_)
          refine lv_iload hx hb dX10_biggest_91 (lv_at hl 1 rfl) ?_
          refine lv_istore_n (lv' := [(2, .int u_15), (1, .int x3), (4, .int u_15), (0, .ref a_t), (3, .int x3)]) hx hb dX10_biggest_93 rfl hl (by decide) rfl (fun ls hl => ?_)
          refine lv_iinc (v := (x3 + (1 : Int32))) (lv' := [(3, .int (x3 + (1 : Int32))), (2, .int u_15), (1, .int x3), (4, .int u_15), (0, .ref a_t)]) hx hb dX10_biggest_94 hl (k := 4) rfl rfl (by decide) rfl (fun ls hl => ?_)
          refine lv_goto (tgt := 24) hx hb dX10_biggest_97 (by decide) ?_
          exact ih x3 u_15 (x3 + (1 : Int32)) u_12 u_13 hF _ _ _ (hP.sub [1, 2, 0, 3] rfl) (hD.sub [1, 2, 0, 3] rfl rfl) hS (lv_sub hl [4, 2, 1, 0] rfl)
        · have hF := it_n c_17 hF
          refine lv_goto (tgt := 94) hx hb dX10_biggest_86 (by decide) ?_
          refine lv_iinc (v := (x3 + (1 : Int32))) (lv' := [(3, .int (x3 + (1 : Int32))), (4, .int u_15), (0, .ref a_t), (1, .int x1), (2, .int x2)]) hx hb dX10_biggest_94 hl (k := 4) rfl rfl (by decide) rfl (fun ls hl => ?_)
          refine lv_goto (tgt := 24) hx hb dX10_biggest_97 (by decide) ?_
          exact ih x1 x2 (x3 + (1 : Int32)) u_12 u_13 hF _ _ _ (hP.sub [1, 2, 0, 3] rfl) (hD.sub [1, 2, 0, 3] rfl rfl) hS (lv_sub hl [2, 3, 4, 0] rfl)
set_option maxHeartbeats 4000000 in
set_option maxRecDepth 100000 in
theorem mX10_biggest (l : Launch) (g : GG) (a_t : Nat) (p_t : Nat → Nat) (n : Nat) (o_t : Nat → Int32) (f_t_15 : Nat → Int32) (f_t_17 : Nat → Int32) (f_t_25 : Nat → Int32) (r : Int32) (o_t' : Nat → Int32) (f_t_25' : Nat → Int32) (hF : fX10_biggest n o_t f_t_15 f_t_17 f_t_25 = some (r, o_t', f_t_25')) : MI l g yX10_biggest wsX10_biggest ({ frames := 4, cells := 0, slots := 0, locals := 93 } : Room) [.ref a_t] [oX10 a_t p_t o_t, aI g (p_t 15) 266 f_t_15, aI g (p_t 17) 17 f_t_17, aI g (p_t 25) 17 f_t_25] r [oX10 a_t p_t o_t', aI g (p_t 15) 266 f_t_15, aI g (p_t 17) 17 f_t_17, aI g (p_t 25) 17 f_t_25'] := by
  refine MI.of (cc := cX10_biggest) (maxL := 5) (rt := .int) (own := RX10) rfl rfl (by decide) (Nat.le_of_ble_eq_true rfl) ?_
  intro p e s m args below meth c A C0 hP hD hS ls hl
  obtain ⟨hx, hb, hml, hown, hts, hr, hlk, hK, hA, hSW⟩ := id C0
  have hl : lv_has ls 5 [(0, .ref a_t)] := hl
  rw [fX10_biggest] at hF
  refine lv_aload_n hx hb dX10_biggest_0 rfl (lv_at hl 0 rfl) ?_
  obtain ⟨u_1, hu_2, hF⟩ := ob1_some hF
  refine call_v (wr := [aI g (p_t 15) 266 f_t_15, aI g (p_t 17) 17 f_t_17, aI g (p_t 25) 17 f_t_25]) (As := []) (rest := []) (ci := 10) (q0 := 0) C0 (mX10_good l g a_t p_t n o_t u_1 hu_2) (cwV 0 hts gX10_biggest_X10_good rfl rfl rfl (by decide +kernel) ⟨Nat.le_of_ble_eq_true rfl, Nat.le_of_ble_eq_true rfl⟩) hP hD hS [0] [1, 2, 3] rfl rfl rfl rfl rfl (by decide) rfl rfl hl.1 rfl rfl (Nat.le_of_ble_eq_true rfl) ⟨Nat.zero_le _, Nat.zero_le _⟩ dX10_biggest_1 ?_
  intro H locs hP hD hS
  refine lv_aload_n hx hb dX10_biggest_4 rfl (lv_at hl 0 rfl) ?_
  refine va_get (D := g.1) (ci := 10) (v := .int (u_1 14)) (C := RX10) (T := TX10) (N := 35) hx hb hts iX10_biggest_X10 hown hK.1 hP 3 rfl rfl 14 (by decide) (hts _ kX10_biggest_176) (fun _ h9 => h9) rfl dX10_biggest_5 ?_
  refine lv_if_ne (tgt := 17) hx hb dX10_biggest_8 (by decide) (fun c_3 => ?_) (fun c_3 => ?_)
  · have hF := it_n c_3 hF
    refine lv_bipush (v := (-2 : Int32)) hx hb dX10_biggest_17 (by decide) ?_
    refine lv_istore_n (lv' := [(1, .int (-2 : Int32)), (0, .ref a_t)]) hx hb dX10_biggest_19 rfl hl (by decide) rfl (fun ls hl => ?_)
    refine lv_iconst (v := (0 : Int32)) hx hb dX10_biggest_20 (by decide) ?_
    refine lv_istore_n (lv' := [(2, .int (0 : Int32)), (1, .int (-2 : Int32)), (0, .ref a_t)]) hx hb dX10_biggest_21 rfl hl (by decide) rfl (fun ls hl => ?_)
    refine lv_iconst (v := (0 : Int32)) hx hb dX10_biggest_22 (by decide) ?_
    refine lv_istore_n (lv' := [(3, .int (0 : Int32)), (2, .int (0 : Int32)), (1, .int (-2 : Int32)), (0, .ref a_t)]) hx hb dX10_biggest_23 rfl hl (by decide) rfl (fun ls hl => ?_)
    refine wX10_biggest_L24 C0 a_t p_t n f_t_15 f_t_17 r o_t' f_t_25' _ ?_ n (-2 : Int32) (0 : Int32) (0 : Int32) u_1 f_t_25 hF _ _ _ (hP.sub [3, 0, 1, 2] rfl) (hD.sub [3, 0, 1, 2] rfl rfl) hS (lv_sub hl [3, 2, 1, 0] rfl)
    · intro x1_x24 o_t_x24 f_t_25_x24 H locs ls hF hP hD hS hl
      refine lv_iload_n hx hb dX10_biggest_100 rfl (lv_at hl 0 rfl) ?_
      cases hF
      exact ret_i C0 hP hD hS [0, 1, 2, 3] rfl rfl rfl dX10_biggest_101 rfl
  · have hF := it_p c_3 hF
    refine lv_aload_n hx hb dX10_biggest_11 rfl (lv_at hl 0 rfl) ?_
    refine lv_iconst (v := (1 : Int32)) hx hb dX10_biggest_12 (by decide) ?_
    obtain ⟨u_18, u_19, hu_20, hF⟩ := ob2_some hF
    refine call_i (wr := [aI g (p_t 15) 266 f_t_15, aI g (p_t 17) 17 f_t_17, aI g (p_t 25) 17 f_t_25]) (As := [.int (1 : Int32)]) (rest := []) (ci := 10) (q0 := 0) C0 (mX10_no l g a_t p_t n (1 : Int32) u_1 u_18 u_19 hu_20) (cwV 1 hts gX10_biggest_X10_no rfl rfl rfl (by decide +kernel) ⟨Nat.le_of_ble_eq_true rfl, Nat.le_of_ble_eq_true rfl⟩) hP hD hS [3] [0, 1, 2] rfl rfl rfl rfl rfl (by decide) rfl rfl hl.1 rfl rfl (Nat.le_of_ble_eq_true rfl) ⟨Nat.zero_le _, Nat.zero_le _⟩ dX10_biggest_13 ?_
    intro H locs hP hD hS
    cases hF
    exact ret_i C0 hP hD hS [3, 0, 1, 2] rfl rfl rfl dX10_biggest_16 rfl

theorem dAX10_undrawn : ∀ q ∈ ([(0, (.aload_n 0, 1)), (1, (.invokevirtual 159, 3)), (4, (.aload_n 0, 1)), (5, (.iload_n 1, 1)), (6, (.invokevirtual 300, 3)), (9, (.ifCond .eq 16, 3)), (12, (.aload_n 0, 1)), (13, (.iload_n 2, 1)), (14, (.invokevirtual 300, 3)), (17, (.ifCond .eq 8, 3)), (20, (.iload_n 1, 1)), (21, (.iload_n 2, 1)), (22, (.if_icmp .ne 9, 3)), (25, (.aload_n 0, 1)), (26, (.iconst 1, 1)), (27, (.invokevirtual 162, 3)), (30, (.ireturn, 1)), (31, (.bipush 37, 2)), (33, (.bipush 7, 2)), (35, (.iload_n 1, 1)), (36, (.imul, 1)), (37, (.iadd, 1)), (38, (.iload_n 2, 1)), (39, (.iadd, 1)), (40, (.istore_n 3, 1)), (41, (.aload_n 0, 1)), (42, (.getfield 20, 3)), (45, (.iload_n 3, 1)), (46, (.iaload, 1)), (47, (.ifCond .ne 9, 3)), (50, (.aload_n 0, 1)), (51, (.iconst 5, 1)), (52, (.invokevirtual 162, 3)), (55, (.ireturn, 1)), (56, (.aload_n 0, 1)), (57, (.getfield 20, 3)), (60, (.iload_n 3, 1)), (61, (.iaload, 1)), (62, (.istore 4, 2)), (64, (.aload_n 0, 1)), (65, (.getfield 20, 3)), (68, (.iload_n 3, 1)), (69, (.iconst 0, 1)), (70, (.iastore, 1)), (71, (.aload_n 0, 1)), (72, (.invokevirtual 309, 3)), (75, (.istore 5, 2)), (77, (.aload_n 0, 1)), (78, (.getfield 20, 3)), (81, (.iload_n 3, 1)), (82, (.iload 4, 2)), (84, (.iastore, 1)), (85, (.iload 5, 2)), (87, (.ireturn, 1))] : List (Nat × (Instr × Nat))), decode cX10_undrawn q.1 = .ok q.2 := by decide +kernel
theorem dX10_undrawn_0 : decode cX10_undrawn 0 = .ok (.aload_n 0, 1) := dAX10_undrawn (0, (.aload_n 0, 1)) (List.mem_of_getElem? (i := 0) rfl)
theorem dX10_undrawn_1 : decode cX10_undrawn 1 = .ok (.invokevirtual 159, 3) := dAX10_undrawn (1, (.invokevirtual 159, 3)) (List.mem_of_getElem? (i := 1) rfl)
theorem dX10_undrawn_4 : decode cX10_undrawn 4 = .ok (.aload_n 0, 1) := dAX10_undrawn (4, (.aload_n 0, 1)) (List.mem_of_getElem? (i := 2) rfl)
theorem dX10_undrawn_5 : decode cX10_undrawn 5 = .ok (.iload_n 1, 1) := dAX10_undrawn (5, (.iload_n 1, 1)) (List.mem_of_getElem? (i := 3) rfl)
theorem dX10_undrawn_6 : decode cX10_undrawn 6 = .ok (.invokevirtual 300, 3) := dAX10_undrawn (6, (.invokevirtual 300, 3)) (List.mem_of_getElem? (i := 4) rfl)
theorem dX10_undrawn_9 : decode cX10_undrawn 9 = .ok (.ifCond .eq 16, 3) := dAX10_undrawn (9, (.ifCond .eq 16, 3)) (List.mem_of_getElem? (i := 5) rfl)
theorem dX10_undrawn_12 : decode cX10_undrawn 12 = .ok (.aload_n 0, 1) := dAX10_undrawn (12, (.aload_n 0, 1)) (List.mem_of_getElem? (i := 6) rfl)
theorem dX10_undrawn_13 : decode cX10_undrawn 13 = .ok (.iload_n 2, 1) := dAX10_undrawn (13, (.iload_n 2, 1)) (List.mem_of_getElem? (i := 7) rfl)
theorem dX10_undrawn_14 : decode cX10_undrawn 14 = .ok (.invokevirtual 300, 3) := dAX10_undrawn (14, (.invokevirtual 300, 3)) (List.mem_of_getElem? (i := 8) rfl)
theorem dX10_undrawn_17 : decode cX10_undrawn 17 = .ok (.ifCond .eq 8, 3) := dAX10_undrawn (17, (.ifCond .eq 8, 3)) (List.mem_of_getElem? (i := 9) rfl)
theorem dX10_undrawn_20 : decode cX10_undrawn 20 = .ok (.iload_n 1, 1) := dAX10_undrawn (20, (.iload_n 1, 1)) (List.mem_of_getElem? (i := 10) rfl)
theorem dX10_undrawn_21 : decode cX10_undrawn 21 = .ok (.iload_n 2, 1) := dAX10_undrawn (21, (.iload_n 2, 1)) (List.mem_of_getElem? (i := 11) rfl)
theorem dX10_undrawn_22 : decode cX10_undrawn 22 = .ok (.if_icmp .ne 9, 3) := dAX10_undrawn (22, (.if_icmp .ne 9, 3)) (List.mem_of_getElem? (i := 12) rfl)
theorem dX10_undrawn_25 : decode cX10_undrawn 25 = .ok (.aload_n 0, 1) := dAX10_undrawn (25, (.aload_n 0, 1)) (List.mem_of_getElem? (i := 13) rfl)
theorem dX10_undrawn_26 : decode cX10_undrawn 26 = .ok (.iconst 1, 1) := dAX10_undrawn (26, (.iconst 1, 1)) (List.mem_of_getElem? (i := 14) rfl)
theorem dX10_undrawn_27 : decode cX10_undrawn 27 = .ok (.invokevirtual 162, 3) := dAX10_undrawn (27, (.invokevirtual 162, 3)) (List.mem_of_getElem? (i := 15) rfl)
theorem dX10_undrawn_30 : decode cX10_undrawn 30 = .ok (.ireturn, 1) := dAX10_undrawn (30, (.ireturn, 1)) (List.mem_of_getElem? (i := 16) rfl)
theorem dX10_undrawn_31 : decode cX10_undrawn 31 = .ok (.bipush 37, 2) := dAX10_undrawn (31, (.bipush 37, 2)) (List.mem_of_getElem? (i := 17) rfl)
theorem dX10_undrawn_33 : decode cX10_undrawn 33 = .ok (.bipush 7, 2) := dAX10_undrawn (33, (.bipush 7, 2)) (List.mem_of_getElem? (i := 18) rfl)
theorem dX10_undrawn_35 : decode cX10_undrawn 35 = .ok (.iload_n 1, 1) := dAX10_undrawn (35, (.iload_n 1, 1)) (List.mem_of_getElem? (i := 19) rfl)
theorem dX10_undrawn_36 : decode cX10_undrawn 36 = .ok (.imul, 1) := dAX10_undrawn (36, (.imul, 1)) (List.mem_of_getElem? (i := 20) rfl)
theorem dX10_undrawn_37 : decode cX10_undrawn 37 = .ok (.iadd, 1) := dAX10_undrawn (37, (.iadd, 1)) (List.mem_of_getElem? (i := 21) rfl)
theorem dX10_undrawn_38 : decode cX10_undrawn 38 = .ok (.iload_n 2, 1) := dAX10_undrawn (38, (.iload_n 2, 1)) (List.mem_of_getElem? (i := 22) rfl)
theorem dX10_undrawn_39 : decode cX10_undrawn 39 = .ok (.iadd, 1) := dAX10_undrawn (39, (.iadd, 1)) (List.mem_of_getElem? (i := 23) rfl)
theorem dX10_undrawn_40 : decode cX10_undrawn 40 = .ok (.istore_n 3, 1) := dAX10_undrawn (40, (.istore_n 3, 1)) (List.mem_of_getElem? (i := 24) rfl)
theorem dX10_undrawn_41 : decode cX10_undrawn 41 = .ok (.aload_n 0, 1) := dAX10_undrawn (41, (.aload_n 0, 1)) (List.mem_of_getElem? (i := 25) rfl)
theorem dX10_undrawn_42 : decode cX10_undrawn 42 = .ok (.getfield 20, 3) := dAX10_undrawn (42, (.getfield 20, 3)) (List.mem_of_getElem? (i := 26) rfl)
theorem dX10_undrawn_45 : decode cX10_undrawn 45 = .ok (.iload_n 3, 1) := dAX10_undrawn (45, (.iload_n 3, 1)) (List.mem_of_getElem? (i := 27) rfl)
theorem dX10_undrawn_46 : decode cX10_undrawn 46 = .ok (.iaload, 1) := dAX10_undrawn (46, (.iaload, 1)) (List.mem_of_getElem? (i := 28) rfl)
theorem dX10_undrawn_47 : decode cX10_undrawn 47 = .ok (.ifCond .ne 9, 3) := dAX10_undrawn (47, (.ifCond .ne 9, 3)) (List.mem_of_getElem? (i := 29) rfl)
theorem dX10_undrawn_50 : decode cX10_undrawn 50 = .ok (.aload_n 0, 1) := dAX10_undrawn (50, (.aload_n 0, 1)) (List.mem_of_getElem? (i := 30) rfl)
theorem dX10_undrawn_51 : decode cX10_undrawn 51 = .ok (.iconst 5, 1) := dAX10_undrawn (51, (.iconst 5, 1)) (List.mem_of_getElem? (i := 31) rfl)
theorem dX10_undrawn_52 : decode cX10_undrawn 52 = .ok (.invokevirtual 162, 3) := dAX10_undrawn (52, (.invokevirtual 162, 3)) (List.mem_of_getElem? (i := 32) rfl)
theorem dX10_undrawn_55 : decode cX10_undrawn 55 = .ok (.ireturn, 1) := dAX10_undrawn (55, (.ireturn, 1)) (List.mem_of_getElem? (i := 33) rfl)
theorem dX10_undrawn_56 : decode cX10_undrawn 56 = .ok (.aload_n 0, 1) := dAX10_undrawn (56, (.aload_n 0, 1)) (List.mem_of_getElem? (i := 34) rfl)
theorem dX10_undrawn_57 : decode cX10_undrawn 57 = .ok (.getfield 20, 3) := dAX10_undrawn (57, (.getfield 20, 3)) (List.mem_of_getElem? (i := 35) rfl)
theorem dX10_undrawn_60 : decode cX10_undrawn 60 = .ok (.iload_n 3, 1) := dAX10_undrawn (60, (.iload_n 3, 1)) (List.mem_of_getElem? (i := 36) rfl)
theorem dX10_undrawn_61 : decode cX10_undrawn 61 = .ok (.iaload, 1) := dAX10_undrawn (61, (.iaload, 1)) (List.mem_of_getElem? (i := 37) rfl)
theorem dX10_undrawn_62 : decode cX10_undrawn 62 = .ok (.istore 4, 2) := dAX10_undrawn (62, (.istore 4, 2)) (List.mem_of_getElem? (i := 38) rfl)
theorem dX10_undrawn_64 : decode cX10_undrawn 64 = .ok (.aload_n 0, 1) := dAX10_undrawn (64, (.aload_n 0, 1)) (List.mem_of_getElem? (i := 39) rfl)
theorem dX10_undrawn_65 : decode cX10_undrawn 65 = .ok (.getfield 20, 3) := dAX10_undrawn (65, (.getfield 20, 3)) (List.mem_of_getElem? (i := 40) rfl)
theorem dX10_undrawn_68 : decode cX10_undrawn 68 = .ok (.iload_n 3, 1) := dAX10_undrawn (68, (.iload_n 3, 1)) (List.mem_of_getElem? (i := 41) rfl)
theorem dX10_undrawn_69 : decode cX10_undrawn 69 = .ok (.iconst 0, 1) := dAX10_undrawn (69, (.iconst 0, 1)) (List.mem_of_getElem? (i := 42) rfl)
theorem dX10_undrawn_70 : decode cX10_undrawn 70 = .ok (.iastore, 1) := dAX10_undrawn (70, (.iastore, 1)) (List.mem_of_getElem? (i := 43) rfl)
theorem dX10_undrawn_71 : decode cX10_undrawn 71 = .ok (.aload_n 0, 1) := dAX10_undrawn (71, (.aload_n 0, 1)) (List.mem_of_getElem? (i := 44) rfl)
theorem dX10_undrawn_72 : decode cX10_undrawn 72 = .ok (.invokevirtual 309, 3) := dAX10_undrawn (72, (.invokevirtual 309, 3)) (List.mem_of_getElem? (i := 45) rfl)
theorem dX10_undrawn_75 : decode cX10_undrawn 75 = .ok (.istore 5, 2) := dAX10_undrawn (75, (.istore 5, 2)) (List.mem_of_getElem? (i := 46) rfl)
theorem dX10_undrawn_77 : decode cX10_undrawn 77 = .ok (.aload_n 0, 1) := dAX10_undrawn (77, (.aload_n 0, 1)) (List.mem_of_getElem? (i := 47) rfl)
theorem dX10_undrawn_78 : decode cX10_undrawn 78 = .ok (.getfield 20, 3) := dAX10_undrawn (78, (.getfield 20, 3)) (List.mem_of_getElem? (i := 48) rfl)
theorem dX10_undrawn_81 : decode cX10_undrawn 81 = .ok (.iload_n 3, 1) := dAX10_undrawn (81, (.iload_n 3, 1)) (List.mem_of_getElem? (i := 49) rfl)
theorem dX10_undrawn_82 : decode cX10_undrawn 82 = .ok (.iload 4, 2) := dAX10_undrawn (82, (.iload 4, 2)) (List.mem_of_getElem? (i := 50) rfl)
theorem dX10_undrawn_84 : decode cX10_undrawn 84 = .ok (.iastore, 1) := dAX10_undrawn (84, (.iastore, 1)) (List.mem_of_getElem? (i := 51) rfl)
theorem dX10_undrawn_85 : decode cX10_undrawn 85 = .ok (.iload 5, 2) := dAX10_undrawn (85, (.iload 5, 2)) (List.mem_of_getElem? (i := 52) rfl)
theorem dX10_undrawn_87 : decode cX10_undrawn 87 = .ok (.ireturn, 1) := dAX10_undrawn (87, (.ireturn, 1)) (List.mem_of_getElem? (i := 53) rfl)
set_option maxRecDepth 20000 in
theorem ggX10_undrawn_X10_good : GoodIn wsX10_undrawn wsX10_good := goodIn_r _ [6, 7, 8, 80, 81, 82, 83, 84, 85, 86, 87, 88, 89, 90, 91, 92, 93, 94, 95, 96, 97, 98, 99, 100, 101, 102, 103, 104, 105, 106, 107, 108, 109, 110, 111, 112, 113, 114] rfl (by decide +kernel)
set_option maxRecDepth 20000 in
theorem gX10_undrawn_X10_good : GoodIn wsX10_undrawn (wsV RX10 159 RX10 yX10_good wsX10_good) := goodIn_app (goodIn_of _ (by decide +kernel)) ggX10_undrawn_X10_good
set_option maxRecDepth 20000 in
theorem ggX10_undrawn_X10_isGuest : GoodIn wsX10_undrawn wsX10_isGuest := goodIn_r _ [12, 13, 1, 14, 15, 5, 16, 80, 81, 82, 83, 84, 85, 86, 87, 88, 89, 90, 91, 92, 93, 94, 95, 96, 97, 98, 99, 100, 101, 102, 103, 104, 105, 106, 107, 108, 109, 110, 111, 112, 113, 114] rfl (by decide +kernel)
set_option maxRecDepth 20000 in
theorem gX10_undrawn_X10_isGuest : GoodIn wsX10_undrawn (wsV RX10 300 RX10 yX10_isGuest wsX10_isGuest) := goodIn_app (goodIn_of _ (by decide +kernel)) ggX10_undrawn_X10_isGuest
set_option maxRecDepth 20000 in
theorem ggX10_undrawn_X10_no : GoodIn wsX10_undrawn wsX10_no := goodIn_r _ [20, 8, 80, 81, 82, 83, 84, 85, 86, 87, 88, 89, 90, 91, 92, 93, 94, 95, 96, 97, 98, 99, 100, 101, 102, 103, 104, 105, 106, 107, 108, 109, 110, 111, 112, 113, 114] rfl (by decide +kernel)
set_option maxRecDepth 20000 in
theorem gX10_undrawn_X10_no : GoodIn wsX10_undrawn (wsV RX10 162 RX10 yX10_no wsX10_no) := goodIn_app (goodIn_of _ (by decide +kernel)) ggX10_undrawn_X10_no
set_option maxRecDepth 20000 in
theorem ggX10_undrawn_X10_endsNow : GoodIn wsX10_undrawn wsX10_endsNow := goodIn_r _ [24, 25, 26, 27, 28, 5, 29, 30, 31, 32, 33, 34, 35, 36, 37, 38, 1, 39, 40, 41, 42, 43, 44, 45, 46, 47, 48, 49, 50, 51, 52, 53, 54, 55, 56, 57, 58, 59, 60, 61, 62, 63, 64, 65, 66, 67, 68, 69, 70, 71, 72, 73, 74, 75, 76, 77, 78, 79, 80, 81, 82, 83, 84, 85, 86, 87, 88, 89, 90, 91, 92, 93, 94, 95, 96, 97, 98, 99, 100, 101, 102, 103, 104, 105, 106, 107, 108, 109, 110, 111, 112, 113, 114] rfl (by decide +kernel)
set_option maxRecDepth 20000 in
theorem gX10_undrawn_X10_endsNow : GoodIn wsX10_undrawn (wsV RX10 309 RX10 yX10_endsNow wsX10_endsNow) := goodIn_app (goodIn_of _ (by decide +kernel)) ggX10_undrawn_X10_endsNow
theorem kX10_undrawn_20 : Cond.fieldLink RX10 20 "EveningVowModel" "\x72" "[I" ∈ wsX10_undrawn := List.mem_of_getElem? (i := 1) rfl
theorem iX10_undrawn_X10 : ∀ w ∈ u_ws RX10 TX10 35, w ∈ wsX10_undrawn := fun w h => (List.mem_cons_of_mem _ (List.mem_append_right _ h))
set_option maxHeartbeats 4000000 in
set_option maxRecDepth 100000 in
theorem mX10_undrawn (l : Launch) (g : GG) (a_t : Nat) (p_t : Nat → Nat) (n : Nat) (x1 : Int32) (x2 : Int32) (o_t : Nat → Int32) (f_t_15 : Nat → Int32) (f_t_17 : Nat → Int32) (f_t_25 : Nat → Int32) (r : Int32) (o_t' : Nat → Int32) (f_t_15' : Nat → Int32) (f_t_25' : Nat → Int32) (hF : fX10_undrawn n x1 x2 o_t f_t_15 f_t_17 f_t_25 = some (r, o_t', f_t_15', f_t_25')) : MI l g yX10_undrawn wsX10_undrawn ({ frames := 6, cells := 0, slots := 0, locals := 136 } : Room) [.ref a_t, .int x1, .int x2] [oX10 a_t p_t o_t, aI g (p_t 15) 266 f_t_15, aI g (p_t 17) 17 f_t_17, aI g (p_t 25) 17 f_t_25] r [oX10 a_t p_t o_t', aI g (p_t 15) 266 f_t_15', aI g (p_t 17) 17 f_t_17, aI g (p_t 25) 17 f_t_25'] := by
  refine MI.of (cc := cX10_undrawn) (maxL := 6) (rt := .int) (own := RX10) rfl rfl (by decide) (Nat.le_of_ble_eq_true rfl) ?_
  intro p e s m args below meth c A C0 hP hD hS ls hl
  obtain ⟨hx, hb, hml, hown, hts, hr, hlk, hK, hA, hSW⟩ := id C0
  have hl : lv_has ls 6 [(0, .ref a_t), (1, .int x1), (2, .int x2)] := hl
  rw [fX10_undrawn] at hF
  refine lv_aload_n hx hb dX10_undrawn_0 rfl (lv_at hl 0 rfl) ?_
  obtain ⟨u_1, hu_2, hF⟩ := ob1_some hF
  refine call_v (wr := [aI g (p_t 15) 266 f_t_15, aI g (p_t 17) 17 f_t_17, aI g (p_t 25) 17 f_t_25]) (As := []) (rest := []) (ci := 10) (q0 := 0) C0 (mX10_good l g a_t p_t n o_t u_1 hu_2) (cwV 0 hts gX10_undrawn_X10_good rfl rfl rfl (by decide +kernel) ⟨Nat.le_of_ble_eq_true rfl, Nat.le_of_ble_eq_true rfl⟩) hP hD hS [0] [1, 2, 3] rfl rfl rfl rfl rfl (by decide) rfl rfl hl.1 rfl rfl (Nat.le_of_ble_eq_true rfl) ⟨Nat.zero_le _, Nat.zero_le _⟩ dX10_undrawn_1 ?_
  intro H locs hP hD hS
  refine lv_aload_n hx hb dX10_undrawn_4 rfl (lv_at hl 0 rfl) ?_
  refine lv_iload_n hx hb dX10_undrawn_5 rfl (lv_at hl 1 rfl) ?_
  obtain ⟨u_3, hu_4, hF⟩ := ob1_some hF
  refine call_i (wr := [aI g (p_t 17) 17 f_t_17, aI g (p_t 25) 17 f_t_25]) (As := [.int x1]) (rest := []) (ci := 10) (q0 := 0) C0 (mX10_isGuest l g a_t p_t n x1 u_1 f_t_15 u_3 hu_4) (cwV 1 hts gX10_undrawn_X10_isGuest rfl rfl rfl (by decide +kernel) ⟨Nat.le_of_ble_eq_true rfl, Nat.le_of_ble_eq_true rfl⟩) hP hD hS [3, 0] [1, 2] rfl rfl rfl rfl rfl (by decide) rfl rfl hl.1 rfl rfl (Nat.le_of_ble_eq_true rfl) ⟨Nat.zero_le _, Nat.zero_le _⟩ dX10_undrawn_6 ?_
  intro H locs hP hD hS
  refine lv_if_eq (tgt := 25) hx hb dX10_undrawn_9 (by decide) (fun c_5 => ?_) (fun c_5 => ?_)
  · have hF := it_p c_5 hF
    refine lv_aload_n hx hb dX10_undrawn_25 rfl (lv_at hl 0 rfl) ?_
    refine lv_iconst (v := (1 : Int32)) hx hb dX10_undrawn_26 (by decide) ?_
    obtain ⟨u_6, u_7, hu_8, hF⟩ := ob2_some hF
    refine call_i (wr := [aI g (p_t 17) 17 f_t_17, aI g (p_t 25) 17 f_t_25, aI g (p_t 15) 266 f_t_15]) (As := [.int (1 : Int32)]) (rest := []) (ci := 10) (q0 := 0) C0 (mX10_no l g a_t p_t n (1 : Int32) u_1 u_6 u_7 hu_8) (cwV 1 hts gX10_undrawn_X10_no rfl rfl rfl (by decide +kernel) ⟨Nat.le_of_ble_eq_true rfl, Nat.le_of_ble_eq_true rfl⟩) hP hD hS [2] [0, 1, 3] rfl rfl rfl rfl rfl (by decide) rfl rfl hl.1 rfl rfl (Nat.le_of_ble_eq_true rfl) ⟨Nat.zero_le _, Nat.zero_le _⟩ dX10_undrawn_27 ?_
    intro H locs hP hD hS
    cases hF
    exact ret_i C0 hP hD hS [3, 2, 0, 1] rfl rfl rfl dX10_undrawn_30 rfl
  · have hF := it_n c_5 hF
    refine lv_aload_n hx hb dX10_undrawn_12 rfl (lv_at hl 0 rfl) ?_
    refine lv_iload_n hx hb dX10_undrawn_13 rfl (lv_at hl 2 rfl) ?_
    obtain ⟨u_9, hu_10, hF⟩ := ob1_some hF
    refine call_i (wr := [aI g (p_t 17) 17 f_t_17, aI g (p_t 25) 17 f_t_25]) (As := [.int x2]) (rest := []) (ci := 10) (q0 := 0) C0 (mX10_isGuest l g a_t p_t n x2 u_1 f_t_15 u_9 hu_10) (cwV 1 hts gX10_undrawn_X10_isGuest rfl rfl rfl (by decide +kernel) ⟨Nat.le_of_ble_eq_true rfl, Nat.le_of_ble_eq_true rfl⟩) hP hD hS [2, 3] [0, 1] rfl rfl rfl rfl rfl (by decide) rfl rfl hl.1 rfl rfl (Nat.le_of_ble_eq_true rfl) ⟨Nat.zero_le _, Nat.zero_le _⟩ dX10_undrawn_14 ?_
    intro H locs hP hD hS
    refine lv_if_eq (tgt := 25) hx hb dX10_undrawn_17 (by decide) (fun c_11 => ?_) (fun c_11 => ?_)
    · have hF := it_p c_11 hF
      refine lv_aload_n hx hb dX10_undrawn_25 rfl (lv_at hl 0 rfl) ?_
      refine lv_iconst (v := (1 : Int32)) hx hb dX10_undrawn_26 (by decide) ?_
      obtain ⟨u_12, u_13, hu_14, hF⟩ := ob2_some hF
      refine call_i (wr := [aI g (p_t 17) 17 f_t_17, aI g (p_t 25) 17 f_t_25, aI g (p_t 15) 266 f_t_15]) (As := [.int (1 : Int32)]) (rest := []) (ci := 10) (q0 := 0) C0 (mX10_no l g a_t p_t n (1 : Int32) u_1 u_12 u_13 hu_14) (cwV 1 hts gX10_undrawn_X10_no rfl rfl rfl (by decide +kernel) ⟨Nat.le_of_ble_eq_true rfl, Nat.le_of_ble_eq_true rfl⟩) hP hD hS [2] [0, 1, 3] rfl rfl rfl rfl rfl (by decide) rfl rfl hl.1 rfl rfl (Nat.le_of_ble_eq_true rfl) ⟨Nat.zero_le _, Nat.zero_le _⟩ dX10_undrawn_27 ?_
      intro H locs hP hD hS
      cases hF
      exact ret_i C0 hP hD hS [3, 2, 0, 1] rfl rfl rfl dX10_undrawn_30 rfl
    · have hF := it_n c_11 hF
      refine lv_iload_n hx hb dX10_undrawn_20 rfl (lv_at hl 1 rfl) ?_
      refine lv_iload_n hx hb dX10_undrawn_21 rfl (lv_at hl 2 rfl) ?_
      refine lv_icmp_ne (tgt := 31) hx hb dX10_undrawn_22 (by decide) (fun c_15 => ?_) (fun c_15 => ?_)
      · have hF := it_n c_15 hF
        refine lv_bipush (v := (37 : Int32)) hx hb dX10_undrawn_31 (by decide) ?_
        refine lv_bipush (v := (7 : Int32)) hx hb dX10_undrawn_33 (by decide) ?_
        refine lv_iload_n hx hb dX10_undrawn_35 rfl (lv_at hl 1 rfl) ?_
        refine lv_imul hx hb dX10_undrawn_36 ?_
        refine lv_iadd hx hb dX10_undrawn_37 ?_
        refine lv_iload_n hx hb dX10_undrawn_38 rfl (lv_at hl 2 rfl) ?_
        refine lv_iadd hx hb dX10_undrawn_39 ?_
        refine lv_istore_n (lv' := [(3, .int (((37 : Int32) + ((7 : Int32) * x1)) + x2)), (0, .ref a_t), (1, .int x1), (2, .int x2)]) hx hb dX10_undrawn_40 rfl hl (by decide) rfl (fun ls hl => ?_)
        refine lv_aload_n hx hb dX10_undrawn_41 rfl (lv_at hl 1 rfl) ?_
        refine va_get (D := g.1) (ci := 10) (v := .ref (p_t 15)) (C := RX10) (T := TX10) (N := 35) hx hb hts iX10_undrawn_X10 hown hK.1 hP 2 rfl rfl 15 (by decide) (hts _ kX10_undrawn_20) (fun _ h9 => h9) rfl dX10_undrawn_42 ?_
        refine lv_iload_n hx hb dX10_undrawn_45 rfl (lv_at hl 0 rfl) ?_
        obtain ⟨h_16, hF⟩ := it_ck hF
        refine va_iald hx hb hK.1 hP 3 0 rfl rfl h_16 dX10_undrawn_46 ?_
        refine lv_if_ne (tgt := 56) hx hb dX10_undrawn_47 (by decide) (fun c_17 => ?_) (fun c_17 => ?_)
        · have hF := it_n c_17 hF
          refine lv_aload_n hx hb dX10_undrawn_56 rfl (lv_at hl 1 rfl) ?_
          refine va_get (D := g.1) (ci := 10) (v := .ref (p_t 15)) (C := RX10) (T := TX10) (N := 35) hx hb hts iX10_undrawn_X10 hown hK.1 hP 2 rfl rfl 15 (by decide) (hts _ kX10_undrawn_20) (fun _ h9 => h9) rfl dX10_undrawn_57 ?_
          refine lv_iload_n hx hb dX10_undrawn_60 rfl (lv_at hl 0 rfl) ?_
          obtain ⟨h_18, hF⟩ := it_ck hF
          refine va_iald hx hb hK.1 hP 3 0 rfl rfl h_18 dX10_undrawn_61 ?_
          refine lv_istore (lv' := [(4, .int (f_t_15 ((((37 : Int32) + ((7 : Int32) * x1)) + x2)).toNatClampNeg)), (3, .int (((37 : Int32) + ((7 : Int32) * x1)) + x2)), (0, .ref a_t), (1, .int x1), (2, .int x2)]) hx hb dX10_undrawn_62 hl (by decide) rfl (fun ls hl => ?_)
          refine lv_aload_n hx hb dX10_undrawn_64 rfl (lv_at hl 2 rfl) ?_
          refine va_get (D := g.1) (ci := 10) (v := .ref (p_t 15)) (C := RX10) (T := TX10) (N := 35) hx hb hts iX10_undrawn_X10 hown hK.1 hP 2 rfl rfl 15 (by decide) (hts _ kX10_undrawn_20) (fun _ h9 => h9) rfl dX10_undrawn_65 ?_
          refine lv_iload_n hx hb dX10_undrawn_68 rfl (lv_at hl 1 rfl) ?_
          refine lv_iconst (v := (0 : Int32)) hx hb dX10_undrawn_69 (by decide) ?_
          obtain ⟨h_19, hF⟩ := it_ck hF
          refine va_iast hx hb hK.1 hP hD hS 3 0 rfl rfl h_19 dX10_undrawn_70 (fun H locs hP hD hS => ?_)
          have hP : va_P g.1 vwCl [aI g (p_t 17) 17 f_t_17, aI g (p_t 25) 17 f_t_25, oX10 a_t p_t u_1, aI g (p_t 15) 266 (upd f_t_15 ((((37 : Int32) + ((7 : Int32) * x1)) + x2)).toNatClampNeg (0 : Int32))] H := hP
          have hD : va_D A [aI g (p_t 17) 17 f_t_17, aI g (p_t 25) 17 f_t_25, oX10 a_t p_t u_1, aI g (p_t 15) 266 (upd f_t_15 ((((37 : Int32) + ((7 : Int32) * x1)) + x2)).toNatClampNeg (0 : Int32))] := hD
          refine lv_aload_n hx hb dX10_undrawn_71 rfl (lv_at hl 2 rfl) ?_
          obtain ⟨u_20, u_21, u_22, hu_23, hF⟩ := ob3_some hF
          refine call_i (wr := []) (As := []) (rest := []) (ci := 10) (q0 := 0) C0 (mX10_endsNow l g a_t p_t n u_1 (upd f_t_15 ((((37 : Int32) + ((7 : Int32) * x1)) + x2)).toNatClampNeg (0 : Int32)) f_t_17 f_t_25 u_20 u_21 u_22 hu_23) (cwV 0 hts gX10_undrawn_X10_endsNow rfl rfl rfl (by decide +kernel) ⟨Nat.le_of_ble_eq_true rfl, Nat.le_of_ble_eq_true rfl⟩) hP hD hS [2, 3, 0, 1] [] rfl rfl rfl rfl rfl (by decide) rfl rfl hl.1 rfl rfl (Nat.le_of_ble_eq_true rfl) ⟨Nat.zero_le _, Nat.zero_le _⟩ dX10_undrawn_72 ?_
          intro H locs hP hD hS
          refine lv_istore (lv' := [(5, .int u_20), (4, .int (f_t_15 ((((37 : Int32) + ((7 : Int32) * x1)) + x2)).toNatClampNeg)), (3, .int (((37 : Int32) + ((7 : Int32) * x1)) + x2)), (0, .ref a_t), (1, .int x1), (2, .int x2)]) hx hb dX10_undrawn_75 hl (by decide) rfl (fun ls hl => ?_)
          refine lv_aload_n hx hb dX10_undrawn_77 rfl (lv_at hl 3 rfl) ?_
          refine va_get (D := g.1) (ci := 10) (v := .ref (p_t 15)) (C := RX10) (T := TX10) (N := 35) hx hb hts iX10_undrawn_X10 hown hK.1 hP 0 rfl rfl 15 (by decide) (hts _ kX10_undrawn_20) (fun _ h9 => h9) rfl dX10_undrawn_78 ?_
          refine lv_iload_n hx hb dX10_undrawn_81 rfl (lv_at hl 2 rfl) ?_
          refine lv_iload hx hb dX10_undrawn_82 (lv_at hl 1 rfl) ?_
          obtain ⟨h_24, hF⟩ := it_ck hF
          refine va_iast hx hb hK.1 hP hD hS 1 0 rfl rfl h_24 dX10_undrawn_84 (fun H locs hP hD hS => ?_)
          have hP : va_P g.1 vwCl [oX10 a_t p_t u_21, aI g (p_t 15) 266 (upd (upd f_t_15 ((((37 : Int32) + ((7 : Int32) * x1)) + x2)).toNatClampNeg (0 : Int32)) ((((37 : Int32) + ((7 : Int32) * x1)) + x2)).toNatClampNeg (f_t_15 ((((37 : Int32) + ((7 : Int32) * x1)) + x2)).toNatClampNeg)), aI g (p_t 17) 17 f_t_17, aI g (p_t 25) 17 u_22] H := hP
          have hD : va_D A [oX10 a_t p_t u_21, aI g (p_t 15) 266 (upd (upd f_t_15 ((((37 : Int32) + ((7 : Int32) * x1)) + x2)).toNatClampNeg (0 : Int32)) ((((37 : Int32) + ((7 : Int32) * x1)) + x2)).toNatClampNeg (f_t_15 ((((37 : Int32) + ((7 : Int32) * x1)) + x2)).toNatClampNeg)), aI g (p_t 17) 17 f_t_17, aI g (p_t 25) 17 u_22] := hD
          refine lv_iload hx hb dX10_undrawn_85 (lv_at hl 0 rfl) ?_
          cases hF
          exact ret_i C0 hP hD hS [0, 1, 2, 3] rfl rfl rfl dX10_undrawn_87 rfl
        · have hF := it_p c_17 hF
          refine lv_aload_n hx hb dX10_undrawn_50 rfl (lv_at hl 1 rfl) ?_
          refine lv_iconst (v := (5 : Int32)) hx hb dX10_undrawn_51 (by decide) ?_
          obtain ⟨u_25, u_26, hu_27, hF⟩ := ob2_some hF
          refine call_i (wr := [aI g (p_t 17) 17 f_t_17, aI g (p_t 25) 17 f_t_25, aI g (p_t 15) 266 f_t_15]) (As := [.int (5 : Int32)]) (rest := []) (ci := 10) (q0 := 0) C0 (mX10_no l g a_t p_t n (5 : Int32) u_1 u_25 u_26 hu_27) (cwV 1 hts gX10_undrawn_X10_no rfl rfl rfl (by decide +kernel) ⟨Nat.le_of_ble_eq_true rfl, Nat.le_of_ble_eq_true rfl⟩) hP hD hS [2] [0, 1, 3] rfl rfl rfl rfl rfl (by decide) rfl rfl hl.1 rfl rfl (Nat.le_of_ble_eq_true rfl) ⟨Nat.zero_le _, Nat.zero_le _⟩ dX10_undrawn_52 ?_
          intro H locs hP hD hS
          cases hF
          exact ret_i C0 hP hD hS [3, 2, 0, 1] rfl rfl rfl dX10_undrawn_55 rfl
      · have hF := it_p c_15 hF
        refine lv_aload_n hx hb dX10_undrawn_25 rfl (lv_at hl 0 rfl) ?_
        refine lv_iconst (v := (1 : Int32)) hx hb dX10_undrawn_26 (by decide) ?_
        obtain ⟨u_28, u_29, hu_30, hF⟩ := ob2_some hF
        refine call_i (wr := [aI g (p_t 17) 17 f_t_17, aI g (p_t 25) 17 f_t_25, aI g (p_t 15) 266 f_t_15]) (As := [.int (1 : Int32)]) (rest := []) (ci := 10) (q0 := 0) C0 (mX10_no l g a_t p_t n (1 : Int32) u_1 u_28 u_29 hu_30) (cwV 1 hts gX10_undrawn_X10_no rfl rfl rfl (by decide +kernel) ⟨Nat.le_of_ble_eq_true rfl, Nat.le_of_ble_eq_true rfl⟩) hP hD hS [2] [0, 1, 3] rfl rfl rfl rfl rfl (by decide) rfl rfl hl.1 rfl rfl (Nat.le_of_ble_eq_true rfl) ⟨Nat.zero_le _, Nat.zero_le _⟩ dX10_undrawn_27 ?_
        intro H locs hP hD hS
        cases hF
        exact ret_i C0 hP hD hS [3, 2, 0, 1] rfl rfl rfl dX10_undrawn_30 rfl

theorem dAX10_apart : ∀ q ∈ ([(0, (.aload_n 0, 1)), (1, (.invokevirtual 159, 3)), (4, (.aload_n 0, 1)), (5, (.iload_n 1, 1)), (6, (.invokevirtual 300, 3)), (9, (.ifCond .ne 9, 3)), (12, (.aload_n 0, 1)), (13, (.iconst 1, 1)), (14, (.invokevirtual 162, 3)), (17, (.ireturn, 1)), (18, (.bipush 9, 2)), (20, (.iconst 4, 1)), (21, (.iload_n 1, 1)), (22, (.imul, 1)), (23, (.iadd, 1)), (24, (.iconst 3, 1)), (25, (.iadd, 1)), (26, (.istore_n 2, 1)), (27, (.aload_n 0, 1)), (28, (.getfield 20, 3)), (31, (.iload_n 2, 1)), (32, (.iaload, 1)), (33, (.istore_n 3, 1)), (34, (.iload_n 3, 1)), (35, (.ifCond .ne 9, 3)), (38, (.aload_n 0, 1)), (39, (.iconst 5, 1)), (40, (.invokevirtual 162, 3)), (43, (.ireturn, 1)), (44, (.aload_n 0, 1)), (45, (.getfield 20, 3)), (48, (.iload_n 2, 1)), (49, (.iconst 0, 1)), (50, (.iastore, 1)), (51, (.aload_n 0, 1)), (52, (.getfield 20, 3)), (55, (.bipush 9, 2)), (57, (.iconst 4, 1)), (58, (.iload_n 3, 1)), (59, (.iconst 1, 1)), (60, (.isub, 1)), (61, (.imul, 1)), (62, (.iadd, 1)), (63, (.iconst 3, 1)), (64, (.iadd, 1)), (65, (.iconst 0, 1)), (66, (.iastore, 1)), (67, (.aload_n 0, 1)), (68, (.invokevirtual 309, 3)), (71, (.istore 4, 2)), (73, (.aload_n 0, 1)), (74, (.getfield 20, 3)), (77, (.iload_n 2, 1)), (78, (.iload_n 3, 1)), (79, (.iastore, 1)), (80, (.aload_n 0, 1)), (81, (.getfield 20, 3)), (84, (.bipush 9, 2)), (86, (.iconst 4, 1)), (87, (.iload_n 3, 1)), (88, (.iconst 1, 1)), (89, (.isub, 1)), (90, (.imul, 1)), (91, (.iadd, 1)), (92, (.iconst 3, 1)), (93, (.iadd, 1)), (94, (.iload_n 1, 1)), (95, (.iconst 1, 1)), (96, (.iadd, 1)), (97, (.iastore, 1)), (98, (.iload 4, 2)), (100, (.ireturn, 1))] : List (Nat × (Instr × Nat))), decode cX10_apart q.1 = .ok q.2 := by decide +kernel
theorem dX10_apart_0 : decode cX10_apart 0 = .ok (.aload_n 0, 1) := dAX10_apart (0, (.aload_n 0, 1)) (List.mem_of_getElem? (i := 0) rfl)
theorem dX10_apart_1 : decode cX10_apart 1 = .ok (.invokevirtual 159, 3) := dAX10_apart (1, (.invokevirtual 159, 3)) (List.mem_of_getElem? (i := 1) rfl)
theorem dX10_apart_4 : decode cX10_apart 4 = .ok (.aload_n 0, 1) := dAX10_apart (4, (.aload_n 0, 1)) (List.mem_of_getElem? (i := 2) rfl)
theorem dX10_apart_5 : decode cX10_apart 5 = .ok (.iload_n 1, 1) := dAX10_apart (5, (.iload_n 1, 1)) (List.mem_of_getElem? (i := 3) rfl)
theorem dX10_apart_6 : decode cX10_apart 6 = .ok (.invokevirtual 300, 3) := dAX10_apart (6, (.invokevirtual 300, 3)) (List.mem_of_getElem? (i := 4) rfl)
theorem dX10_apart_9 : decode cX10_apart 9 = .ok (.ifCond .ne 9, 3) := dAX10_apart (9, (.ifCond .ne 9, 3)) (List.mem_of_getElem? (i := 5) rfl)
theorem dX10_apart_12 : decode cX10_apart 12 = .ok (.aload_n 0, 1) := dAX10_apart (12, (.aload_n 0, 1)) (List.mem_of_getElem? (i := 6) rfl)
theorem dX10_apart_13 : decode cX10_apart 13 = .ok (.iconst 1, 1) := dAX10_apart (13, (.iconst 1, 1)) (List.mem_of_getElem? (i := 7) rfl)
theorem dX10_apart_14 : decode cX10_apart 14 = .ok (.invokevirtual 162, 3) := dAX10_apart (14, (.invokevirtual 162, 3)) (List.mem_of_getElem? (i := 8) rfl)
theorem dX10_apart_17 : decode cX10_apart 17 = .ok (.ireturn, 1) := dAX10_apart (17, (.ireturn, 1)) (List.mem_of_getElem? (i := 9) rfl)
theorem dX10_apart_18 : decode cX10_apart 18 = .ok (.bipush 9, 2) := dAX10_apart (18, (.bipush 9, 2)) (List.mem_of_getElem? (i := 10) rfl)
theorem dX10_apart_20 : decode cX10_apart 20 = .ok (.iconst 4, 1) := dAX10_apart (20, (.iconst 4, 1)) (List.mem_of_getElem? (i := 11) rfl)
theorem dX10_apart_21 : decode cX10_apart 21 = .ok (.iload_n 1, 1) := dAX10_apart (21, (.iload_n 1, 1)) (List.mem_of_getElem? (i := 12) rfl)
theorem dX10_apart_22 : decode cX10_apart 22 = .ok (.imul, 1) := dAX10_apart (22, (.imul, 1)) (List.mem_of_getElem? (i := 13) rfl)
theorem dX10_apart_23 : decode cX10_apart 23 = .ok (.iadd, 1) := dAX10_apart (23, (.iadd, 1)) (List.mem_of_getElem? (i := 14) rfl)
theorem dX10_apart_24 : decode cX10_apart 24 = .ok (.iconst 3, 1) := dAX10_apart (24, (.iconst 3, 1)) (List.mem_of_getElem? (i := 15) rfl)
theorem dX10_apart_25 : decode cX10_apart 25 = .ok (.iadd, 1) := dAX10_apart (25, (.iadd, 1)) (List.mem_of_getElem? (i := 16) rfl)
theorem dX10_apart_26 : decode cX10_apart 26 = .ok (.istore_n 2, 1) := dAX10_apart (26, (.istore_n 2, 1)) (List.mem_of_getElem? (i := 17) rfl)
theorem dX10_apart_27 : decode cX10_apart 27 = .ok (.aload_n 0, 1) := dAX10_apart (27, (.aload_n 0, 1)) (List.mem_of_getElem? (i := 18) rfl)
theorem dX10_apart_28 : decode cX10_apart 28 = .ok (.getfield 20, 3) := dAX10_apart (28, (.getfield 20, 3)) (List.mem_of_getElem? (i := 19) rfl)
theorem dX10_apart_31 : decode cX10_apart 31 = .ok (.iload_n 2, 1) := dAX10_apart (31, (.iload_n 2, 1)) (List.mem_of_getElem? (i := 20) rfl)
theorem dX10_apart_32 : decode cX10_apart 32 = .ok (.iaload, 1) := dAX10_apart (32, (.iaload, 1)) (List.mem_of_getElem? (i := 21) rfl)
theorem dX10_apart_33 : decode cX10_apart 33 = .ok (.istore_n 3, 1) := dAX10_apart (33, (.istore_n 3, 1)) (List.mem_of_getElem? (i := 22) rfl)
theorem dX10_apart_34 : decode cX10_apart 34 = .ok (.iload_n 3, 1) := dAX10_apart (34, (.iload_n 3, 1)) (List.mem_of_getElem? (i := 23) rfl)
theorem dX10_apart_35 : decode cX10_apart 35 = .ok (.ifCond .ne 9, 3) := dAX10_apart (35, (.ifCond .ne 9, 3)) (List.mem_of_getElem? (i := 24) rfl)
theorem dX10_apart_38 : decode cX10_apart 38 = .ok (.aload_n 0, 1) := dAX10_apart (38, (.aload_n 0, 1)) (List.mem_of_getElem? (i := 25) rfl)
theorem dX10_apart_39 : decode cX10_apart 39 = .ok (.iconst 5, 1) := dAX10_apart (39, (.iconst 5, 1)) (List.mem_of_getElem? (i := 26) rfl)
theorem dX10_apart_40 : decode cX10_apart 40 = .ok (.invokevirtual 162, 3) := dAX10_apart (40, (.invokevirtual 162, 3)) (List.mem_of_getElem? (i := 27) rfl)
theorem dX10_apart_43 : decode cX10_apart 43 = .ok (.ireturn, 1) := dAX10_apart (43, (.ireturn, 1)) (List.mem_of_getElem? (i := 28) rfl)
theorem dX10_apart_44 : decode cX10_apart 44 = .ok (.aload_n 0, 1) := dAX10_apart (44, (.aload_n 0, 1)) (List.mem_of_getElem? (i := 29) rfl)
theorem dX10_apart_45 : decode cX10_apart 45 = .ok (.getfield 20, 3) := dAX10_apart (45, (.getfield 20, 3)) (List.mem_of_getElem? (i := 30) rfl)
theorem dX10_apart_48 : decode cX10_apart 48 = .ok (.iload_n 2, 1) := dAX10_apart (48, (.iload_n 2, 1)) (List.mem_of_getElem? (i := 31) rfl)
theorem dX10_apart_49 : decode cX10_apart 49 = .ok (.iconst 0, 1) := dAX10_apart (49, (.iconst 0, 1)) (List.mem_of_getElem? (i := 32) rfl)
theorem dX10_apart_50 : decode cX10_apart 50 = .ok (.iastore, 1) := dAX10_apart (50, (.iastore, 1)) (List.mem_of_getElem? (i := 33) rfl)
theorem dX10_apart_51 : decode cX10_apart 51 = .ok (.aload_n 0, 1) := dAX10_apart (51, (.aload_n 0, 1)) (List.mem_of_getElem? (i := 34) rfl)
theorem dX10_apart_52 : decode cX10_apart 52 = .ok (.getfield 20, 3) := dAX10_apart (52, (.getfield 20, 3)) (List.mem_of_getElem? (i := 35) rfl)
theorem dX10_apart_55 : decode cX10_apart 55 = .ok (.bipush 9, 2) := dAX10_apart (55, (.bipush 9, 2)) (List.mem_of_getElem? (i := 36) rfl)
theorem dX10_apart_57 : decode cX10_apart 57 = .ok (.iconst 4, 1) := dAX10_apart (57, (.iconst 4, 1)) (List.mem_of_getElem? (i := 37) rfl)
theorem dX10_apart_58 : decode cX10_apart 58 = .ok (.iload_n 3, 1) := dAX10_apart (58, (.iload_n 3, 1)) (List.mem_of_getElem? (i := 38) rfl)
theorem dX10_apart_59 : decode cX10_apart 59 = .ok (.iconst 1, 1) := dAX10_apart (59, (.iconst 1, 1)) (List.mem_of_getElem? (i := 39) rfl)
theorem dX10_apart_60 : decode cX10_apart 60 = .ok (.isub, 1) := dAX10_apart (60, (.isub, 1)) (List.mem_of_getElem? (i := 40) rfl)
theorem dX10_apart_61 : decode cX10_apart 61 = .ok (.imul, 1) := dAX10_apart (61, (.imul, 1)) (List.mem_of_getElem? (i := 41) rfl)
theorem dX10_apart_62 : decode cX10_apart 62 = .ok (.iadd, 1) := dAX10_apart (62, (.iadd, 1)) (List.mem_of_getElem? (i := 42) rfl)
theorem dX10_apart_63 : decode cX10_apart 63 = .ok (.iconst 3, 1) := dAX10_apart (63, (.iconst 3, 1)) (List.mem_of_getElem? (i := 43) rfl)
theorem dX10_apart_64 : decode cX10_apart 64 = .ok (.iadd, 1) := dAX10_apart (64, (.iadd, 1)) (List.mem_of_getElem? (i := 44) rfl)
theorem dX10_apart_65 : decode cX10_apart 65 = .ok (.iconst 0, 1) := dAX10_apart (65, (.iconst 0, 1)) (List.mem_of_getElem? (i := 45) rfl)
theorem dX10_apart_66 : decode cX10_apart 66 = .ok (.iastore, 1) := dAX10_apart (66, (.iastore, 1)) (List.mem_of_getElem? (i := 46) rfl)
theorem dX10_apart_67 : decode cX10_apart 67 = .ok (.aload_n 0, 1) := dAX10_apart (67, (.aload_n 0, 1)) (List.mem_of_getElem? (i := 47) rfl)
theorem dX10_apart_68 : decode cX10_apart 68 = .ok (.invokevirtual 309, 3) := dAX10_apart (68, (.invokevirtual 309, 3)) (List.mem_of_getElem? (i := 48) rfl)
theorem dX10_apart_71 : decode cX10_apart 71 = .ok (.istore 4, 2) := dAX10_apart (71, (.istore 4, 2)) (List.mem_of_getElem? (i := 49) rfl)
theorem dX10_apart_73 : decode cX10_apart 73 = .ok (.aload_n 0, 1) := dAX10_apart (73, (.aload_n 0, 1)) (List.mem_of_getElem? (i := 50) rfl)
theorem dX10_apart_74 : decode cX10_apart 74 = .ok (.getfield 20, 3) := dAX10_apart (74, (.getfield 20, 3)) (List.mem_of_getElem? (i := 51) rfl)
theorem dX10_apart_77 : decode cX10_apart 77 = .ok (.iload_n 2, 1) := dAX10_apart (77, (.iload_n 2, 1)) (List.mem_of_getElem? (i := 52) rfl)
theorem dX10_apart_78 : decode cX10_apart 78 = .ok (.iload_n 3, 1) := dAX10_apart (78, (.iload_n 3, 1)) (List.mem_of_getElem? (i := 53) rfl)
theorem dX10_apart_79 : decode cX10_apart 79 = .ok (.iastore, 1) := dAX10_apart (79, (.iastore, 1)) (List.mem_of_getElem? (i := 54) rfl)
theorem dX10_apart_80 : decode cX10_apart 80 = .ok (.aload_n 0, 1) := dAX10_apart (80, (.aload_n 0, 1)) (List.mem_of_getElem? (i := 55) rfl)
theorem dX10_apart_81 : decode cX10_apart 81 = .ok (.getfield 20, 3) := dAX10_apart (81, (.getfield 20, 3)) (List.mem_of_getElem? (i := 56) rfl)
theorem dX10_apart_84 : decode cX10_apart 84 = .ok (.bipush 9, 2) := dAX10_apart (84, (.bipush 9, 2)) (List.mem_of_getElem? (i := 57) rfl)
theorem dX10_apart_86 : decode cX10_apart 86 = .ok (.iconst 4, 1) := dAX10_apart (86, (.iconst 4, 1)) (List.mem_of_getElem? (i := 58) rfl)
theorem dX10_apart_87 : decode cX10_apart 87 = .ok (.iload_n 3, 1) := dAX10_apart (87, (.iload_n 3, 1)) (List.mem_of_getElem? (i := 59) rfl)
theorem dX10_apart_88 : decode cX10_apart 88 = .ok (.iconst 1, 1) := dAX10_apart (88, (.iconst 1, 1)) (List.mem_of_getElem? (i := 60) rfl)
theorem dX10_apart_89 : decode cX10_apart 89 = .ok (.isub, 1) := dAX10_apart (89, (.isub, 1)) (List.mem_of_getElem? (i := 61) rfl)
theorem dX10_apart_90 : decode cX10_apart 90 = .ok (.imul, 1) := dAX10_apart (90, (.imul, 1)) (List.mem_of_getElem? (i := 62) rfl)
theorem dX10_apart_91 : decode cX10_apart 91 = .ok (.iadd, 1) := dAX10_apart (91, (.iadd, 1)) (List.mem_of_getElem? (i := 63) rfl)
theorem dX10_apart_92 : decode cX10_apart 92 = .ok (.iconst 3, 1) := dAX10_apart (92, (.iconst 3, 1)) (List.mem_of_getElem? (i := 64) rfl)
theorem dX10_apart_93 : decode cX10_apart 93 = .ok (.iadd, 1) := dAX10_apart (93, (.iadd, 1)) (List.mem_of_getElem? (i := 65) rfl)
theorem dX10_apart_94 : decode cX10_apart 94 = .ok (.iload_n 1, 1) := dAX10_apart (94, (.iload_n 1, 1)) (List.mem_of_getElem? (i := 66) rfl)
theorem dX10_apart_95 : decode cX10_apart 95 = .ok (.iconst 1, 1) := dAX10_apart (95, (.iconst 1, 1)) (List.mem_of_getElem? (i := 67) rfl)
theorem dX10_apart_96 : decode cX10_apart 96 = .ok (.iadd, 1) := dAX10_apart (96, (.iadd, 1)) (List.mem_of_getElem? (i := 68) rfl)
theorem dX10_apart_97 : decode cX10_apart 97 = .ok (.iastore, 1) := dAX10_apart (97, (.iastore, 1)) (List.mem_of_getElem? (i := 69) rfl)
theorem dX10_apart_98 : decode cX10_apart 98 = .ok (.iload 4, 2) := dAX10_apart (98, (.iload 4, 2)) (List.mem_of_getElem? (i := 70) rfl)
theorem dX10_apart_100 : decode cX10_apart 100 = .ok (.ireturn, 1) := dAX10_apart (100, (.ireturn, 1)) (List.mem_of_getElem? (i := 71) rfl)
set_option maxRecDepth 20000 in
theorem ggX10_apart_X10_good : GoodIn wsX10_apart wsX10_good := goodIn_r _ [6, 7, 8, 80, 81, 82, 83, 84, 85, 86, 87, 88, 89, 90, 91, 92, 93, 94, 95, 96, 97, 98, 99, 100, 101, 102, 103, 104, 105, 106, 107, 108, 109, 110, 111, 112, 113, 114] rfl (by decide +kernel)
set_option maxRecDepth 20000 in
theorem gX10_apart_X10_good : GoodIn wsX10_apart (wsV RX10 159 RX10 yX10_good wsX10_good) := goodIn_app (goodIn_of _ (by decide +kernel)) ggX10_apart_X10_good
set_option maxRecDepth 20000 in
theorem ggX10_apart_X10_isGuest : GoodIn wsX10_apart wsX10_isGuest := goodIn_r _ [12, 13, 1, 14, 15, 5, 16, 80, 81, 82, 83, 84, 85, 86, 87, 88, 89, 90, 91, 92, 93, 94, 95, 96, 97, 98, 99, 100, 101, 102, 103, 104, 105, 106, 107, 108, 109, 110, 111, 112, 113, 114] rfl (by decide +kernel)
set_option maxRecDepth 20000 in
theorem gX10_apart_X10_isGuest : GoodIn wsX10_apart (wsV RX10 300 RX10 yX10_isGuest wsX10_isGuest) := goodIn_app (goodIn_of _ (by decide +kernel)) ggX10_apart_X10_isGuest
set_option maxRecDepth 20000 in
theorem ggX10_apart_X10_no : GoodIn wsX10_apart wsX10_no := goodIn_r _ [20, 8, 80, 81, 82, 83, 84, 85, 86, 87, 88, 89, 90, 91, 92, 93, 94, 95, 96, 97, 98, 99, 100, 101, 102, 103, 104, 105, 106, 107, 108, 109, 110, 111, 112, 113, 114] rfl (by decide +kernel)
set_option maxRecDepth 20000 in
theorem gX10_apart_X10_no : GoodIn wsX10_apart (wsV RX10 162 RX10 yX10_no wsX10_no) := goodIn_app (goodIn_of _ (by decide +kernel)) ggX10_apart_X10_no
set_option maxRecDepth 20000 in
theorem ggX10_apart_X10_endsNow : GoodIn wsX10_apart wsX10_endsNow := goodIn_r _ [24, 25, 26, 27, 28, 5, 29, 30, 31, 32, 33, 34, 35, 36, 37, 38, 1, 39, 40, 41, 42, 43, 44, 45, 46, 47, 48, 49, 50, 51, 52, 53, 54, 55, 56, 57, 58, 59, 60, 61, 62, 63, 64, 65, 66, 67, 68, 69, 70, 71, 72, 73, 74, 75, 76, 77, 78, 79, 80, 81, 82, 83, 84, 85, 86, 87, 88, 89, 90, 91, 92, 93, 94, 95, 96, 97, 98, 99, 100, 101, 102, 103, 104, 105, 106, 107, 108, 109, 110, 111, 112, 113, 114] rfl (by decide +kernel)
set_option maxRecDepth 20000 in
theorem gX10_apart_X10_endsNow : GoodIn wsX10_apart (wsV RX10 309 RX10 yX10_endsNow wsX10_endsNow) := goodIn_app (goodIn_of _ (by decide +kernel)) ggX10_apart_X10_endsNow
theorem kX10_apart_20 : Cond.fieldLink RX10 20 "EveningVowModel" "\x72" "[I" ∈ wsX10_apart := List.mem_of_getElem? (i := 1) rfl
theorem iX10_apart_X10 : ∀ w ∈ u_ws RX10 TX10 35, w ∈ wsX10_apart := fun w h => (List.mem_cons_of_mem _ (List.mem_append_right _ h))
set_option maxHeartbeats 4000000 in
set_option maxRecDepth 100000 in
theorem mX10_apart (l : Launch) (g : GG) (a_t : Nat) (p_t : Nat → Nat) (n : Nat) (x1 : Int32) (o_t : Nat → Int32) (f_t_15 : Nat → Int32) (f_t_17 : Nat → Int32) (f_t_25 : Nat → Int32) (r : Int32) (o_t' : Nat → Int32) (f_t_15' : Nat → Int32) (f_t_25' : Nat → Int32) (hF : fX10_apart n x1 o_t f_t_15 f_t_17 f_t_25 = some (r, o_t', f_t_15', f_t_25')) : MI l g yX10_apart wsX10_apart ({ frames := 6, cells := 0, slots := 0, locals := 136 } : Room) [.ref a_t, .int x1] [oX10 a_t p_t o_t, aI g (p_t 15) 266 f_t_15, aI g (p_t 17) 17 f_t_17, aI g (p_t 25) 17 f_t_25] r [oX10 a_t p_t o_t', aI g (p_t 15) 266 f_t_15', aI g (p_t 17) 17 f_t_17, aI g (p_t 25) 17 f_t_25'] := by
  refine MI.of (cc := cX10_apart) (maxL := 5) (rt := .int) (own := RX10) rfl rfl (by decide) (Nat.le_of_ble_eq_true rfl) ?_
  intro p e s m args below meth c A C0 hP hD hS ls hl
  obtain ⟨hx, hb, hml, hown, hts, hr, hlk, hK, hA, hSW⟩ := id C0
  have hl : lv_has ls 5 [(0, .ref a_t), (1, .int x1)] := hl
  rw [fX10_apart] at hF
  refine lv_aload_n hx hb dX10_apart_0 rfl (lv_at hl 0 rfl) ?_
  obtain ⟨u_1, hu_2, hF⟩ := ob1_some hF
  refine call_v (wr := [aI g (p_t 15) 266 f_t_15, aI g (p_t 17) 17 f_t_17, aI g (p_t 25) 17 f_t_25]) (As := []) (rest := []) (ci := 10) (q0 := 0) C0 (mX10_good l g a_t p_t n o_t u_1 hu_2) (cwV 0 hts gX10_apart_X10_good rfl rfl rfl (by decide +kernel) ⟨Nat.le_of_ble_eq_true rfl, Nat.le_of_ble_eq_true rfl⟩) hP hD hS [0] [1, 2, 3] rfl rfl rfl rfl rfl (by decide) rfl rfl hl.1 rfl rfl (Nat.le_of_ble_eq_true rfl) ⟨Nat.zero_le _, Nat.zero_le _⟩ dX10_apart_1 ?_
  intro H locs hP hD hS
  refine lv_aload_n hx hb dX10_apart_4 rfl (lv_at hl 0 rfl) ?_
  refine lv_iload_n hx hb dX10_apart_5 rfl (lv_at hl 1 rfl) ?_
  obtain ⟨u_3, hu_4, hF⟩ := ob1_some hF
  refine call_i (wr := [aI g (p_t 17) 17 f_t_17, aI g (p_t 25) 17 f_t_25]) (As := [.int x1]) (rest := []) (ci := 10) (q0 := 0) C0 (mX10_isGuest l g a_t p_t n x1 u_1 f_t_15 u_3 hu_4) (cwV 1 hts gX10_apart_X10_isGuest rfl rfl rfl (by decide +kernel) ⟨Nat.le_of_ble_eq_true rfl, Nat.le_of_ble_eq_true rfl⟩) hP hD hS [3, 0] [1, 2] rfl rfl rfl rfl rfl (by decide) rfl rfl hl.1 rfl rfl (Nat.le_of_ble_eq_true rfl) ⟨Nat.zero_le _, Nat.zero_le _⟩ dX10_apart_6 ?_
  intro H locs hP hD hS
  refine lv_if_ne (tgt := 18) hx hb dX10_apart_9 (by decide) (fun c_5 => ?_) (fun c_5 => ?_)
  · have hF := it_n c_5 hF
    refine lv_bipush (v := (9 : Int32)) hx hb dX10_apart_18 (by decide) ?_
    refine lv_iconst (v := (4 : Int32)) hx hb dX10_apart_20 (by decide) ?_
    refine lv_iload_n hx hb dX10_apart_21 rfl (lv_at hl 1 rfl) ?_
    refine lv_imul hx hb dX10_apart_22 ?_
    refine lv_iadd hx hb dX10_apart_23 ?_
    refine lv_iconst (v := (3 : Int32)) hx hb dX10_apart_24 (by decide) ?_
    refine lv_iadd hx hb dX10_apart_25 ?_
    refine lv_istore_n (lv' := [(2, .int (((9 : Int32) + ((4 : Int32) * x1)) + (3 : Int32))), (0, .ref a_t), (1, .int x1)]) hx hb dX10_apart_26 rfl hl (by decide) rfl (fun ls hl => ?_)
    refine lv_aload_n hx hb dX10_apart_27 rfl (lv_at hl 1 rfl) ?_
    refine va_get (D := g.1) (ci := 10) (v := .ref (p_t 15)) (C := RX10) (T := TX10) (N := 35) hx hb hts iX10_apart_X10 hown hK.1 hP 2 rfl rfl 15 (by decide) (hts _ kX10_apart_20) (fun _ h9 => h9) rfl dX10_apart_28 ?_
    refine lv_iload_n hx hb dX10_apart_31 rfl (lv_at hl 0 rfl) ?_
    obtain ⟨h_6, hF⟩ := it_ck hF
    refine va_iald hx hb hK.1 hP 3 0 rfl rfl h_6 dX10_apart_32 ?_
    refine lv_istore_n (lv' := [(3, .int (f_t_15 ((((9 : Int32) + ((4 : Int32) * x1)) + (3 : Int32))).toNatClampNeg)), (2, .int (((9 : Int32) + ((4 : Int32) * x1)) + (3 : Int32))), (0, .ref a_t), (1, .int x1)]) hx hb dX10_apart_33 rfl hl (by decide) rfl (fun ls hl => ?_)
    refine lv_iload_n hx hb dX10_apart_34 rfl (lv_at hl 0 rfl) ?_
    refine lv_if_ne (tgt := 44) hx hb dX10_apart_35 (by decide) (fun c_7 => ?_) (fun c_7 => ?_)
    · have hF := it_n c_7 hF
      refine lv_aload_n hx hb dX10_apart_44 rfl (lv_at hl 2 rfl) ?_
      refine va_get (D := g.1) (ci := 10) (v := .ref (p_t 15)) (C := RX10) (T := TX10) (N := 35) hx hb hts iX10_apart_X10 hown hK.1 hP 2 rfl rfl 15 (by decide) (hts _ kX10_apart_20) (fun _ h9 => h9) rfl dX10_apart_45 ?_
      refine lv_iload_n hx hb dX10_apart_48 rfl (lv_at hl 1 rfl) ?_
      refine lv_iconst (v := (0 : Int32)) hx hb dX10_apart_49 (by decide) ?_
      obtain ⟨h_8, hF⟩ := it_ck hF
      refine va_iast hx hb hK.1 hP hD hS 3 0 rfl rfl h_8 dX10_apart_50 (fun H locs hP hD hS => ?_)
      have hP : va_P g.1 vwCl [aI g (p_t 17) 17 f_t_17, aI g (p_t 25) 17 f_t_25, oX10 a_t p_t u_1, aI g (p_t 15) 266 (upd f_t_15 ((((9 : Int32) + ((4 : Int32) * x1)) + (3 : Int32))).toNatClampNeg (0 : Int32))] H := hP
      have hD : va_D A [aI g (p_t 17) 17 f_t_17, aI g (p_t 25) 17 f_t_25, oX10 a_t p_t u_1, aI g (p_t 15) 266 (upd f_t_15 ((((9 : Int32) + ((4 : Int32) * x1)) + (3 : Int32))).toNatClampNeg (0 : Int32))] := hD
      refine lv_aload_n hx hb dX10_apart_51 rfl (lv_at hl 2 rfl) ?_
      refine va_get (D := g.1) (ci := 10) (v := .ref (p_t 15)) (C := RX10) (T := TX10) (N := 35) hx hb hts iX10_apart_X10 hown hK.1 hP 2 rfl rfl 15 (by decide) (hts _ kX10_apart_20) (fun _ h9 => h9) rfl dX10_apart_52 ?_
      refine lv_bipush (v := (9 : Int32)) hx hb dX10_apart_55 (by decide) ?_
      refine lv_iconst (v := (4 : Int32)) hx hb dX10_apart_57 (by decide) ?_
      refine lv_iload_n hx hb dX10_apart_58 rfl (lv_at hl 0 rfl) ?_
      refine lv_iconst (v := (1 : Int32)) hx hb dX10_apart_59 (by decide) ?_
      refine lv_isub hx hb dX10_apart_60 ?_
      refine lv_imul hx hb dX10_apart_61 ?_
      refine lv_iadd hx hb dX10_apart_62 ?_
      refine lv_iconst (v := (3 : Int32)) hx hb dX10_apart_63 (by decide) ?_
      refine lv_iadd hx hb dX10_apart_64 ?_
      refine lv_iconst (v := (0 : Int32)) hx hb dX10_apart_65 (by decide) ?_
      obtain ⟨h_9, hF⟩ := it_ck hF
      refine va_iast hx hb hK.1 hP hD hS 3 0 rfl rfl h_9 dX10_apart_66 (fun H locs hP hD hS => ?_)
      have hP : va_P g.1 vwCl [aI g (p_t 17) 17 f_t_17, aI g (p_t 25) 17 f_t_25, oX10 a_t p_t u_1, aI g (p_t 15) 266 (upd (upd f_t_15 ((((9 : Int32) + ((4 : Int32) * x1)) + (3 : Int32))).toNatClampNeg (0 : Int32)) ((((9 : Int32) + ((4 : Int32) * ((f_t_15 ((((9 : Int32) + ((4 : Int32) * x1)) + (3 : Int32))).toNatClampNeg) - (1 : Int32)))) + (3 : Int32))).toNatClampNeg (0 : Int32))] H := hP
      have hD : va_D A [aI g (p_t 17) 17 f_t_17, aI g (p_t 25) 17 f_t_25, oX10 a_t p_t u_1, aI g (p_t 15) 266 (upd (upd f_t_15 ((((9 : Int32) + ((4 : Int32) * x1)) + (3 : Int32))).toNatClampNeg (0 : Int32)) ((((9 : Int32) + ((4 : Int32) * ((f_t_15 ((((9 : Int32) + ((4 : Int32) * x1)) + (3 : Int32))).toNatClampNeg) - (1 : Int32)))) + (3 : Int32))).toNatClampNeg (0 : Int32))] := hD
      refine lv_aload_n hx hb dX10_apart_67 rfl (lv_at hl 2 rfl) ?_
      obtain ⟨u_10, u_11, u_12, hu_13, hF⟩ := ob3_some hF
      refine call_i (wr := []) (As := []) (rest := []) (ci := 10) (q0 := 0) C0 (mX10_endsNow l g a_t p_t n u_1 (upd (upd f_t_15 ((((9 : Int32) + ((4 : Int32) * x1)) + (3 : Int32))).toNatClampNeg (0 : Int32)) ((((9 : Int32) + ((4 : Int32) * ((f_t_15 ((((9 : Int32) + ((4 : Int32) * x1)) + (3 : Int32))).toNatClampNeg) - (1 : Int32)))) + (3 : Int32))).toNatClampNeg (0 : Int32)) f_t_17 f_t_25 u_10 u_11 u_12 hu_13) (cwV 0 hts gX10_apart_X10_endsNow rfl rfl rfl (by decide +kernel) ⟨Nat.le_of_ble_eq_true rfl, Nat.le_of_ble_eq_true rfl⟩) hP hD hS [2, 3, 0, 1] [] rfl rfl rfl rfl rfl (by decide) rfl rfl hl.1 rfl rfl (Nat.le_of_ble_eq_true rfl) ⟨Nat.zero_le _, Nat.zero_le _⟩ dX10_apart_68 ?_
      intro H locs hP hD hS
      refine lv_istore (lv' := [(4, .int u_10), (3, .int (f_t_15 ((((9 : Int32) + ((4 : Int32) * x1)) + (3 : Int32))).toNatClampNeg)), (2, .int (((9 : Int32) + ((4 : Int32) * x1)) + (3 : Int32))), (0, .ref a_t), (1, .int x1)]) hx hb dX10_apart_71 hl (by decide) rfl (fun ls hl => ?_)
      refine lv_aload_n hx hb dX10_apart_73 rfl (lv_at hl 3 rfl) ?_
      refine va_get (D := g.1) (ci := 10) (v := .ref (p_t 15)) (C := RX10) (T := TX10) (N := 35) hx hb hts iX10_apart_X10 hown hK.1 hP 0 rfl rfl 15 (by decide) (hts _ kX10_apart_20) (fun _ h9 => h9) rfl dX10_apart_74 ?_
      refine lv_iload_n hx hb dX10_apart_77 rfl (lv_at hl 2 rfl) ?_
      refine lv_iload_n hx hb dX10_apart_78 rfl (lv_at hl 1 rfl) ?_
      obtain ⟨h_14, hF⟩ := it_ck hF
      refine va_iast hx hb hK.1 hP hD hS 1 0 rfl rfl h_14 dX10_apart_79 (fun H locs hP hD hS => ?_)
      have hP : va_P g.1 vwCl [oX10 a_t p_t u_11, aI g (p_t 15) 266 (upd (upd (upd f_t_15 ((((9 : Int32) + ((4 : Int32) * x1)) + (3 : Int32))).toNatClampNeg (0 : Int32)) ((((9 : Int32) + ((4 : Int32) * ((f_t_15 ((((9 : Int32) + ((4 : Int32) * x1)) + (3 : Int32))).toNatClampNeg) - (1 : Int32)))) + (3 : Int32))).toNatClampNeg (0 : Int32)) ((((9 : Int32) + ((4 : Int32) * x1)) + (3 : Int32))).toNatClampNeg (f_t_15 ((((9 : Int32) + ((4 : Int32) * x1)) + (3 : Int32))).toNatClampNeg)), aI g (p_t 17) 17 f_t_17, aI g (p_t 25) 17 u_12] H := hP
      have hD : va_D A [oX10 a_t p_t u_11, aI g (p_t 15) 266 (upd (upd (upd f_t_15 ((((9 : Int32) + ((4 : Int32) * x1)) + (3 : Int32))).toNatClampNeg (0 : Int32)) ((((9 : Int32) + ((4 : Int32) * ((f_t_15 ((((9 : Int32) + ((4 : Int32) * x1)) + (3 : Int32))).toNatClampNeg) - (1 : Int32)))) + (3 : Int32))).toNatClampNeg (0 : Int32)) ((((9 : Int32) + ((4 : Int32) * x1)) + (3 : Int32))).toNatClampNeg (f_t_15 ((((9 : Int32) + ((4 : Int32) * x1)) + (3 : Int32))).toNatClampNeg)), aI g (p_t 17) 17 f_t_17, aI g (p_t 25) 17 u_12] := hD
      refine lv_aload_n hx hb dX10_apart_80 rfl (lv_at hl 3 rfl) ?_
      refine va_get (D := g.1) (ci := 10) (v := .ref (p_t 15)) (C := RX10) (T := TX10) (N := 35) hx hb hts iX10_apart_X10 hown hK.1 hP 0 rfl rfl 15 (by decide) (hts _ kX10_apart_20) (fun _ h9 => h9) rfl dX10_apart_81 ?_
      refine lv_bipush (v := (9 : Int32)) hx hb dX10_apart_84 (by decide) ?_
      refine lv_iconst (v := (4 : Int32)) hx hb dX10_apart_86 (by decide) ?_
      refine lv_iload_n hx hb dX10_apart_87 rfl (lv_at hl 1 rfl) ?_
      refine lv_iconst (v := (1 : Int32)) hx hb dX10_apart_88 (by decide) ?_
      refine lv_isub hx hb dX10_apart_89 ?_
      refine lv_imul hx hb dX10_apart_90 ?_
      refine lv_iadd hx hb dX10_apart_91 ?_
      refine lv_iconst (v := (3 : Int32)) hx hb dX10_apart_92 (by decide) ?_
      refine lv_iadd hx hb dX10_apart_93 ?_
      refine lv_iload_n hx hb dX10_apart_94 rfl (lv_at hl 4 rfl) ?_
      refine lv_iconst (v := (1 : Int32)) hx hb dX10_apart_95 (by decide) ?_
      refine lv_iadd hx hb dX10_apart_96 ?_
      obtain ⟨h_15, hF⟩ := it_ck hF
      refine va_iast hx hb hK.1 hP hD hS 1 0 rfl rfl h_15 dX10_apart_97 (fun H locs hP hD hS => ?_)
      have hP : va_P g.1 vwCl [oX10 a_t p_t u_11, aI g (p_t 15) 266 (upd (upd (upd (upd f_t_15 ((((9 : Int32) + ((4 : Int32) * x1)) + (3 : Int32))).toNatClampNeg (0 : Int32)) ((((9 : Int32) + ((4 : Int32) * ((f_t_15 ((((9 : Int32) + ((4 : Int32) * x1)) + (3 : Int32))).toNatClampNeg) - (1 : Int32)))) + (3 : Int32))).toNatClampNeg (0 : Int32)) ((((9 : Int32) + ((4 : Int32) * x1)) + (3 : Int32))).toNatClampNeg (f_t_15 ((((9 : Int32) + ((4 : Int32) * x1)) + (3 : Int32))).toNatClampNeg)) ((((9 : Int32) + ((4 : Int32) * ((f_t_15 ((((9 : Int32) + ((4 : Int32) * x1)) + (3 : Int32))).toNatClampNeg) - (1 : Int32)))) + (3 : Int32))).toNatClampNeg (x1 + (1 : Int32))), aI g (p_t 17) 17 f_t_17, aI g (p_t 25) 17 u_12] H := hP
      have hD : va_D A [oX10 a_t p_t u_11, aI g (p_t 15) 266 (upd (upd (upd (upd f_t_15 ((((9 : Int32) + ((4 : Int32) * x1)) + (3 : Int32))).toNatClampNeg (0 : Int32)) ((((9 : Int32) + ((4 : Int32) * ((f_t_15 ((((9 : Int32) + ((4 : Int32) * x1)) + (3 : Int32))).toNatClampNeg) - (1 : Int32)))) + (3 : Int32))).toNatClampNeg (0 : Int32)) ((((9 : Int32) + ((4 : Int32) * x1)) + (3 : Int32))).toNatClampNeg (f_t_15 ((((9 : Int32) + ((4 : Int32) * x1)) + (3 : Int32))).toNatClampNeg)) ((((9 : Int32) + ((4 : Int32) * ((f_t_15 ((((9 : Int32) + ((4 : Int32) * x1)) + (3 : Int32))).toNatClampNeg) - (1 : Int32)))) + (3 : Int32))).toNatClampNeg (x1 + (1 : Int32))), aI g (p_t 17) 17 f_t_17, aI g (p_t 25) 17 u_12] := hD
      refine lv_iload hx hb dX10_apart_98 (lv_at hl 0 rfl) ?_
      cases hF
      exact ret_i C0 hP hD hS [0, 1, 2, 3] rfl rfl rfl dX10_apart_100 rfl
    · have hF := it_p c_7 hF
      refine lv_aload_n hx hb dX10_apart_38 rfl (lv_at hl 2 rfl) ?_
      refine lv_iconst (v := (5 : Int32)) hx hb dX10_apart_39 (by decide) ?_
      obtain ⟨u_16, u_17, hu_18, hF⟩ := ob2_some hF
      refine call_i (wr := [aI g (p_t 17) 17 f_t_17, aI g (p_t 25) 17 f_t_25, aI g (p_t 15) 266 f_t_15]) (As := [.int (5 : Int32)]) (rest := []) (ci := 10) (q0 := 0) C0 (mX10_no l g a_t p_t n (5 : Int32) u_1 u_16 u_17 hu_18) (cwV 1 hts gX10_apart_X10_no rfl rfl rfl (by decide +kernel) ⟨Nat.le_of_ble_eq_true rfl, Nat.le_of_ble_eq_true rfl⟩) hP hD hS [2] [0, 1, 3] rfl rfl rfl rfl rfl (by decide) rfl rfl hl.1 rfl rfl (Nat.le_of_ble_eq_true rfl) ⟨Nat.zero_le _, Nat.zero_le _⟩ dX10_apart_40 ?_
      intro H locs hP hD hS
      cases hF
      exact ret_i C0 hP hD hS [3, 2, 0, 1] rfl rfl rfl dX10_apart_43 rfl
  · have hF := it_p c_5 hF
    refine lv_aload_n hx hb dX10_apart_12 rfl (lv_at hl 0 rfl) ?_
    refine lv_iconst (v := (1 : Int32)) hx hb dX10_apart_13 (by decide) ?_
    obtain ⟨u_19, u_20, hu_21, hF⟩ := ob2_some hF
    refine call_i (wr := [aI g (p_t 17) 17 f_t_17, aI g (p_t 25) 17 f_t_25, aI g (p_t 15) 266 f_t_15]) (As := [.int (1 : Int32)]) (rest := []) (ci := 10) (q0 := 0) C0 (mX10_no l g a_t p_t n (1 : Int32) u_1 u_19 u_20 hu_21) (cwV 1 hts gX10_apart_X10_no rfl rfl rfl (by decide +kernel) ⟨Nat.le_of_ble_eq_true rfl, Nat.le_of_ble_eq_true rfl⟩) hP hD hS [2] [0, 1, 3] rfl rfl rfl rfl rfl (by decide) rfl rfl hl.1 rfl rfl (Nat.le_of_ble_eq_true rfl) ⟨Nat.zero_le _, Nat.zero_le _⟩ dX10_apart_14 ?_
    intro H locs hP hD hS
    cases hF
    exact ret_i C0 hP hD hS [3, 2, 0, 1] rfl rfl rfl dX10_apart_17 rfl

theorem dAX10_rounds : ∀ q ∈ ([(0, (.aload_n 0, 1)), (1, (.invokevirtual 159, 3)), (4, (.aload_n 0, 1)), (5, (.getfield 176, 3)), (8, (.ifCond .ne 9, 3)), (11, (.aload_n 0, 1)), (12, (.iconst 1, 1)), (13, (.invokevirtual 162, 3)), (16, (.ireturn, 1)), (17, (.aload_n 0, 1)), (18, (.getfield 26, 3)), (21, (.iconst 0, 1)), (22, (.aload_n 0, 1)), (23, (.getfield 35, 3)), (26, (.iconst 0, 1)), (27, (.bipush 17, 2)), (29, (.invokestatic 168, 3)), (32, (.aload_n 0, 1)), (33, (.aload_n 0, 1)), (34, (.getfield 35, 3)), (37, (.invokevirtual 293, 3)), (40, (.pop, 1)), (41, (.aload_n 0, 1)), (42, (.getfield 256, 3)), (45, (.ireturn, 1))] : List (Nat × (Instr × Nat))), decode cX10_rounds q.1 = .ok q.2 := by decide +kernel
theorem dX10_rounds_0 : decode cX10_rounds 0 = .ok (.aload_n 0, 1) := dAX10_rounds (0, (.aload_n 0, 1)) (List.mem_of_getElem? (i := 0) rfl)
theorem dX10_rounds_1 : decode cX10_rounds 1 = .ok (.invokevirtual 159, 3) := dAX10_rounds (1, (.invokevirtual 159, 3)) (List.mem_of_getElem? (i := 1) rfl)
theorem dX10_rounds_4 : decode cX10_rounds 4 = .ok (.aload_n 0, 1) := dAX10_rounds (4, (.aload_n 0, 1)) (List.mem_of_getElem? (i := 2) rfl)
theorem dX10_rounds_5 : decode cX10_rounds 5 = .ok (.getfield 176, 3) := dAX10_rounds (5, (.getfield 176, 3)) (List.mem_of_getElem? (i := 3) rfl)
theorem dX10_rounds_8 : decode cX10_rounds 8 = .ok (.ifCond .ne 9, 3) := dAX10_rounds (8, (.ifCond .ne 9, 3)) (List.mem_of_getElem? (i := 4) rfl)
theorem dX10_rounds_11 : decode cX10_rounds 11 = .ok (.aload_n 0, 1) := dAX10_rounds (11, (.aload_n 0, 1)) (List.mem_of_getElem? (i := 5) rfl)
theorem dX10_rounds_12 : decode cX10_rounds 12 = .ok (.iconst 1, 1) := dAX10_rounds (12, (.iconst 1, 1)) (List.mem_of_getElem? (i := 6) rfl)
theorem dX10_rounds_13 : decode cX10_rounds 13 = .ok (.invokevirtual 162, 3) := dAX10_rounds (13, (.invokevirtual 162, 3)) (List.mem_of_getElem? (i := 7) rfl)
theorem dX10_rounds_16 : decode cX10_rounds 16 = .ok (.ireturn, 1) := dAX10_rounds (16, (.ireturn, 1)) (List.mem_of_getElem? (i := 8) rfl)
theorem dX10_rounds_17 : decode cX10_rounds 17 = .ok (.aload_n 0, 1) := dAX10_rounds (17, (.aload_n 0, 1)) (List.mem_of_getElem? (i := 9) rfl)
theorem dX10_rounds_18 : decode cX10_rounds 18 = .ok (.getfield 26, 3) := dAX10_rounds (18, (.getfield 26, 3)) (List.mem_of_getElem? (i := 10) rfl)
theorem dX10_rounds_21 : decode cX10_rounds 21 = .ok (.iconst 0, 1) := dAX10_rounds (21, (.iconst 0, 1)) (List.mem_of_getElem? (i := 11) rfl)
theorem dX10_rounds_22 : decode cX10_rounds 22 = .ok (.aload_n 0, 1) := dAX10_rounds (22, (.aload_n 0, 1)) (List.mem_of_getElem? (i := 12) rfl)
theorem dX10_rounds_23 : decode cX10_rounds 23 = .ok (.getfield 35, 3) := dAX10_rounds (23, (.getfield 35, 3)) (List.mem_of_getElem? (i := 13) rfl)
theorem dX10_rounds_26 : decode cX10_rounds 26 = .ok (.iconst 0, 1) := dAX10_rounds (26, (.iconst 0, 1)) (List.mem_of_getElem? (i := 14) rfl)
theorem dX10_rounds_27 : decode cX10_rounds 27 = .ok (.bipush 17, 2) := dAX10_rounds (27, (.bipush 17, 2)) (List.mem_of_getElem? (i := 15) rfl)
theorem dX10_rounds_29 : decode cX10_rounds 29 = .ok (.invokestatic 168, 3) := dAX10_rounds (29, (.invokestatic 168, 3)) (List.mem_of_getElem? (i := 16) rfl)
theorem dX10_rounds_32 : decode cX10_rounds 32 = .ok (.aload_n 0, 1) := dAX10_rounds (32, (.aload_n 0, 1)) (List.mem_of_getElem? (i := 17) rfl)
theorem dX10_rounds_33 : decode cX10_rounds 33 = .ok (.aload_n 0, 1) := dAX10_rounds (33, (.aload_n 0, 1)) (List.mem_of_getElem? (i := 18) rfl)
theorem dX10_rounds_34 : decode cX10_rounds 34 = .ok (.getfield 35, 3) := dAX10_rounds (34, (.getfield 35, 3)) (List.mem_of_getElem? (i := 19) rfl)
theorem dX10_rounds_37 : decode cX10_rounds 37 = .ok (.invokevirtual 293, 3) := dAX10_rounds (37, (.invokevirtual 293, 3)) (List.mem_of_getElem? (i := 20) rfl)
theorem dX10_rounds_40 : decode cX10_rounds 40 = .ok (.pop, 1) := dAX10_rounds (40, (.pop, 1)) (List.mem_of_getElem? (i := 21) rfl)
theorem dX10_rounds_41 : decode cX10_rounds 41 = .ok (.aload_n 0, 1) := dAX10_rounds (41, (.aload_n 0, 1)) (List.mem_of_getElem? (i := 22) rfl)
theorem dX10_rounds_42 : decode cX10_rounds 42 = .ok (.getfield 256, 3) := dAX10_rounds (42, (.getfield 256, 3)) (List.mem_of_getElem? (i := 23) rfl)
theorem dX10_rounds_45 : decode cX10_rounds 45 = .ok (.ireturn, 1) := dAX10_rounds (45, (.ireturn, 1)) (List.mem_of_getElem? (i := 24) rfl)
set_option maxRecDepth 20000 in
theorem ggX10_rounds_X10_good : GoodIn wsX10_rounds wsX10_good := goodIn_r _ [9, 10, 11, 58, 59, 60, 61, 62, 63, 64, 65, 66, 67, 68, 69, 70, 71, 72, 73, 74, 75, 76, 77, 78, 79, 80, 81, 82, 83, 84, 85, 86, 87, 88, 89, 90, 91, 92] rfl (by decide +kernel)
set_option maxRecDepth 20000 in
theorem gX10_rounds_X10_good : GoodIn wsX10_rounds (wsV RX10 159 RX10 yX10_good wsX10_good) := goodIn_app (goodIn_of _ (by decide +kernel)) ggX10_rounds_X10_good
set_option maxRecDepth 20000 in
theorem ggX10_rounds_X10_no : GoodIn wsX10_rounds wsX10_no := goodIn_r _ [15, 11, 58, 59, 60, 61, 62, 63, 64, 65, 66, 67, 68, 69, 70, 71, 72, 73, 74, 75, 76, 77, 78, 79, 80, 81, 82, 83, 84, 85, 86, 87, 88, 89, 90, 91, 92] rfl (by decide +kernel)
set_option maxRecDepth 20000 in
theorem gX10_rounds_X10_no : GoodIn wsX10_rounds (wsV RX10 162 RX10 yX10_no wsX10_no) := goodIn_app (goodIn_of _ (by decide +kernel)) ggX10_rounds_X10_no
set_option maxRecDepth 20000 in
theorem ggX10_rounds_X10_copy : GoodIn wsX10_rounds wsX10_copy := goodIn_r _ [18] rfl (by decide +kernel)
set_option maxRecDepth 20000 in
theorem gX10_rounds_X10_copy : GoodIn wsX10_rounds (va_wsS RX10 168 yX10_copy wsX10_copy) := goodIn_app (goodIn_of _ (by decide +kernel)) ggX10_rounds_X10_copy
set_option maxRecDepth 20000 in
theorem ggX10_rounds_X10_hourOf : GoodIn wsX10_rounds wsX10_hourOf := goodIn_r _ [22, 23, 24, 25, 26, 8, 27, 28, 29, 30, 31, 32, 33, 34, 35, 36, 37, 38, 39, 40, 41, 42, 4, 43, 44, 45, 46, 47, 48, 49, 50, 51, 52, 53, 54, 55, 56, 57, 58, 59, 60, 61, 62, 63, 64, 65, 66, 67, 68, 69, 70, 71, 72, 73, 74, 75, 76, 77, 78, 79, 80, 81, 82, 83, 84, 85, 86, 87, 88, 89, 90, 91, 92] rfl (by decide +kernel)
set_option maxRecDepth 20000 in
theorem gX10_rounds_X10_hourOf : GoodIn wsX10_rounds (wsV RX10 293 RX10 yX10_hourOf wsX10_hourOf) := goodIn_app (goodIn_of _ (by decide +kernel)) ggX10_rounds_X10_hourOf
theorem kX10_rounds_176 : Cond.fieldLink RX10 176 "EveningVowModel" "hasEvening" "Z" ∈ wsX10_rounds := List.mem_of_getElem? (i := 1) rfl
theorem iX10_rounds_X10 : ∀ w ∈ u_ws RX10 TX10 35, w ∈ wsX10_rounds := fun w h => (List.mem_cons_of_mem _ (List.mem_append_right _ h))
theorem kX10_rounds_26 : Cond.fieldLink RX10 26 "EveningVowModel" "st" "[I" ∈ wsX10_rounds := List.mem_of_getElem? (i := 2) rfl
theorem kX10_rounds_35 : Cond.fieldLink RX10 35 "EveningVowModel" "trial" "[I" ∈ wsX10_rounds := List.mem_of_getElem? (i := 3) rfl
theorem kX10_rounds_256 : Cond.fieldLink RX10 256 "EveningVowModel" "roundMany" "I" ∈ wsX10_rounds := List.mem_of_getElem? (i := 4) rfl
set_option maxHeartbeats 4000000 in
set_option maxRecDepth 100000 in
theorem mX10_rounds (l : Launch) (g : GG) (a_t : Nat) (p_t : Nat → Nat) (n : Nat) (o_t : Nat → Int32) (f_t_15 : Nat → Int32) (f_t_17 : Nat → Int32) (f_t_25 : Nat → Int32) (r : Int32) (o_t' : Nat → Int32) (f_t_25' : Nat → Int32) (hF : fX10_rounds n o_t f_t_15 f_t_17 f_t_25 = some (r, o_t', f_t_25')) : MI l g yX10_rounds wsX10_rounds ({ frames := 4, cells := 0, slots := 0, locals := 93 } : Room) [.ref a_t] [oX10 a_t p_t o_t, aI g (p_t 15) 266 f_t_15, aI g (p_t 17) 17 f_t_17, aI g (p_t 25) 17 f_t_25] r [oX10 a_t p_t o_t', aI g (p_t 15) 266 f_t_15, aI g (p_t 17) 17 f_t_17, aI g (p_t 25) 17 f_t_25'] := by
  refine MI.of (cc := cX10_rounds) (maxL := 1) (rt := .int) (own := RX10) rfl rfl (by decide) (Nat.le_of_ble_eq_true rfl) ?_
  intro p e s m args below meth c A C0 hP hD hS ls hl
  obtain ⟨hx, hb, hml, hown, hts, hr, hlk, hK, hA, hSW⟩ := id C0
  have hl : lv_has ls 1 [(0, .ref a_t)] := hl
  rw [fX10_rounds] at hF
  refine lv_aload_n hx hb dX10_rounds_0 rfl (lv_at hl 0 rfl) ?_
  obtain ⟨u_1, hu_2, hF⟩ := ob1_some hF
  refine call_v (wr := [aI g (p_t 15) 266 f_t_15, aI g (p_t 17) 17 f_t_17, aI g (p_t 25) 17 f_t_25]) (As := []) (rest := []) (ci := 10) (q0 := 0) C0 (mX10_good l g a_t p_t n o_t u_1 hu_2) (cwV 0 hts gX10_rounds_X10_good rfl rfl rfl (by decide +kernel) ⟨Nat.le_of_ble_eq_true rfl, Nat.le_of_ble_eq_true rfl⟩) hP hD hS [0] [1, 2, 3] rfl rfl rfl rfl rfl (by decide) rfl rfl hl.1 rfl rfl (Nat.le_of_ble_eq_true rfl) ⟨Nat.zero_le _, Nat.zero_le _⟩ dX10_rounds_1 ?_
  intro H locs hP hD hS
  refine lv_aload_n hx hb dX10_rounds_4 rfl (lv_at hl 0 rfl) ?_
  refine va_get (D := g.1) (ci := 10) (v := .int (u_1 14)) (C := RX10) (T := TX10) (N := 35) hx hb hts iX10_rounds_X10 hown hK.1 hP 3 rfl rfl 14 (by decide) (hts _ kX10_rounds_176) (fun _ h9 => h9) rfl dX10_rounds_5 ?_
  refine lv_if_ne (tgt := 17) hx hb dX10_rounds_8 (by decide) (fun c_3 => ?_) (fun c_3 => ?_)
  · have hF := it_n c_3 hF
    refine lv_aload_n hx hb dX10_rounds_17 rfl (lv_at hl 0 rfl) ?_
    refine va_get (D := g.1) (ci := 10) (v := .ref (p_t 17)) (C := RX10) (T := TX10) (N := 35) hx hb hts iX10_rounds_X10 hown hK.1 hP 3 rfl rfl 17 (by decide) (hts _ kX10_rounds_26) (fun _ h9 => h9) rfl dX10_rounds_18 ?_
    refine lv_iconst (v := (0 : Int32)) hx hb dX10_rounds_21 (by decide) ?_
    refine lv_aload_n hx hb dX10_rounds_22 rfl (lv_at hl 0 rfl) ?_
    refine va_get (D := g.1) (ci := 10) (v := .ref (p_t 25)) (C := RX10) (T := TX10) (N := 35) hx hb hts iX10_rounds_X10 hown hK.1 hP 3 rfl rfl 25 (by decide) (hts _ kX10_rounds_35) (fun _ h9 => h9) rfl dX10_rounds_23 ?_
    refine lv_iconst (v := (0 : Int32)) hx hb dX10_rounds_26 (by decide) ?_
    refine lv_bipush (v := (17 : Int32)) hx hb dX10_rounds_27 (by decide) ?_
    obtain ⟨u_4, hu_5, hF⟩ := ob1_some hF
    refine call_sv (wr := [aI g (p_t 15) 266 f_t_15, oX10 a_t p_t u_1]) (As := [.ref (p_t 17), .int (0 : Int32), .ref (p_t 25), .int (0 : Int32), .int (17 : Int32)]) (rest := []) C0 (mX10_copy l g (p_t 17) (p_t 25) n (0 : Int32) (0 : Int32) (17 : Int32) 17 17 f_t_17 f_t_25 u_4 hu_5) (va_cwS 5 hts gX10_rounds_X10_copy rfl rfl rfl (by decide +kernel) ⟨Nat.le_of_ble_eq_true rfl, Nat.le_of_ble_eq_true rfl⟩) hP hD hS [1, 2] [0, 3] rfl rfl rfl rfl rfl (by decide) hl.1 rfl rfl (Nat.le_of_ble_eq_true rfl) ⟨Nat.zero_le _, Nat.zero_le _⟩ dX10_rounds_29 ?_
    intro H locs hP hD hS
    refine lv_aload_n hx hb dX10_rounds_32 rfl (lv_at hl 0 rfl) ?_
    refine lv_aload_n hx hb dX10_rounds_33 rfl (lv_at hl 0 rfl) ?_
    refine va_get (D := g.1) (ci := 10) (v := .ref (p_t 25)) (C := RX10) (T := TX10) (N := 35) hx hb hts iX10_rounds_X10 hown hK.1 hP 1 rfl rfl 25 (by decide) (hts _ kX10_rounds_35) (fun _ h9 => h9) rfl dX10_rounds_34 ?_
    obtain ⟨u_6, u_7, u_8, hu_9, hF⟩ := ob3_some hF
    refine call_i (wr := [aI g (p_t 17) 17 f_t_17]) (As := [.ref (p_t 25)]) (rest := []) (ci := 10) (q0 := 0) C0 (mX10_hourOf l g a_t (p_t 25) p_t n u_1 f_t_15 u_4 u_6 u_7 u_8 hu_9) (cwV 1 hts gX10_rounds_X10_hourOf rfl rfl rfl (by decide +kernel) ⟨Nat.le_of_ble_eq_true rfl, Nat.le_of_ble_eq_true rfl⟩) hP hD hS [1, 0, 3] [2] rfl rfl rfl rfl rfl (by decide) rfl rfl hl.1 rfl rfl (Nat.le_of_ble_eq_true rfl) ⟨Nat.zero_le _, Nat.zero_le _⟩ dX10_rounds_37 ?_
    intro H locs hP hD hS
    refine lv_pop hx hb dX10_rounds_40 rfl ?_
    refine lv_aload_n hx hb dX10_rounds_41 rfl (lv_at hl 0 rfl) ?_
    refine va_get (D := g.1) (ci := 10) (v := .int (u_7 22)) (C := RX10) (T := TX10) (N := 35) hx hb hts iX10_rounds_X10 hown hK.1 hP 1 rfl rfl 22 (by decide) (hts _ kX10_rounds_256) (fun _ h9 => h9) rfl dX10_rounds_42 ?_
    cases hF
    exact ret_i C0 hP hD hS [1, 2, 0, 3] rfl rfl rfl dX10_rounds_45 rfl
  · have hF := it_p c_3 hF
    refine lv_aload_n hx hb dX10_rounds_11 rfl (lv_at hl 0 rfl) ?_
    refine lv_iconst (v := (1 : Int32)) hx hb dX10_rounds_12 (by decide) ?_
    obtain ⟨u_10, u_11, hu_12, hF⟩ := ob2_some hF
    refine call_i (wr := [aI g (p_t 15) 266 f_t_15, aI g (p_t 17) 17 f_t_17, aI g (p_t 25) 17 f_t_25]) (As := [.int (1 : Int32)]) (rest := []) (ci := 10) (q0 := 0) C0 (mX10_no l g a_t p_t n (1 : Int32) u_1 u_10 u_11 hu_12) (cwV 1 hts gX10_rounds_X10_no rfl rfl rfl (by decide +kernel) ⟨Nat.le_of_ble_eq_true rfl, Nat.le_of_ble_eq_true rfl⟩) hP hD hS [3] [0, 1, 2] rfl rfl rfl rfl rfl (by decide) rfl rfl hl.1 rfl rfl (Nat.le_of_ble_eq_true rfl) ⟨Nat.zero_le _, Nat.zero_le _⟩ dX10_rounds_13 ?_
    intro H locs hP hD hS
    cases hF
    exact ret_i C0 hP hD hS [3, 0, 1, 2] rfl rfl rfl dX10_rounds_16 rfl

theorem dAX10_byGrief : ∀ q ∈ ([(0, (.aload_n 0, 1)), (1, (.invokevirtual 159, 3)), (4, (.aload_n 0, 1)), (5, (.getfield 176, 3)), (8, (.ifCond .ne 9, 3)), (11, (.aload_n 0, 1)), (12, (.iconst 1, 1)), (13, (.invokevirtual 162, 3)), (16, (.ireturn, 1)), (17, (.iload_n 1, 1)), (18, (.iconst 0, 1)), (19, (.bipush 40, 2)), (21, (.invokestatic 144, 3)), (24, (.ifCond .ne 9, 3)), (27, (.aload_n 0, 1)), (28, (.iconst 2, 1)), (29, (.invokevirtual 162, 3)), (32, (.ireturn, 1)), (33, (.aload_n 0, 1)), (34, (.getfield 20, 3)), (37, (.iconst 2, 1)), (38, (.iaload, 1)), (39, (.istore_n 2, 1)), (40, (.aload_n 0, 1)), (41, (.getfield 20, 3)), (44, (.iconst 2, 1)), (45, (.iload_n 1, 1)), (46, (.iastore, 1)), (47, (.aload_n 0, 1)), (48, (.invokevirtual 309, 3)), (51, (.istore_n 3, 1)), (52, (.aload_n 0, 1)), (53, (.getfield 20, 3)), (56, (.iconst 2, 1)), (57, (.iload_n 2, 1)), (58, (.iastore, 1)), (59, (.iload_n 3, 1)), (60, (.ireturn, 1))] : List (Nat × (Instr × Nat))), decode cX10_byGrief q.1 = .ok q.2 := by decide +kernel
theorem dX10_byGrief_0 : decode cX10_byGrief 0 = .ok (.aload_n 0, 1) := dAX10_byGrief (0, (.aload_n 0, 1)) (List.mem_of_getElem? (i := 0) rfl)
theorem dX10_byGrief_1 : decode cX10_byGrief 1 = .ok (.invokevirtual 159, 3) := dAX10_byGrief (1, (.invokevirtual 159, 3)) (List.mem_of_getElem? (i := 1) rfl)
theorem dX10_byGrief_4 : decode cX10_byGrief 4 = .ok (.aload_n 0, 1) := dAX10_byGrief (4, (.aload_n 0, 1)) (List.mem_of_getElem? (i := 2) rfl)
theorem dX10_byGrief_5 : decode cX10_byGrief 5 = .ok (.getfield 176, 3) := dAX10_byGrief (5, (.getfield 176, 3)) (List.mem_of_getElem? (i := 3) rfl)
theorem dX10_byGrief_8 : decode cX10_byGrief 8 = .ok (.ifCond .ne 9, 3) := dAX10_byGrief (8, (.ifCond .ne 9, 3)) (List.mem_of_getElem? (i := 4) rfl)
theorem dX10_byGrief_11 : decode cX10_byGrief 11 = .ok (.aload_n 0, 1) := dAX10_byGrief (11, (.aload_n 0, 1)) (List.mem_of_getElem? (i := 5) rfl)
theorem dX10_byGrief_12 : decode cX10_byGrief 12 = .ok (.iconst 1, 1) := dAX10_byGrief (12, (.iconst 1, 1)) (List.mem_of_getElem? (i := 6) rfl)
theorem dX10_byGrief_13 : decode cX10_byGrief 13 = .ok (.invokevirtual 162, 3) := dAX10_byGrief (13, (.invokevirtual 162, 3)) (List.mem_of_getElem? (i := 7) rfl)
theorem dX10_byGrief_16 : decode cX10_byGrief 16 = .ok (.ireturn, 1) := dAX10_byGrief (16, (.ireturn, 1)) (List.mem_of_getElem? (i := 8) rfl)
theorem dX10_byGrief_17 : decode cX10_byGrief 17 = .ok (.iload_n 1, 1) := dAX10_byGrief (17, (.iload_n 1, 1)) (List.mem_of_getElem? (i := 9) rfl)
theorem dX10_byGrief_18 : decode cX10_byGrief 18 = .ok (.iconst 0, 1) := dAX10_byGrief (18, (.iconst 0, 1)) (List.mem_of_getElem? (i := 10) rfl)
theorem dX10_byGrief_19 : decode cX10_byGrief 19 = .ok (.bipush 40, 2) := dAX10_byGrief (19, (.bipush 40, 2)) (List.mem_of_getElem? (i := 11) rfl)
theorem dX10_byGrief_21 : decode cX10_byGrief 21 = .ok (.invokestatic 144, 3) := dAX10_byGrief (21, (.invokestatic 144, 3)) (List.mem_of_getElem? (i := 12) rfl)
theorem dX10_byGrief_24 : decode cX10_byGrief 24 = .ok (.ifCond .ne 9, 3) := dAX10_byGrief (24, (.ifCond .ne 9, 3)) (List.mem_of_getElem? (i := 13) rfl)
theorem dX10_byGrief_27 : decode cX10_byGrief 27 = .ok (.aload_n 0, 1) := dAX10_byGrief (27, (.aload_n 0, 1)) (List.mem_of_getElem? (i := 14) rfl)
theorem dX10_byGrief_28 : decode cX10_byGrief 28 = .ok (.iconst 2, 1) := dAX10_byGrief (28, (.iconst 2, 1)) (List.mem_of_getElem? (i := 15) rfl)
theorem dX10_byGrief_29 : decode cX10_byGrief 29 = .ok (.invokevirtual 162, 3) := dAX10_byGrief (29, (.invokevirtual 162, 3)) (List.mem_of_getElem? (i := 16) rfl)
theorem dX10_byGrief_32 : decode cX10_byGrief 32 = .ok (.ireturn, 1) := dAX10_byGrief (32, (.ireturn, 1)) (List.mem_of_getElem? (i := 17) rfl)
theorem dX10_byGrief_33 : decode cX10_byGrief 33 = .ok (.aload_n 0, 1) := dAX10_byGrief (33, (.aload_n 0, 1)) (List.mem_of_getElem? (i := 18) rfl)
theorem dX10_byGrief_34 : decode cX10_byGrief 34 = .ok (.getfield 20, 3) := dAX10_byGrief (34, (.getfield 20, 3)) (List.mem_of_getElem? (i := 19) rfl)
theorem dX10_byGrief_37 : decode cX10_byGrief 37 = .ok (.iconst 2, 1) := dAX10_byGrief (37, (.iconst 2, 1)) (List.mem_of_getElem? (i := 20) rfl)
theorem dX10_byGrief_38 : decode cX10_byGrief 38 = .ok (.iaload, 1) := dAX10_byGrief (38, (.iaload, 1)) (List.mem_of_getElem? (i := 21) rfl)
theorem dX10_byGrief_39 : decode cX10_byGrief 39 = .ok (.istore_n 2, 1) := dAX10_byGrief (39, (.istore_n 2, 1)) (List.mem_of_getElem? (i := 22) rfl)
theorem dX10_byGrief_40 : decode cX10_byGrief 40 = .ok (.aload_n 0, 1) := dAX10_byGrief (40, (.aload_n 0, 1)) (List.mem_of_getElem? (i := 23) rfl)
theorem dX10_byGrief_41 : decode cX10_byGrief 41 = .ok (.getfield 20, 3) := dAX10_byGrief (41, (.getfield 20, 3)) (List.mem_of_getElem? (i := 24) rfl)
theorem dX10_byGrief_44 : decode cX10_byGrief 44 = .ok (.iconst 2, 1) := dAX10_byGrief (44, (.iconst 2, 1)) (List.mem_of_getElem? (i := 25) rfl)
theorem dX10_byGrief_45 : decode cX10_byGrief 45 = .ok (.iload_n 1, 1) := dAX10_byGrief (45, (.iload_n 1, 1)) (List.mem_of_getElem? (i := 26) rfl)
theorem dX10_byGrief_46 : decode cX10_byGrief 46 = .ok (.iastore, 1) := dAX10_byGrief (46, (.iastore, 1)) (List.mem_of_getElem? (i := 27) rfl)
theorem dX10_byGrief_47 : decode cX10_byGrief 47 = .ok (.aload_n 0, 1) := dAX10_byGrief (47, (.aload_n 0, 1)) (List.mem_of_getElem? (i := 28) rfl)
theorem dX10_byGrief_48 : decode cX10_byGrief 48 = .ok (.invokevirtual 309, 3) := dAX10_byGrief (48, (.invokevirtual 309, 3)) (List.mem_of_getElem? (i := 29) rfl)
theorem dX10_byGrief_51 : decode cX10_byGrief 51 = .ok (.istore_n 3, 1) := dAX10_byGrief (51, (.istore_n 3, 1)) (List.mem_of_getElem? (i := 30) rfl)
theorem dX10_byGrief_52 : decode cX10_byGrief 52 = .ok (.aload_n 0, 1) := dAX10_byGrief (52, (.aload_n 0, 1)) (List.mem_of_getElem? (i := 31) rfl)
theorem dX10_byGrief_53 : decode cX10_byGrief 53 = .ok (.getfield 20, 3) := dAX10_byGrief (53, (.getfield 20, 3)) (List.mem_of_getElem? (i := 32) rfl)
theorem dX10_byGrief_56 : decode cX10_byGrief 56 = .ok (.iconst 2, 1) := dAX10_byGrief (56, (.iconst 2, 1)) (List.mem_of_getElem? (i := 33) rfl)
theorem dX10_byGrief_57 : decode cX10_byGrief 57 = .ok (.iload_n 2, 1) := dAX10_byGrief (57, (.iload_n 2, 1)) (List.mem_of_getElem? (i := 34) rfl)
theorem dX10_byGrief_58 : decode cX10_byGrief 58 = .ok (.iastore, 1) := dAX10_byGrief (58, (.iastore, 1)) (List.mem_of_getElem? (i := 35) rfl)
theorem dX10_byGrief_59 : decode cX10_byGrief 59 = .ok (.iload_n 3, 1) := dAX10_byGrief (59, (.iload_n 3, 1)) (List.mem_of_getElem? (i := 36) rfl)
theorem dX10_byGrief_60 : decode cX10_byGrief 60 = .ok (.ireturn, 1) := dAX10_byGrief (60, (.ireturn, 1)) (List.mem_of_getElem? (i := 37) rfl)
set_option maxRecDepth 20000 in
theorem ggX10_byGrief_X10_good : GoodIn wsX10_byGrief wsX10_good := goodIn_r _ [7, 8, 9, 76, 77, 78, 79, 80, 81, 82, 83, 84, 85, 86, 87, 88, 89, 90, 91, 92, 93, 94, 95, 96, 97, 98, 99, 100, 101, 102, 103, 104, 105, 106, 107, 108, 109, 110] rfl (by decide +kernel)
set_option maxRecDepth 20000 in
theorem gX10_byGrief_X10_good : GoodIn wsX10_byGrief (wsV RX10 159 RX10 yX10_good wsX10_good) := goodIn_app (goodIn_of _ (by decide +kernel)) ggX10_byGrief_X10_good
set_option maxRecDepth 20000 in
theorem ggX10_byGrief_X10_no : GoodIn wsX10_byGrief wsX10_no := goodIn_r _ [13, 9, 76, 77, 78, 79, 80, 81, 82, 83, 84, 85, 86, 87, 88, 89, 90, 91, 92, 93, 94, 95, 96, 97, 98, 99, 100, 101, 102, 103, 104, 105, 106, 107, 108, 109, 110] rfl (by decide +kernel)
set_option maxRecDepth 20000 in
theorem gX10_byGrief_X10_no : GoodIn wsX10_byGrief (wsV RX10 162 RX10 yX10_no wsX10_no) := goodIn_app (goodIn_of _ (by decide +kernel)) ggX10_byGrief_X10_no
set_option maxRecDepth 20000 in
theorem ggX10_byGrief_X10_in : GoodIn wsX10_byGrief wsX10_in := goodIn_r _ [16] rfl (by decide +kernel)
set_option maxRecDepth 20000 in
theorem gX10_byGrief_X10_in : GoodIn wsX10_byGrief (va_wsS RX10 144 yX10_in wsX10_in) := goodIn_app (goodIn_of _ (by decide +kernel)) ggX10_byGrief_X10_in
set_option maxRecDepth 20000 in
theorem ggX10_byGrief_X10_endsNow : GoodIn wsX10_byGrief wsX10_endsNow := goodIn_r _ [20, 21, 22, 23, 24, 6, 25, 26, 27, 28, 29, 30, 31, 32, 33, 34, 2, 35, 36, 37, 38, 39, 40, 41, 42, 43, 44, 45, 46, 47, 48, 49, 50, 51, 52, 53, 54, 55, 56, 57, 58, 59, 60, 61, 62, 63, 64, 65, 66, 67, 68, 69, 70, 71, 72, 73, 74, 75, 76, 77, 78, 79, 80, 81, 82, 83, 84, 85, 86, 87, 88, 89, 90, 91, 92, 93, 94, 95, 96, 97, 98, 99, 100, 101, 102, 103, 104, 105, 106, 107, 108, 109, 110] rfl (by decide +kernel)
set_option maxRecDepth 20000 in
theorem gX10_byGrief_X10_endsNow : GoodIn wsX10_byGrief (wsV RX10 309 RX10 yX10_endsNow wsX10_endsNow) := goodIn_app (goodIn_of _ (by decide +kernel)) ggX10_byGrief_X10_endsNow
theorem kX10_byGrief_176 : Cond.fieldLink RX10 176 "EveningVowModel" "hasEvening" "Z" ∈ wsX10_byGrief := List.mem_of_getElem? (i := 1) rfl
theorem iX10_byGrief_X10 : ∀ w ∈ u_ws RX10 TX10 35, w ∈ wsX10_byGrief := fun w h => (List.mem_cons_of_mem _ (List.mem_append_right _ h))
theorem kX10_byGrief_20 : Cond.fieldLink RX10 20 "EveningVowModel" "\x72" "[I" ∈ wsX10_byGrief := List.mem_of_getElem? (i := 2) rfl
set_option maxHeartbeats 4000000 in
set_option maxRecDepth 100000 in
theorem mX10_byGrief (l : Launch) (g : GG) (a_t : Nat) (p_t : Nat → Nat) (n : Nat) (x1 : Int32) (o_t : Nat → Int32) (f_t_15 : Nat → Int32) (f_t_17 : Nat → Int32) (f_t_25 : Nat → Int32) (r : Int32) (o_t' : Nat → Int32) (f_t_15' : Nat → Int32) (f_t_25' : Nat → Int32) (hF : fX10_byGrief n x1 o_t f_t_15 f_t_17 f_t_25 = some (r, o_t', f_t_15', f_t_25')) : MI l g yX10_byGrief wsX10_byGrief ({ frames := 6, cells := 0, slots := 0, locals := 136 } : Room) [.ref a_t, .int x1] [oX10 a_t p_t o_t, aI g (p_t 15) 266 f_t_15, aI g (p_t 17) 17 f_t_17, aI g (p_t 25) 17 f_t_25] r [oX10 a_t p_t o_t', aI g (p_t 15) 266 f_t_15', aI g (p_t 17) 17 f_t_17, aI g (p_t 25) 17 f_t_25'] := by
  refine MI.of (cc := cX10_byGrief) (maxL := 4) (rt := .int) (own := RX10) rfl rfl (by decide) (Nat.le_of_ble_eq_true rfl) ?_
  intro p e s m args below meth c A C0 hP hD hS ls hl
  obtain ⟨hx, hb, hml, hown, hts, hr, hlk, hK, hA, hSW⟩ := id C0
  have hl : lv_has ls 4 [(0, .ref a_t), (1, .int x1)] := hl
  rw [fX10_byGrief] at hF
  refine lv_aload_n hx hb dX10_byGrief_0 rfl (lv_at hl 0 rfl) ?_
  obtain ⟨u_1, hu_2, hF⟩ := ob1_some hF
  refine call_v (wr := [aI g (p_t 15) 266 f_t_15, aI g (p_t 17) 17 f_t_17, aI g (p_t 25) 17 f_t_25]) (As := []) (rest := []) (ci := 10) (q0 := 0) C0 (mX10_good l g a_t p_t n o_t u_1 hu_2) (cwV 0 hts gX10_byGrief_X10_good rfl rfl rfl (by decide +kernel) ⟨Nat.le_of_ble_eq_true rfl, Nat.le_of_ble_eq_true rfl⟩) hP hD hS [0] [1, 2, 3] rfl rfl rfl rfl rfl (by decide) rfl rfl hl.1 rfl rfl (Nat.le_of_ble_eq_true rfl) ⟨Nat.zero_le _, Nat.zero_le _⟩ dX10_byGrief_1 ?_
  intro H locs hP hD hS
  refine lv_aload_n hx hb dX10_byGrief_4 rfl (lv_at hl 0 rfl) ?_
  refine va_get (D := g.1) (ci := 10) (v := .int (u_1 14)) (C := RX10) (T := TX10) (N := 35) hx hb hts iX10_byGrief_X10 hown hK.1 hP 3 rfl rfl 14 (by decide) (hts _ kX10_byGrief_176) (fun _ h9 => h9) rfl dX10_byGrief_5 ?_
  refine lv_if_ne (tgt := 17) hx hb dX10_byGrief_8 (by decide) (fun c_3 => ?_) (fun c_3 => ?_)
  · have hF := it_n c_3 hF
    refine lv_iload_n hx hb dX10_byGrief_17 rfl (lv_at hl 1 rfl) ?_
    refine lv_iconst (v := (0 : Int32)) hx hb dX10_byGrief_18 (by decide) ?_
    refine lv_bipush (v := (40 : Int32)) hx hb dX10_byGrief_19 (by decide) ?_
    obtain ⟨u_4, hu_5, hF⟩ := ob1_some hF
    refine call_si (wr := [aI g (p_t 15) 266 f_t_15, aI g (p_t 17) 17 f_t_17, aI g (p_t 25) 17 f_t_25, oX10 a_t p_t u_1]) (As := [.int x1, .int (0 : Int32), .int (40 : Int32)]) (rest := []) C0 (mX10_in l g n x1 (0 : Int32) (40 : Int32) u_4 hu_5) (va_cwS 3 hts gX10_byGrief_X10_in rfl rfl rfl (by decide +kernel) ⟨Nat.le_of_ble_eq_true rfl, Nat.le_of_ble_eq_true rfl⟩) hP hD hS [] [0, 1, 2, 3] rfl rfl rfl rfl rfl (by decide) hl.1 rfl rfl (Nat.le_of_ble_eq_true rfl) ⟨Nat.zero_le _, Nat.zero_le _⟩ dX10_byGrief_21 ?_
    intro H locs hP hD hS
    refine lv_if_ne (tgt := 33) hx hb dX10_byGrief_24 (by decide) (fun c_6 => ?_) (fun c_6 => ?_)
    · have hF := it_n c_6 hF
      refine lv_aload_n hx hb dX10_byGrief_33 rfl (lv_at hl 0 rfl) ?_
      refine va_get (D := g.1) (ci := 10) (v := .ref (p_t 15)) (C := RX10) (T := TX10) (N := 35) hx hb hts iX10_byGrief_X10 hown hK.1 hP 3 rfl rfl 15 (by decide) (hts _ kX10_byGrief_20) (fun _ h9 => h9) rfl dX10_byGrief_34 ?_
      refine lv_iconst (v := (2 : Int32)) hx hb dX10_byGrief_37 (by decide) ?_
      refine va_iald_k (j := 2) hx hb hK.1 hP 0 0 rfl rfl (by unfold vp_in; decide) rfl dX10_byGrief_38 ?_
      refine lv_istore_n (lv' := [(2, .int (f_t_15 2)), (0, .ref a_t), (1, .int x1)]) hx hb dX10_byGrief_39 rfl hl (by decide) rfl (fun ls hl => ?_)
      refine lv_aload_n hx hb dX10_byGrief_40 rfl (lv_at hl 1 rfl) ?_
      refine va_get (D := g.1) (ci := 10) (v := .ref (p_t 15)) (C := RX10) (T := TX10) (N := 35) hx hb hts iX10_byGrief_X10 hown hK.1 hP 3 rfl rfl 15 (by decide) (hts _ kX10_byGrief_20) (fun _ h9 => h9) rfl dX10_byGrief_41 ?_
      refine lv_iconst (v := (2 : Int32)) hx hb dX10_byGrief_44 (by decide) ?_
      refine lv_iload_n hx hb dX10_byGrief_45 rfl (lv_at hl 2 rfl) ?_
      refine va_iast hx hb hK.1 hP hD hS 0 0 rfl rfl (by unfold vp_in; decide) dX10_byGrief_46 (fun H locs hP hD hS => ?_)
      have hP : va_P g.1 vwCl [aI g (p_t 15) 266 (upd f_t_15 2 x1), aI g (p_t 17) 17 f_t_17, aI g (p_t 25) 17 f_t_25, oX10 a_t p_t u_1] H := hP
      have hD : va_D A [aI g (p_t 15) 266 (upd f_t_15 2 x1), aI g (p_t 17) 17 f_t_17, aI g (p_t 25) 17 f_t_25, oX10 a_t p_t u_1] := hD
      refine lv_aload_n hx hb dX10_byGrief_47 rfl (lv_at hl 1 rfl) ?_
      obtain ⟨u_7, u_8, u_9, hu_10, hF⟩ := ob3_some hF
      refine call_i (wr := []) (As := []) (rest := []) (ci := 10) (q0 := 0) C0 (mX10_endsNow l g a_t p_t n u_1 (upd f_t_15 2 x1) f_t_17 f_t_25 u_7 u_8 u_9 hu_10) (cwV 0 hts gX10_byGrief_X10_endsNow rfl rfl rfl (by decide +kernel) ⟨Nat.le_of_ble_eq_true rfl, Nat.le_of_ble_eq_true rfl⟩) hP hD hS [3, 0, 1, 2] [] rfl rfl rfl rfl rfl (by decide) rfl rfl hl.1 rfl rfl (Nat.le_of_ble_eq_true rfl) ⟨Nat.zero_le _, Nat.zero_le _⟩ dX10_byGrief_48 ?_
      intro H locs hP hD hS
      refine lv_istore_n (lv' := [(3, .int u_7), (2, .int (f_t_15 2)), (0, .ref a_t), (1, .int x1)]) hx hb dX10_byGrief_51 rfl hl (by decide) rfl (fun ls hl => ?_)
      refine lv_aload_n hx hb dX10_byGrief_52 rfl (lv_at hl 2 rfl) ?_
      refine va_get (D := g.1) (ci := 10) (v := .ref (p_t 15)) (C := RX10) (T := TX10) (N := 35) hx hb hts iX10_byGrief_X10 hown hK.1 hP 0 rfl rfl 15 (by decide) (hts _ kX10_byGrief_20) (fun _ h9 => h9) rfl dX10_byGrief_53 ?_
      refine lv_iconst (v := (2 : Int32)) hx hb dX10_byGrief_56 (by decide) ?_
      refine lv_iload_n hx hb dX10_byGrief_57 rfl (lv_at hl 1 rfl) ?_
      refine va_iast hx hb hK.1 hP hD hS 1 0 rfl rfl (by unfold vp_in; decide) dX10_byGrief_58 (fun H locs hP hD hS => ?_)
      have hP : va_P g.1 vwCl [oX10 a_t p_t u_8, aI g (p_t 15) 266 (upd (upd f_t_15 2 x1) 2 (f_t_15 2)), aI g (p_t 17) 17 f_t_17, aI g (p_t 25) 17 u_9] H := hP
      have hD : va_D A [oX10 a_t p_t u_8, aI g (p_t 15) 266 (upd (upd f_t_15 2 x1) 2 (f_t_15 2)), aI g (p_t 17) 17 f_t_17, aI g (p_t 25) 17 u_9] := hD
      refine lv_iload_n hx hb dX10_byGrief_59 rfl (lv_at hl 0 rfl) ?_
      cases hF
      exact ret_i C0 hP hD hS [0, 1, 2, 3] rfl rfl rfl dX10_byGrief_60 rfl
    · have hF := it_p c_6 hF
      refine lv_aload_n hx hb dX10_byGrief_27 rfl (lv_at hl 0 rfl) ?_
      refine lv_iconst (v := (2 : Int32)) hx hb dX10_byGrief_28 (by decide) ?_
      obtain ⟨u_11, u_12, hu_13, hF⟩ := ob2_some hF
      refine call_i (wr := [aI g (p_t 15) 266 f_t_15, aI g (p_t 17) 17 f_t_17, aI g (p_t 25) 17 f_t_25]) (As := [.int (2 : Int32)]) (rest := []) (ci := 10) (q0 := 0) C0 (mX10_no l g a_t p_t n (2 : Int32) u_1 u_11 u_12 hu_13) (cwV 1 hts gX10_byGrief_X10_no rfl rfl rfl (by decide +kernel) ⟨Nat.le_of_ble_eq_true rfl, Nat.le_of_ble_eq_true rfl⟩) hP hD hS [3] [0, 1, 2] rfl rfl rfl rfl rfl (by decide) rfl rfl hl.1 rfl rfl (Nat.le_of_ble_eq_true rfl) ⟨Nat.zero_le _, Nat.zero_le _⟩ dX10_byGrief_29 ?_
      intro H locs hP hD hS
      cases hF
      exact ret_i C0 hP hD hS [3, 0, 1, 2] rfl rfl rfl dX10_byGrief_32 rfl
  · have hF := it_p c_3 hF
    refine lv_aload_n hx hb dX10_byGrief_11 rfl (lv_at hl 0 rfl) ?_
    refine lv_iconst (v := (1 : Int32)) hx hb dX10_byGrief_12 (by decide) ?_
    obtain ⟨u_14, u_15, hu_16, hF⟩ := ob2_some hF
    refine call_i (wr := [aI g (p_t 15) 266 f_t_15, aI g (p_t 17) 17 f_t_17, aI g (p_t 25) 17 f_t_25]) (As := [.int (1 : Int32)]) (rest := []) (ci := 10) (q0 := 0) C0 (mX10_no l g a_t p_t n (1 : Int32) u_1 u_14 u_15 hu_16) (cwV 1 hts gX10_byGrief_X10_no rfl rfl rfl (by decide +kernel) ⟨Nat.le_of_ble_eq_true rfl, Nat.le_of_ble_eq_true rfl⟩) hP hD hS [3] [0, 1, 2] rfl rfl rfl rfl rfl (by decide) rfl rfl hl.1 rfl rfl (Nat.le_of_ble_eq_true rfl) ⟨Nat.zero_le _, Nat.zero_le _⟩ dX10_byGrief_13 ?_
    intro H locs hP hD hS
    cases hF
    exact ret_i C0 hP hD hS [3, 0, 1, 2] rfl rfl rfl dX10_byGrief_16 rfl

theorem dAX10_tireFor : ∀ q ∈ ([(0, (.aload_n 0, 1)), (1, (.invokevirtual 159, 3)), (4, (.aload_n 0, 1)), (5, (.getfield 176, 3)), (8, (.ifCond .ne 9, 3)), (11, (.aload_n 0, 1)), (12, (.iconst 1, 1)), (13, (.invokevirtual 162, 3)), (16, (.ireturn, 1)), (17, (.iload_n 1, 1)), (18, (.iconst 0, 1)), (19, (.bipush 60, 2)), (21, (.invokestatic 144, 3)), (24, (.ifCond .ne 9, 3)), (27, (.aload_n 0, 1)), (28, (.iconst 2, 1)), (29, (.invokevirtual 162, 3)), (32, (.ireturn, 1)), (33, (.iconst 0, 1)), (34, (.istore_n 2, 1)), (35, (.iload_n 2, 1)), (36, (.sipush 200, 3)), (39, (.if_icmp .gt 86, 3)), (42, (.aload_n 0, 1)), (43, (.getfield 26, 3)), (46, (.iconst 0, 1)), (47, (.aload_n 0, 1)), (48, (.getfield 35, 3)), (51, (.iconst 0, 1)), (52, (.bipush 17, 2)), (54, (.invokestatic 168, 3)), (57, (.iconst 0, 1)), (58, (.istore_n 3, 1)), (59, (.iload_n 3, 1)), (60, (.aload_n 0, 1)), (61, (.getfield 20, 3)), (64, (.iconst 3, 1)), (65, (.iaload, 1)), (66, (.if_icmp .ge 34, 3)), (69, (.aload_n 0, 1)), (70, (.getfield 35, 3)), (73, (.iload_n 3, 1)), (74, (.dup2, 1)), (75, (.iaload, 1)), (76, (.aload_n 0, 1)), (77, (.getfield 35, 3)), (80, (.iload_n 3, 1)), (81, (.invokestatic 248, 3)), (84, (.ifCond .eq 7, 3)), (87, (.iload_n 2, 1)), (88, (.goto 4, 3)), (91, (.iconst 0, 1)), (92, (.isub, 1)), (93, (.iastore, 1)), (94, (.iinc 3 1, 3)), (97, (.goto (-38), 3)), (100, (.aload_n 0, 1)), (101, (.aload_n 0, 1)), (102, (.getfield 35, 3)), (105, (.iconst 0, 1)), (106, (.invokevirtual 296, 3)), (109, (.iconst 0, 1)), (110, (.iload_n 1, 1)), (111, (.invokestatic 144, 3)), (114, (.ifCond .eq 5, 3)), (117, (.iload_n 2, 1)), (118, (.ireturn, 1)), (119, (.iinc 2 1, 3)), (122, (.goto (-87), 3)), (125, (.bipush (-2), 2)), (127, (.ireturn, 1))] : List (Nat × (Instr × Nat))), decode cX10_tireFor q.1 = .ok q.2 := by decide +kernel
theorem dX10_tireFor_0 : decode cX10_tireFor 0 = .ok (.aload_n 0, 1) := dAX10_tireFor (0, (.aload_n 0, 1)) (List.mem_of_getElem? (i := 0) rfl)
theorem dX10_tireFor_1 : decode cX10_tireFor 1 = .ok (.invokevirtual 159, 3) := dAX10_tireFor (1, (.invokevirtual 159, 3)) (List.mem_of_getElem? (i := 1) rfl)
theorem dX10_tireFor_4 : decode cX10_tireFor 4 = .ok (.aload_n 0, 1) := dAX10_tireFor (4, (.aload_n 0, 1)) (List.mem_of_getElem? (i := 2) rfl)
theorem dX10_tireFor_5 : decode cX10_tireFor 5 = .ok (.getfield 176, 3) := dAX10_tireFor (5, (.getfield 176, 3)) (List.mem_of_getElem? (i := 3) rfl)
theorem dX10_tireFor_8 : decode cX10_tireFor 8 = .ok (.ifCond .ne 9, 3) := dAX10_tireFor (8, (.ifCond .ne 9, 3)) (List.mem_of_getElem? (i := 4) rfl)
theorem dX10_tireFor_11 : decode cX10_tireFor 11 = .ok (.aload_n 0, 1) := dAX10_tireFor (11, (.aload_n 0, 1)) (List.mem_of_getElem? (i := 5) rfl)
theorem dX10_tireFor_12 : decode cX10_tireFor 12 = .ok (.iconst 1, 1) := dAX10_tireFor (12, (.iconst 1, 1)) (List.mem_of_getElem? (i := 6) rfl)
theorem dX10_tireFor_13 : decode cX10_tireFor 13 = .ok (.invokevirtual 162, 3) := dAX10_tireFor (13, (.invokevirtual 162, 3)) (List.mem_of_getElem? (i := 7) rfl)
theorem dX10_tireFor_16 : decode cX10_tireFor 16 = .ok (.ireturn, 1) := dAX10_tireFor (16, (.ireturn, 1)) (List.mem_of_getElem? (i := 8) rfl)
theorem dX10_tireFor_17 : decode cX10_tireFor 17 = .ok (.iload_n 1, 1) := dAX10_tireFor (17, (.iload_n 1, 1)) (List.mem_of_getElem? (i := 9) rfl)
theorem dX10_tireFor_18 : decode cX10_tireFor 18 = .ok (.iconst 0, 1) := dAX10_tireFor (18, (.iconst 0, 1)) (List.mem_of_getElem? (i := 10) rfl)
theorem dX10_tireFor_19 : decode cX10_tireFor 19 = .ok (.bipush 60, 2) := dAX10_tireFor (19, (.bipush 60, 2)) (List.mem_of_getElem? (i := 11) rfl)
theorem dX10_tireFor_21 : decode cX10_tireFor 21 = .ok (.invokestatic 144, 3) := dAX10_tireFor (21, (.invokestatic 144, 3)) (List.mem_of_getElem? (i := 12) rfl)
theorem dX10_tireFor_24 : decode cX10_tireFor 24 = .ok (.ifCond .ne 9, 3) := dAX10_tireFor (24, (.ifCond .ne 9, 3)) (List.mem_of_getElem? (i := 13) rfl)
theorem dX10_tireFor_27 : decode cX10_tireFor 27 = .ok (.aload_n 0, 1) := dAX10_tireFor (27, (.aload_n 0, 1)) (List.mem_of_getElem? (i := 14) rfl)
theorem dX10_tireFor_28 : decode cX10_tireFor 28 = .ok (.iconst 2, 1) := dAX10_tireFor (28, (.iconst 2, 1)) (List.mem_of_getElem? (i := 15) rfl)
theorem dX10_tireFor_29 : decode cX10_tireFor 29 = .ok (.invokevirtual 162, 3) := dAX10_tireFor (29, (.invokevirtual 162, 3)) (List.mem_of_getElem? (i := 16) rfl)
theorem dX10_tireFor_32 : decode cX10_tireFor 32 = .ok (.ireturn, 1) := dAX10_tireFor (32, (.ireturn, 1)) (List.mem_of_getElem? (i := 17) rfl)
theorem dX10_tireFor_33 : decode cX10_tireFor 33 = .ok (.iconst 0, 1) := dAX10_tireFor (33, (.iconst 0, 1)) (List.mem_of_getElem? (i := 18) rfl)
theorem dX10_tireFor_34 : decode cX10_tireFor 34 = .ok (.istore_n 2, 1) := dAX10_tireFor (34, (.istore_n 2, 1)) (List.mem_of_getElem? (i := 19) rfl)
theorem dX10_tireFor_35 : decode cX10_tireFor 35 = .ok (.iload_n 2, 1) := dAX10_tireFor (35, (.iload_n 2, 1)) (List.mem_of_getElem? (i := 20) rfl)
theorem dX10_tireFor_36 : decode cX10_tireFor 36 = .ok (.sipush 200, 3) := dAX10_tireFor (36, (.sipush 200, 3)) (List.mem_of_getElem? (i := 21) rfl)
theorem dX10_tireFor_39 : decode cX10_tireFor 39 = .ok (.if_icmp .gt 86, 3) := dAX10_tireFor (39, (.if_icmp .gt 86, 3)) (List.mem_of_getElem? (i := 22) rfl)
theorem dX10_tireFor_42 : decode cX10_tireFor 42 = .ok (.aload_n 0, 1) := dAX10_tireFor (42, (.aload_n 0, 1)) (List.mem_of_getElem? (i := 23) rfl)
theorem dX10_tireFor_43 : decode cX10_tireFor 43 = .ok (.getfield 26, 3) := dAX10_tireFor (43, (.getfield 26, 3)) (List.mem_of_getElem? (i := 24) rfl)
theorem dX10_tireFor_46 : decode cX10_tireFor 46 = .ok (.iconst 0, 1) := dAX10_tireFor (46, (.iconst 0, 1)) (List.mem_of_getElem? (i := 25) rfl)
theorem dX10_tireFor_47 : decode cX10_tireFor 47 = .ok (.aload_n 0, 1) := dAX10_tireFor (47, (.aload_n 0, 1)) (List.mem_of_getElem? (i := 26) rfl)
theorem dX10_tireFor_48 : decode cX10_tireFor 48 = .ok (.getfield 35, 3) := dAX10_tireFor (48, (.getfield 35, 3)) (List.mem_of_getElem? (i := 27) rfl)
theorem dX10_tireFor_51 : decode cX10_tireFor 51 = .ok (.iconst 0, 1) := dAX10_tireFor (51, (.iconst 0, 1)) (List.mem_of_getElem? (i := 28) rfl)
theorem dX10_tireFor_52 : decode cX10_tireFor 52 = .ok (.bipush 17, 2) := dAX10_tireFor (52, (.bipush 17, 2)) (List.mem_of_getElem? (i := 29) rfl)
theorem dX10_tireFor_54 : decode cX10_tireFor 54 = .ok (.invokestatic 168, 3) := dAX10_tireFor (54, (.invokestatic 168, 3)) (List.mem_of_getElem? (i := 30) rfl)
theorem dX10_tireFor_57 : decode cX10_tireFor 57 = .ok (.iconst 0, 1) := dAX10_tireFor (57, (.iconst 0, 1)) (List.mem_of_getElem? (i := 31) rfl)
theorem dX10_tireFor_58 : decode cX10_tireFor 58 = .ok (.istore_n 3, 1) := dAX10_tireFor (58, (.istore_n 3, 1)) (List.mem_of_getElem? (i := 32) rfl)
theorem dX10_tireFor_59 : decode cX10_tireFor 59 = .ok (.iload_n 3, 1) := dAX10_tireFor (59, (.iload_n 3, 1)) (List.mem_of_getElem? (i := 33) rfl)
theorem dX10_tireFor_60 : decode cX10_tireFor 60 = .ok (.aload_n 0, 1) := dAX10_tireFor (60, (.aload_n 0, 1)) (List.mem_of_getElem? (i := 34) rfl)
theorem dX10_tireFor_61 : decode cX10_tireFor 61 = .ok (.getfield 20, 3) := dAX10_tireFor (61, (.getfield 20, 3)) (List.mem_of_getElem? (i := 35) rfl)
theorem dX10_tireFor_64 : decode cX10_tireFor 64 = .ok (.iconst 3, 1) := dAX10_tireFor (64, (.iconst 3, 1)) (List.mem_of_getElem? (i := 36) rfl)
theorem dX10_tireFor_65 : decode cX10_tireFor 65 = .ok (.iaload, 1) := dAX10_tireFor (65, (.iaload, 1)) (List.mem_of_getElem? (i := 37) rfl)
theorem dX10_tireFor_66 : decode cX10_tireFor 66 = .ok (.if_icmp .ge 34, 3) := dAX10_tireFor (66, (.if_icmp .ge 34, 3)) (List.mem_of_getElem? (i := 38) rfl)
theorem dX10_tireFor_69 : decode cX10_tireFor 69 = .ok (.aload_n 0, 1) := dAX10_tireFor (69, (.aload_n 0, 1)) (List.mem_of_getElem? (i := 39) rfl)
theorem dX10_tireFor_70 : decode cX10_tireFor 70 = .ok (.getfield 35, 3) := dAX10_tireFor (70, (.getfield 35, 3)) (List.mem_of_getElem? (i := 40) rfl)
theorem dX10_tireFor_73 : decode cX10_tireFor 73 = .ok (.iload_n 3, 1) := dAX10_tireFor (73, (.iload_n 3, 1)) (List.mem_of_getElem? (i := 41) rfl)
theorem dX10_tireFor_74 : decode cX10_tireFor 74 = .ok (.dup2, 1) := dAX10_tireFor (74, (.dup2, 1)) (List.mem_of_getElem? (i := 42) rfl)
theorem dX10_tireFor_75 : decode cX10_tireFor 75 = .ok (.iaload, 1) := dAX10_tireFor (75, (.iaload, 1)) (List.mem_of_getElem? (i := 43) rfl)
theorem dX10_tireFor_76 : decode cX10_tireFor 76 = .ok (.aload_n 0, 1) := dAX10_tireFor (76, (.aload_n 0, 1)) (List.mem_of_getElem? (i := 44) rfl)
theorem dX10_tireFor_77 : decode cX10_tireFor 77 = .ok (.getfield 35, 3) := dAX10_tireFor (77, (.getfield 35, 3)) (List.mem_of_getElem? (i := 45) rfl)
theorem dX10_tireFor_80 : decode cX10_tireFor 80 = .ok (.iload_n 3, 1) := dAX10_tireFor (80, (.iload_n 3, 1)) (List.mem_of_getElem? (i := 46) rfl)
theorem dX10_tireFor_81 : decode cX10_tireFor 81 = .ok (.invokestatic 248, 3) := dAX10_tireFor (81, (.invokestatic 248, 3)) (List.mem_of_getElem? (i := 47) rfl)
theorem dX10_tireFor_84 : decode cX10_tireFor 84 = .ok (.ifCond .eq 7, 3) := dAX10_tireFor (84, (.ifCond .eq 7, 3)) (List.mem_of_getElem? (i := 48) rfl)
theorem dX10_tireFor_87 : decode cX10_tireFor 87 = .ok (.iload_n 2, 1) := dAX10_tireFor (87, (.iload_n 2, 1)) (List.mem_of_getElem? (i := 49) rfl)
theorem dX10_tireFor_88 : decode cX10_tireFor 88 = .ok (.goto 4, 3) := dAX10_tireFor (88, (.goto 4, 3)) (List.mem_of_getElem? (i := 50) rfl)
theorem dX10_tireFor_91 : decode cX10_tireFor 91 = .ok (.iconst 0, 1) := dAX10_tireFor (91, (.iconst 0, 1)) (List.mem_of_getElem? (i := 51) rfl)
theorem dX10_tireFor_92 : decode cX10_tireFor 92 = .ok (.isub, 1) := dAX10_tireFor (92, (.isub, 1)) (List.mem_of_getElem? (i := 52) rfl)
theorem dX10_tireFor_93 : decode cX10_tireFor 93 = .ok (.iastore, 1) := dAX10_tireFor (93, (.iastore, 1)) (List.mem_of_getElem? (i := 53) rfl)
theorem dX10_tireFor_94 : decode cX10_tireFor 94 = .ok (.iinc 3 1, 3) := dAX10_tireFor (94, (.iinc 3 1, 3)) (List.mem_of_getElem? (i := 54) rfl)
theorem dX10_tireFor_97 : decode cX10_tireFor 97 = .ok (.goto (-38), 3) := dAX10_tireFor (97, (.goto (-38), 3)) (List.mem_of_getElem? (i := 55) rfl)
theorem dX10_tireFor_100 : decode cX10_tireFor 100 = .ok (.aload_n 0, 1) := dAX10_tireFor (100, (.aload_n 0, 1)) (List.mem_of_getElem? (i := 56) rfl)
theorem dX10_tireFor_101 : decode cX10_tireFor 101 = .ok (.aload_n 0, 1) := dAX10_tireFor (101, (.aload_n 0, 1)) (List.mem_of_getElem? (i := 57) rfl)
theorem dX10_tireFor_102 : decode cX10_tireFor 102 = .ok (.getfield 35, 3) := dAX10_tireFor (102, (.getfield 35, 3)) (List.mem_of_getElem? (i := 58) rfl)
theorem dX10_tireFor_105 : decode cX10_tireFor 105 = .ok (.iconst 0, 1) := dAX10_tireFor (105, (.iconst 0, 1)) (List.mem_of_getElem? (i := 59) rfl)
theorem dX10_tireFor_106 : decode cX10_tireFor 106 = .ok (.invokevirtual 296, 3) := dAX10_tireFor (106, (.invokevirtual 296, 3)) (List.mem_of_getElem? (i := 60) rfl)
theorem dX10_tireFor_109 : decode cX10_tireFor 109 = .ok (.iconst 0, 1) := dAX10_tireFor (109, (.iconst 0, 1)) (List.mem_of_getElem? (i := 61) rfl)
theorem dX10_tireFor_110 : decode cX10_tireFor 110 = .ok (.iload_n 1, 1) := dAX10_tireFor (110, (.iload_n 1, 1)) (List.mem_of_getElem? (i := 62) rfl)
theorem dX10_tireFor_111 : decode cX10_tireFor 111 = .ok (.invokestatic 144, 3) := dAX10_tireFor (111, (.invokestatic 144, 3)) (List.mem_of_getElem? (i := 63) rfl)
theorem dX10_tireFor_114 : decode cX10_tireFor 114 = .ok (.ifCond .eq 5, 3) := dAX10_tireFor (114, (.ifCond .eq 5, 3)) (List.mem_of_getElem? (i := 64) rfl)
theorem dX10_tireFor_117 : decode cX10_tireFor 117 = .ok (.iload_n 2, 1) := dAX10_tireFor (117, (.iload_n 2, 1)) (List.mem_of_getElem? (i := 65) rfl)
theorem dX10_tireFor_118 : decode cX10_tireFor 118 = .ok (.ireturn, 1) := dAX10_tireFor (118, (.ireturn, 1)) (List.mem_of_getElem? (i := 66) rfl)
theorem dX10_tireFor_119 : decode cX10_tireFor 119 = .ok (.iinc 2 1, 3) := dAX10_tireFor (119, (.iinc 2 1, 3)) (List.mem_of_getElem? (i := 67) rfl)
theorem dX10_tireFor_122 : decode cX10_tireFor 122 = .ok (.goto (-87), 3) := dAX10_tireFor (122, (.goto (-87), 3)) (List.mem_of_getElem? (i := 68) rfl)
theorem dX10_tireFor_125 : decode cX10_tireFor 125 = .ok (.bipush (-2), 2) := dAX10_tireFor (125, (.bipush (-2), 2)) (List.mem_of_getElem? (i := 69) rfl)
theorem dX10_tireFor_127 : decode cX10_tireFor 127 = .ok (.ireturn, 1) := dAX10_tireFor (127, (.ireturn, 1)) (List.mem_of_getElem? (i := 70) rfl)
set_option maxRecDepth 20000 in
theorem ggX10_tireFor_X10_good : GoodIn wsX10_tireFor wsX10_good := goodIn_r _ [9, 10, 11, 72, 73, 74, 75, 76, 77, 78, 79, 80, 81, 82, 83, 84, 85, 86, 87, 88, 89, 90, 91, 92, 93, 94, 95, 96, 97, 98, 99, 100, 101, 102, 103, 104, 105, 106] rfl (by decide +kernel)
set_option maxRecDepth 20000 in
theorem gX10_tireFor_X10_good : GoodIn wsX10_tireFor (wsV RX10 159 RX10 yX10_good wsX10_good) := goodIn_app (goodIn_of _ (by decide +kernel)) ggX10_tireFor_X10_good
set_option maxRecDepth 20000 in
theorem ggX10_tireFor_X10_no : GoodIn wsX10_tireFor wsX10_no := goodIn_r _ [15, 11, 72, 73, 74, 75, 76, 77, 78, 79, 80, 81, 82, 83, 84, 85, 86, 87, 88, 89, 90, 91, 92, 93, 94, 95, 96, 97, 98, 99, 100, 101, 102, 103, 104, 105, 106] rfl (by decide +kernel)
set_option maxRecDepth 20000 in
theorem gX10_tireFor_X10_no : GoodIn wsX10_tireFor (wsV RX10 162 RX10 yX10_no wsX10_no) := goodIn_app (goodIn_of _ (by decide +kernel)) ggX10_tireFor_X10_no
set_option maxRecDepth 20000 in
theorem ggX10_tireFor_X10_in : GoodIn wsX10_tireFor wsX10_in := goodIn_r _ [18] rfl (by decide +kernel)
set_option maxRecDepth 20000 in
theorem gX10_tireFor_X10_in : GoodIn wsX10_tireFor (va_wsS RX10 144 yX10_in wsX10_in) := goodIn_app (goodIn_of _ (by decide +kernel)) ggX10_tireFor_X10_in
set_option maxRecDepth 20000 in
theorem ggX10_tireFor_X10_copy : GoodIn wsX10_tireFor wsX10_copy := goodIn_r _ [21] rfl (by decide +kernel)
set_option maxRecDepth 20000 in
theorem gX10_tireFor_X10_copy : GoodIn wsX10_tireFor (va_wsS RX10 168 yX10_copy wsX10_copy) := goodIn_app (goodIn_of _ (by decide +kernel)) ggX10_tireFor_X10_copy
set_option maxRecDepth 20000 in
theorem ggX10_tireFor_X10_isIn : GoodIn wsX10_tireFor wsX10_isIn := goodIn_r _ [24] rfl (by decide +kernel)
set_option maxRecDepth 20000 in
theorem gX10_tireFor_X10_isIn : GoodIn wsX10_tireFor (va_wsS RX10 248 yX10_isIn wsX10_isIn) := goodIn_app (goodIn_of _ (by decide +kernel)) ggX10_tireFor_X10_isIn
set_option maxRecDepth 20000 in
theorem ggX10_tireFor_X10_endsOn : GoodIn wsX10_tireFor wsX10_endsOn := goodIn_r _ [28, 29, 30, 31, 32, 8, 33, 4, 22, 23, 24, 34, 35, 36, 37, 38, 39, 40, 41, 42, 43, 44, 45, 46, 47, 48, 49, 50, 51, 52, 53, 54, 55, 56, 57, 58, 59, 60, 61, 62, 63, 64, 65, 66, 67, 68, 69, 70, 71, 72, 73, 74, 75, 76, 77, 78, 79, 80, 81, 82, 83, 84, 85, 86, 87, 88, 89, 90, 91, 92, 93, 94, 95, 96, 97, 98, 99, 100, 101, 102, 103, 104, 105, 106] rfl (by decide +kernel)
set_option maxRecDepth 20000 in
theorem gX10_tireFor_X10_endsOn : GoodIn wsX10_tireFor (wsV RX10 296 RX10 yX10_endsOn wsX10_endsOn) := goodIn_app (goodIn_of _ (by decide +kernel)) ggX10_tireFor_X10_endsOn
theorem kX10_tireFor_176 : Cond.fieldLink RX10 176 "EveningVowModel" "hasEvening" "Z" ∈ wsX10_tireFor := List.mem_of_getElem? (i := 1) rfl
theorem iX10_tireFor_X10 : ∀ w ∈ u_ws RX10 TX10 35, w ∈ wsX10_tireFor := fun w h => (List.mem_cons_of_mem _ (List.mem_append_right _ h))
theorem kX10_tireFor_26 : Cond.fieldLink RX10 26 "EveningVowModel" "st" "[I" ∈ wsX10_tireFor := List.mem_of_getElem? (i := 2) rfl
theorem kX10_tireFor_35 : Cond.fieldLink RX10 35 "EveningVowModel" "trial" "[I" ∈ wsX10_tireFor := List.mem_of_getElem? (i := 3) rfl
theorem kX10_tireFor_20 : Cond.fieldLink RX10 20 "EveningVowModel" "\x72" "[I" ∈ wsX10_tireFor := List.mem_of_getElem? (i := 4) rfl
set_option maxHeartbeats 4000000 in
set_option maxRecDepth 100000 in
theorem wX10_tireFor_L59 {p : Program} {l : Launch} {e : Env} {s : State} {m : MethodId} {args : Array Value} {below : List Frame} {meth : Method} {c : Code} {g : GG} {A : Nat → Prop} (C0 : Cx p s m args meth c cX10_tireFor 4 (some .int) RX10 wsX10_tireFor g A) (a_t : Nat) (p_t : Nat → Nat) (n : Nat) (x1 : Int32) (x2 : Int32) (o_t : Nat → Int32) (f_t_15 : Nat → Int32) (f_t_17 : Nat → Int32) (r : Int32) (o_t' : Nat → Int32) (f_t_25' : Nat → Int32) (K : (Nat → Int32) → Option (Int32 × (Nat → Int32) × (Nat → Int32))) (hKx : ∀ (f_t_25 : Nat → Int32) (H : Heap) (locs : List Loc) (ls : Array Slot), K f_t_25 = some (r, o_t', f_t_25') → va_P g.1 vwCl [oX10 a_t p_t o_t, aI g (p_t 15) 266 f_t_15, aI g (p_t 17) 17 f_t_17, aI g (p_t 25) 17 f_t_25] H → va_D A [oX10 a_t p_t o_t, aI g (p_t 15) 266 f_t_15, aI g (p_t 17) 17 f_t_17, aI g (p_t 25) 17 f_t_25] → va_S A s.heap H locs → lv_has ls 4 [(0, .ref a_t), (1, .int x1), (2, .int x2)] → W p l e ({ frames := 5, cells := 0, slots := 0, locals := 116 } : Room) s m args below meth c H locs 0 0 (MQ below (EndI g r [oX10 a_t p_t o_t', aI g (p_t 15) 266 f_t_15, aI g (p_t 17) 17 f_t_17, aI g (p_t 25) 17 f_t_25'] A) args s 0 0 A) (F0 m 100 ls [])) : ∀ (k : Nat) (x3 : Int32) (f_t_25 : Nat → Int32), fX10_tireFor_L59 n x1 x2 o_t f_t_15 K k x3 f_t_25 = some (r, o_t', f_t_25') → ∀ (H : Heap) (locs : List Loc) (ls : Array Slot), va_P g.1 vwCl [oX10 a_t p_t o_t, aI g (p_t 15) 266 f_t_15, aI g (p_t 17) 17 f_t_17, aI g (p_t 25) 17 f_t_25] H → va_D A [oX10 a_t p_t o_t, aI g (p_t 15) 266 f_t_15, aI g (p_t 17) 17 f_t_17, aI g (p_t 25) 17 f_t_25] → va_S A s.heap H locs → lv_has ls 4 [(0, .ref a_t), (1, .int x1), (2, .int x2), (3, .int x3)] → W p l e ({ frames := 5, cells := 0, slots := 0, locals := 116 } : Room) s m args below meth c H locs 0 0 (MQ below (EndI g r [oX10 a_t p_t o_t', aI g (p_t 15) 266 f_t_15, aI g (p_t 17) 17 f_t_17, aI g (p_t 25) 17 f_t_25'] A) args s 0 0 A) (F0 m 59 ls []) := by
  obtain ⟨hx, hb, hml, hown, hts, hr, hlk, hK, hA, hSW⟩ := id C0
  intro k
  induction k with
  | zero =>
    intro x3 f_t_25 hF
    exact absurd hF (by simp [fX10_tireFor_L59])
  | succ k ih =>
    intro x3 f_t_25 hF H locs ls hP hD hS hl
    rw [fX10_tireFor_L59] at hF
    refine lv_iload_n hx hb dX10_tireFor_59 rfl (lv_at hl 3 rfl) ?_
    refine lv_aload_n hx hb dX10_tireFor_60 rfl (lv_at hl 0 rfl) ?_
    refine va_get (D := g.1) (ci := 10) (v := .ref (p_t 15)) (C := RX10) (T := TX10) (N := 35) hx hb hts iX10_tireFor_X10 hown hK.1 hP 0 rfl rfl 15 (by decide) (hts _ kX10_tireFor_20) (fun _ h9 => h9) rfl dX10_tireFor_61 ?_
    refine lv_iconst (v := (3 : Int32)) hx hb dX10_tireFor_64 (by decide) ?_
    refine va_iald_k (j := 3) hx hb hK.1 hP 1 0 rfl rfl (by unfold vp_in; decide) rfl dX10_tireFor_65 ?_
    refine lv_icmp_ge (tgt := 100) hx hb dX10_tireFor_66 (by decide) (fun c_10 => ?_) (fun c_10 => ?_)
    · have hF := it_p c_10 hF
      exact hKx f_t_25 _ _ _ hF (hP.sub [0, 1, 2, 3] rfl) (hD.sub [0, 1, 2, 3] rfl rfl) hS (lv_sub hl [0, 1, 2] rfl)
    · have hF := it_n c_10 hF
      refine lv_aload_n hx hb dX10_tireFor_69 rfl (lv_at hl 0 rfl) ?_
      refine va_get (D := g.1) (ci := 10) (v := .ref (p_t 25)) (C := RX10) (T := TX10) (N := 35) hx hb hts iX10_tireFor_X10 hown hK.1 hP 0 rfl rfl 25 (by decide) (hts _ kX10_tireFor_35) (fun _ h9 => h9) rfl dX10_tireFor_70 ?_
      refine lv_iload_n hx hb dX10_tireFor_73 rfl (lv_at hl 3 rfl) ?_
      refine lv_dup2_11 hx hb dX10_tireFor_74 rfl rfl ?_
      obtain ⟨h_11, hF⟩ := it_ck hF
      refine va_iald hx hb hK.1 hP 3 0 rfl rfl h_11 dX10_tireFor_75 ?_
      refine lv_aload_n hx hb dX10_tireFor_76 rfl (lv_at hl 0 rfl) ?_
      refine va_get (D := g.1) (ci := 10) (v := .ref (p_t 25)) (C := RX10) (T := TX10) (N := 35) hx hb hts iX10_tireFor_X10 hown hK.1 hP 0 rfl rfl 25 (by decide) (hts _ kX10_tireFor_35) (fun _ h9 => h9) rfl dX10_tireFor_77 ?_
      refine lv_iload_n hx hb dX10_tireFor_80 rfl (lv_at hl 3 rfl) ?_
      obtain ⟨u_12, hu_13, hF⟩ := ob1_some hF
      refine call_si (wr := [oX10 a_t p_t o_t, aI g (p_t 15) 266 f_t_15, aI g (p_t 17) 17 f_t_17]) (As := [.ref (p_t 25), .int x3]) (rest := [.int (f_t_25 (x3).toNatClampNeg), .int x3, .ref (p_t 25)]) C0 (mX10_isIn l g (p_t 25) n x3 f_t_25 u_12 hu_13) (va_cwS 2 hts gX10_tireFor_X10_isIn rfl rfl rfl (by decide +kernel) ⟨Nat.le_of_ble_eq_true rfl, Nat.le_of_ble_eq_true rfl⟩) hP hD hS [3] [0, 1, 2] rfl rfl rfl rfl rfl (by decide) hl.1 rfl rfl (Nat.le_of_ble_eq_true rfl) ⟨Nat.zero_le _, Nat.zero_le _⟩ dX10_tireFor_81 ?_
      intro H locs hP hD hS
      refine lv_if_eq (tgt := 91) hx hb dX10_tireFor_84 (by decide) (fun c_14 => ?_) (fun c_14 => ?_)
      · have hF := it_p c_14 hF
        refine lv_iconst (v := (0 : Int32)) hx hb dX10_tireFor_91 (by decide) ?_
        refine lv_isub hx hb dX10_tireFor_92 ?_
        obtain ⟨h_15, hF⟩ := it_ck hF
        refine va_iast hx hb hK.1 hP hD hS 3 0 rfl rfl h_15 dX10_tireFor_93 (fun H locs hP hD hS => ?_)
        have hP : va_P g.1 vwCl [oX10 a_t p_t o_t, aI g (p_t 15) 266 f_t_15, aI g (p_t 17) 17 f_t_17, aI g (p_t 25) 17 (upd f_t_25 (x3).toNatClampNeg ((f_t_25 (x3).toNatClampNeg) - (0 : Int32)))] H := hP
        have hD : va_D A [oX10 a_t p_t o_t, aI g (p_t 15) 266 f_t_15, aI g (p_t 17) 17 f_t_17, aI g (p_t 25) 17 (upd f_t_25 (x3).toNatClampNeg ((f_t_25 (x3).toNatClampNeg) - (0 : Int32)))] := hD
        refine lv_iinc (v := (x3 + (1 : Int32))) (lv' := [(3, .int (x3 + (1 : Int32))), (0, .ref a_t), (1, .int x1), (2, .int x2)]) hx hb dX10_tireFor_94 hl (k := 3) rfl rfl (by decide) rfl (fun ls hl => ?_)
        refine lv_goto (tgt := 59) hx hb dX10_tireFor_97 (by decide) ?_
        exact ih (x3 + (1 : Int32)) (upd f_t_25 (x3).toNatClampNeg ((f_t_25 (x3).toNatClampNeg) - (0 : Int32))) hF _ _ _ (hP.sub [0, 1, 2, 3] rfl) (hD.sub [0, 1, 2, 3] rfl rfl) hS (lv_sub hl [1, 2, 3, 0] rfl)
      · have hF := it_n c_14 hF
        refine lv_iload_n hx hb dX10_tireFor_87 rfl (lv_at hl 2 rfl) ?_
        refine lv_goto (tgt := 92) hx hb dX10_tireFor_88 (by decide) ?_
        refine lv_isub hx hb dX10_tireFor_92 ?_
        obtain ⟨h_16, hF⟩ := it_ck hF
        refine va_iast hx hb hK.1 hP hD hS 3 0 rfl rfl h_16 dX10_tireFor_93 (fun H locs hP hD hS => ?_)
        have hP : va_P g.1 vwCl [oX10 a_t p_t o_t, aI g (p_t 15) 266 f_t_15, aI g (p_t 17) 17 f_t_17, aI g (p_t 25) 17 (upd f_t_25 (x3).toNatClampNeg ((f_t_25 (x3).toNatClampNeg) - x2))] H := hP
        have hD : va_D A [oX10 a_t p_t o_t, aI g (p_t 15) 266 f_t_15, aI g (p_t 17) 17 f_t_17, aI g (p_t 25) 17 (upd f_t_25 (x3).toNatClampNeg ((f_t_25 (x3).toNatClampNeg) - x2))] := hD
        refine lv_iinc (v := (x3 + (1 : Int32))) (lv' := [(3, .int (x3 + (1 : Int32))), (0, .ref a_t), (1, .int x1), (2, .int x2)]) hx hb dX10_tireFor_94 hl (k := 3) rfl rfl (by decide) rfl (fun ls hl => ?_)
        refine lv_goto (tgt := 59) hx hb dX10_tireFor_97 (by decide) ?_
        exact ih (x3 + (1 : Int32)) (upd f_t_25 (x3).toNatClampNeg ((f_t_25 (x3).toNatClampNeg) - x2)) hF _ _ _ (hP.sub [0, 1, 2, 3] rfl) (hD.sub [0, 1, 2, 3] rfl rfl) hS (lv_sub hl [1, 2, 3, 0] rfl)
set_option maxHeartbeats 4000000 in
set_option maxRecDepth 100000 in
theorem wX10_tireFor_L35 {p : Program} {l : Launch} {e : Env} {s : State} {m : MethodId} {args : Array Value} {below : List Frame} {meth : Method} {c : Code} {g : GG} {A : Nat → Prop} (C0 : Cx p s m args meth c cX10_tireFor 4 (some .int) RX10 wsX10_tireFor g A) (a_t : Nat) (p_t : Nat → Nat) (n : Nat) (x1 : Int32) (f_t_15 : Nat → Int32) (f_t_17 : Nat → Int32)  (r : Int32) (o_t' : Nat → Int32) (f_t_25' : Nat → Int32) (K : (Nat → Int32) → (Nat → Int32) → Option (Int32 × (Nat → Int32) × (Nat → Int32))) (hKx : ∀ (o_t : Nat → Int32) (f_t_25 : Nat → Int32) (H : Heap) (locs : List Loc) (ls : Array Slot), K o_t f_t_25 = some (r, o_t', f_t_25') → va_P g.1 vwCl [oX10 a_t p_t o_t, aI g (p_t 15) 266 f_t_15, aI g (p_t 17) 17 f_t_17, aI g (p_t 25) 17 f_t_25] H → va_D A [oX10 a_t p_t o_t, aI g (p_t 15) 266 f_t_15, aI g (p_t 17) 17 f_t_17, aI g (p_t 25) 17 f_t_25] → va_S A s.heap H locs → lv_has ls 4 [] → W p l e ({ frames := 5, cells := 0, slots := 0, locals := 116 } : Room) s m args below meth c H locs 0 0 (MQ below (EndI g r [oX10 a_t p_t o_t', aI g (p_t 15) 266 f_t_15, aI g (p_t 17) 17 f_t_17, aI g (p_t 25) 17 f_t_25'] A) args s 0 0 A) (F0 m 125 ls [])) : ∀ (k : Nat) (x2 : Int32) (o_t : Nat → Int32) (f_t_25 : Nat → Int32), fX10_tireFor_L35 n x1 f_t_15 f_t_17 K k x2 o_t f_t_25 = some (r, o_t', f_t_25') → ∀ (H : Heap) (locs : List Loc) (ls : Array Slot), va_P g.1 vwCl [oX10 a_t p_t o_t, aI g (p_t 15) 266 f_t_15, aI g (p_t 17) 17 f_t_17, aI g (p_t 25) 17 f_t_25] H → va_D A [oX10 a_t p_t o_t, aI g (p_t 15) 266 f_t_15, aI g (p_t 17) 17 f_t_17, aI g (p_t 25) 17 f_t_25] → va_S A s.heap H locs → lv_has ls 4 [(0, .ref a_t), (1, .int x1), (2, .int x2)] → W p l e ({ frames := 5, cells := 0, slots := 0, locals := 116 } : Room) s m args below meth c H locs 0 0 (MQ below (EndI g r [oX10 a_t p_t o_t', aI g (p_t 15) 266 f_t_15, aI g (p_t 17) 17 f_t_17, aI g (p_t 25) 17 f_t_25'] A) args s 0 0 A) (F0 m 35 ls []) := by
  obtain ⟨hx, hb, hml, hown, hts, hr, hlk, hK, hA, hSW⟩ := id C0
  intro k
  induction k with
  | zero =>
    intro x2 o_t f_t_25 hF
    exact absurd hF (by simp [fX10_tireFor_L35])
  | succ k ih =>
    intro x2 o_t f_t_25 hF H locs ls hP hD hS hl
    rw [fX10_tireFor_L35] at hF
    refine lv_iload_n hx hb dX10_tireFor_35 rfl (lv_at hl 2 rfl) ?_
    refine lv_sipush (v := (200 : Int32)) hx hb dX10_tireFor_36 (by decide) ?_
    refine lv_icmp_gt (tgt := 125) hx hb dX10_tireFor_39 (by decide) (fun c_7 => ?_) (fun c_7 => ?_)
    · have hF := it_p c_7 hF
      exact hKx o_t f_t_25 _ _ _ hF (hP.sub [0, 1, 2, 3] rfl) (hD.sub [0, 1, 2, 3] rfl rfl) hS (lv_sub hl [] rfl)
    · have hF := it_n c_7 hF
      refine lv_aload_n hx hb dX10_tireFor_42 rfl (lv_at hl 0 rfl) ?_
      refine va_get (D := g.1) (ci := 10) (v := .ref (p_t 17)) (C := RX10) (T := TX10) (N := 35) hx hb hts iX10_tireFor_X10 hown hK.1 hP 0 rfl rfl 17 (by decide) (hts _ kX10_tireFor_26) (fun _ h9 => h9) rfl dX10_tireFor_43 ?_
      refine lv_iconst (v := (0 : Int32)) hx hb dX10_tireFor_46 (by decide) ?_
      refine lv_aload_n hx hb dX10_tireFor_47 rfl (lv_at hl 0 rfl) ?_
      refine va_get (D := g.1) (ci := 10) (v := .ref (p_t 25)) (C := RX10) (T := TX10) (N := 35) hx hb hts iX10_tireFor_X10 hown hK.1 hP 0 rfl rfl 25 (by decide) (hts _ kX10_tireFor_35) (fun _ h9 => h9) rfl dX10_tireFor_48 ?_
      refine lv_iconst (v := (0 : Int32)) hx hb dX10_tireFor_51 (by decide) ?_
      refine lv_bipush (v := (17 : Int32)) hx hb dX10_tireFor_52 (by decide) ?_
      obtain ⟨u_8, hu_9, hF⟩ := ob1_some hF
      refine call_sv (wr := [oX10 a_t p_t o_t, aI g (p_t 15) 266 f_t_15]) (As := [.ref (p_t 17), .int (0 : Int32), .ref (p_t 25), .int (0 : Int32), .int (17 : Int32)]) (rest := []) C0 (mX10_copy l g (p_t 17) (p_t 25) n (0 : Int32) (0 : Int32) (17 : Int32) 17 17 f_t_17 f_t_25 u_8 hu_9) (va_cwS 5 hts gX10_tireFor_X10_copy rfl rfl rfl (by decide +kernel) ⟨Nat.le_of_ble_eq_true rfl, Nat.le_of_ble_eq_true rfl⟩) hP hD hS [2, 3] [0, 1] rfl rfl rfl rfl rfl (by decide) hl.1 rfl rfl (Nat.le_of_ble_eq_true rfl) ⟨Nat.zero_le _, Nat.zero_le _⟩ dX10_tireFor_54 ?_
      intro H locs hP hD hS
      refine lv_iconst (v := (0 : Int32)) hx hb dX10_tireFor_57 (by decide) ?_
      refine lv_istore_n (lv' := [(3, .int (0 : Int32)), (0, .ref a_t), (1, .int x1), (2, .int x2)]) hx hb dX10_tireFor_58 rfl hl (by decide) rfl (fun ls hl => ?_)
      refine wX10_tireFor_L59 C0 a_t p_t n x1 x2 o_t f_t_15 f_t_17 r o_t' f_t_25' _ ?_ n (0 : Int32) u_8 hF _ _ _ (hP.sub [0, 1, 2, 3] rfl) (hD.sub [0, 1, 2, 3] rfl rfl) hS (lv_sub hl [1, 2, 3, 0] rfl)
      · intro f_t_25_x59 H locs ls hF hP hD hS hl
        refine lv_aload_n hx hb dX10_tireFor_100 rfl (lv_at hl 0 rfl) ?_
        refine lv_aload_n hx hb dX10_tireFor_101 rfl (lv_at hl 0 rfl) ?_
        refine va_get (D := g.1) (ci := 10) (v := .ref (p_t 25)) (C := RX10) (T := TX10) (N := 35) hx hb hts iX10_tireFor_X10 hown hK.1 hP 0 rfl rfl 25 (by decide) (hts _ kX10_tireFor_35) (fun _ h9 => h9) rfl dX10_tireFor_102 ?_
        refine lv_iconst (v := (0 : Int32)) hx hb dX10_tireFor_105 (by decide) ?_
        obtain ⟨u_17, u_18, u_19, hu_20, hF⟩ := ob3_some hF
        refine call_i (wr := [aI g (p_t 17) 17 f_t_17]) (As := [.ref (p_t 25), .int (0 : Int32)]) (rest := []) (ci := 10) (q0 := 0) C0 (mX10_endsOn l g a_t (p_t 25) p_t n (0 : Int32) o_t f_t_15 f_t_25_x59 u_17 u_18 u_19 hu_20) (cwV 2 hts gX10_tireFor_X10_endsOn rfl rfl rfl (by decide +kernel) ⟨Nat.le_of_ble_eq_true rfl, Nat.le_of_ble_eq_true rfl⟩) hP hD hS [0, 1, 3] [2] rfl rfl rfl rfl rfl (by decide) rfl rfl hl.1 rfl rfl (Nat.le_of_ble_eq_true rfl) ⟨Nat.zero_le _, Nat.zero_le _⟩ dX10_tireFor_106 ?_
        intro H locs hP hD hS
        refine lv_iconst (v := (0 : Int32)) hx hb dX10_tireFor_109 (by decide) ?_
        refine lv_iload_n hx hb dX10_tireFor_110 rfl (lv_at hl 1 rfl) ?_
        obtain ⟨u_21, hu_22, hF⟩ := ob1_some hF
        refine call_si (wr := [aI g (p_t 17) 17 f_t_17, oX10 a_t p_t u_18, aI g (p_t 15) 266 f_t_15, aI g (p_t 25) 17 u_19]) (As := [.int u_17, .int (0 : Int32), .int x1]) (rest := []) C0 (mX10_in l g n u_17 (0 : Int32) x1 u_21 hu_22) (va_cwS 3 hts gX10_tireFor_X10_in rfl rfl rfl (by decide +kernel) ⟨Nat.le_of_ble_eq_true rfl, Nat.le_of_ble_eq_true rfl⟩) hP hD hS [] [0, 1, 2, 3] rfl rfl rfl rfl rfl (by decide) hl.1 rfl rfl (Nat.le_of_ble_eq_true rfl) ⟨Nat.zero_le _, Nat.zero_le _⟩ dX10_tireFor_111 ?_
        intro H locs hP hD hS
        refine lv_if_eq (tgt := 119) hx hb dX10_tireFor_114 (by decide) (fun c_23 => ?_) (fun c_23 => ?_)
        · have hF := it_p c_23 hF
          refine lv_iinc (v := (x2 + (1 : Int32))) (lv' := [(2, .int (x2 + (1 : Int32))), (0, .ref a_t), (1, .int x1)]) hx hb dX10_tireFor_119 hl (k := 2) rfl rfl (by decide) rfl (fun ls hl => ?_)
          refine lv_goto (tgt := 35) hx hb dX10_tireFor_122 (by decide) ?_
          exact ih (x2 + (1 : Int32)) u_18 u_19 hF _ _ _ (hP.sub [1, 2, 0, 3] rfl) (hD.sub [1, 2, 0, 3] rfl rfl) hS (lv_sub hl [1, 2, 0] rfl)
        · have hF := it_n c_23 hF
          refine lv_iload_n hx hb dX10_tireFor_117 rfl (lv_at hl 2 rfl) ?_
          cases hF
          exact ret_i C0 hP hD hS [1, 2, 0, 3] rfl rfl rfl dX10_tireFor_118 rfl
set_option maxHeartbeats 4000000 in
set_option maxRecDepth 100000 in
theorem mX10_tireFor (l : Launch) (g : GG) (a_t : Nat) (p_t : Nat → Nat) (n : Nat) (x1 : Int32) (o_t : Nat → Int32) (f_t_15 : Nat → Int32) (f_t_17 : Nat → Int32) (f_t_25 : Nat → Int32) (r : Int32) (o_t' : Nat → Int32) (f_t_25' : Nat → Int32) (hF : fX10_tireFor n x1 o_t f_t_15 f_t_17 f_t_25 = some (r, o_t', f_t_25')) : MI l g yX10_tireFor wsX10_tireFor ({ frames := 5, cells := 0, slots := 0, locals := 116 } : Room) [.ref a_t, .int x1] [oX10 a_t p_t o_t, aI g (p_t 15) 266 f_t_15, aI g (p_t 17) 17 f_t_17, aI g (p_t 25) 17 f_t_25] r [oX10 a_t p_t o_t', aI g (p_t 15) 266 f_t_15, aI g (p_t 17) 17 f_t_17, aI g (p_t 25) 17 f_t_25'] := by
  refine MI.of (cc := cX10_tireFor) (maxL := 4) (rt := .int) (own := RX10) rfl rfl (by decide) (Nat.le_of_ble_eq_true rfl) ?_
  intro p e s m args below meth c A C0 hP hD hS ls hl
  obtain ⟨hx, hb, hml, hown, hts, hr, hlk, hK, hA, hSW⟩ := id C0
  have hl : lv_has ls 4 [(0, .ref a_t), (1, .int x1)] := hl
  rw [fX10_tireFor] at hF
  refine lv_aload_n hx hb dX10_tireFor_0 rfl (lv_at hl 0 rfl) ?_
  obtain ⟨u_1, hu_2, hF⟩ := ob1_some hF
  refine call_v (wr := [aI g (p_t 15) 266 f_t_15, aI g (p_t 17) 17 f_t_17, aI g (p_t 25) 17 f_t_25]) (As := []) (rest := []) (ci := 10) (q0 := 0) C0 (mX10_good l g a_t p_t n o_t u_1 hu_2) (cwV 0 hts gX10_tireFor_X10_good rfl rfl rfl (by decide +kernel) ⟨Nat.le_of_ble_eq_true rfl, Nat.le_of_ble_eq_true rfl⟩) hP hD hS [0] [1, 2, 3] rfl rfl rfl rfl rfl (by decide) rfl rfl hl.1 rfl rfl (Nat.le_of_ble_eq_true rfl) ⟨Nat.zero_le _, Nat.zero_le _⟩ dX10_tireFor_1 ?_
  intro H locs hP hD hS
  refine lv_aload_n hx hb dX10_tireFor_4 rfl (lv_at hl 0 rfl) ?_
  refine va_get (D := g.1) (ci := 10) (v := .int (u_1 14)) (C := RX10) (T := TX10) (N := 35) hx hb hts iX10_tireFor_X10 hown hK.1 hP 3 rfl rfl 14 (by decide) (hts _ kX10_tireFor_176) (fun _ h9 => h9) rfl dX10_tireFor_5 ?_
  refine lv_if_ne (tgt := 17) hx hb dX10_tireFor_8 (by decide) (fun c_3 => ?_) (fun c_3 => ?_)
  · have hF := it_n c_3 hF
    refine lv_iload_n hx hb dX10_tireFor_17 rfl (lv_at hl 1 rfl) ?_
    refine lv_iconst (v := (0 : Int32)) hx hb dX10_tireFor_18 (by decide) ?_
    refine lv_bipush (v := (60 : Int32)) hx hb dX10_tireFor_19 (by decide) ?_
    obtain ⟨u_4, hu_5, hF⟩ := ob1_some hF
    refine call_si (wr := [aI g (p_t 15) 266 f_t_15, aI g (p_t 17) 17 f_t_17, aI g (p_t 25) 17 f_t_25, oX10 a_t p_t u_1]) (As := [.int x1, .int (0 : Int32), .int (60 : Int32)]) (rest := []) C0 (mX10_in l g n x1 (0 : Int32) (60 : Int32) u_4 hu_5) (va_cwS 3 hts gX10_tireFor_X10_in rfl rfl rfl (by decide +kernel) ⟨Nat.le_of_ble_eq_true rfl, Nat.le_of_ble_eq_true rfl⟩) hP hD hS [] [0, 1, 2, 3] rfl rfl rfl rfl rfl (by decide) hl.1 rfl rfl (Nat.le_of_ble_eq_true rfl) ⟨Nat.zero_le _, Nat.zero_le _⟩ dX10_tireFor_21 ?_
    intro H locs hP hD hS
    refine lv_if_ne (tgt := 33) hx hb dX10_tireFor_24 (by decide) (fun c_6 => ?_) (fun c_6 => ?_)
    · have hF := it_n c_6 hF
      refine lv_iconst (v := (0 : Int32)) hx hb dX10_tireFor_33 (by decide) ?_
      refine lv_istore_n (lv' := [(2, .int (0 : Int32)), (0, .ref a_t), (1, .int x1)]) hx hb dX10_tireFor_34 rfl hl (by decide) rfl (fun ls hl => ?_)
      refine wX10_tireFor_L35 C0 a_t p_t n x1 f_t_15 f_t_17 r o_t' f_t_25' _ ?_ n (0 : Int32) u_1 f_t_25 hF _ _ _ (hP.sub [3, 0, 1, 2] rfl) (hD.sub [3, 0, 1, 2] rfl rfl) hS (lv_sub hl [1, 2, 0] rfl)
      · intro o_t_x35 f_t_25_x35 H locs ls hF hP hD hS hl
        refine lv_bipush (v := (-2 : Int32)) hx hb dX10_tireFor_125 (by decide) ?_
        cases hF
        exact ret_i C0 hP hD hS [0, 1, 2, 3] rfl rfl rfl dX10_tireFor_127 rfl
    · have hF := it_p c_6 hF
      refine lv_aload_n hx hb dX10_tireFor_27 rfl (lv_at hl 0 rfl) ?_
      refine lv_iconst (v := (2 : Int32)) hx hb dX10_tireFor_28 (by decide) ?_
      obtain ⟨u_24, u_25, hu_26, hF⟩ := ob2_some hF
      refine call_i (wr := [aI g (p_t 15) 266 f_t_15, aI g (p_t 17) 17 f_t_17, aI g (p_t 25) 17 f_t_25]) (As := [.int (2 : Int32)]) (rest := []) (ci := 10) (q0 := 0) C0 (mX10_no l g a_t p_t n (2 : Int32) u_1 u_24 u_25 hu_26) (cwV 1 hts gX10_tireFor_X10_no rfl rfl rfl (by decide +kernel) ⟨Nat.le_of_ble_eq_true rfl, Nat.le_of_ble_eq_true rfl⟩) hP hD hS [3] [0, 1, 2] rfl rfl rfl rfl rfl (by decide) rfl rfl hl.1 rfl rfl (Nat.le_of_ble_eq_true rfl) ⟨Nat.zero_le _, Nat.zero_le _⟩ dX10_tireFor_29 ?_
      intro H locs hP hD hS
      cases hF
      exact ret_i C0 hP hD hS [3, 0, 1, 2] rfl rfl rfl dX10_tireFor_32 rfl
  · have hF := it_p c_3 hF
    refine lv_aload_n hx hb dX10_tireFor_11 rfl (lv_at hl 0 rfl) ?_
    refine lv_iconst (v := (1 : Int32)) hx hb dX10_tireFor_12 (by decide) ?_
    obtain ⟨u_27, u_28, hu_29, hF⟩ := ob2_some hF
    refine call_i (wr := [aI g (p_t 15) 266 f_t_15, aI g (p_t 17) 17 f_t_17, aI g (p_t 25) 17 f_t_25]) (As := [.int (1 : Int32)]) (rest := []) (ci := 10) (q0 := 0) C0 (mX10_no l g a_t p_t n (1 : Int32) u_1 u_27 u_28 hu_29) (cwV 1 hts gX10_tireFor_X10_no rfl rfl rfl (by decide +kernel) ⟨Nat.le_of_ble_eq_true rfl, Nat.le_of_ble_eq_true rfl⟩) hP hD hS [3] [0, 1, 2] rfl rfl rfl rfl rfl (by decide) rfl rfl hl.1 rfl rfl (Nat.le_of_ble_eq_true rfl) ⟨Nat.zero_le _, Nat.zero_le _⟩ dX10_tireFor_13 ?_
    intro H locs hP hD hS
    cases hF
    exact ret_i C0 hP hD hS [3, 0, 1, 2] rfl rfl rfl dX10_tireFor_16 rfl

theorem dAX10_endsIf : ∀ q ∈ ([(0, (.aload_n 0, 1)), (1, (.getfield 26, 3)), (4, (.iconst 0, 1)), (5, (.aload_n 0, 1)), (6, (.getfield 35, 3)), (9, (.iconst 0, 1)), (10, (.bipush 17, 2)), (12, (.invokestatic 168, 3)), (15, (.iload_n 1, 1)), (16, (.ifCond .eq 13, 3)), (19, (.aload_n 0, 1)), (20, (.aload_n 0, 1)), (21, (.getfield 35, 3)), (24, (.iload_n 1, 1)), (25, (.invokevirtual 315, 3)), (28, (.pop, 1)), (29, (.aload_n 0, 1)), (30, (.aload_n 0, 1)), (31, (.getfield 35, 3)), (34, (.iconst 0, 1)), (35, (.invokevirtual 296, 3)), (38, (.ireturn, 1))] : List (Nat × (Instr × Nat))), decode cX10_endsIf q.1 = .ok q.2 := by decide +kernel
theorem dX10_endsIf_0 : decode cX10_endsIf 0 = .ok (.aload_n 0, 1) := dAX10_endsIf (0, (.aload_n 0, 1)) (List.mem_of_getElem? (i := 0) rfl)
theorem dX10_endsIf_1 : decode cX10_endsIf 1 = .ok (.getfield 26, 3) := dAX10_endsIf (1, (.getfield 26, 3)) (List.mem_of_getElem? (i := 1) rfl)
theorem dX10_endsIf_4 : decode cX10_endsIf 4 = .ok (.iconst 0, 1) := dAX10_endsIf (4, (.iconst 0, 1)) (List.mem_of_getElem? (i := 2) rfl)
theorem dX10_endsIf_5 : decode cX10_endsIf 5 = .ok (.aload_n 0, 1) := dAX10_endsIf (5, (.aload_n 0, 1)) (List.mem_of_getElem? (i := 3) rfl)
theorem dX10_endsIf_6 : decode cX10_endsIf 6 = .ok (.getfield 35, 3) := dAX10_endsIf (6, (.getfield 35, 3)) (List.mem_of_getElem? (i := 4) rfl)
theorem dX10_endsIf_9 : decode cX10_endsIf 9 = .ok (.iconst 0, 1) := dAX10_endsIf (9, (.iconst 0, 1)) (List.mem_of_getElem? (i := 5) rfl)
theorem dX10_endsIf_10 : decode cX10_endsIf 10 = .ok (.bipush 17, 2) := dAX10_endsIf (10, (.bipush 17, 2)) (List.mem_of_getElem? (i := 6) rfl)
theorem dX10_endsIf_12 : decode cX10_endsIf 12 = .ok (.invokestatic 168, 3) := dAX10_endsIf (12, (.invokestatic 168, 3)) (List.mem_of_getElem? (i := 7) rfl)
theorem dX10_endsIf_15 : decode cX10_endsIf 15 = .ok (.iload_n 1, 1) := dAX10_endsIf (15, (.iload_n 1, 1)) (List.mem_of_getElem? (i := 8) rfl)
theorem dX10_endsIf_16 : decode cX10_endsIf 16 = .ok (.ifCond .eq 13, 3) := dAX10_endsIf (16, (.ifCond .eq 13, 3)) (List.mem_of_getElem? (i := 9) rfl)
theorem dX10_endsIf_19 : decode cX10_endsIf 19 = .ok (.aload_n 0, 1) := dAX10_endsIf (19, (.aload_n 0, 1)) (List.mem_of_getElem? (i := 10) rfl)
theorem dX10_endsIf_20 : decode cX10_endsIf 20 = .ok (.aload_n 0, 1) := dAX10_endsIf (20, (.aload_n 0, 1)) (List.mem_of_getElem? (i := 11) rfl)
theorem dX10_endsIf_21 : decode cX10_endsIf 21 = .ok (.getfield 35, 3) := dAX10_endsIf (21, (.getfield 35, 3)) (List.mem_of_getElem? (i := 12) rfl)
theorem dX10_endsIf_24 : decode cX10_endsIf 24 = .ok (.iload_n 1, 1) := dAX10_endsIf (24, (.iload_n 1, 1)) (List.mem_of_getElem? (i := 13) rfl)
theorem dX10_endsIf_25 : decode cX10_endsIf 25 = .ok (.invokevirtual 315, 3) := dAX10_endsIf (25, (.invokevirtual 315, 3)) (List.mem_of_getElem? (i := 14) rfl)
theorem dX10_endsIf_28 : decode cX10_endsIf 28 = .ok (.pop, 1) := dAX10_endsIf (28, (.pop, 1)) (List.mem_of_getElem? (i := 15) rfl)
theorem dX10_endsIf_29 : decode cX10_endsIf 29 = .ok (.aload_n 0, 1) := dAX10_endsIf (29, (.aload_n 0, 1)) (List.mem_of_getElem? (i := 16) rfl)
theorem dX10_endsIf_30 : decode cX10_endsIf 30 = .ok (.aload_n 0, 1) := dAX10_endsIf (30, (.aload_n 0, 1)) (List.mem_of_getElem? (i := 17) rfl)
theorem dX10_endsIf_31 : decode cX10_endsIf 31 = .ok (.getfield 35, 3) := dAX10_endsIf (31, (.getfield 35, 3)) (List.mem_of_getElem? (i := 18) rfl)
theorem dX10_endsIf_34 : decode cX10_endsIf 34 = .ok (.iconst 0, 1) := dAX10_endsIf (34, (.iconst 0, 1)) (List.mem_of_getElem? (i := 19) rfl)
theorem dX10_endsIf_35 : decode cX10_endsIf 35 = .ok (.invokevirtual 296, 3) := dAX10_endsIf (35, (.invokevirtual 296, 3)) (List.mem_of_getElem? (i := 20) rfl)
theorem dX10_endsIf_38 : decode cX10_endsIf 38 = .ok (.ireturn, 1) := dAX10_endsIf (38, (.ireturn, 1)) (List.mem_of_getElem? (i := 21) rfl)
set_option maxRecDepth 20000 in
theorem ggX10_endsIf_X10_copy : GoodIn wsX10_endsIf wsX10_copy := goodIn_r _ [6] rfl (by decide +kernel)
set_option maxRecDepth 20000 in
theorem gX10_endsIf_X10_copy : GoodIn wsX10_endsIf (va_wsS RX10 168 yX10_copy wsX10_copy) := goodIn_app (goodIn_of _ (by decide +kernel)) ggX10_endsIf_X10_copy
set_option maxRecDepth 20000 in
theorem ggX10_endsIf_X10_sends : GoodIn wsX10_endsIf wsX10_sends := goodIn_r _ [10, 11, 12, 13, 5, 14, 15, 16, 17, 18, 19, 20, 21, 22, 23, 24, 25, 26, 27, 28, 29, 30, 31, 32, 33, 34, 35, 36, 37, 38, 62, 63, 64, 65, 66, 67, 68, 69, 70, 71, 72, 73, 74, 75, 76, 77, 78, 79, 80, 81, 82, 83, 84, 85, 86, 87, 88, 89, 90, 91, 92, 93, 94, 95, 96] rfl (by decide +kernel)
set_option maxRecDepth 20000 in
theorem gX10_endsIf_X10_sends : GoodIn wsX10_endsIf (wsV RX10 315 RX10 yX10_sends wsX10_sends) := goodIn_app (goodIn_of _ (by decide +kernel)) ggX10_endsIf_X10_sends
set_option maxRecDepth 20000 in
theorem ggX10_endsIf_X10_endsOn : GoodIn wsX10_endsIf wsX10_endsOn := goodIn_r _ [42, 43, 27, 28, 29, 5, 30, 15, 19, 20, 21, 44, 45, 46, 47, 48, 49, 50, 51, 52, 53, 35, 36, 37, 38, 54, 55, 56, 57, 22, 23, 24, 25, 26, 31, 32, 33, 34, 11, 12, 13, 14, 16, 17, 18, 58, 59, 60, 61, 62, 63, 64, 65, 66, 67, 68, 69, 70, 71, 72, 73, 74, 75, 76, 77, 78, 79, 80, 81, 82, 83, 84, 85, 86, 87, 88, 89, 90, 91, 92, 93, 94, 95, 96] rfl (by decide +kernel)
set_option maxRecDepth 20000 in
theorem gX10_endsIf_X10_endsOn : GoodIn wsX10_endsIf (wsV RX10 296 RX10 yX10_endsOn wsX10_endsOn) := goodIn_app (goodIn_of _ (by decide +kernel)) ggX10_endsIf_X10_endsOn
theorem kX10_endsIf_26 : Cond.fieldLink RX10 26 "EveningVowModel" "st" "[I" ∈ wsX10_endsIf := List.mem_of_getElem? (i := 1) rfl
theorem iX10_endsIf_X10 : ∀ w ∈ u_ws RX10 TX10 35, w ∈ wsX10_endsIf := fun w h => (List.mem_cons_of_mem _ (List.mem_append_right _ h))
theorem kX10_endsIf_35 : Cond.fieldLink RX10 35 "EveningVowModel" "trial" "[I" ∈ wsX10_endsIf := List.mem_of_getElem? (i := 2) rfl
set_option maxHeartbeats 4000000 in
set_option maxRecDepth 100000 in
theorem mX10_endsIf (l : Launch) (g : GG) (a_t : Nat) (p_t : Nat → Nat) (n : Nat) (x1 : Int32) (o_t : Nat → Int32) (f_t_15 : Nat → Int32) (f_t_17 : Nat → Int32) (f_t_25 : Nat → Int32) (r : Int32) (o_t' : Nat → Int32) (f_t_25' : Nat → Int32) (hF : fX10_endsIf n x1 o_t f_t_15 f_t_17 f_t_25 = some (r, o_t', f_t_25')) : MI l g yX10_endsIf wsX10_endsIf ({ frames := 5, cells := 0, slots := 0, locals := 116 } : Room) [.ref a_t, .int x1] [oX10 a_t p_t o_t, aI g (p_t 15) 266 f_t_15, aI g (p_t 17) 17 f_t_17, aI g (p_t 25) 17 f_t_25] r [oX10 a_t p_t o_t', aI g (p_t 15) 266 f_t_15, aI g (p_t 17) 17 f_t_17, aI g (p_t 25) 17 f_t_25'] := by
  refine MI.of (cc := cX10_endsIf) (maxL := 2) (rt := .int) (own := RX10) rfl rfl (by decide) (Nat.le_of_ble_eq_true rfl) ?_
  intro p e s m args below meth c A C0 hP hD hS ls hl
  obtain ⟨hx, hb, hml, hown, hts, hr, hlk, hK, hA, hSW⟩ := id C0
  have hl : lv_has ls 2 [(0, .ref a_t), (1, .int x1)] := hl
  rw [fX10_endsIf] at hF
  refine lv_aload_n hx hb dX10_endsIf_0 rfl (lv_at hl 0 rfl) ?_
  refine va_get (D := g.1) (ci := 10) (v := .ref (p_t 17)) (C := RX10) (T := TX10) (N := 35) hx hb hts iX10_endsIf_X10 hown hK.1 hP 0 rfl rfl 17 (by decide) (hts _ kX10_endsIf_26) (fun _ h9 => h9) rfl dX10_endsIf_1 ?_
  refine lv_iconst (v := (0 : Int32)) hx hb dX10_endsIf_4 (by decide) ?_
  refine lv_aload_n hx hb dX10_endsIf_5 rfl (lv_at hl 0 rfl) ?_
  refine va_get (D := g.1) (ci := 10) (v := .ref (p_t 25)) (C := RX10) (T := TX10) (N := 35) hx hb hts iX10_endsIf_X10 hown hK.1 hP 0 rfl rfl 25 (by decide) (hts _ kX10_endsIf_35) (fun _ h9 => h9) rfl dX10_endsIf_6 ?_
  refine lv_iconst (v := (0 : Int32)) hx hb dX10_endsIf_9 (by decide) ?_
  refine lv_bipush (v := (17 : Int32)) hx hb dX10_endsIf_10 (by decide) ?_
  obtain ⟨u_1, hu_2, hF⟩ := ob1_some hF
  refine call_sv (wr := [oX10 a_t p_t o_t, aI g (p_t 15) 266 f_t_15]) (As := [.ref (p_t 17), .int (0 : Int32), .ref (p_t 25), .int (0 : Int32), .int (17 : Int32)]) (rest := []) C0 (mX10_copy l g (p_t 17) (p_t 25) n (0 : Int32) (0 : Int32) (17 : Int32) 17 17 f_t_17 f_t_25 u_1 hu_2) (va_cwS 5 hts gX10_endsIf_X10_copy rfl rfl rfl (by decide +kernel) ⟨Nat.le_of_ble_eq_true rfl, Nat.le_of_ble_eq_true rfl⟩) hP hD hS [2, 3] [0, 1] rfl rfl rfl rfl rfl (by decide) hl.1 rfl rfl (Nat.le_of_ble_eq_true rfl) ⟨Nat.zero_le _, Nat.zero_le _⟩ dX10_endsIf_12 ?_
  intro H locs hP hD hS
  refine lv_iload_n hx hb dX10_endsIf_15 rfl (lv_at hl 1 rfl) ?_
  refine lv_if_eq (tgt := 29) hx hb dX10_endsIf_16 (by decide) (fun c_3 => ?_) (fun c_3 => ?_)
  · have hF := it_p c_3 hF
    refine lv_aload_n hx hb dX10_endsIf_29 rfl (lv_at hl 0 rfl) ?_
    refine lv_aload_n hx hb dX10_endsIf_30 rfl (lv_at hl 0 rfl) ?_
    refine va_get (D := g.1) (ci := 10) (v := .ref (p_t 25)) (C := RX10) (T := TX10) (N := 35) hx hb hts iX10_endsIf_X10 hown hK.1 hP 0 rfl rfl 25 (by decide) (hts _ kX10_endsIf_35) (fun _ h9 => h9) rfl dX10_endsIf_31 ?_
    refine lv_iconst (v := (0 : Int32)) hx hb dX10_endsIf_34 (by decide) ?_
    obtain ⟨u_4, u_5, u_6, hu_7, hF⟩ := ob3_some hF
    refine call_i (wr := [aI g (p_t 17) 17 f_t_17]) (As := [.ref (p_t 25), .int (0 : Int32)]) (rest := []) (ci := 10) (q0 := 0) C0 (mX10_endsOn l g a_t (p_t 25) p_t n (0 : Int32) o_t f_t_15 u_1 u_4 u_5 u_6 hu_7) (cwV 2 hts gX10_endsIf_X10_endsOn rfl rfl rfl (by decide +kernel) ⟨Nat.le_of_ble_eq_true rfl, Nat.le_of_ble_eq_true rfl⟩) hP hD hS [0, 1, 3] [2] rfl rfl rfl rfl rfl (by decide) rfl rfl hl.1 rfl rfl (Nat.le_of_ble_eq_true rfl) ⟨Nat.zero_le _, Nat.zero_le _⟩ dX10_endsIf_35 ?_
    intro H locs hP hD hS
    cases hF
    exact ret_i C0 hP hD hS [1, 2, 0, 3] rfl rfl rfl dX10_endsIf_38 rfl
  · have hF := it_n c_3 hF
    refine lv_aload_n hx hb dX10_endsIf_19 rfl (lv_at hl 0 rfl) ?_
    refine lv_aload_n hx hb dX10_endsIf_20 rfl (lv_at hl 0 rfl) ?_
    refine va_get (D := g.1) (ci := 10) (v := .ref (p_t 25)) (C := RX10) (T := TX10) (N := 35) hx hb hts iX10_endsIf_X10 hown hK.1 hP 0 rfl rfl 25 (by decide) (hts _ kX10_endsIf_35) (fun _ h9 => h9) rfl dX10_endsIf_21 ?_
    refine lv_iload_n hx hb dX10_endsIf_24 rfl (lv_at hl 1 rfl) ?_
    obtain ⟨u_8, u_9, u_10, hu_11, hF⟩ := ob3_some hF
    refine call_i (wr := [aI g (p_t 17) 17 f_t_17]) (As := [.ref (p_t 25), .int x1]) (rest := []) (ci := 10) (q0 := 0) C0 (mX10_sends l g a_t (p_t 25) p_t n x1 o_t f_t_15 u_1 u_8 u_9 u_10 hu_11) (cwV 2 hts gX10_endsIf_X10_sends rfl rfl rfl (by decide +kernel) ⟨Nat.le_of_ble_eq_true rfl, Nat.le_of_ble_eq_true rfl⟩) hP hD hS [0, 1, 3] [2] rfl rfl rfl rfl rfl (by decide) rfl rfl hl.1 rfl rfl (Nat.le_of_ble_eq_true rfl) ⟨Nat.zero_le _, Nat.zero_le _⟩ dX10_endsIf_25 ?_
    intro H locs hP hD hS
    refine lv_pop hx hb dX10_endsIf_28 rfl ?_
    refine lv_aload_n hx hb dX10_endsIf_29 rfl (lv_at hl 0 rfl) ?_
    refine lv_aload_n hx hb dX10_endsIf_30 rfl (lv_at hl 0 rfl) ?_
    refine va_get (D := g.1) (ci := 10) (v := .ref (p_t 25)) (C := RX10) (T := TX10) (N := 35) hx hb hts iX10_endsIf_X10 hown hK.1 hP 1 rfl rfl 25 (by decide) (hts _ kX10_endsIf_35) (fun _ h9 => h9) rfl dX10_endsIf_31 ?_
    refine lv_iconst (v := (0 : Int32)) hx hb dX10_endsIf_34 (by decide) ?_
    obtain ⟨u_12, u_13, u_14, hu_15, hF⟩ := ob3_some hF
    refine call_i (wr := [aI g (p_t 17) 17 f_t_17]) (As := [.ref (p_t 25), .int (0 : Int32)]) (rest := []) (ci := 10) (q0 := 0) C0 (mX10_endsOn l g a_t (p_t 25) p_t n (0 : Int32) u_9 f_t_15 u_10 u_12 u_13 u_14 hu_15) (cwV 2 hts gX10_endsIf_X10_endsOn rfl rfl rfl (by decide +kernel) ⟨Nat.le_of_ble_eq_true rfl, Nat.le_of_ble_eq_true rfl⟩) hP hD hS [1, 2, 3] [0] rfl rfl rfl rfl rfl (by decide) rfl rfl hl.1 rfl rfl (Nat.le_of_ble_eq_true rfl) ⟨Nat.zero_le _, Nat.zero_le _⟩ dX10_endsIf_35 ?_
    intro H locs hP hD hS
    cases hF
    exact ret_i C0 hP hD hS [1, 2, 0, 3] rfl rfl rfl dX10_endsIf_38 rfl

theorem dAX10_endsWithout : ∀ q ∈ ([(0, (.aload_n 0, 1)), (1, (.invokevirtual 159, 3)), (4, (.aload_n 0, 1)), (5, (.iload_n 1, 1)), (6, (.invokevirtual 312, 3)), (9, (.ifCond .eq 15, 3)), (12, (.aload_n 0, 1)), (13, (.aload_n 0, 1)), (14, (.iload_n 1, 1)), (15, (.invokevirtual 312, 3)), (18, (.invokevirtual 162, 3)), (21, (.goto 10, 3)), (24, (.aload_n 0, 1)), (25, (.iconst 1, 1)), (26, (.iload_n 1, 1)), (27, (.ishl, 1)), (28, (.invokevirtual 318, 3)), (31, (.ireturn, 1))] : List (Nat × (Instr × Nat))), decode cX10_endsWithout q.1 = .ok q.2 := by decide +kernel
theorem dX10_endsWithout_0 : decode cX10_endsWithout 0 = .ok (.aload_n 0, 1) := dAX10_endsWithout (0, (.aload_n 0, 1)) (List.mem_of_getElem? (i := 0) rfl)
theorem dX10_endsWithout_1 : decode cX10_endsWithout 1 = .ok (.invokevirtual 159, 3) := dAX10_endsWithout (1, (.invokevirtual 159, 3)) (List.mem_of_getElem? (i := 1) rfl)
theorem dX10_endsWithout_4 : decode cX10_endsWithout 4 = .ok (.aload_n 0, 1) := dAX10_endsWithout (4, (.aload_n 0, 1)) (List.mem_of_getElem? (i := 2) rfl)
theorem dX10_endsWithout_5 : decode cX10_endsWithout 5 = .ok (.iload_n 1, 1) := dAX10_endsWithout (5, (.iload_n 1, 1)) (List.mem_of_getElem? (i := 3) rfl)
theorem dX10_endsWithout_6 : decode cX10_endsWithout 6 = .ok (.invokevirtual 312, 3) := dAX10_endsWithout (6, (.invokevirtual 312, 3)) (List.mem_of_getElem? (i := 4) rfl)
theorem dX10_endsWithout_9 : decode cX10_endsWithout 9 = .ok (.ifCond .eq 15, 3) := dAX10_endsWithout (9, (.ifCond .eq 15, 3)) (List.mem_of_getElem? (i := 5) rfl)
theorem dX10_endsWithout_12 : decode cX10_endsWithout 12 = .ok (.aload_n 0, 1) := dAX10_endsWithout (12, (.aload_n 0, 1)) (List.mem_of_getElem? (i := 6) rfl)
theorem dX10_endsWithout_13 : decode cX10_endsWithout 13 = .ok (.aload_n 0, 1) := dAX10_endsWithout (13, (.aload_n 0, 1)) (List.mem_of_getElem? (i := 7) rfl)
theorem dX10_endsWithout_14 : decode cX10_endsWithout 14 = .ok (.iload_n 1, 1) := dAX10_endsWithout (14, (.iload_n 1, 1)) (List.mem_of_getElem? (i := 8) rfl)
theorem dX10_endsWithout_15 : decode cX10_endsWithout 15 = .ok (.invokevirtual 312, 3) := dAX10_endsWithout (15, (.invokevirtual 312, 3)) (List.mem_of_getElem? (i := 9) rfl)
theorem dX10_endsWithout_18 : decode cX10_endsWithout 18 = .ok (.invokevirtual 162, 3) := dAX10_endsWithout (18, (.invokevirtual 162, 3)) (List.mem_of_getElem? (i := 10) rfl)
theorem dX10_endsWithout_21 : decode cX10_endsWithout 21 = .ok (.goto 10, 3) := dAX10_endsWithout (21, (.goto 10, 3)) (List.mem_of_getElem? (i := 11) rfl)
theorem dX10_endsWithout_24 : decode cX10_endsWithout 24 = .ok (.aload_n 0, 1) := dAX10_endsWithout (24, (.aload_n 0, 1)) (List.mem_of_getElem? (i := 12) rfl)
theorem dX10_endsWithout_25 : decode cX10_endsWithout 25 = .ok (.iconst 1, 1) := dAX10_endsWithout (25, (.iconst 1, 1)) (List.mem_of_getElem? (i := 13) rfl)
theorem dX10_endsWithout_26 : decode cX10_endsWithout 26 = .ok (.iload_n 1, 1) := dAX10_endsWithout (26, (.iload_n 1, 1)) (List.mem_of_getElem? (i := 14) rfl)
theorem dX10_endsWithout_27 : decode cX10_endsWithout 27 = .ok (.ishl, 1) := dAX10_endsWithout (27, (.ishl, 1)) (List.mem_of_getElem? (i := 15) rfl)
theorem dX10_endsWithout_28 : decode cX10_endsWithout 28 = .ok (.invokevirtual 318, 3) := dAX10_endsWithout (28, (.invokevirtual 318, 3)) (List.mem_of_getElem? (i := 16) rfl)
theorem dX10_endsWithout_31 : decode cX10_endsWithout 31 = .ok (.ireturn, 1) := dAX10_endsWithout (31, (.ireturn, 1)) (List.mem_of_getElem? (i := 17) rfl)
set_option maxRecDepth 20000 in
theorem ggX10_endsWithout_X10_good : GoodIn wsX10_endsWithout wsX10_good := goodIn_r _ [5, 6, 7, 88, 89, 90, 91, 92, 93, 94, 95, 96, 97, 98, 99, 100, 101, 102, 103, 104, 105, 106, 107, 108, 109, 110, 111, 112, 113, 114, 115, 116, 117, 118, 119, 120, 121, 122] rfl (by decide +kernel)
set_option maxRecDepth 20000 in
theorem gX10_endsWithout_X10_good : GoodIn wsX10_endsWithout (wsV RX10 159 RX10 yX10_good wsX10_good) := goodIn_app (goodIn_of _ (by decide +kernel)) ggX10_endsWithout_X10_good
set_option maxRecDepth 20000 in
theorem ggX10_endsWithout_X10_thereWhy : GoodIn wsX10_endsWithout wsX10_thereWhy := goodIn_r _ [11, 12, 13, 14, 15, 4, 16, 17, 18, 19, 20, 21, 22, 23, 24, 88, 89, 90, 91, 92, 93, 94, 95, 96, 97, 98, 99, 100, 101, 102, 103, 104, 105, 106, 107, 108, 109, 110, 111, 112, 113, 114, 115, 116, 117, 118, 119, 120, 121, 122] rfl (by decide +kernel)
set_option maxRecDepth 20000 in
theorem gX10_endsWithout_X10_thereWhy : GoodIn wsX10_endsWithout (wsV RX10 312 RX10 yX10_thereWhy wsX10_thereWhy) := goodIn_app (goodIn_of _ (by decide +kernel)) ggX10_endsWithout_X10_thereWhy
set_option maxRecDepth 20000 in
theorem ggX10_endsWithout_X10_no : GoodIn wsX10_endsWithout wsX10_no := goodIn_r _ [28, 7, 88, 89, 90, 91, 92, 93, 94, 95, 96, 97, 98, 99, 100, 101, 102, 103, 104, 105, 106, 107, 108, 109, 110, 111, 112, 113, 114, 115, 116, 117, 118, 119, 120, 121, 122] rfl (by decide +kernel)
set_option maxRecDepth 20000 in
theorem gX10_endsWithout_X10_no : GoodIn wsX10_endsWithout (wsV RX10 162 RX10 yX10_no wsX10_no) := goodIn_app (goodIn_of _ (by decide +kernel)) ggX10_endsWithout_X10_no
set_option maxRecDepth 20000 in
theorem ggX10_endsWithout_X10_endsIf : GoodIn wsX10_endsWithout wsX10_endsIf := goodIn_r _ [32, 12, 33, 34, 35, 4, 36, 37, 38, 39, 40, 41, 42, 43, 44, 18, 45, 46, 47, 22, 23, 24, 48, 49, 50, 51, 52, 53, 54, 55, 56, 57, 58, 59, 60, 61, 62, 63, 64, 65, 66, 67, 68, 69, 70, 71, 72, 73, 74, 75, 76, 77, 78, 79, 80, 81, 82, 83, 84, 85, 86, 87, 88, 89, 90, 91, 92, 93, 94, 95, 96, 97, 98, 99, 100, 101, 102, 103, 104, 105, 106, 107, 108, 109, 110, 111, 112, 113, 114, 115, 116, 117, 118, 119, 120, 121, 122] rfl (by decide +kernel)
set_option maxRecDepth 20000 in
theorem gX10_endsWithout_X10_endsIf : GoodIn wsX10_endsWithout (wsV RX10 318 RX10 yX10_endsIf wsX10_endsIf) := goodIn_app (goodIn_of _ (by decide +kernel)) ggX10_endsWithout_X10_endsIf
set_option maxHeartbeats 4000000 in
set_option maxRecDepth 100000 in
theorem mX10_endsWithout (l : Launch) (g : GG) (a_t : Nat) (p_t : Nat → Nat) (n : Nat) (x1 : Int32) (o_t : Nat → Int32) (f_t_15 : Nat → Int32) (f_t_17 : Nat → Int32) (f_t_25 : Nat → Int32) (r : Int32) (o_t' : Nat → Int32) (f_t_25' : Nat → Int32) (hF : fX10_endsWithout n x1 o_t f_t_15 f_t_17 f_t_25 = some (r, o_t', f_t_25')) : MI l g yX10_endsWithout wsX10_endsWithout ({ frames := 6, cells := 0, slots := 0, locals := 137 } : Room) [.ref a_t, .int x1] [oX10 a_t p_t o_t, aI g (p_t 15) 266 f_t_15, aI g (p_t 17) 17 f_t_17, aI g (p_t 25) 17 f_t_25] r [oX10 a_t p_t o_t', aI g (p_t 15) 266 f_t_15, aI g (p_t 17) 17 f_t_17, aI g (p_t 25) 17 f_t_25'] := by
  refine MI.of (cc := cX10_endsWithout) (maxL := 2) (rt := .int) (own := RX10) rfl rfl (by decide) (Nat.le_of_ble_eq_true rfl) ?_
  intro p e s m args below meth c A C0 hP hD hS ls hl
  obtain ⟨hx, hb, hml, hown, hts, hr, hlk, hK, hA, hSW⟩ := id C0
  have hl : lv_has ls 2 [(0, .ref a_t), (1, .int x1)] := hl
  rw [fX10_endsWithout] at hF
  refine lv_aload_n hx hb dX10_endsWithout_0 rfl (lv_at hl 0 rfl) ?_
  obtain ⟨u_1, hu_2, hF⟩ := ob1_some hF
  refine call_v (wr := [aI g (p_t 15) 266 f_t_15, aI g (p_t 17) 17 f_t_17, aI g (p_t 25) 17 f_t_25]) (As := []) (rest := []) (ci := 10) (q0 := 0) C0 (mX10_good l g a_t p_t n o_t u_1 hu_2) (cwV 0 hts gX10_endsWithout_X10_good rfl rfl rfl (by decide +kernel) ⟨Nat.le_of_ble_eq_true rfl, Nat.le_of_ble_eq_true rfl⟩) hP hD hS [0] [1, 2, 3] rfl rfl rfl rfl rfl (by decide) rfl rfl hl.1 rfl rfl (Nat.le_of_ble_eq_true rfl) ⟨Nat.zero_le _, Nat.zero_le _⟩ dX10_endsWithout_1 ?_
  intro H locs hP hD hS
  refine lv_aload_n hx hb dX10_endsWithout_4 rfl (lv_at hl 0 rfl) ?_
  refine lv_iload_n hx hb dX10_endsWithout_5 rfl (lv_at hl 1 rfl) ?_
  obtain ⟨u_3, hu_4, hF⟩ := ob1_some hF
  refine call_i (wr := [aI g (p_t 25) 17 f_t_25]) (As := [.int x1]) (rest := []) (ci := 10) (q0 := 0) C0 (mX10_thereWhy l g a_t p_t n x1 u_1 f_t_15 f_t_17 u_3 hu_4) (cwV 1 hts gX10_endsWithout_X10_thereWhy rfl rfl rfl (by decide +kernel) ⟨Nat.le_of_ble_eq_true rfl, Nat.le_of_ble_eq_true rfl⟩) hP hD hS [3, 0, 1] [2] rfl rfl rfl rfl rfl (by decide) rfl rfl hl.1 rfl rfl (Nat.le_of_ble_eq_true rfl) ⟨Nat.zero_le _, Nat.zero_le _⟩ dX10_endsWithout_6 ?_
  intro H locs hP hD hS
  refine lv_if_eq (tgt := 24) hx hb dX10_endsWithout_9 (by decide) (fun c_5 => ?_) (fun c_5 => ?_)
  · have hF := it_p c_5 hF
    refine lv_aload_n hx hb dX10_endsWithout_24 rfl (lv_at hl 0 rfl) ?_
    refine lv_iconst (v := (1 : Int32)) hx hb dX10_endsWithout_25 (by decide) ?_
    refine lv_iload_n hx hb dX10_endsWithout_26 rfl (lv_at hl 1 rfl) ?_
    refine lv_ishl hx hb dX10_endsWithout_27 ?_
    obtain ⟨u_6, u_7, u_8, hu_9, hF⟩ := ob3_some hF
    refine call_i (wr := []) (As := [.int ((1 : Int32) <<< (x1 &&& 31))]) (rest := []) (ci := 10) (q0 := 0) C0 (mX10_endsIf l g a_t p_t n ((1 : Int32) <<< (x1 &&& 31)) u_1 f_t_15 f_t_17 f_t_25 u_6 u_7 u_8 hu_9) (cwV 1 hts gX10_endsWithout_X10_endsIf rfl rfl rfl (by decide +kernel) ⟨Nat.le_of_ble_eq_true rfl, Nat.le_of_ble_eq_true rfl⟩) hP hD hS [1, 2, 3, 0] [] rfl rfl rfl rfl rfl (by decide) rfl rfl hl.1 rfl rfl (Nat.le_of_ble_eq_true rfl) ⟨Nat.zero_le _, Nat.zero_le _⟩ dX10_endsWithout_28 ?_
    intro H locs hP hD hS
    cases hF
    exact ret_i C0 hP hD hS [0, 1, 2, 3] rfl rfl rfl dX10_endsWithout_31 rfl
  · have hF := it_n c_5 hF
    refine lv_aload_n hx hb dX10_endsWithout_12 rfl (lv_at hl 0 rfl) ?_
    refine lv_aload_n hx hb dX10_endsWithout_13 rfl (lv_at hl 0 rfl) ?_
    refine lv_iload_n hx hb dX10_endsWithout_14 rfl (lv_at hl 1 rfl) ?_
    obtain ⟨u_10, hu_11, hF⟩ := ob1_some hF
    refine call_i (wr := [aI g (p_t 25) 17 f_t_25]) (As := [.int x1]) (rest := [.ref a_t]) (ci := 10) (q0 := 0) C0 (mX10_thereWhy l g a_t p_t n x1 u_1 f_t_15 f_t_17 u_10 hu_11) (cwV 1 hts gX10_endsWithout_X10_thereWhy rfl rfl rfl (by decide +kernel) ⟨Nat.le_of_ble_eq_true rfl, Nat.le_of_ble_eq_true rfl⟩) hP hD hS [1, 2, 3] [0] rfl rfl rfl rfl rfl (by decide) rfl rfl hl.1 rfl rfl (Nat.le_of_ble_eq_true rfl) ⟨Nat.zero_le _, Nat.zero_le _⟩ dX10_endsWithout_15 ?_
    intro H locs hP hD hS
    obtain ⟨u_12, u_13, hu_14, hF⟩ := ob2_some hF
    refine call_i (wr := [aI g (p_t 25) 17 f_t_25, aI g (p_t 15) 266 f_t_15, aI g (p_t 17) 17 f_t_17]) (As := [.int u_10]) (rest := []) (ci := 10) (q0 := 0) C0 (mX10_no l g a_t p_t n u_10 u_1 u_12 u_13 hu_14) (cwV 1 hts gX10_endsWithout_X10_no rfl rfl rfl (by decide +kernel) ⟨Nat.le_of_ble_eq_true rfl, Nat.le_of_ble_eq_true rfl⟩) hP hD hS [1] [0, 2, 3] rfl rfl rfl rfl rfl (by decide) rfl rfl hl.1 rfl rfl (Nat.le_of_ble_eq_true rfl) ⟨Nat.zero_le _, Nat.zero_le _⟩ dX10_endsWithout_18 ?_
    intro H locs hP hD hS
    refine lv_goto (tgt := 31) hx hb dX10_endsWithout_21 (by decide) ?_
    cases hF
    exact ret_i C0 hP hD hS [3, 1, 2, 0] rfl rfl rfl dX10_endsWithout_31 rfl

theorem dAX10_holder : ∀ q ∈ ([(0, (.aload_n 0, 1)), (1, (.invokevirtual 159, 3)), (4, (.aload_n 0, 1)), (5, (.getfield 176, 3)), (8, (.ifCond .ne 9, 3)), (11, (.aload_n 0, 1)), (12, (.iconst 1, 1)), (13, (.invokevirtual 162, 3)), (16, (.ireturn, 1)), (17, (.bipush (-2), 2)), (19, (.istore_n 1, 1)), (20, (.aload_n 0, 1)), (21, (.invokevirtual 309, 3)), (24, (.ifCond .ge 9, 3)), (27, (.ldc_w 321, 3)), (30, (.goto 7, 3)), (33, (.aload_n 0, 1)), (34, (.invokevirtual 309, 3)), (37, (.istore_n 2, 1)), (38, (.iconst 0, 1)), (39, (.istore_n 3, 1)), (40, (.iload_n 3, 1)), (41, (.aload_n 0, 1)), (42, (.getfield 20, 3)), (45, (.iconst 3, 1)), (46, (.iaload, 1)), (47, (.if_icmp .ge 53, 3)), (50, (.aload_n 0, 1)), (51, (.getfield 26, 3)), (54, (.iload_n 3, 1)), (55, (.invokestatic 248, 3)), (58, (.ifCond .eq 13, 3)), (61, (.aload_n 0, 1)), (62, (.iconst 1, 1)), (63, (.iload_n 3, 1)), (64, (.ishl, 1)), (65, (.invokevirtual 318, 3)), (68, (.goto 5, 3)), (71, (.bipush (-2), 2)), (73, (.istore 4, 2)), (75, (.iload 4, 2)), (77, (.ifCond .lt 17, 3)), (80, (.iload 4, 2)), (82, (.iload_n 2, 1)), (83, (.if_icmp .lt 6, 3)), (86, (.goto 8, 3)), (89, (.iload_n 3, 1)), (90, (.istore_n 1, 1)), (91, (.iload 4, 2)), (93, (.istore_n 2, 1)), (94, (.iinc 3 1, 3)), (97, (.goto (-57), 3)), (100, (.iload_n 1, 1)), (101, (.ireturn, 1))] : List (Nat × (Instr × Nat))), decode cX10_holder q.1 = .ok q.2 := by decide +kernel
theorem dX10_holder_0 : decode cX10_holder 0 = .ok (.aload_n 0, 1) := dAX10_holder (0, (.aload_n 0, 1)) (List.mem_of_getElem? (i := 0) rfl)
theorem dX10_holder_1 : decode cX10_holder 1 = .ok (.invokevirtual 159, 3) := dAX10_holder (1, (.invokevirtual 159, 3)) (List.mem_of_getElem? (i := 1) rfl)
theorem dX10_holder_4 : decode cX10_holder 4 = .ok (.aload_n 0, 1) := dAX10_holder (4, (.aload_n 0, 1)) (List.mem_of_getElem? (i := 2) rfl)
theorem dX10_holder_5 : decode cX10_holder 5 = .ok (.getfield 176, 3) := dAX10_holder (5, (.getfield 176, 3)) (List.mem_of_getElem? (i := 3) rfl)
theorem dX10_holder_8 : decode cX10_holder 8 = .ok (.ifCond .ne 9, 3) := dAX10_holder (8, (.ifCond .ne 9, 3)) (List.mem_of_getElem? (i := 4) rfl)
theorem dX10_holder_11 : decode cX10_holder 11 = .ok (.aload_n 0, 1) := dAX10_holder (11, (.aload_n 0, 1)) (List.mem_of_getElem? (i := 5) rfl)
theorem dX10_holder_12 : decode cX10_holder 12 = .ok (.iconst 1, 1) := dAX10_holder (12, (.iconst 1, 1)) (List.mem_of_getElem? (i := 6) rfl)
theorem dX10_holder_13 : decode cX10_holder 13 = .ok (.invokevirtual 162, 3) := dAX10_holder (13, (.invokevirtual 162, 3)) (List.mem_of_getElem? (i := 7) rfl)
theorem dX10_holder_16 : decode cX10_holder 16 = .ok (.ireturn, 1) := dAX10_holder (16, (.ireturn, 1)) (List.mem_of_getElem? (i := 8) rfl)
theorem dX10_holder_17 : decode cX10_holder 17 = .ok (.bipush (-2), 2) := dAX10_holder (17, (.bipush (-2), 2)) (List.mem_of_getElem? (i := 9) rfl)
theorem dX10_holder_19 : decode cX10_holder 19 = .ok (.istore_n 1, 1) := dAX10_holder (19, (.istore_n 1, 1)) (List.mem_of_getElem? (i := 10) rfl)
theorem dX10_holder_20 : decode cX10_holder 20 = .ok (.aload_n 0, 1) := dAX10_holder (20, (.aload_n 0, 1)) (List.mem_of_getElem? (i := 11) rfl)
theorem dX10_holder_21 : decode cX10_holder 21 = .ok (.invokevirtual 309, 3) := dAX10_holder (21, (.invokevirtual 309, 3)) (List.mem_of_getElem? (i := 12) rfl)
theorem dX10_holder_24 : decode cX10_holder 24 = .ok (.ifCond .ge 9, 3) := dAX10_holder (24, (.ifCond .ge 9, 3)) (List.mem_of_getElem? (i := 13) rfl)
theorem dX10_holder_27 : decode cX10_holder 27 = .ok (.ldc_w 321, 3) := dAX10_holder (27, (.ldc_w 321, 3)) (List.mem_of_getElem? (i := 14) rfl)
theorem dX10_holder_30 : decode cX10_holder 30 = .ok (.goto 7, 3) := dAX10_holder (30, (.goto 7, 3)) (List.mem_of_getElem? (i := 15) rfl)
theorem dX10_holder_33 : decode cX10_holder 33 = .ok (.aload_n 0, 1) := dAX10_holder (33, (.aload_n 0, 1)) (List.mem_of_getElem? (i := 16) rfl)
theorem dX10_holder_34 : decode cX10_holder 34 = .ok (.invokevirtual 309, 3) := dAX10_holder (34, (.invokevirtual 309, 3)) (List.mem_of_getElem? (i := 17) rfl)
theorem dX10_holder_37 : decode cX10_holder 37 = .ok (.istore_n 2, 1) := dAX10_holder (37, (.istore_n 2, 1)) (List.mem_of_getElem? (i := 18) rfl)
theorem dX10_holder_38 : decode cX10_holder 38 = .ok (.iconst 0, 1) := dAX10_holder (38, (.iconst 0, 1)) (List.mem_of_getElem? (i := 19) rfl)
theorem dX10_holder_39 : decode cX10_holder 39 = .ok (.istore_n 3, 1) := dAX10_holder (39, (.istore_n 3, 1)) (List.mem_of_getElem? (i := 20) rfl)
theorem dX10_holder_40 : decode cX10_holder 40 = .ok (.iload_n 3, 1) := dAX10_holder (40, (.iload_n 3, 1)) (List.mem_of_getElem? (i := 21) rfl)
theorem dX10_holder_41 : decode cX10_holder 41 = .ok (.aload_n 0, 1) := dAX10_holder (41, (.aload_n 0, 1)) (List.mem_of_getElem? (i := 22) rfl)
theorem dX10_holder_42 : decode cX10_holder 42 = .ok (.getfield 20, 3) := dAX10_holder (42, (.getfield 20, 3)) (List.mem_of_getElem? (i := 23) rfl)
theorem dX10_holder_45 : decode cX10_holder 45 = .ok (.iconst 3, 1) := dAX10_holder (45, (.iconst 3, 1)) (List.mem_of_getElem? (i := 24) rfl)
theorem dX10_holder_46 : decode cX10_holder 46 = .ok (.iaload, 1) := dAX10_holder (46, (.iaload, 1)) (List.mem_of_getElem? (i := 25) rfl)
theorem dX10_holder_47 : decode cX10_holder 47 = .ok (.if_icmp .ge 53, 3) := dAX10_holder (47, (.if_icmp .ge 53, 3)) (List.mem_of_getElem? (i := 26) rfl)
theorem dX10_holder_50 : decode cX10_holder 50 = .ok (.aload_n 0, 1) := dAX10_holder (50, (.aload_n 0, 1)) (List.mem_of_getElem? (i := 27) rfl)
theorem dX10_holder_51 : decode cX10_holder 51 = .ok (.getfield 26, 3) := dAX10_holder (51, (.getfield 26, 3)) (List.mem_of_getElem? (i := 28) rfl)
theorem dX10_holder_54 : decode cX10_holder 54 = .ok (.iload_n 3, 1) := dAX10_holder (54, (.iload_n 3, 1)) (List.mem_of_getElem? (i := 29) rfl)
theorem dX10_holder_55 : decode cX10_holder 55 = .ok (.invokestatic 248, 3) := dAX10_holder (55, (.invokestatic 248, 3)) (List.mem_of_getElem? (i := 30) rfl)
theorem dX10_holder_58 : decode cX10_holder 58 = .ok (.ifCond .eq 13, 3) := dAX10_holder (58, (.ifCond .eq 13, 3)) (List.mem_of_getElem? (i := 31) rfl)
theorem dX10_holder_61 : decode cX10_holder 61 = .ok (.aload_n 0, 1) := dAX10_holder (61, (.aload_n 0, 1)) (List.mem_of_getElem? (i := 32) rfl)
theorem dX10_holder_62 : decode cX10_holder 62 = .ok (.iconst 1, 1) := dAX10_holder (62, (.iconst 1, 1)) (List.mem_of_getElem? (i := 33) rfl)
theorem dX10_holder_63 : decode cX10_holder 63 = .ok (.iload_n 3, 1) := dAX10_holder (63, (.iload_n 3, 1)) (List.mem_of_getElem? (i := 34) rfl)
theorem dX10_holder_64 : decode cX10_holder 64 = .ok (.ishl, 1) := dAX10_holder (64, (.ishl, 1)) (List.mem_of_getElem? (i := 35) rfl)
theorem dX10_holder_65 : decode cX10_holder 65 = .ok (.invokevirtual 318, 3) := dAX10_holder (65, (.invokevirtual 318, 3)) (List.mem_of_getElem? (i := 36) rfl)
theorem dX10_holder_68 : decode cX10_holder 68 = .ok (.goto 5, 3) := dAX10_holder (68, (.goto 5, 3)) (List.mem_of_getElem? (i := 37) rfl)
theorem dX10_holder_71 : decode cX10_holder 71 = .ok (.bipush (-2), 2) := dAX10_holder (71, (.bipush (-2), 2)) (List.mem_of_getElem? (i := 38) rfl)
theorem dX10_holder_73 : decode cX10_holder 73 = .ok (.istore 4, 2) := dAX10_holder (73, (.istore 4, 2)) (List.mem_of_getElem? (i := 39) rfl)
theorem dX10_holder_75 : decode cX10_holder 75 = .ok (.iload 4, 2) := dAX10_holder (75, (.iload 4, 2)) (List.mem_of_getElem? (i := 40) rfl)
theorem dX10_holder_77 : decode cX10_holder 77 = .ok (.ifCond .lt 17, 3) := dAX10_holder (77, (.ifCond .lt 17, 3)) (List.mem_of_getElem? (i := 41) rfl)
theorem dX10_holder_80 : decode cX10_holder 80 = .ok (.iload 4, 2) := dAX10_holder (80, (.iload 4, 2)) (List.mem_of_getElem? (i := 42) rfl)
theorem dX10_holder_82 : decode cX10_holder 82 = .ok (.iload_n 2, 1) := dAX10_holder (82, (.iload_n 2, 1)) (List.mem_of_getElem? (i := 43) rfl)
theorem dX10_holder_83 : decode cX10_holder 83 = .ok (.if_icmp .lt 6, 3) := dAX10_holder (83, (.if_icmp .lt 6, 3)) (List.mem_of_getElem? (i := 44) rfl)
theorem dX10_holder_86 : decode cX10_holder 86 = .ok (.goto 8, 3) := dAX10_holder (86, (.goto 8, 3)) (List.mem_of_getElem? (i := 45) rfl)
theorem dX10_holder_89 : decode cX10_holder 89 = .ok (.iload_n 3, 1) := dAX10_holder (89, (.iload_n 3, 1)) (List.mem_of_getElem? (i := 46) rfl)
theorem dX10_holder_90 : decode cX10_holder 90 = .ok (.istore_n 1, 1) := dAX10_holder (90, (.istore_n 1, 1)) (List.mem_of_getElem? (i := 47) rfl)
theorem dX10_holder_91 : decode cX10_holder 91 = .ok (.iload 4, 2) := dAX10_holder (91, (.iload 4, 2)) (List.mem_of_getElem? (i := 48) rfl)
theorem dX10_holder_93 : decode cX10_holder 93 = .ok (.istore_n 2, 1) := dAX10_holder (93, (.istore_n 2, 1)) (List.mem_of_getElem? (i := 49) rfl)
theorem dX10_holder_94 : decode cX10_holder 94 = .ok (.iinc 3 1, 3) := dAX10_holder (94, (.iinc 3 1, 3)) (List.mem_of_getElem? (i := 50) rfl)
theorem dX10_holder_97 : decode cX10_holder 97 = .ok (.goto (-57), 3) := dAX10_holder (97, (.goto (-57), 3)) (List.mem_of_getElem? (i := 51) rfl)
theorem dX10_holder_100 : decode cX10_holder 100 = .ok (.iload_n 1, 1) := dAX10_holder (100, (.iload_n 1, 1)) (List.mem_of_getElem? (i := 52) rfl)
theorem dX10_holder_101 : decode cX10_holder 101 = .ok (.ireturn, 1) := dAX10_holder (101, (.ireturn, 1)) (List.mem_of_getElem? (i := 53) rfl)
set_option maxRecDepth 20000 in
theorem ggX10_holder_X10_good : GoodIn wsX10_holder wsX10_good := goodIn_r _ [9, 10, 11, 82, 83, 84, 85, 86, 87, 88, 89, 90, 91, 92, 93, 94, 95, 96, 97, 98, 99, 100, 101, 102, 103, 104, 105, 106, 107, 108, 109, 110, 111, 112, 113, 114, 115, 116] rfl (by decide +kernel)
set_option maxRecDepth 20000 in
theorem gX10_holder_X10_good : GoodIn wsX10_holder (wsV RX10 159 RX10 yX10_good wsX10_good) := goodIn_app (goodIn_of _ (by decide +kernel)) ggX10_holder_X10_good
set_option maxRecDepth 20000 in
theorem ggX10_holder_X10_no : GoodIn wsX10_holder wsX10_no := goodIn_r _ [15, 11, 82, 83, 84, 85, 86, 87, 88, 89, 90, 91, 92, 93, 94, 95, 96, 97, 98, 99, 100, 101, 102, 103, 104, 105, 106, 107, 108, 109, 110, 111, 112, 113, 114, 115, 116] rfl (by decide +kernel)
set_option maxRecDepth 20000 in
theorem gX10_holder_X10_no : GoodIn wsX10_holder (wsV RX10 162 RX10 yX10_no wsX10_no) := goodIn_app (goodIn_of _ (by decide +kernel)) ggX10_holder_X10_no
set_option maxRecDepth 20000 in
theorem ggX10_holder_X10_endsNow : GoodIn wsX10_holder wsX10_endsNow := goodIn_r _ [19, 4, 20, 21, 22, 8, 23, 24, 25, 26, 27, 28, 29, 30, 31, 32, 3, 33, 34, 35, 36, 37, 38, 39, 40, 41, 42, 43, 44, 45, 46, 47, 48, 49, 50, 51, 52, 53, 54, 55, 56, 57, 58, 59, 60, 61, 62, 63, 64, 65, 66, 67, 68, 69, 70, 71, 72, 73, 82, 83, 84, 85, 86, 87, 88, 89, 90, 91, 92, 93, 94, 95, 96, 97, 98, 99, 100, 101, 102, 103, 104, 105, 106, 107, 108, 109, 110, 111, 112, 113, 114, 115, 116] rfl (by decide +kernel)
set_option maxRecDepth 20000 in
theorem gX10_holder_X10_endsNow : GoodIn wsX10_holder (wsV RX10 309 RX10 yX10_endsNow wsX10_endsNow) := goodIn_app (goodIn_of _ (by decide +kernel)) ggX10_holder_X10_endsNow
set_option maxRecDepth 20000 in
theorem ggX10_holder_X10_isIn : GoodIn wsX10_holder wsX10_isIn := goodIn_r _ [35] rfl (by decide +kernel)
set_option maxRecDepth 20000 in
theorem gX10_holder_X10_isIn : GoodIn wsX10_holder (va_wsS RX10 248 yX10_isIn wsX10_isIn) := goodIn_app (goodIn_of _ (by decide +kernel)) ggX10_holder_X10_isIn
set_option maxRecDepth 20000 in
theorem ggX10_holder_X10_endsIf : GoodIn wsX10_holder wsX10_endsIf := goodIn_r _ [77, 4, 20, 21, 22, 8, 23, 78, 79, 80, 81, 63, 64, 65, 66, 3, 67, 68, 69, 33, 34, 35, 54, 55, 56, 57, 58, 29, 30, 31, 32, 59, 60, 61, 62, 46, 47, 48, 49, 24, 25, 26, 27, 28, 36, 37, 38, 39, 40, 41, 42, 43, 44, 45, 50, 51, 52, 53, 70, 71, 72, 73, 82, 83, 84, 85, 86, 87, 88, 89, 90, 91, 92, 93, 94, 95, 96, 97, 98, 99, 100, 101, 102, 103, 104, 105, 106, 107, 108, 109, 110, 111, 112, 113, 114, 115, 116] rfl (by decide +kernel)
set_option maxRecDepth 20000 in
theorem gX10_holder_X10_endsIf : GoodIn wsX10_holder (wsV RX10 318 RX10 yX10_endsIf wsX10_endsIf) := goodIn_app (goodIn_of _ (by decide +kernel)) ggX10_holder_X10_endsIf
theorem kX10_holder_176 : Cond.fieldLink RX10 176 "EveningVowModel" "hasEvening" "Z" ∈ wsX10_holder := List.mem_of_getElem? (i := 1) rfl
theorem iX10_holder_X10 : ∀ w ∈ u_ws RX10 TX10 35, w ∈ wsX10_holder := fun w h => (List.mem_cons_of_mem _ (List.mem_append_right _ h))
theorem kX10_holder_20 : Cond.fieldLink RX10 20 "EveningVowModel" "\x72" "[I" ∈ wsX10_holder := List.mem_of_getElem? (i := 3) rfl
theorem kX10_holder_26 : Cond.fieldLink RX10 26 "EveningVowModel" "st" "[I" ∈ wsX10_holder := List.mem_of_getElem? (i := 4) rfl
theorem kX10_holder_321 : Cond.constant RX10 321 (1000000 : Int32) ∈ wsX10_holder := by decide +kernel
set_option maxHeartbeats 4000000 in
set_option maxRecDepth 100000 in
theorem wX10_holder_L40 {p : Program} {l : Launch} {e : Env} {s : State} {m : MethodId} {args : Array Value} {below : List Frame} {meth : Method} {c : Code} {g : GG} {A : Nat → Prop} (C0 : Cx p s m args meth c cX10_holder 5 (some .int) RX10 wsX10_holder g A) (a_t : Nat) (p_t : Nat → Nat) (n : Nat) (f_t_15 : Nat → Int32) (f_t_17 : Nat → Int32)  (r : Int32) (o_t' : Nat → Int32) (f_t_25' : Nat → Int32) (K : Int32 → (Nat → Int32) → (Nat → Int32) → Option (Int32 × (Nat → Int32) × (Nat → Int32))) (hKx : ∀ (x1 : Int32) (o_t : Nat → Int32) (f_t_25 : Nat → Int32) (H : Heap) (locs : List Loc) (ls : Array Slot), K x1 o_t f_t_25 = some (r, o_t', f_t_25') → va_P g.1 vwCl [oX10 a_t p_t o_t, aI g (p_t 15) 266 f_t_15, aI g (p_t 17) 17 f_t_17, aI g (p_t 25) 17 f_t_25] H → va_D A [oX10 a_t p_t o_t, aI g (p_t 15) 266 f_t_15, aI g (p_t 17) 17 f_t_17, aI g (p_t 25) 17 f_t_25] → va_S A s.heap H locs → lv_has ls 5 [(1, .int x1)] → W p l e ({ frames := 6, cells := 0, slots := 0, locals := 137 } : Room) s m args below meth c H locs 0 0 (MQ below (EndI g r [oX10 a_t p_t o_t', aI g (p_t 15) 266 f_t_15, aI g (p_t 17) 17 f_t_17, aI g (p_t 25) 17 f_t_25'] A) args s 0 0 A) (F0 m 100 ls [])) : ∀ (k : Nat) (x1 : Int32) (x2 : Int32) (x3 : Int32) (o_t : Nat → Int32) (f_t_25 : Nat → Int32), fX10_holder_L40 n f_t_15 f_t_17 K k x1 x2 x3 o_t f_t_25 = some (r, o_t', f_t_25') → ∀ (H : Heap) (locs : List Loc) (ls : Array Slot), va_P g.1 vwCl [oX10 a_t p_t o_t, aI g (p_t 15) 266 f_t_15, aI g (p_t 17) 17 f_t_17, aI g (p_t 25) 17 f_t_25] H → va_D A [oX10 a_t p_t o_t, aI g (p_t 15) 266 f_t_15, aI g (p_t 17) 17 f_t_17, aI g (p_t 25) 17 f_t_25] → va_S A s.heap H locs → lv_has ls 5 [(0, .ref a_t), (1, .int x1), (2, .int x2), (3, .int x3)] → W p l e ({ frames := 6, cells := 0, slots := 0, locals := 137 } : Room) s m args below meth c H locs 0 0 (MQ below (EndI g r [oX10 a_t p_t o_t', aI g (p_t 15) 266 f_t_15, aI g (p_t 17) 17 f_t_17, aI g (p_t 25) 17 f_t_25'] A) args s 0 0 A) (F0 m 40 ls []) := by
  obtain ⟨hx, hb, hml, hown, hts, hr, hlk, hK, hA, hSW⟩ := id C0
  intro k
  induction k with
  | zero =>
    intro x1 x2 x3 o_t f_t_25 hF
    exact absurd hF (by simp [fX10_holder_L40])
  | succ k ih =>
    intro x1 x2 x3 o_t f_t_25 hF H locs ls hP hD hS hl
    rw [fX10_holder_L40] at hF
    refine lv_iload_n hx hb dX10_holder_40 rfl (lv_at hl 3 rfl) ?_
    refine lv_aload_n hx hb dX10_holder_41 rfl (lv_at hl 0 rfl) ?_
    refine va_get (D := g.1) (ci := 10) (v := .ref (p_t 15)) (C := RX10) (T := TX10) (N := 35) hx hb hts iX10_holder_X10 hown hK.1 hP 0 rfl rfl 15 (by decide) (hts _ kX10_holder_20) (fun _ h9 => h9) rfl dX10_holder_42 ?_
    refine lv_iconst (v := (3 : Int32)) hx hb dX10_holder_45 (by decide) ?_
    refine va_iald_k (j := 3) hx hb hK.1 hP 1 0 rfl rfl (by unfold vp_in; decide) rfl dX10_holder_46 ?_
    refine lv_icmp_ge (tgt := 100) hx hb dX10_holder_47 (by decide) (fun c_13 => ?_) (fun c_13 => ?_)
    · have hF := it_p c_13 hF
      exact hKx x1 o_t f_t_25 _ _ _ hF (hP.sub [0, 1, 2, 3] rfl) (hD.sub [0, 1, 2, 3] rfl rfl) hS (lv_sub hl [1] rfl)
    · have hF := it_n c_13 hF
      refine lv_aload_n hx hb dX10_holder_50 rfl (lv_at hl 0 rfl) ?_
      refine va_get (D := g.1) (ci := 10) (v := .ref (p_t 17)) (C := RX10) (T := TX10) (N := 35) hx hb hts iX10_holder_X10 hown hK.1 hP 0 rfl rfl 17 (by decide) (hts _ kX10_holder_26) (fun _ h9 => h9) rfl dX10_holder_51 ?_
      refine lv_iload_n hx hb dX10_holder_54 rfl (lv_at hl 3 rfl) ?_
      obtain ⟨u_14, hu_15, hF⟩ := ob1_some hF
      refine call_si (wr := [oX10 a_t p_t o_t, aI g (p_t 15) 266 f_t_15, aI g (p_t 25) 17 f_t_25]) (As := [.ref (p_t 17), .int x3]) (rest := []) C0 (mX10_isIn l g (p_t 17) n x3 f_t_17 u_14 hu_15) (va_cwS 2 hts gX10_holder_X10_isIn rfl rfl rfl (by decide +kernel) ⟨Nat.le_of_ble_eq_true rfl, Nat.le_of_ble_eq_true rfl⟩) hP hD hS [2] [0, 1, 3] rfl rfl rfl rfl rfl (by decide) hl.1 rfl rfl (Nat.le_of_ble_eq_true rfl) ⟨Nat.zero_le _, Nat.zero_le _⟩ dX10_holder_55 ?_
      intro H locs hP hD hS
      refine lv_if_eq (tgt := 71) hx hb dX10_holder_58 (by decide) (fun c_16 => ?_) (fun c_16 => ?_)
      · have hF := it_p c_16 hF
        refine lv_bipush (v := (-2 : Int32)) hx hb dX10_holder_71 (by decide) ?_
        refine lv_istore (lv' := [(4, .int (-2 : Int32)), (0, .ref a_t), (1, .int x1), (2, .int x2), (3, .int x3)]) hx hb dX10_holder_73 hl (by decide) rfl (fun ls hl => ?_)
        refine lv_iload hx hb dX10_holder_75 (lv_at hl 0 rfl) ?_
        refine lv_if_lt (tgt := 94) hx hb dX10_holder_77 (by decide) (fun c_17 => ?_) (fun c_17 => ?_)
        · skip
          refine lv_iinc (v := (x3 + (1 : Int32))) (lv' := [(3, .int (x3 + (1 : Int32))), (4, .int (-2 : Int32)), (0, .ref a_t), (1, .int x1), (2, .int x2)]) hx hb dX10_holder_94 hl (k := 4) rfl rfl (by decide) rfl (fun ls hl => ?_)
          refine lv_goto (tgt := 40) hx hb dX10_holder_97 (by decide) ?_
          exact ih x1 x2 (x3 + (1 : Int32)) o_t f_t_25 hF _ _ _ (hP.sub [0, 1, 3, 2] rfl) (hD.sub [0, 1, 3, 2] rfl rfl) hS (lv_sub hl [2, 3, 4, 0] rfl)
        · exact absurd c_17 (by decide)
      · have hF := it_n c_16 hF
        refine lv_aload_n hx hb dX10_holder_61 rfl (lv_at hl 0 rfl) ?_
        refine lv_iconst (v := (1 : Int32)) hx hb dX10_holder_62 (by decide) ?_
        refine lv_iload_n hx hb dX10_holder_63 rfl (lv_at hl 3 rfl) ?_
        refine lv_ishl hx hb dX10_holder_64 ?_
        obtain ⟨u_18, u_19, u_20, hu_21, hF⟩ := ob3_some hF
        refine call_i (wr := []) (As := [.int ((1 : Int32) <<< (x3 &&& 31))]) (rest := []) (ci := 10) (q0 := 0) C0 (mX10_endsIf l g a_t p_t n ((1 : Int32) <<< (x3 &&& 31)) o_t f_t_15 f_t_17 f_t_25 u_18 u_19 u_20 hu_21) (cwV 1 hts gX10_holder_X10_endsIf rfl rfl rfl (by decide +kernel) ⟨Nat.le_of_ble_eq_true rfl, Nat.le_of_ble_eq_true rfl⟩) hP hD hS [0, 1, 3, 2] [] rfl rfl rfl rfl rfl (by decide) rfl rfl hl.1 rfl rfl (Nat.le_of_ble_eq_true rfl) ⟨Nat.zero_le _, Nat.zero_le _⟩ dX10_holder_65 ?_
        intro H locs hP hD hS
        refine lv_goto (tgt := 73) hx hb dX10_holder_68 (by decide) ?_
        refine lv_istore (lv' := [(4, .int u_18), (0, .ref a_t), (1, .int x1), (2, .int x2), (3, .int x3)]) hx hb dX10_holder_73 hl (by decide) rfl (fun ls hl => ?_)
        refine lv_iload hx hb dX10_holder_75 (lv_at hl 0 rfl) ?_
        refine lv_if_lt (tgt := 94) hx hb dX10_holder_77 (by decide) (fun c_22 => ?_) (fun c_22 => ?_)
        · have hF := it_p c_22 hF
          refine lv_iinc (v := (x3 + (1 : Int32))) (lv' := [(3, .int (x3 + (1 : Int32))), (4, .int u_18), (0, .ref a_t), (1, .int x1), (2, .int x2)]) hx hb dX10_holder_94 hl (k := 4) rfl rfl (by decide) rfl (fun ls hl => ?_)
          refine lv_goto (tgt := 40) hx hb dX10_holder_97 (by decide) ?_
          exact ih x1 x2 (x3 + (1 : Int32)) u_19 u_20 hF _ _ _ (hP.sub [0, 1, 2, 3] rfl) (hD.sub [0, 1, 2, 3] rfl rfl) hS (lv_sub hl [2, 3, 4, 0] rfl)
        · have hF := it_n c_22 hF
          refine lv_iload hx hb dX10_holder_80 (lv_at hl 0 rfl) ?_
          refine lv_iload_n hx hb dX10_holder_82 rfl (lv_at hl 3 rfl) ?_
          refine lv_icmp_lt (tgt := 89) hx hb dX10_holder_83 (by decide) (fun c_23 => ?_) (fun c_23 => ?_)
          · have hF := it_p c_23 hF
            refine lv_iload_n hx hb dX10_holder_89 rfl (lv_at hl 4 rfl) ?_
            refine lv_istore_n (lv' := [(1, .int x3), (4, .int u_18), (0, .ref a_t), (2, .int x2), (3, .int x3)]) hx hb dX10_holder_90 rfl hl (by decide) rfl (fun ls hl => ?_)
            refine lv_iload hx hb dX10_holder_91 (lv_at hl 1 rfl) ?_
            refine lv_istore_n (lv' := [(2, .int u_18), (1, .int x3), (4, .int u_18), (0, .ref a_t), (3, .int x3)]) hx hb dX10_holder_93 rfl hl (by decide) rfl (fun ls hl => ?_)
            refine lv_iinc (v := (x3 + (1 : Int32))) (lv' := [(3, .int (x3 + (1 : Int32))), (2, .int u_18), (1, .int x3), (4, .int u_18), (0, .ref a_t)]) hx hb dX10_holder_94 hl (k := 4) rfl rfl (by decide) rfl (fun ls hl => ?_)
            refine lv_goto (tgt := 40) hx hb dX10_holder_97 (by decide) ?_
            exact ih x3 u_18 (x3 + (1 : Int32)) u_19 u_20 hF _ _ _ (hP.sub [0, 1, 2, 3] rfl) (hD.sub [0, 1, 2, 3] rfl rfl) hS (lv_sub hl [4, 2, 1, 0] rfl)
          · have hF := it_n c_23 hF
            refine lv_goto (tgt := 94) hx hb dX10_holder_86 (by decide) ?_
            refine lv_iinc (v := (x3 + (1 : Int32))) (lv' := [(3, .int (x3 + (1 : Int32))), (4, .int u_18), (0, .ref a_t), (1, .int x1), (2, .int x2)]) hx hb dX10_holder_94 hl (k := 4) rfl rfl (by decide) rfl (fun ls hl => ?_)
            refine lv_goto (tgt := 40) hx hb dX10_holder_97 (by decide) ?_
            exact ih x1 x2 (x3 + (1 : Int32)) u_19 u_20 hF _ _ _ (hP.sub [0, 1, 2, 3] rfl) (hD.sub [0, 1, 2, 3] rfl rfl) hS (lv_sub hl [2, 3, 4, 0] rfl)
set_option maxHeartbeats 4000000 in
set_option maxRecDepth 100000 in
theorem mX10_holder (l : Launch) (g : GG) (a_t : Nat) (p_t : Nat → Nat) (n : Nat) (o_t : Nat → Int32) (f_t_15 : Nat → Int32) (f_t_17 : Nat → Int32) (f_t_25 : Nat → Int32) (r : Int32) (o_t' : Nat → Int32) (f_t_25' : Nat → Int32) (hF : fX10_holder n o_t f_t_15 f_t_17 f_t_25 = some (r, o_t', f_t_25')) : MI l g yX10_holder wsX10_holder ({ frames := 6, cells := 0, slots := 0, locals := 137 } : Room) [.ref a_t] [oX10 a_t p_t o_t, aI g (p_t 15) 266 f_t_15, aI g (p_t 17) 17 f_t_17, aI g (p_t 25) 17 f_t_25] r [oX10 a_t p_t o_t', aI g (p_t 15) 266 f_t_15, aI g (p_t 17) 17 f_t_17, aI g (p_t 25) 17 f_t_25'] := by
  refine MI.of (cc := cX10_holder) (maxL := 5) (rt := .int) (own := RX10) rfl rfl (by decide) (Nat.le_of_ble_eq_true rfl) ?_
  intro p e s m args below meth c A C0 hP hD hS ls hl
  obtain ⟨hx, hb, hml, hown, hts, hr, hlk, hK, hA, hSW⟩ := id C0
  have hl : lv_has ls 5 [(0, .ref a_t)] := hl
  rw [fX10_holder] at hF
  refine lv_aload_n hx hb dX10_holder_0 rfl (lv_at hl 0 rfl) ?_
  obtain ⟨u_1, hu_2, hF⟩ := ob1_some hF
  refine call_v (wr := [aI g (p_t 15) 266 f_t_15, aI g (p_t 17) 17 f_t_17, aI g (p_t 25) 17 f_t_25]) (As := []) (rest := []) (ci := 10) (q0 := 0) C0 (mX10_good l g a_t p_t n o_t u_1 hu_2) (cwV 0 hts gX10_holder_X10_good rfl rfl rfl (by decide +kernel) ⟨Nat.le_of_ble_eq_true rfl, Nat.le_of_ble_eq_true rfl⟩) hP hD hS [0] [1, 2, 3] rfl rfl rfl rfl rfl (by decide) rfl rfl hl.1 rfl rfl (Nat.le_of_ble_eq_true rfl) ⟨Nat.zero_le _, Nat.zero_le _⟩ dX10_holder_1 ?_
  intro H locs hP hD hS
  refine lv_aload_n hx hb dX10_holder_4 rfl (lv_at hl 0 rfl) ?_
  refine va_get (D := g.1) (ci := 10) (v := .int (u_1 14)) (C := RX10) (T := TX10) (N := 35) hx hb hts iX10_holder_X10 hown hK.1 hP 3 rfl rfl 14 (by decide) (hts _ kX10_holder_176) (fun _ h9 => h9) rfl dX10_holder_5 ?_
  refine lv_if_ne (tgt := 17) hx hb dX10_holder_8 (by decide) (fun c_3 => ?_) (fun c_3 => ?_)
  · have hF := it_n c_3 hF
    refine lv_bipush (v := (-2 : Int32)) hx hb dX10_holder_17 (by decide) ?_
    refine lv_istore_n (lv' := [(1, .int (-2 : Int32)), (0, .ref a_t)]) hx hb dX10_holder_19 rfl hl (by decide) rfl (fun ls hl => ?_)
    refine lv_aload_n hx hb dX10_holder_20 rfl (lv_at hl 1 rfl) ?_
    obtain ⟨u_4, u_5, u_6, hu_7, hF⟩ := ob3_some hF
    refine call_i (wr := []) (As := []) (rest := []) (ci := 10) (q0 := 0) C0 (mX10_endsNow l g a_t p_t n u_1 f_t_15 f_t_17 f_t_25 u_4 u_5 u_6 hu_7) (cwV 0 hts gX10_holder_X10_endsNow rfl rfl rfl (by decide +kernel) ⟨Nat.le_of_ble_eq_true rfl, Nat.le_of_ble_eq_true rfl⟩) hP hD hS [3, 0, 1, 2] [] rfl rfl rfl rfl rfl (by decide) rfl rfl hl.1 rfl rfl (Nat.le_of_ble_eq_true rfl) ⟨Nat.zero_le _, Nat.zero_le _⟩ dX10_holder_21 ?_
    intro H locs hP hD hS
    refine lv_if_ge (tgt := 33) hx hb dX10_holder_24 (by decide) (fun c_8 => ?_) (fun c_8 => ?_)
    · have hF := it_p c_8 hF
      refine lv_aload_n hx hb dX10_holder_33 rfl (lv_at hl 1 rfl) ?_
      obtain ⟨u_9, u_10, u_11, hu_12, hF⟩ := ob3_some hF
      refine call_i (wr := []) (As := []) (rest := []) (ci := 10) (q0 := 0) C0 (mX10_endsNow l g a_t p_t n u_5 f_t_15 f_t_17 u_6 u_9 u_10 u_11 hu_12) (cwV 0 hts gX10_holder_X10_endsNow rfl rfl rfl (by decide +kernel) ⟨Nat.le_of_ble_eq_true rfl, Nat.le_of_ble_eq_true rfl⟩) hP hD hS [0, 1, 2, 3] [] rfl rfl rfl rfl rfl (by decide) rfl rfl hl.1 rfl rfl (Nat.le_of_ble_eq_true rfl) ⟨Nat.zero_le _, Nat.zero_le _⟩ dX10_holder_34 ?_
      intro H locs hP hD hS
      refine lv_istore_n (lv' := [(2, .int u_9), (1, .int (-2 : Int32)), (0, .ref a_t)]) hx hb dX10_holder_37 rfl hl (by decide) rfl (fun ls hl => ?_)
      refine lv_iconst (v := (0 : Int32)) hx hb dX10_holder_38 (by decide) ?_
      refine lv_istore_n (lv' := [(3, .int (0 : Int32)), (2, .int u_9), (1, .int (-2 : Int32)), (0, .ref a_t)]) hx hb dX10_holder_39 rfl hl (by decide) rfl (fun ls hl => ?_)
      refine wX10_holder_L40 C0 a_t p_t n f_t_15 f_t_17 r o_t' f_t_25' _ ?_ n (-2 : Int32) u_9 (0 : Int32) u_10 u_11 hF _ _ _ (hP.sub [0, 1, 2, 3] rfl) (hD.sub [0, 1, 2, 3] rfl rfl) hS (lv_sub hl [3, 2, 1, 0] rfl)
      · intro x1_x40 o_t_x40 f_t_25_x40 H locs ls hF hP hD hS hl
        refine lv_iload_n hx hb dX10_holder_100 rfl (lv_at hl 0 rfl) ?_
        cases hF
        exact ret_i C0 hP hD hS [0, 1, 2, 3] rfl rfl rfl dX10_holder_101 rfl
    · have hF := it_n c_8 hF
      refine lv_ldcw (v := (1000000 : Int32)) hx hb hown (hts _ kX10_holder_321) dX10_holder_27 ?_
      refine lv_goto (tgt := 37) hx hb dX10_holder_30 (by decide) ?_
      refine lv_istore_n (lv' := [(2, .int (1000000 : Int32)), (1, .int (-2 : Int32)), (0, .ref a_t)]) hx hb dX10_holder_37 rfl hl (by decide) rfl (fun ls hl => ?_)
      refine lv_iconst (v := (0 : Int32)) hx hb dX10_holder_38 (by decide) ?_
      refine lv_istore_n (lv' := [(3, .int (0 : Int32)), (2, .int (1000000 : Int32)), (1, .int (-2 : Int32)), (0, .ref a_t)]) hx hb dX10_holder_39 rfl hl (by decide) rfl (fun ls hl => ?_)
      refine wX10_holder_L40 C0 a_t p_t n f_t_15 f_t_17 r o_t' f_t_25' _ ?_ n (-2 : Int32) (1000000 : Int32) (0 : Int32) u_5 u_6 hF _ _ _ (hP.sub [0, 1, 2, 3] rfl) (hD.sub [0, 1, 2, 3] rfl rfl) hS (lv_sub hl [3, 2, 1, 0] rfl)
      · intro x1_x40 o_t_x40 f_t_25_x40 H locs ls hF hP hD hS hl
        refine lv_iload_n hx hb dX10_holder_100 rfl (lv_at hl 0 rfl) ?_
        cases hF
        exact ret_i C0 hP hD hS [0, 1, 2, 3] rfl rfl rfl dX10_holder_101 rfl
  · have hF := it_p c_3 hF
    refine lv_aload_n hx hb dX10_holder_11 rfl (lv_at hl 0 rfl) ?_
    refine lv_iconst (v := (1 : Int32)) hx hb dX10_holder_12 (by decide) ?_
    obtain ⟨u_24, u_25, hu_26, hF⟩ := ob2_some hF
    refine call_i (wr := [aI g (p_t 15) 266 f_t_15, aI g (p_t 17) 17 f_t_17, aI g (p_t 25) 17 f_t_25]) (As := [.int (1 : Int32)]) (rest := []) (ci := 10) (q0 := 0) C0 (mX10_no l g a_t p_t n (1 : Int32) u_1 u_24 u_25 hu_26) (cwV 1 hts gX10_holder_X10_no rfl rfl rfl (by decide +kernel) ⟨Nat.le_of_ble_eq_true rfl, Nat.le_of_ble_eq_true rfl⟩) hP hD hS [3] [0, 1, 2] rfl rfl rfl rfl rfl (by decide) rfl rfl hl.1 rfl rfl (Nat.le_of_ble_eq_true rfl) ⟨Nat.zero_le _, Nat.zero_le _⟩ dX10_holder_13 ?_
    intro H locs hP hD hS
    cases hF
    exact ret_i C0 hP hD hS [3, 0, 1, 2] rfl rfl rfl dX10_holder_16 rfl

theorem dAX10_leastLike : ∀ q ∈ ([(0, (.aload_n 0, 1)), (1, (.aload_n 0, 1)), (2, (.getfield 26, 3)), (5, (.invokevirtual 259, 3)), (8, (.istore_n 3, 1)), (9, (.iconst 0, 1)), (10, (.istore 4, 2)), (12, (.iload 4, 2)), (14, (.iload_n 1, 1)), (15, (.if_icmp .ge 47, 3)), (18, (.iload 4, 2)), (20, (.iload_n 3, 1)), (21, (.iconst (-1), 1)), (22, (.ixor, 1)), (23, (.iand, 1)), (24, (.ifCond .ne 32, 3)), (27, (.iload 4, 2)), (29, (.invokestatic 306, 3)), (32, (.iload_n 1, 1)), (33, (.invokestatic 306, 3)), (36, (.if_icmp .ne 20, 3)), (39, (.aload_n 0, 1)), (40, (.iload 4, 2)), (42, (.invokevirtual 318, 3)), (45, (.iconst 0, 1)), (46, (.iload_n 2, 1)), (47, (.invokestatic 144, 3)), (50, (.ifCond .eq 6, 3)), (53, (.iload 4, 2)), (55, (.ireturn, 1)), (56, (.iinc 4 1, 3)), (59, (.goto (-47), 3)), (62, (.iload_n 1, 1)), (63, (.ireturn, 1))] : List (Nat × (Instr × Nat))), decode cX10_leastLike q.1 = .ok q.2 := by decide +kernel
theorem dX10_leastLike_0 : decode cX10_leastLike 0 = .ok (.aload_n 0, 1) := dAX10_leastLike (0, (.aload_n 0, 1)) (List.mem_of_getElem? (i := 0) rfl)
theorem dX10_leastLike_1 : decode cX10_leastLike 1 = .ok (.aload_n 0, 1) := dAX10_leastLike (1, (.aload_n 0, 1)) (List.mem_of_getElem? (i := 1) rfl)
theorem dX10_leastLike_2 : decode cX10_leastLike 2 = .ok (.getfield 26, 3) := dAX10_leastLike (2, (.getfield 26, 3)) (List.mem_of_getElem? (i := 2) rfl)
theorem dX10_leastLike_5 : decode cX10_leastLike 5 = .ok (.invokevirtual 259, 3) := dAX10_leastLike (5, (.invokevirtual 259, 3)) (List.mem_of_getElem? (i := 3) rfl)
theorem dX10_leastLike_8 : decode cX10_leastLike 8 = .ok (.istore_n 3, 1) := dAX10_leastLike (8, (.istore_n 3, 1)) (List.mem_of_getElem? (i := 4) rfl)
theorem dX10_leastLike_9 : decode cX10_leastLike 9 = .ok (.iconst 0, 1) := dAX10_leastLike (9, (.iconst 0, 1)) (List.mem_of_getElem? (i := 5) rfl)
theorem dX10_leastLike_10 : decode cX10_leastLike 10 = .ok (.istore 4, 2) := dAX10_leastLike (10, (.istore 4, 2)) (List.mem_of_getElem? (i := 6) rfl)
theorem dX10_leastLike_12 : decode cX10_leastLike 12 = .ok (.iload 4, 2) := dAX10_leastLike (12, (.iload 4, 2)) (List.mem_of_getElem? (i := 7) rfl)
theorem dX10_leastLike_14 : decode cX10_leastLike 14 = .ok (.iload_n 1, 1) := dAX10_leastLike (14, (.iload_n 1, 1)) (List.mem_of_getElem? (i := 8) rfl)
theorem dX10_leastLike_15 : decode cX10_leastLike 15 = .ok (.if_icmp .ge 47, 3) := dAX10_leastLike (15, (.if_icmp .ge 47, 3)) (List.mem_of_getElem? (i := 9) rfl)
theorem dX10_leastLike_18 : decode cX10_leastLike 18 = .ok (.iload 4, 2) := dAX10_leastLike (18, (.iload 4, 2)) (List.mem_of_getElem? (i := 10) rfl)
theorem dX10_leastLike_20 : decode cX10_leastLike 20 = .ok (.iload_n 3, 1) := dAX10_leastLike (20, (.iload_n 3, 1)) (List.mem_of_getElem? (i := 11) rfl)
theorem dX10_leastLike_21 : decode cX10_leastLike 21 = .ok (.iconst (-1), 1) := dAX10_leastLike (21, (.iconst (-1), 1)) (List.mem_of_getElem? (i := 12) rfl)
theorem dX10_leastLike_22 : decode cX10_leastLike 22 = .ok (.ixor, 1) := dAX10_leastLike (22, (.ixor, 1)) (List.mem_of_getElem? (i := 13) rfl)
theorem dX10_leastLike_23 : decode cX10_leastLike 23 = .ok (.iand, 1) := dAX10_leastLike (23, (.iand, 1)) (List.mem_of_getElem? (i := 14) rfl)
theorem dX10_leastLike_24 : decode cX10_leastLike 24 = .ok (.ifCond .ne 32, 3) := dAX10_leastLike (24, (.ifCond .ne 32, 3)) (List.mem_of_getElem? (i := 15) rfl)
theorem dX10_leastLike_27 : decode cX10_leastLike 27 = .ok (.iload 4, 2) := dAX10_leastLike (27, (.iload 4, 2)) (List.mem_of_getElem? (i := 16) rfl)
theorem dX10_leastLike_29 : decode cX10_leastLike 29 = .ok (.invokestatic 306, 3) := dAX10_leastLike (29, (.invokestatic 306, 3)) (List.mem_of_getElem? (i := 17) rfl)
theorem dX10_leastLike_32 : decode cX10_leastLike 32 = .ok (.iload_n 1, 1) := dAX10_leastLike (32, (.iload_n 1, 1)) (List.mem_of_getElem? (i := 18) rfl)
theorem dX10_leastLike_33 : decode cX10_leastLike 33 = .ok (.invokestatic 306, 3) := dAX10_leastLike (33, (.invokestatic 306, 3)) (List.mem_of_getElem? (i := 19) rfl)
theorem dX10_leastLike_36 : decode cX10_leastLike 36 = .ok (.if_icmp .ne 20, 3) := dAX10_leastLike (36, (.if_icmp .ne 20, 3)) (List.mem_of_getElem? (i := 20) rfl)
theorem dX10_leastLike_39 : decode cX10_leastLike 39 = .ok (.aload_n 0, 1) := dAX10_leastLike (39, (.aload_n 0, 1)) (List.mem_of_getElem? (i := 21) rfl)
theorem dX10_leastLike_40 : decode cX10_leastLike 40 = .ok (.iload 4, 2) := dAX10_leastLike (40, (.iload 4, 2)) (List.mem_of_getElem? (i := 22) rfl)
theorem dX10_leastLike_42 : decode cX10_leastLike 42 = .ok (.invokevirtual 318, 3) := dAX10_leastLike (42, (.invokevirtual 318, 3)) (List.mem_of_getElem? (i := 23) rfl)
theorem dX10_leastLike_45 : decode cX10_leastLike 45 = .ok (.iconst 0, 1) := dAX10_leastLike (45, (.iconst 0, 1)) (List.mem_of_getElem? (i := 24) rfl)
theorem dX10_leastLike_46 : decode cX10_leastLike 46 = .ok (.iload_n 2, 1) := dAX10_leastLike (46, (.iload_n 2, 1)) (List.mem_of_getElem? (i := 25) rfl)
theorem dX10_leastLike_47 : decode cX10_leastLike 47 = .ok (.invokestatic 144, 3) := dAX10_leastLike (47, (.invokestatic 144, 3)) (List.mem_of_getElem? (i := 26) rfl)
theorem dX10_leastLike_50 : decode cX10_leastLike 50 = .ok (.ifCond .eq 6, 3) := dAX10_leastLike (50, (.ifCond .eq 6, 3)) (List.mem_of_getElem? (i := 27) rfl)
theorem dX10_leastLike_53 : decode cX10_leastLike 53 = .ok (.iload 4, 2) := dAX10_leastLike (53, (.iload 4, 2)) (List.mem_of_getElem? (i := 28) rfl)
theorem dX10_leastLike_55 : decode cX10_leastLike 55 = .ok (.ireturn, 1) := dAX10_leastLike (55, (.ireturn, 1)) (List.mem_of_getElem? (i := 29) rfl)
theorem dX10_leastLike_56 : decode cX10_leastLike 56 = .ok (.iinc 4 1, 3) := dAX10_leastLike (56, (.iinc 4 1, 3)) (List.mem_of_getElem? (i := 30) rfl)
theorem dX10_leastLike_59 : decode cX10_leastLike 59 = .ok (.goto (-47), 3) := dAX10_leastLike (59, (.goto (-47), 3)) (List.mem_of_getElem? (i := 31) rfl)
theorem dX10_leastLike_62 : decode cX10_leastLike 62 = .ok (.iload_n 1, 1) := dAX10_leastLike (62, (.iload_n 1, 1)) (List.mem_of_getElem? (i := 32) rfl)
theorem dX10_leastLike_63 : decode cX10_leastLike 63 = .ok (.ireturn, 1) := dAX10_leastLike (63, (.ireturn, 1)) (List.mem_of_getElem? (i := 33) rfl)
set_option maxRecDepth 20000 in
theorem ggX10_leastLike_X10_thereOf : GoodIn wsX10_leastLike wsX10_thereOf := goodIn_r _ [6, 7, 8, 9, 5, 10, 72, 73, 74, 75, 76, 77, 78, 79, 80, 81, 82, 83, 84, 85, 86, 87, 88, 89, 90, 91, 92, 93, 94, 95, 96, 97, 98, 99, 100, 101, 102, 103, 104, 105, 106] rfl (by decide +kernel)
set_option maxRecDepth 20000 in
theorem gX10_leastLike_X10_thereOf : GoodIn wsX10_leastLike (wsV RX10 259 RX10 yX10_thereOf wsX10_thereOf) := goodIn_app (goodIn_of _ (by decide +kernel)) ggX10_leastLike_X10_thereOf
set_option maxRecDepth 20000 in
theorem ggX10_leastLike_X10_ones : GoodIn wsX10_leastLike wsX10_ones := goodIn_r _ [13] rfl (by decide +kernel)
set_option maxRecDepth 20000 in
theorem gX10_leastLike_X10_ones : GoodIn wsX10_leastLike (va_wsS RX10 306 yX10_ones wsX10_ones) := goodIn_app (goodIn_of _ (by decide +kernel)) ggX10_leastLike_X10_ones
set_option maxRecDepth 20000 in
theorem ggX10_leastLike_X10_endsIf : GoodIn wsX10_leastLike wsX10_endsIf := goodIn_r _ [17, 1, 18, 19, 20, 5, 21, 22, 23, 24, 25, 26, 27, 28, 29, 7, 30, 31, 32, 8, 9, 10, 33, 34, 35, 36, 37, 2, 3, 4, 6, 38, 39, 40, 41, 42, 43, 44, 45, 46, 47, 48, 49, 50, 51, 52, 53, 54, 55, 56, 57, 58, 59, 60, 61, 62, 63, 64, 65, 66, 67, 68, 72, 73, 74, 75, 76, 77, 78, 79, 80, 81, 82, 83, 84, 85, 86, 87, 88, 89, 90, 91, 92, 93, 94, 95, 96, 97, 98, 99, 100, 101, 102, 103, 104, 105, 106] rfl (by decide +kernel)
set_option maxRecDepth 20000 in
theorem gX10_leastLike_X10_endsIf : GoodIn wsX10_leastLike (wsV RX10 318 RX10 yX10_endsIf wsX10_endsIf) := goodIn_app (goodIn_of _ (by decide +kernel)) ggX10_leastLike_X10_endsIf
set_option maxRecDepth 20000 in
theorem ggX10_leastLike_X10_in : GoodIn wsX10_leastLike wsX10_in := goodIn_r _ [71] rfl (by decide +kernel)
set_option maxRecDepth 20000 in
theorem gX10_leastLike_X10_in : GoodIn wsX10_leastLike (va_wsS RX10 144 yX10_in wsX10_in) := goodIn_app (goodIn_of _ (by decide +kernel)) ggX10_leastLike_X10_in
theorem kX10_leastLike_26 : Cond.fieldLink RX10 26 "EveningVowModel" "st" "[I" ∈ wsX10_leastLike := List.mem_of_getElem? (i := 1) rfl
theorem iX10_leastLike_X10 : ∀ w ∈ u_ws RX10 TX10 35, w ∈ wsX10_leastLike := fun w h => (List.mem_cons_of_mem _ (List.mem_append_right _ h))
set_option maxHeartbeats 4000000 in
set_option maxRecDepth 100000 in
theorem wX10_leastLike_L12 {p : Program} {l : Launch} {e : Env} {s : State} {m : MethodId} {args : Array Value} {below : List Frame} {meth : Method} {c : Code} {g : GG} {A : Nat → Prop} (C0 : Cx p s m args meth c cX10_leastLike 5 (some .int) RX10 wsX10_leastLike g A) (a_t : Nat) (p_t : Nat → Nat) (n : Nat) (x1 : Int32) (x2 : Int32) (x3 : Int32) (f_t_15 : Nat → Int32) (f_t_17 : Nat → Int32)  (r : Int32) (o_t' : Nat → Int32) (f_t_25' : Nat → Int32) (K : (Nat → Int32) → (Nat → Int32) → Option (Int32 × (Nat → Int32) × (Nat → Int32))) (hKx : ∀ (o_t : Nat → Int32) (f_t_25 : Nat → Int32) (H : Heap) (locs : List Loc) (ls : Array Slot), K o_t f_t_25 = some (r, o_t', f_t_25') → va_P g.1 vwCl [oX10 a_t p_t o_t, aI g (p_t 15) 266 f_t_15, aI g (p_t 17) 17 f_t_17, aI g (p_t 25) 17 f_t_25] H → va_D A [oX10 a_t p_t o_t, aI g (p_t 15) 266 f_t_15, aI g (p_t 17) 17 f_t_17, aI g (p_t 25) 17 f_t_25] → va_S A s.heap H locs → lv_has ls 5 [(1, .int x1)] → W p l e ({ frames := 6, cells := 0, slots := 0, locals := 137 } : Room) s m args below meth c H locs 0 0 (MQ below (EndI g r [oX10 a_t p_t o_t', aI g (p_t 15) 266 f_t_15, aI g (p_t 17) 17 f_t_17, aI g (p_t 25) 17 f_t_25'] A) args s 0 0 A) (F0 m 62 ls [])) : ∀ (k : Nat) (x4 : Int32) (o_t : Nat → Int32) (f_t_25 : Nat → Int32), fX10_leastLike_L12 n x1 x2 x3 f_t_15 f_t_17 K k x4 o_t f_t_25 = some (r, o_t', f_t_25') → ∀ (H : Heap) (locs : List Loc) (ls : Array Slot), va_P g.1 vwCl [oX10 a_t p_t o_t, aI g (p_t 15) 266 f_t_15, aI g (p_t 17) 17 f_t_17, aI g (p_t 25) 17 f_t_25] H → va_D A [oX10 a_t p_t o_t, aI g (p_t 15) 266 f_t_15, aI g (p_t 17) 17 f_t_17, aI g (p_t 25) 17 f_t_25] → va_S A s.heap H locs → lv_has ls 5 [(0, .ref a_t), (1, .int x1), (2, .int x2), (3, .int x3), (4, .int x4)] → W p l e ({ frames := 6, cells := 0, slots := 0, locals := 137 } : Room) s m args below meth c H locs 0 0 (MQ below (EndI g r [oX10 a_t p_t o_t', aI g (p_t 15) 266 f_t_15, aI g (p_t 17) 17 f_t_17, aI g (p_t 25) 17 f_t_25'] A) args s 0 0 A) (F0 m 12 ls []) := by
  obtain ⟨hx, hb, hml, hown, hts, hr, hlk, hK, hA, hSW⟩ := id C0
  intro k
  induction k with
  | zero =>
    intro x4 o_t f_t_25 hF
    exact absurd hF (by simp [fX10_leastLike_L12])
  | succ k ih =>
    intro x4 o_t f_t_25 hF H locs ls hP hD hS hl
    rw [fX10_leastLike_L12] at hF
    refine lv_iload hx hb dX10_leastLike_12 (lv_at hl 4 rfl) ?_
    refine lv_iload_n hx hb dX10_leastLike_14 rfl (lv_at hl 1 rfl) ?_
    refine lv_icmp_ge (tgt := 62) hx hb dX10_leastLike_15 (by decide) (fun c_3 => ?_) (fun c_3 => ?_)
    · have hF := it_p c_3 hF
      exact hKx o_t f_t_25 _ _ _ hF (hP.sub [0, 1, 2, 3] rfl) (hD.sub [0, 1, 2, 3] rfl rfl) hS (lv_sub hl [1] rfl)
    · have hF := it_n c_3 hF
      refine lv_iload hx hb dX10_leastLike_18 (lv_at hl 4 rfl) ?_
      refine lv_iload_n hx hb dX10_leastLike_20 rfl (lv_at hl 3 rfl) ?_
      refine lv_iconst (v := (-1 : Int32)) hx hb dX10_leastLike_21 (by decide) ?_
      refine lv_ixor hx hb dX10_leastLike_22 ?_
      refine lv_iand hx hb dX10_leastLike_23 ?_
      refine lv_if_ne (tgt := 56) hx hb dX10_leastLike_24 (by decide) (fun c_4 => ?_) (fun c_4 => ?_)
      · have hF := it_n c_4 hF
        refine lv_iinc (v := (x4 + (1 : Int32))) (lv' := [(4, .int (x4 + (1 : Int32))), (0, .ref a_t), (1, .int x1), (2, .int x2), (3, .int x3)]) hx hb dX10_leastLike_56 hl (k := 4) rfl rfl (by decide) rfl (fun ls hl => ?_)
        refine lv_goto (tgt := 12) hx hb dX10_leastLike_59 (by decide) ?_
        exact ih (x4 + (1 : Int32)) o_t f_t_25 hF _ _ _ (hP.sub [0, 1, 2, 3] rfl) (hD.sub [0, 1, 2, 3] rfl rfl) hS (lv_sub hl [1, 2, 3, 4, 0] rfl)
      · have hF := it_p c_4 hF
        refine lv_iload hx hb dX10_leastLike_27 (lv_at hl 4 rfl) ?_
        obtain ⟨u_5, hu_6, hF⟩ := ob1_some hF
        refine call_si (wr := [oX10 a_t p_t o_t, aI g (p_t 15) 266 f_t_15, aI g (p_t 17) 17 f_t_17, aI g (p_t 25) 17 f_t_25]) (As := [.int x4]) (rest := []) C0 (mX10_ones l g n x4 u_5 hu_6) (va_cwS 1 hts gX10_leastLike_X10_ones rfl rfl rfl (by decide +kernel) ⟨Nat.le_of_ble_eq_true rfl, Nat.le_of_ble_eq_true rfl⟩) hP hD hS [] [0, 1, 2, 3] rfl rfl rfl rfl rfl (by decide) hl.1 rfl rfl (Nat.le_of_ble_eq_true rfl) ⟨Nat.zero_le _, Nat.zero_le _⟩ dX10_leastLike_29 ?_
        intro H locs hP hD hS
        refine lv_iload_n hx hb dX10_leastLike_32 rfl (lv_at hl 1 rfl) ?_
        obtain ⟨u_7, hu_8, hF⟩ := ob1_some hF
        refine call_si (wr := [oX10 a_t p_t o_t, aI g (p_t 15) 266 f_t_15, aI g (p_t 17) 17 f_t_17, aI g (p_t 25) 17 f_t_25]) (As := [.int x1]) (rest := [.int u_5]) C0 (mX10_ones l g n x1 u_7 hu_8) (va_cwS 1 hts gX10_leastLike_X10_ones rfl rfl rfl (by decide +kernel) ⟨Nat.le_of_ble_eq_true rfl, Nat.le_of_ble_eq_true rfl⟩) hP hD hS [] [0, 1, 2, 3] rfl rfl rfl rfl rfl (by decide) hl.1 rfl rfl (Nat.le_of_ble_eq_true rfl) ⟨Nat.zero_le _, Nat.zero_le _⟩ dX10_leastLike_33 ?_
        intro H locs hP hD hS
        refine lv_icmp_ne (tgt := 56) hx hb dX10_leastLike_36 (by decide) (fun c_9 => ?_) (fun c_9 => ?_)
        · have hF := it_n c_9 hF
          refine lv_iinc (v := (x4 + (1 : Int32))) (lv' := [(4, .int (x4 + (1 : Int32))), (0, .ref a_t), (1, .int x1), (2, .int x2), (3, .int x3)]) hx hb dX10_leastLike_56 hl (k := 4) rfl rfl (by decide) rfl (fun ls hl => ?_)
          refine lv_goto (tgt := 12) hx hb dX10_leastLike_59 (by decide) ?_
          exact ih (x4 + (1 : Int32)) o_t f_t_25 hF _ _ _ (hP.sub [0, 1, 2, 3] rfl) (hD.sub [0, 1, 2, 3] rfl rfl) hS (lv_sub hl [1, 2, 3, 4, 0] rfl)
        · have hF := it_p c_9 hF
          refine lv_aload_n hx hb dX10_leastLike_39 rfl (lv_at hl 0 rfl) ?_
          refine lv_iload hx hb dX10_leastLike_40 (lv_at hl 4 rfl) ?_
          obtain ⟨u_10, u_11, u_12, hu_13, hF⟩ := ob3_some hF
          refine call_i (wr := []) (As := [.int x4]) (rest := []) (ci := 10) (q0 := 0) C0 (mX10_endsIf l g a_t p_t n x4 o_t f_t_15 f_t_17 f_t_25 u_10 u_11 u_12 hu_13) (cwV 1 hts gX10_leastLike_X10_endsIf rfl rfl rfl (by decide +kernel) ⟨Nat.le_of_ble_eq_true rfl, Nat.le_of_ble_eq_true rfl⟩) hP hD hS [0, 1, 2, 3] [] rfl rfl rfl rfl rfl (by decide) rfl rfl hl.1 rfl rfl (Nat.le_of_ble_eq_true rfl) ⟨Nat.zero_le _, Nat.zero_le _⟩ dX10_leastLike_42 ?_
          intro H locs hP hD hS
          refine lv_iconst (v := (0 : Int32)) hx hb dX10_leastLike_45 (by decide) ?_
          refine lv_iload_n hx hb dX10_leastLike_46 rfl (lv_at hl 2 rfl) ?_
          obtain ⟨u_14, hu_15, hF⟩ := ob1_some hF
          refine call_si (wr := [oX10 a_t p_t u_11, aI g (p_t 15) 266 f_t_15, aI g (p_t 17) 17 f_t_17, aI g (p_t 25) 17 u_12]) (As := [.int u_10, .int (0 : Int32), .int x2]) (rest := []) C0 (mX10_in l g n u_10 (0 : Int32) x2 u_14 hu_15) (va_cwS 3 hts gX10_leastLike_X10_in rfl rfl rfl (by decide +kernel) ⟨Nat.le_of_ble_eq_true rfl, Nat.le_of_ble_eq_true rfl⟩) hP hD hS [] [0, 1, 2, 3] rfl rfl rfl rfl rfl (by decide) hl.1 rfl rfl (Nat.le_of_ble_eq_true rfl) ⟨Nat.zero_le _, Nat.zero_le _⟩ dX10_leastLike_47 ?_
          intro H locs hP hD hS
          refine lv_if_eq (tgt := 56) hx hb dX10_leastLike_50 (by decide) (fun c_16 => ?_) (fun c_16 => ?_)
          · have hF := it_p c_16 hF
            refine lv_iinc (v := (x4 + (1 : Int32))) (lv' := [(4, .int (x4 + (1 : Int32))), (0, .ref a_t), (1, .int x1), (2, .int x2), (3, .int x3)]) hx hb dX10_leastLike_56 hl (k := 4) rfl rfl (by decide) rfl (fun ls hl => ?_)
            refine lv_goto (tgt := 12) hx hb dX10_leastLike_59 (by decide) ?_
            exact ih (x4 + (1 : Int32)) u_11 u_12 hF _ _ _ (hP.sub [0, 1, 2, 3] rfl) (hD.sub [0, 1, 2, 3] rfl rfl) hS (lv_sub hl [1, 2, 3, 4, 0] rfl)
          · have hF := it_n c_16 hF
            refine lv_iload hx hb dX10_leastLike_53 (lv_at hl 4 rfl) ?_
            cases hF
            exact ret_i C0 hP hD hS [0, 1, 2, 3] rfl rfl rfl dX10_leastLike_55 rfl
set_option maxHeartbeats 4000000 in
set_option maxRecDepth 100000 in
theorem mX10_leastLike (l : Launch) (g : GG) (a_t : Nat) (p_t : Nat → Nat) (n : Nat) (x1 : Int32) (x2 : Int32) (o_t : Nat → Int32) (f_t_15 : Nat → Int32) (f_t_17 : Nat → Int32) (f_t_25 : Nat → Int32) (r : Int32) (o_t' : Nat → Int32) (f_t_25' : Nat → Int32) (hF : fX10_leastLike n x1 x2 o_t f_t_15 f_t_17 f_t_25 = some (r, o_t', f_t_25')) : MI l g yX10_leastLike wsX10_leastLike ({ frames := 6, cells := 0, slots := 0, locals := 137 } : Room) [.ref a_t, .int x1, .int x2] [oX10 a_t p_t o_t, aI g (p_t 15) 266 f_t_15, aI g (p_t 17) 17 f_t_17, aI g (p_t 25) 17 f_t_25] r [oX10 a_t p_t o_t', aI g (p_t 15) 266 f_t_15, aI g (p_t 17) 17 f_t_17, aI g (p_t 25) 17 f_t_25'] := by
  refine MI.of (cc := cX10_leastLike) (maxL := 5) (rt := .int) (own := RX10) rfl rfl (by decide) (Nat.le_of_ble_eq_true rfl) ?_
  intro p e s m args below meth c A C0 hP hD hS ls hl
  obtain ⟨hx, hb, hml, hown, hts, hr, hlk, hK, hA, hSW⟩ := id C0
  have hl : lv_has ls 5 [(0, .ref a_t), (1, .int x1), (2, .int x2)] := hl
  rw [fX10_leastLike] at hF
  refine lv_aload_n hx hb dX10_leastLike_0 rfl (lv_at hl 0 rfl) ?_
  refine lv_aload_n hx hb dX10_leastLike_1 rfl (lv_at hl 0 rfl) ?_
  refine va_get (D := g.1) (ci := 10) (v := .ref (p_t 17)) (C := RX10) (T := TX10) (N := 35) hx hb hts iX10_leastLike_X10 hown hK.1 hP 0 rfl rfl 17 (by decide) (hts _ kX10_leastLike_26) (fun _ h9 => h9) rfl dX10_leastLike_2 ?_
  obtain ⟨u_1, hu_2, hF⟩ := ob1_some hF
  refine call_i (wr := [aI g (p_t 25) 17 f_t_25]) (As := [.ref (p_t 17)]) (rest := []) (ci := 10) (q0 := 0) C0 (mX10_thereOf l g a_t (p_t 17) p_t n o_t f_t_15 f_t_17 u_1 hu_2) (cwV 1 hts gX10_leastLike_X10_thereOf rfl rfl rfl (by decide +kernel) ⟨Nat.le_of_ble_eq_true rfl, Nat.le_of_ble_eq_true rfl⟩) hP hD hS [0, 1, 2] [3] rfl rfl rfl rfl rfl (by decide) rfl rfl hl.1 rfl rfl (Nat.le_of_ble_eq_true rfl) ⟨Nat.zero_le _, Nat.zero_le _⟩ dX10_leastLike_5 ?_
  intro H locs hP hD hS
  refine lv_istore_n (lv' := [(3, .int u_1), (0, .ref a_t), (1, .int x1), (2, .int x2)]) hx hb dX10_leastLike_8 rfl hl (by decide) rfl (fun ls hl => ?_)
  refine lv_iconst (v := (0 : Int32)) hx hb dX10_leastLike_9 (by decide) ?_
  refine lv_istore (lv' := [(4, .int (0 : Int32)), (3, .int u_1), (0, .ref a_t), (1, .int x1), (2, .int x2)]) hx hb dX10_leastLike_10 hl (by decide) rfl (fun ls hl => ?_)
  refine wX10_leastLike_L12 C0 a_t p_t n x1 x2 u_1 f_t_15 f_t_17 r o_t' f_t_25' _ ?_ n (0 : Int32) o_t f_t_25 hF _ _ _ (hP.sub [1, 2, 3, 0] rfl) (hD.sub [1, 2, 3, 0] rfl rfl) hS (lv_sub hl [2, 3, 4, 1, 0] rfl)
  · intro o_t_x12 f_t_25_x12 H locs ls hF hP hD hS hl
    refine lv_iload_n hx hb dX10_leastLike_62 rfl (lv_at hl 0 rfl) ?_
    cases hF
    exact ret_i C0 hP hD hS [0, 1, 2, 3] rfl rfl rfl dX10_leastLike_63 rfl

theorem dAX10_without : ∀ q ∈ ([(0, (.aload_n 0, 1)), (1, (.invokevirtual 159, 3)), (4, (.aload_n 0, 1)), (5, (.getfield 176, 3)), (8, (.ifCond .ne 9, 3)), (11, (.aload_n 0, 1)), (12, (.iconst 1, 1)), (13, (.invokevirtual 162, 3)), (16, (.ireturn, 1)), (17, (.iload_n 1, 1)), (18, (.iconst 0, 1)), (19, (.bipush 60, 2)), (21, (.invokestatic 144, 3)), (24, (.ifCond .ne 9, 3)), (27, (.aload_n 0, 1)), (28, (.iconst 2, 1)), (29, (.invokevirtual 162, 3)), (32, (.ireturn, 1)), (33, (.aload_n 0, 1)), (34, (.aload_n 0, 1)), (35, (.getfield 26, 3)), (38, (.invokevirtual 259, 3)), (41, (.istore_n 2, 1)), (42, (.iload_n 2, 1)), (43, (.istore_n 3, 1)), (44, (.iconst 0, 1)), (45, (.istore 4, 2)), (47, (.iload 4, 2)), (49, (.iconst 1, 1)), (50, (.aload_n 0, 1)), (51, (.getfield 20, 3)), (54, (.iconst 3, 1)), (55, (.iaload, 1)), (56, (.ishl, 1)), (57, (.if_icmp .ge 47, 3)), (60, (.iload 4, 2)), (62, (.iload_n 2, 1)), (63, (.iconst (-1), 1)), (64, (.ixor, 1)), (65, (.iand, 1)), (66, (.ifCond .ne 32, 3)), (69, (.iload 4, 2)), (71, (.invokestatic 306, 3)), (74, (.iload_n 3, 1)), (75, (.invokestatic 306, 3)), (78, (.if_icmp .ge 20, 3)), (81, (.aload_n 0, 1)), (82, (.iload 4, 2)), (84, (.invokevirtual 318, 3)), (87, (.iconst 0, 1)), (88, (.iload_n 1, 1)), (89, (.invokestatic 144, 3)), (92, (.ifCond .eq 6, 3)), (95, (.iload 4, 2)), (97, (.istore_n 3, 1)), (98, (.iinc 4 1, 3)), (101, (.goto (-54), 3)), (104, (.aload_n 0, 1)), (105, (.iload_n 3, 1)), (106, (.iload_n 1, 1)), (107, (.invokevirtual 322, 3)), (110, (.ireturn, 1))] : List (Nat × (Instr × Nat))), decode cX10_without q.1 = .ok q.2 := by decide +kernel
theorem dX10_without_0 : decode cX10_without 0 = .ok (.aload_n 0, 1) := dAX10_without (0, (.aload_n 0, 1)) (List.mem_of_getElem? (i := 0) rfl)
theorem dX10_without_1 : decode cX10_without 1 = .ok (.invokevirtual 159, 3) := dAX10_without (1, (.invokevirtual 159, 3)) (List.mem_of_getElem? (i := 1) rfl)
theorem dX10_without_4 : decode cX10_without 4 = .ok (.aload_n 0, 1) := dAX10_without (4, (.aload_n 0, 1)) (List.mem_of_getElem? (i := 2) rfl)
theorem dX10_without_5 : decode cX10_without 5 = .ok (.getfield 176, 3) := dAX10_without (5, (.getfield 176, 3)) (List.mem_of_getElem? (i := 3) rfl)
theorem dX10_without_8 : decode cX10_without 8 = .ok (.ifCond .ne 9, 3) := dAX10_without (8, (.ifCond .ne 9, 3)) (List.mem_of_getElem? (i := 4) rfl)
theorem dX10_without_11 : decode cX10_without 11 = .ok (.aload_n 0, 1) := dAX10_without (11, (.aload_n 0, 1)) (List.mem_of_getElem? (i := 5) rfl)
theorem dX10_without_12 : decode cX10_without 12 = .ok (.iconst 1, 1) := dAX10_without (12, (.iconst 1, 1)) (List.mem_of_getElem? (i := 6) rfl)
theorem dX10_without_13 : decode cX10_without 13 = .ok (.invokevirtual 162, 3) := dAX10_without (13, (.invokevirtual 162, 3)) (List.mem_of_getElem? (i := 7) rfl)
theorem dX10_without_16 : decode cX10_without 16 = .ok (.ireturn, 1) := dAX10_without (16, (.ireturn, 1)) (List.mem_of_getElem? (i := 8) rfl)
theorem dX10_without_17 : decode cX10_without 17 = .ok (.iload_n 1, 1) := dAX10_without (17, (.iload_n 1, 1)) (List.mem_of_getElem? (i := 9) rfl)
theorem dX10_without_18 : decode cX10_without 18 = .ok (.iconst 0, 1) := dAX10_without (18, (.iconst 0, 1)) (List.mem_of_getElem? (i := 10) rfl)
theorem dX10_without_19 : decode cX10_without 19 = .ok (.bipush 60, 2) := dAX10_without (19, (.bipush 60, 2)) (List.mem_of_getElem? (i := 11) rfl)
theorem dX10_without_21 : decode cX10_without 21 = .ok (.invokestatic 144, 3) := dAX10_without (21, (.invokestatic 144, 3)) (List.mem_of_getElem? (i := 12) rfl)
theorem dX10_without_24 : decode cX10_without 24 = .ok (.ifCond .ne 9, 3) := dAX10_without (24, (.ifCond .ne 9, 3)) (List.mem_of_getElem? (i := 13) rfl)
theorem dX10_without_27 : decode cX10_without 27 = .ok (.aload_n 0, 1) := dAX10_without (27, (.aload_n 0, 1)) (List.mem_of_getElem? (i := 14) rfl)
theorem dX10_without_28 : decode cX10_without 28 = .ok (.iconst 2, 1) := dAX10_without (28, (.iconst 2, 1)) (List.mem_of_getElem? (i := 15) rfl)
theorem dX10_without_29 : decode cX10_without 29 = .ok (.invokevirtual 162, 3) := dAX10_without (29, (.invokevirtual 162, 3)) (List.mem_of_getElem? (i := 16) rfl)
theorem dX10_without_32 : decode cX10_without 32 = .ok (.ireturn, 1) := dAX10_without (32, (.ireturn, 1)) (List.mem_of_getElem? (i := 17) rfl)
theorem dX10_without_33 : decode cX10_without 33 = .ok (.aload_n 0, 1) := dAX10_without (33, (.aload_n 0, 1)) (List.mem_of_getElem? (i := 18) rfl)
theorem dX10_without_34 : decode cX10_without 34 = .ok (.aload_n 0, 1) := dAX10_without (34, (.aload_n 0, 1)) (List.mem_of_getElem? (i := 19) rfl)
theorem dX10_without_35 : decode cX10_without 35 = .ok (.getfield 26, 3) := dAX10_without (35, (.getfield 26, 3)) (List.mem_of_getElem? (i := 20) rfl)
theorem dX10_without_38 : decode cX10_without 38 = .ok (.invokevirtual 259, 3) := dAX10_without (38, (.invokevirtual 259, 3)) (List.mem_of_getElem? (i := 21) rfl)
theorem dX10_without_41 : decode cX10_without 41 = .ok (.istore_n 2, 1) := dAX10_without (41, (.istore_n 2, 1)) (List.mem_of_getElem? (i := 22) rfl)
theorem dX10_without_42 : decode cX10_without 42 = .ok (.iload_n 2, 1) := dAX10_without (42, (.iload_n 2, 1)) (List.mem_of_getElem? (i := 23) rfl)
theorem dX10_without_43 : decode cX10_without 43 = .ok (.istore_n 3, 1) := dAX10_without (43, (.istore_n 3, 1)) (List.mem_of_getElem? (i := 24) rfl)
theorem dX10_without_44 : decode cX10_without 44 = .ok (.iconst 0, 1) := dAX10_without (44, (.iconst 0, 1)) (List.mem_of_getElem? (i := 25) rfl)
theorem dX10_without_45 : decode cX10_without 45 = .ok (.istore 4, 2) := dAX10_without (45, (.istore 4, 2)) (List.mem_of_getElem? (i := 26) rfl)
theorem dX10_without_47 : decode cX10_without 47 = .ok (.iload 4, 2) := dAX10_without (47, (.iload 4, 2)) (List.mem_of_getElem? (i := 27) rfl)
theorem dX10_without_49 : decode cX10_without 49 = .ok (.iconst 1, 1) := dAX10_without (49, (.iconst 1, 1)) (List.mem_of_getElem? (i := 28) rfl)
theorem dX10_without_50 : decode cX10_without 50 = .ok (.aload_n 0, 1) := dAX10_without (50, (.aload_n 0, 1)) (List.mem_of_getElem? (i := 29) rfl)
theorem dX10_without_51 : decode cX10_without 51 = .ok (.getfield 20, 3) := dAX10_without (51, (.getfield 20, 3)) (List.mem_of_getElem? (i := 30) rfl)
theorem dX10_without_54 : decode cX10_without 54 = .ok (.iconst 3, 1) := dAX10_without (54, (.iconst 3, 1)) (List.mem_of_getElem? (i := 31) rfl)
theorem dX10_without_55 : decode cX10_without 55 = .ok (.iaload, 1) := dAX10_without (55, (.iaload, 1)) (List.mem_of_getElem? (i := 32) rfl)
theorem dX10_without_56 : decode cX10_without 56 = .ok (.ishl, 1) := dAX10_without (56, (.ishl, 1)) (List.mem_of_getElem? (i := 33) rfl)
theorem dX10_without_57 : decode cX10_without 57 = .ok (.if_icmp .ge 47, 3) := dAX10_without (57, (.if_icmp .ge 47, 3)) (List.mem_of_getElem? (i := 34) rfl)
theorem dX10_without_60 : decode cX10_without 60 = .ok (.iload 4, 2) := dAX10_without (60, (.iload 4, 2)) (List.mem_of_getElem? (i := 35) rfl)
theorem dX10_without_62 : decode cX10_without 62 = .ok (.iload_n 2, 1) := dAX10_without (62, (.iload_n 2, 1)) (List.mem_of_getElem? (i := 36) rfl)
theorem dX10_without_63 : decode cX10_without 63 = .ok (.iconst (-1), 1) := dAX10_without (63, (.iconst (-1), 1)) (List.mem_of_getElem? (i := 37) rfl)
theorem dX10_without_64 : decode cX10_without 64 = .ok (.ixor, 1) := dAX10_without (64, (.ixor, 1)) (List.mem_of_getElem? (i := 38) rfl)
theorem dX10_without_65 : decode cX10_without 65 = .ok (.iand, 1) := dAX10_without (65, (.iand, 1)) (List.mem_of_getElem? (i := 39) rfl)
theorem dX10_without_66 : decode cX10_without 66 = .ok (.ifCond .ne 32, 3) := dAX10_without (66, (.ifCond .ne 32, 3)) (List.mem_of_getElem? (i := 40) rfl)
theorem dX10_without_69 : decode cX10_without 69 = .ok (.iload 4, 2) := dAX10_without (69, (.iload 4, 2)) (List.mem_of_getElem? (i := 41) rfl)
theorem dX10_without_71 : decode cX10_without 71 = .ok (.invokestatic 306, 3) := dAX10_without (71, (.invokestatic 306, 3)) (List.mem_of_getElem? (i := 42) rfl)
theorem dX10_without_74 : decode cX10_without 74 = .ok (.iload_n 3, 1) := dAX10_without (74, (.iload_n 3, 1)) (List.mem_of_getElem? (i := 43) rfl)
theorem dX10_without_75 : decode cX10_without 75 = .ok (.invokestatic 306, 3) := dAX10_without (75, (.invokestatic 306, 3)) (List.mem_of_getElem? (i := 44) rfl)
theorem dX10_without_78 : decode cX10_without 78 = .ok (.if_icmp .ge 20, 3) := dAX10_without (78, (.if_icmp .ge 20, 3)) (List.mem_of_getElem? (i := 45) rfl)
theorem dX10_without_81 : decode cX10_without 81 = .ok (.aload_n 0, 1) := dAX10_without (81, (.aload_n 0, 1)) (List.mem_of_getElem? (i := 46) rfl)
theorem dX10_without_82 : decode cX10_without 82 = .ok (.iload 4, 2) := dAX10_without (82, (.iload 4, 2)) (List.mem_of_getElem? (i := 47) rfl)
theorem dX10_without_84 : decode cX10_without 84 = .ok (.invokevirtual 318, 3) := dAX10_without (84, (.invokevirtual 318, 3)) (List.mem_of_getElem? (i := 48) rfl)
theorem dX10_without_87 : decode cX10_without 87 = .ok (.iconst 0, 1) := dAX10_without (87, (.iconst 0, 1)) (List.mem_of_getElem? (i := 49) rfl)
theorem dX10_without_88 : decode cX10_without 88 = .ok (.iload_n 1, 1) := dAX10_without (88, (.iload_n 1, 1)) (List.mem_of_getElem? (i := 50) rfl)
theorem dX10_without_89 : decode cX10_without 89 = .ok (.invokestatic 144, 3) := dAX10_without (89, (.invokestatic 144, 3)) (List.mem_of_getElem? (i := 51) rfl)
theorem dX10_without_92 : decode cX10_without 92 = .ok (.ifCond .eq 6, 3) := dAX10_without (92, (.ifCond .eq 6, 3)) (List.mem_of_getElem? (i := 52) rfl)
theorem dX10_without_95 : decode cX10_without 95 = .ok (.iload 4, 2) := dAX10_without (95, (.iload 4, 2)) (List.mem_of_getElem? (i := 53) rfl)
theorem dX10_without_97 : decode cX10_without 97 = .ok (.istore_n 3, 1) := dAX10_without (97, (.istore_n 3, 1)) (List.mem_of_getElem? (i := 54) rfl)
theorem dX10_without_98 : decode cX10_without 98 = .ok (.iinc 4 1, 3) := dAX10_without (98, (.iinc 4 1, 3)) (List.mem_of_getElem? (i := 55) rfl)
theorem dX10_without_101 : decode cX10_without 101 = .ok (.goto (-54), 3) := dAX10_without (101, (.goto (-54), 3)) (List.mem_of_getElem? (i := 56) rfl)
theorem dX10_without_104 : decode cX10_without 104 = .ok (.aload_n 0, 1) := dAX10_without (104, (.aload_n 0, 1)) (List.mem_of_getElem? (i := 57) rfl)
theorem dX10_without_105 : decode cX10_without 105 = .ok (.iload_n 3, 1) := dAX10_without (105, (.iload_n 3, 1)) (List.mem_of_getElem? (i := 58) rfl)
theorem dX10_without_106 : decode cX10_without 106 = .ok (.iload_n 1, 1) := dAX10_without (106, (.iload_n 1, 1)) (List.mem_of_getElem? (i := 59) rfl)
theorem dX10_without_107 : decode cX10_without 107 = .ok (.invokevirtual 322, 3) := dAX10_without (107, (.invokevirtual 322, 3)) (List.mem_of_getElem? (i := 60) rfl)
theorem dX10_without_110 : decode cX10_without 110 = .ok (.ireturn, 1) := dAX10_without (110, (.ireturn, 1)) (List.mem_of_getElem? (i := 61) rfl)
set_option maxRecDepth 20000 in
theorem ggX10_without_X10_good : GoodIn wsX10_without wsX10_good := goodIn_r _ [8, 9, 10, 87, 88, 89, 90, 91, 92, 93, 94, 95, 96, 97, 98, 99, 100, 101, 102, 103, 104, 105, 106, 107, 108, 109, 110, 111, 112, 113, 114, 115, 116, 117, 118, 119, 120, 121] rfl (by decide +kernel)
set_option maxRecDepth 20000 in
theorem gX10_without_X10_good : GoodIn wsX10_without (wsV RX10 159 RX10 yX10_good wsX10_good) := goodIn_app (goodIn_of _ (by decide +kernel)) ggX10_without_X10_good
set_option maxRecDepth 20000 in
theorem ggX10_without_X10_no : GoodIn wsX10_without wsX10_no := goodIn_r _ [14, 10, 87, 88, 89, 90, 91, 92, 93, 94, 95, 96, 97, 98, 99, 100, 101, 102, 103, 104, 105, 106, 107, 108, 109, 110, 111, 112, 113, 114, 115, 116, 117, 118, 119, 120, 121] rfl (by decide +kernel)
set_option maxRecDepth 20000 in
theorem gX10_without_X10_no : GoodIn wsX10_without (wsV RX10 162 RX10 yX10_no wsX10_no) := goodIn_app (goodIn_of _ (by decide +kernel)) ggX10_without_X10_no
set_option maxRecDepth 20000 in
theorem ggX10_without_X10_in : GoodIn wsX10_without wsX10_in := goodIn_r _ [17] rfl (by decide +kernel)
set_option maxRecDepth 20000 in
theorem gX10_without_X10_in : GoodIn wsX10_without (va_wsS RX10 144 yX10_in wsX10_in) := goodIn_app (goodIn_of _ (by decide +kernel)) ggX10_without_X10_in
set_option maxRecDepth 20000 in
theorem ggX10_without_X10_thereOf : GoodIn wsX10_without wsX10_thereOf := goodIn_r _ [21, 3, 22, 23, 7, 24, 87, 88, 89, 90, 91, 92, 93, 94, 95, 96, 97, 98, 99, 100, 101, 102, 103, 104, 105, 106, 107, 108, 109, 110, 111, 112, 113, 114, 115, 116, 117, 118, 119, 120, 121] rfl (by decide +kernel)
set_option maxRecDepth 20000 in
theorem gX10_without_X10_thereOf : GoodIn wsX10_without (wsV RX10 259 RX10 yX10_thereOf wsX10_thereOf) := goodIn_app (goodIn_of _ (by decide +kernel)) ggX10_without_X10_thereOf
set_option maxRecDepth 20000 in
theorem ggX10_without_X10_ones : GoodIn wsX10_without wsX10_ones := goodIn_r _ [27] rfl (by decide +kernel)
set_option maxRecDepth 20000 in
theorem gX10_without_X10_ones : GoodIn wsX10_without (va_wsS RX10 306 yX10_ones wsX10_ones) := goodIn_app (goodIn_of _ (by decide +kernel)) ggX10_without_X10_ones
set_option maxRecDepth 20000 in
theorem ggX10_without_X10_endsIf : GoodIn wsX10_without wsX10_endsIf := goodIn_r _ [31, 2, 32, 33, 34, 7, 35, 36, 37, 38, 39, 40, 41, 42, 43, 3, 44, 45, 46, 22, 23, 24, 47, 48, 49, 50, 51, 18, 19, 20, 21, 52, 53, 54, 55, 56, 57, 58, 59, 60, 61, 62, 63, 64, 65, 66, 67, 68, 69, 70, 71, 72, 73, 74, 75, 76, 77, 78, 79, 80, 81, 82, 87, 88, 89, 90, 91, 92, 93, 94, 95, 96, 97, 98, 99, 100, 101, 102, 103, 104, 105, 106, 107, 108, 109, 110, 111, 112, 113, 114, 115, 116, 117, 118, 119, 120, 121] rfl (by decide +kernel)
set_option maxRecDepth 20000 in
theorem gX10_without_X10_endsIf : GoodIn wsX10_without (wsV RX10 318 RX10 yX10_endsIf wsX10_endsIf) := goodIn_app (goodIn_of _ (by decide +kernel)) ggX10_without_X10_endsIf
set_option maxRecDepth 20000 in
theorem ggX10_without_X10_leastLike : GoodIn wsX10_without wsX10_leastLike := goodIn_r _ [86, 2, 18, 19, 20, 7, 21, 3, 22, 23, 24, 25, 26, 27, 28, 29, 30, 31, 32, 33, 34, 35, 36, 37, 38, 39, 40, 41, 42, 43, 44, 45, 46, 47, 48, 49, 50, 51, 52, 53, 54, 55, 56, 57, 58, 59, 60, 61, 62, 63, 64, 65, 66, 67, 68, 69, 70, 71, 72, 73, 74, 75, 76, 77, 78, 79, 80, 81, 82, 15, 16, 17, 87, 88, 89, 90, 91, 92, 93, 94, 95, 96, 97, 98, 99, 100, 101, 102, 103, 104, 105, 106, 107, 108, 109, 110, 111, 112, 113, 114, 115, 116, 117, 118, 119, 120, 121] rfl (by decide +kernel)
set_option maxRecDepth 20000 in
theorem gX10_without_X10_leastLike : GoodIn wsX10_without (wsV RX10 322 RX10 yX10_leastLike wsX10_leastLike) := goodIn_app (goodIn_of _ (by decide +kernel)) ggX10_without_X10_leastLike
theorem kX10_without_176 : Cond.fieldLink RX10 176 "EveningVowModel" "hasEvening" "Z" ∈ wsX10_without := List.mem_of_getElem? (i := 1) rfl
theorem iX10_without_X10 : ∀ w ∈ u_ws RX10 TX10 35, w ∈ wsX10_without := fun w h => (List.mem_cons_of_mem _ (List.mem_append_right _ h))
theorem kX10_without_26 : Cond.fieldLink RX10 26 "EveningVowModel" "st" "[I" ∈ wsX10_without := List.mem_of_getElem? (i := 2) rfl
theorem kX10_without_20 : Cond.fieldLink RX10 20 "EveningVowModel" "\x72" "[I" ∈ wsX10_without := List.mem_of_getElem? (i := 3) rfl
set_option maxHeartbeats 4000000 in
set_option maxRecDepth 100000 in
theorem wX10_without_L47 {p : Program} {l : Launch} {e : Env} {s : State} {m : MethodId} {args : Array Value} {below : List Frame} {meth : Method} {c : Code} {g : GG} {A : Nat → Prop} (C0 : Cx p s m args meth c cX10_without 5 (some .int) RX10 wsX10_without g A) (a_t : Nat) (p_t : Nat → Nat) (n : Nat) (x1 : Int32) (x2 : Int32) (f_t_15 : Nat → Int32) (f_t_17 : Nat → Int32)  (r : Int32) (o_t' : Nat → Int32) (f_t_25' : Nat → Int32) (K : Int32 → (Nat → Int32) → (Nat → Int32) → Option (Int32 × (Nat → Int32) × (Nat → Int32))) (hKx : ∀ (x3 : Int32) (o_t : Nat → Int32) (f_t_25 : Nat → Int32) (H : Heap) (locs : List Loc) (ls : Array Slot), K x3 o_t f_t_25 = some (r, o_t', f_t_25') → va_P g.1 vwCl [oX10 a_t p_t o_t, aI g (p_t 15) 266 f_t_15, aI g (p_t 17) 17 f_t_17, aI g (p_t 25) 17 f_t_25] H → va_D A [oX10 a_t p_t o_t, aI g (p_t 15) 266 f_t_15, aI g (p_t 17) 17 f_t_17, aI g (p_t 25) 17 f_t_25] → va_S A s.heap H locs → lv_has ls 5 [(0, .ref a_t), (1, .int x1), (3, .int x3)] → W p l e ({ frames := 7, cells := 0, slots := 0, locals := 161 } : Room) s m args below meth c H locs 0 0 (MQ below (EndI g r [oX10 a_t p_t o_t', aI g (p_t 15) 266 f_t_15, aI g (p_t 17) 17 f_t_17, aI g (p_t 25) 17 f_t_25'] A) args s 0 0 A) (F0 m 104 ls [])) : ∀ (k : Nat) (x3 : Int32) (x4 : Int32) (o_t : Nat → Int32) (f_t_25 : Nat → Int32), fX10_without_L47 n x1 x2 f_t_15 f_t_17 K k x3 x4 o_t f_t_25 = some (r, o_t', f_t_25') → ∀ (H : Heap) (locs : List Loc) (ls : Array Slot), va_P g.1 vwCl [oX10 a_t p_t o_t, aI g (p_t 15) 266 f_t_15, aI g (p_t 17) 17 f_t_17, aI g (p_t 25) 17 f_t_25] H → va_D A [oX10 a_t p_t o_t, aI g (p_t 15) 266 f_t_15, aI g (p_t 17) 17 f_t_17, aI g (p_t 25) 17 f_t_25] → va_S A s.heap H locs → lv_has ls 5 [(0, .ref a_t), (1, .int x1), (2, .int x2), (3, .int x3), (4, .int x4)] → W p l e ({ frames := 7, cells := 0, slots := 0, locals := 161 } : Room) s m args below meth c H locs 0 0 (MQ below (EndI g r [oX10 a_t p_t o_t', aI g (p_t 15) 266 f_t_15, aI g (p_t 17) 17 f_t_17, aI g (p_t 25) 17 f_t_25'] A) args s 0 0 A) (F0 m 47 ls []) := by
  obtain ⟨hx, hb, hml, hown, hts, hr, hlk, hK, hA, hSW⟩ := id C0
  intro k
  induction k with
  | zero =>
    intro x3 x4 o_t f_t_25 hF
    exact absurd hF (by simp [fX10_without_L47])
  | succ k ih =>
    intro x3 x4 o_t f_t_25 hF H locs ls hP hD hS hl
    rw [fX10_without_L47] at hF
    refine lv_iload hx hb dX10_without_47 (lv_at hl 4 rfl) ?_
    refine lv_iconst (v := (1 : Int32)) hx hb dX10_without_49 (by decide) ?_
    refine lv_aload_n hx hb dX10_without_50 rfl (lv_at hl 0 rfl) ?_
    refine va_get (D := g.1) (ci := 10) (v := .ref (p_t 15)) (C := RX10) (T := TX10) (N := 35) hx hb hts iX10_without_X10 hown hK.1 hP 0 rfl rfl 15 (by decide) (hts _ kX10_without_20) (fun _ h9 => h9) rfl dX10_without_51 ?_
    refine lv_iconst (v := (3 : Int32)) hx hb dX10_without_54 (by decide) ?_
    refine va_iald_k (j := 3) hx hb hK.1 hP 1 0 rfl rfl (by unfold vp_in; decide) rfl dX10_without_55 ?_
    refine lv_ishl hx hb dX10_without_56 ?_
    refine lv_icmp_ge (tgt := 104) hx hb dX10_without_57 (by decide) (fun c_9 => ?_) (fun c_9 => ?_)
    · have hF := it_p c_9 hF
      exact hKx x3 o_t f_t_25 _ _ _ hF (hP.sub [0, 1, 2, 3] rfl) (hD.sub [0, 1, 2, 3] rfl rfl) hS (lv_sub hl [0, 1, 3] rfl)
    · have hF := it_n c_9 hF
      refine lv_iload hx hb dX10_without_60 (lv_at hl 4 rfl) ?_
      refine lv_iload_n hx hb dX10_without_62 rfl (lv_at hl 2 rfl) ?_
      refine lv_iconst (v := (-1 : Int32)) hx hb dX10_without_63 (by decide) ?_
      refine lv_ixor hx hb dX10_without_64 ?_
      refine lv_iand hx hb dX10_without_65 ?_
      refine lv_if_ne (tgt := 98) hx hb dX10_without_66 (by decide) (fun c_10 => ?_) (fun c_10 => ?_)
      · have hF := it_n c_10 hF
        refine lv_iinc (v := (x4 + (1 : Int32))) (lv' := [(4, .int (x4 + (1 : Int32))), (0, .ref a_t), (1, .int x1), (2, .int x2), (3, .int x3)]) hx hb dX10_without_98 hl (k := 4) rfl rfl (by decide) rfl (fun ls hl => ?_)
        refine lv_goto (tgt := 47) hx hb dX10_without_101 (by decide) ?_
        exact ih x3 (x4 + (1 : Int32)) o_t f_t_25 hF _ _ _ (hP.sub [0, 1, 2, 3] rfl) (hD.sub [0, 1, 2, 3] rfl rfl) hS (lv_sub hl [1, 2, 3, 4, 0] rfl)
      · have hF := it_p c_10 hF
        refine lv_iload hx hb dX10_without_69 (lv_at hl 4 rfl) ?_
        obtain ⟨u_11, hu_12, hF⟩ := ob1_some hF
        refine call_si (wr := [oX10 a_t p_t o_t, aI g (p_t 15) 266 f_t_15, aI g (p_t 17) 17 f_t_17, aI g (p_t 25) 17 f_t_25]) (As := [.int x4]) (rest := []) C0 (mX10_ones l g n x4 u_11 hu_12) (va_cwS 1 hts gX10_without_X10_ones rfl rfl rfl (by decide +kernel) ⟨Nat.le_of_ble_eq_true rfl, Nat.le_of_ble_eq_true rfl⟩) hP hD hS [] [0, 1, 2, 3] rfl rfl rfl rfl rfl (by decide) hl.1 rfl rfl (Nat.le_of_ble_eq_true rfl) ⟨Nat.zero_le _, Nat.zero_le _⟩ dX10_without_71 ?_
        intro H locs hP hD hS
        refine lv_iload_n hx hb dX10_without_74 rfl (lv_at hl 3 rfl) ?_
        obtain ⟨u_13, hu_14, hF⟩ := ob1_some hF
        refine call_si (wr := [oX10 a_t p_t o_t, aI g (p_t 15) 266 f_t_15, aI g (p_t 17) 17 f_t_17, aI g (p_t 25) 17 f_t_25]) (As := [.int x3]) (rest := [.int u_11]) C0 (mX10_ones l g n x3 u_13 hu_14) (va_cwS 1 hts gX10_without_X10_ones rfl rfl rfl (by decide +kernel) ⟨Nat.le_of_ble_eq_true rfl, Nat.le_of_ble_eq_true rfl⟩) hP hD hS [] [0, 1, 2, 3] rfl rfl rfl rfl rfl (by decide) hl.1 rfl rfl (Nat.le_of_ble_eq_true rfl) ⟨Nat.zero_le _, Nat.zero_le _⟩ dX10_without_75 ?_
        intro H locs hP hD hS
        refine lv_icmp_ge (tgt := 98) hx hb dX10_without_78 (by decide) (fun c_15 => ?_) (fun c_15 => ?_)
        · have hF := it_p c_15 hF
          refine lv_iinc (v := (x4 + (1 : Int32))) (lv' := [(4, .int (x4 + (1 : Int32))), (0, .ref a_t), (1, .int x1), (2, .int x2), (3, .int x3)]) hx hb dX10_without_98 hl (k := 4) rfl rfl (by decide) rfl (fun ls hl => ?_)
          refine lv_goto (tgt := 47) hx hb dX10_without_101 (by decide) ?_
          exact ih x3 (x4 + (1 : Int32)) o_t f_t_25 hF _ _ _ (hP.sub [0, 1, 2, 3] rfl) (hD.sub [0, 1, 2, 3] rfl rfl) hS (lv_sub hl [1, 2, 3, 4, 0] rfl)
        · have hF := it_n c_15 hF
          refine lv_aload_n hx hb dX10_without_81 rfl (lv_at hl 0 rfl) ?_
          refine lv_iload hx hb dX10_without_82 (lv_at hl 4 rfl) ?_
          obtain ⟨u_16, u_17, u_18, hu_19, hF⟩ := ob3_some hF
          refine call_i (wr := []) (As := [.int x4]) (rest := []) (ci := 10) (q0 := 0) C0 (mX10_endsIf l g a_t p_t n x4 o_t f_t_15 f_t_17 f_t_25 u_16 u_17 u_18 hu_19) (cwV 1 hts gX10_without_X10_endsIf rfl rfl rfl (by decide +kernel) ⟨Nat.le_of_ble_eq_true rfl, Nat.le_of_ble_eq_true rfl⟩) hP hD hS [0, 1, 2, 3] [] rfl rfl rfl rfl rfl (by decide) rfl rfl hl.1 rfl rfl (Nat.le_of_ble_eq_true rfl) ⟨Nat.zero_le _, Nat.zero_le _⟩ dX10_without_84 ?_
          intro H locs hP hD hS
          refine lv_iconst (v := (0 : Int32)) hx hb dX10_without_87 (by decide) ?_
          refine lv_iload_n hx hb dX10_without_88 rfl (lv_at hl 1 rfl) ?_
          obtain ⟨u_20, hu_21, hF⟩ := ob1_some hF
          refine call_si (wr := [oX10 a_t p_t u_17, aI g (p_t 15) 266 f_t_15, aI g (p_t 17) 17 f_t_17, aI g (p_t 25) 17 u_18]) (As := [.int u_16, .int (0 : Int32), .int x1]) (rest := []) C0 (mX10_in l g n u_16 (0 : Int32) x1 u_20 hu_21) (va_cwS 3 hts gX10_without_X10_in rfl rfl rfl (by decide +kernel) ⟨Nat.le_of_ble_eq_true rfl, Nat.le_of_ble_eq_true rfl⟩) hP hD hS [] [0, 1, 2, 3] rfl rfl rfl rfl rfl (by decide) hl.1 rfl rfl (Nat.le_of_ble_eq_true rfl) ⟨Nat.zero_le _, Nat.zero_le _⟩ dX10_without_89 ?_
          intro H locs hP hD hS
          refine lv_if_eq (tgt := 98) hx hb dX10_without_92 (by decide) (fun c_22 => ?_) (fun c_22 => ?_)
          · have hF := it_p c_22 hF
            refine lv_iinc (v := (x4 + (1 : Int32))) (lv' := [(4, .int (x4 + (1 : Int32))), (0, .ref a_t), (1, .int x1), (2, .int x2), (3, .int x3)]) hx hb dX10_without_98 hl (k := 4) rfl rfl (by decide) rfl (fun ls hl => ?_)
            refine lv_goto (tgt := 47) hx hb dX10_without_101 (by decide) ?_
            exact ih x3 (x4 + (1 : Int32)) u_17 u_18 hF _ _ _ (hP.sub [0, 1, 2, 3] rfl) (hD.sub [0, 1, 2, 3] rfl rfl) hS (lv_sub hl [1, 2, 3, 4, 0] rfl)
          · have hF := it_n c_22 hF
            refine lv_iload hx hb dX10_without_95 (lv_at hl 4 rfl) ?_
            refine lv_istore_n (lv' := [(3, .int x4), (0, .ref a_t), (1, .int x1), (2, .int x2), (4, .int x4)]) hx hb dX10_without_97 rfl hl (by decide) rfl (fun ls hl => ?_)
            refine lv_iinc (v := (x4 + (1 : Int32))) (lv' := [(4, .int (x4 + (1 : Int32))), (3, .int x4), (0, .ref a_t), (1, .int x1), (2, .int x2)]) hx hb dX10_without_98 hl (k := 4) rfl rfl (by decide) rfl (fun ls hl => ?_)
            refine lv_goto (tgt := 47) hx hb dX10_without_101 (by decide) ?_
            exact ih x4 (x4 + (1 : Int32)) u_17 u_18 hF _ _ _ (hP.sub [0, 1, 2, 3] rfl) (hD.sub [0, 1, 2, 3] rfl rfl) hS (lv_sub hl [2, 3, 4, 1, 0] rfl)
set_option maxHeartbeats 4000000 in
set_option maxRecDepth 100000 in
theorem mX10_without (l : Launch) (g : GG) (a_t : Nat) (p_t : Nat → Nat) (n : Nat) (x1 : Int32) (o_t : Nat → Int32) (f_t_15 : Nat → Int32) (f_t_17 : Nat → Int32) (f_t_25 : Nat → Int32) (r : Int32) (o_t' : Nat → Int32) (f_t_25' : Nat → Int32) (hF : fX10_without n x1 o_t f_t_15 f_t_17 f_t_25 = some (r, o_t', f_t_25')) : MI l g yX10_without wsX10_without ({ frames := 7, cells := 0, slots := 0, locals := 161 } : Room) [.ref a_t, .int x1] [oX10 a_t p_t o_t, aI g (p_t 15) 266 f_t_15, aI g (p_t 17) 17 f_t_17, aI g (p_t 25) 17 f_t_25] r [oX10 a_t p_t o_t', aI g (p_t 15) 266 f_t_15, aI g (p_t 17) 17 f_t_17, aI g (p_t 25) 17 f_t_25'] := by
  refine MI.of (cc := cX10_without) (maxL := 5) (rt := .int) (own := RX10) rfl rfl (by decide) (Nat.le_of_ble_eq_true rfl) ?_
  intro p e s m args below meth c A C0 hP hD hS ls hl
  obtain ⟨hx, hb, hml, hown, hts, hr, hlk, hK, hA, hSW⟩ := id C0
  have hl : lv_has ls 5 [(0, .ref a_t), (1, .int x1)] := hl
  rw [fX10_without] at hF
  refine lv_aload_n hx hb dX10_without_0 rfl (lv_at hl 0 rfl) ?_
  obtain ⟨u_1, hu_2, hF⟩ := ob1_some hF
  refine call_v (wr := [aI g (p_t 15) 266 f_t_15, aI g (p_t 17) 17 f_t_17, aI g (p_t 25) 17 f_t_25]) (As := []) (rest := []) (ci := 10) (q0 := 0) C0 (mX10_good l g a_t p_t n o_t u_1 hu_2) (cwV 0 hts gX10_without_X10_good rfl rfl rfl (by decide +kernel) ⟨Nat.le_of_ble_eq_true rfl, Nat.le_of_ble_eq_true rfl⟩) hP hD hS [0] [1, 2, 3] rfl rfl rfl rfl rfl (by decide) rfl rfl hl.1 rfl rfl (Nat.le_of_ble_eq_true rfl) ⟨Nat.zero_le _, Nat.zero_le _⟩ dX10_without_1 ?_
  intro H locs hP hD hS
  refine lv_aload_n hx hb dX10_without_4 rfl (lv_at hl 0 rfl) ?_
  refine va_get (D := g.1) (ci := 10) (v := .int (u_1 14)) (C := RX10) (T := TX10) (N := 35) hx hb hts iX10_without_X10 hown hK.1 hP 3 rfl rfl 14 (by decide) (hts _ kX10_without_176) (fun _ h9 => h9) rfl dX10_without_5 ?_
  refine lv_if_ne (tgt := 17) hx hb dX10_without_8 (by decide) (fun c_3 => ?_) (fun c_3 => ?_)
  · have hF := it_n c_3 hF
    refine lv_iload_n hx hb dX10_without_17 rfl (lv_at hl 1 rfl) ?_
    refine lv_iconst (v := (0 : Int32)) hx hb dX10_without_18 (by decide) ?_
    refine lv_bipush (v := (60 : Int32)) hx hb dX10_without_19 (by decide) ?_
    obtain ⟨u_4, hu_5, hF⟩ := ob1_some hF
    refine call_si (wr := [aI g (p_t 15) 266 f_t_15, aI g (p_t 17) 17 f_t_17, aI g (p_t 25) 17 f_t_25, oX10 a_t p_t u_1]) (As := [.int x1, .int (0 : Int32), .int (60 : Int32)]) (rest := []) C0 (mX10_in l g n x1 (0 : Int32) (60 : Int32) u_4 hu_5) (va_cwS 3 hts gX10_without_X10_in rfl rfl rfl (by decide +kernel) ⟨Nat.le_of_ble_eq_true rfl, Nat.le_of_ble_eq_true rfl⟩) hP hD hS [] [0, 1, 2, 3] rfl rfl rfl rfl rfl (by decide) hl.1 rfl rfl (Nat.le_of_ble_eq_true rfl) ⟨Nat.zero_le _, Nat.zero_le _⟩ dX10_without_21 ?_
    intro H locs hP hD hS
    refine lv_if_ne (tgt := 33) hx hb dX10_without_24 (by decide) (fun c_6 => ?_) (fun c_6 => ?_)
    · have hF := it_n c_6 hF
      refine lv_aload_n hx hb dX10_without_33 rfl (lv_at hl 0 rfl) ?_
      refine lv_aload_n hx hb dX10_without_34 rfl (lv_at hl 0 rfl) ?_
      refine va_get (D := g.1) (ci := 10) (v := .ref (p_t 17)) (C := RX10) (T := TX10) (N := 35) hx hb hts iX10_without_X10 hown hK.1 hP 3 rfl rfl 17 (by decide) (hts _ kX10_without_26) (fun _ h9 => h9) rfl dX10_without_35 ?_
      obtain ⟨u_7, hu_8, hF⟩ := ob1_some hF
      refine call_i (wr := [aI g (p_t 25) 17 f_t_25]) (As := [.ref (p_t 17)]) (rest := []) (ci := 10) (q0 := 0) C0 (mX10_thereOf l g a_t (p_t 17) p_t n u_1 f_t_15 f_t_17 u_7 hu_8) (cwV 1 hts gX10_without_X10_thereOf rfl rfl rfl (by decide +kernel) ⟨Nat.le_of_ble_eq_true rfl, Nat.le_of_ble_eq_true rfl⟩) hP hD hS [3, 0, 1] [2] rfl rfl rfl rfl rfl (by decide) rfl rfl hl.1 rfl rfl (Nat.le_of_ble_eq_true rfl) ⟨Nat.zero_le _, Nat.zero_le _⟩ dX10_without_38 ?_
      intro H locs hP hD hS
      refine lv_istore_n (lv' := [(2, .int u_7), (0, .ref a_t), (1, .int x1)]) hx hb dX10_without_41 rfl hl (by decide) rfl (fun ls hl => ?_)
      refine lv_iload_n hx hb dX10_without_42 rfl (lv_at hl 0 rfl) ?_
      refine lv_istore_n (lv' := [(3, .int u_7), (2, .int u_7), (0, .ref a_t), (1, .int x1)]) hx hb dX10_without_43 rfl hl (by decide) rfl (fun ls hl => ?_)
      refine lv_iconst (v := (0 : Int32)) hx hb dX10_without_44 (by decide) ?_
      refine lv_istore (lv' := [(4, .int (0 : Int32)), (3, .int u_7), (2, .int u_7), (0, .ref a_t), (1, .int x1)]) hx hb dX10_without_45 hl (by decide) rfl (fun ls hl => ?_)
      refine wX10_without_L47 C0 a_t p_t n x1 u_7 f_t_15 f_t_17 r o_t' f_t_25' _ ?_ n u_7 (0 : Int32) u_1 f_t_25 hF _ _ _ (hP.sub [1, 2, 3, 0] rfl) (hD.sub [1, 2, 3, 0] rfl rfl) hS (lv_sub hl [3, 4, 2, 1, 0] rfl)
      · intro x3_x47 o_t_x47 f_t_25_x47 H locs ls hF hP hD hS hl
        refine lv_aload_n hx hb dX10_without_104 rfl (lv_at hl 0 rfl) ?_
        refine lv_iload_n hx hb dX10_without_105 rfl (lv_at hl 2 rfl) ?_
        refine lv_iload_n hx hb dX10_without_106 rfl (lv_at hl 1 rfl) ?_
        obtain ⟨u_23, u_24, u_25, hu_26, hF⟩ := ob3_some hF
        refine call_i (wr := []) (As := [.int x3_x47, .int x1]) (rest := []) (ci := 10) (q0 := 0) C0 (mX10_leastLike l g a_t p_t n x3_x47 x1 o_t_x47 f_t_15 f_t_17 f_t_25_x47 u_23 u_24 u_25 hu_26) (cwV 2 hts gX10_without_X10_leastLike rfl rfl rfl (by decide +kernel) ⟨Nat.le_of_ble_eq_true rfl, Nat.le_of_ble_eq_true rfl⟩) hP hD hS [0, 1, 2, 3] [] rfl rfl rfl rfl rfl (by decide) rfl rfl hl.1 rfl rfl (Nat.le_of_ble_eq_true rfl) ⟨Nat.zero_le _, Nat.zero_le _⟩ dX10_without_107 ?_
        intro H locs hP hD hS
        cases hF
        exact ret_i C0 hP hD hS [0, 1, 2, 3] rfl rfl rfl dX10_without_110 rfl
    · have hF := it_p c_6 hF
      refine lv_aload_n hx hb dX10_without_27 rfl (lv_at hl 0 rfl) ?_
      refine lv_iconst (v := (2 : Int32)) hx hb dX10_without_28 (by decide) ?_
      obtain ⟨u_27, u_28, hu_29, hF⟩ := ob2_some hF
      refine call_i (wr := [aI g (p_t 15) 266 f_t_15, aI g (p_t 17) 17 f_t_17, aI g (p_t 25) 17 f_t_25]) (As := [.int (2 : Int32)]) (rest := []) (ci := 10) (q0 := 0) C0 (mX10_no l g a_t p_t n (2 : Int32) u_1 u_27 u_28 hu_29) (cwV 1 hts gX10_without_X10_no rfl rfl rfl (by decide +kernel) ⟨Nat.le_of_ble_eq_true rfl, Nat.le_of_ble_eq_true rfl⟩) hP hD hS [3] [0, 1, 2] rfl rfl rfl rfl rfl (by decide) rfl rfl hl.1 rfl rfl (Nat.le_of_ble_eq_true rfl) ⟨Nat.zero_le _, Nat.zero_le _⟩ dX10_without_29 ?_
      intro H locs hP hD hS
      cases hF
      exact ret_i C0 hP hD hS [3, 0, 1, 2] rfl rfl rfl dX10_without_32 rfl
  · have hF := it_p c_3 hF
    refine lv_aload_n hx hb dX10_without_11 rfl (lv_at hl 0 rfl) ?_
    refine lv_iconst (v := (1 : Int32)) hx hb dX10_without_12 (by decide) ?_
    obtain ⟨u_30, u_31, hu_32, hF⟩ := ob2_some hF
    refine call_i (wr := [aI g (p_t 15) 266 f_t_15, aI g (p_t 17) 17 f_t_17, aI g (p_t 25) 17 f_t_25]) (As := [.int (1 : Int32)]) (rest := []) (ci := 10) (q0 := 0) C0 (mX10_no l g a_t p_t n (1 : Int32) u_1 u_30 u_31 hu_32) (cwV 1 hts gX10_without_X10_no rfl rfl rfl (by decide +kernel) ⟨Nat.le_of_ble_eq_true rfl, Nat.le_of_ble_eq_true rfl⟩) hP hD hS [3] [0, 1, 2] rfl rfl rfl rfl rfl (by decide) rfl rfl hl.1 rfl rfl (Nat.le_of_ble_eq_true rfl) ⟨Nat.zero_le _, Nat.zero_le _⟩ dX10_without_13 ?_
    intro H locs hP hD hS
    cases hF
    exact ret_i C0 hP hD hS [3, 0, 1, 2] rfl rfl rfl dX10_without_16 rfl

theorem dAX10_tires : ∀ q ∈ ([(0, (.iconst 0, 1)), (1, (.istore_n 3, 1)), (2, (.iload_n 3, 1)), (3, (.aload_n 0, 1)), (4, (.getfield 20, 3)), (7, (.iconst 3, 1)), (8, (.iaload, 1)), (9, (.if_icmp .ge 40, 3)), (12, (.aload_n 1, 1)), (13, (.iload_n 3, 1)), (14, (.dup2, 1)), (15, (.iaload, 1)), (16, (.aload_n 1, 1)), (17, (.iload_n 3, 1)), (18, (.invokestatic 248, 3)), (21, (.ifCond .eq 19, 3)), (24, (.aload_n 0, 1)), (25, (.getfield 20, 3)), (28, (.bipush 86, 2)), (30, (.iconst 2, 1)), (31, (.iload_n 2, 1)), (32, (.imul, 1)), (33, (.iadd, 1)), (34, (.iconst 1, 1)), (35, (.iadd, 1)), (36, (.iaload, 1)), (37, (.goto 4, 3)), (40, (.iconst 0, 1)), (41, (.isub, 1)), (42, (.iastore, 1)), (43, (.iinc 3 1, 3)), (46, (.goto (-44), 3)), (49, (.return_, 1))] : List (Nat × (Instr × Nat))), decode cX10_tires q.1 = .ok q.2 := by decide +kernel
theorem dX10_tires_0 : decode cX10_tires 0 = .ok (.iconst 0, 1) := dAX10_tires (0, (.iconst 0, 1)) (List.mem_of_getElem? (i := 0) rfl)
theorem dX10_tires_1 : decode cX10_tires 1 = .ok (.istore_n 3, 1) := dAX10_tires (1, (.istore_n 3, 1)) (List.mem_of_getElem? (i := 1) rfl)
theorem dX10_tires_2 : decode cX10_tires 2 = .ok (.iload_n 3, 1) := dAX10_tires (2, (.iload_n 3, 1)) (List.mem_of_getElem? (i := 2) rfl)
theorem dX10_tires_3 : decode cX10_tires 3 = .ok (.aload_n 0, 1) := dAX10_tires (3, (.aload_n 0, 1)) (List.mem_of_getElem? (i := 3) rfl)
theorem dX10_tires_4 : decode cX10_tires 4 = .ok (.getfield 20, 3) := dAX10_tires (4, (.getfield 20, 3)) (List.mem_of_getElem? (i := 4) rfl)
theorem dX10_tires_7 : decode cX10_tires 7 = .ok (.iconst 3, 1) := dAX10_tires (7, (.iconst 3, 1)) (List.mem_of_getElem? (i := 5) rfl)
theorem dX10_tires_8 : decode cX10_tires 8 = .ok (.iaload, 1) := dAX10_tires (8, (.iaload, 1)) (List.mem_of_getElem? (i := 6) rfl)
theorem dX10_tires_9 : decode cX10_tires 9 = .ok (.if_icmp .ge 40, 3) := dAX10_tires (9, (.if_icmp .ge 40, 3)) (List.mem_of_getElem? (i := 7) rfl)
theorem dX10_tires_12 : decode cX10_tires 12 = .ok (.aload_n 1, 1) := dAX10_tires (12, (.aload_n 1, 1)) (List.mem_of_getElem? (i := 8) rfl)
theorem dX10_tires_13 : decode cX10_tires 13 = .ok (.iload_n 3, 1) := dAX10_tires (13, (.iload_n 3, 1)) (List.mem_of_getElem? (i := 9) rfl)
theorem dX10_tires_14 : decode cX10_tires 14 = .ok (.dup2, 1) := dAX10_tires (14, (.dup2, 1)) (List.mem_of_getElem? (i := 10) rfl)
theorem dX10_tires_15 : decode cX10_tires 15 = .ok (.iaload, 1) := dAX10_tires (15, (.iaload, 1)) (List.mem_of_getElem? (i := 11) rfl)
theorem dX10_tires_16 : decode cX10_tires 16 = .ok (.aload_n 1, 1) := dAX10_tires (16, (.aload_n 1, 1)) (List.mem_of_getElem? (i := 12) rfl)
theorem dX10_tires_17 : decode cX10_tires 17 = .ok (.iload_n 3, 1) := dAX10_tires (17, (.iload_n 3, 1)) (List.mem_of_getElem? (i := 13) rfl)
theorem dX10_tires_18 : decode cX10_tires 18 = .ok (.invokestatic 248, 3) := dAX10_tires (18, (.invokestatic 248, 3)) (List.mem_of_getElem? (i := 14) rfl)
theorem dX10_tires_21 : decode cX10_tires 21 = .ok (.ifCond .eq 19, 3) := dAX10_tires (21, (.ifCond .eq 19, 3)) (List.mem_of_getElem? (i := 15) rfl)
theorem dX10_tires_24 : decode cX10_tires 24 = .ok (.aload_n 0, 1) := dAX10_tires (24, (.aload_n 0, 1)) (List.mem_of_getElem? (i := 16) rfl)
theorem dX10_tires_25 : decode cX10_tires 25 = .ok (.getfield 20, 3) := dAX10_tires (25, (.getfield 20, 3)) (List.mem_of_getElem? (i := 17) rfl)
theorem dX10_tires_28 : decode cX10_tires 28 = .ok (.bipush 86, 2) := dAX10_tires (28, (.bipush 86, 2)) (List.mem_of_getElem? (i := 18) rfl)
theorem dX10_tires_30 : decode cX10_tires 30 = .ok (.iconst 2, 1) := dAX10_tires (30, (.iconst 2, 1)) (List.mem_of_getElem? (i := 19) rfl)
theorem dX10_tires_31 : decode cX10_tires 31 = .ok (.iload_n 2, 1) := dAX10_tires (31, (.iload_n 2, 1)) (List.mem_of_getElem? (i := 20) rfl)
theorem dX10_tires_32 : decode cX10_tires 32 = .ok (.imul, 1) := dAX10_tires (32, (.imul, 1)) (List.mem_of_getElem? (i := 21) rfl)
theorem dX10_tires_33 : decode cX10_tires 33 = .ok (.iadd, 1) := dAX10_tires (33, (.iadd, 1)) (List.mem_of_getElem? (i := 22) rfl)
theorem dX10_tires_34 : decode cX10_tires 34 = .ok (.iconst 1, 1) := dAX10_tires (34, (.iconst 1, 1)) (List.mem_of_getElem? (i := 23) rfl)
theorem dX10_tires_35 : decode cX10_tires 35 = .ok (.iadd, 1) := dAX10_tires (35, (.iadd, 1)) (List.mem_of_getElem? (i := 24) rfl)
theorem dX10_tires_36 : decode cX10_tires 36 = .ok (.iaload, 1) := dAX10_tires (36, (.iaload, 1)) (List.mem_of_getElem? (i := 25) rfl)
theorem dX10_tires_37 : decode cX10_tires 37 = .ok (.goto 4, 3) := dAX10_tires (37, (.goto 4, 3)) (List.mem_of_getElem? (i := 26) rfl)
theorem dX10_tires_40 : decode cX10_tires 40 = .ok (.iconst 0, 1) := dAX10_tires (40, (.iconst 0, 1)) (List.mem_of_getElem? (i := 27) rfl)
theorem dX10_tires_41 : decode cX10_tires 41 = .ok (.isub, 1) := dAX10_tires (41, (.isub, 1)) (List.mem_of_getElem? (i := 28) rfl)
theorem dX10_tires_42 : decode cX10_tires 42 = .ok (.iastore, 1) := dAX10_tires (42, (.iastore, 1)) (List.mem_of_getElem? (i := 29) rfl)
theorem dX10_tires_43 : decode cX10_tires 43 = .ok (.iinc 3 1, 3) := dAX10_tires (43, (.iinc 3 1, 3)) (List.mem_of_getElem? (i := 30) rfl)
theorem dX10_tires_46 : decode cX10_tires 46 = .ok (.goto (-44), 3) := dAX10_tires (46, (.goto (-44), 3)) (List.mem_of_getElem? (i := 31) rfl)
theorem dX10_tires_49 : decode cX10_tires 49 = .ok (.return_, 1) := dAX10_tires (49, (.return_, 1)) (List.mem_of_getElem? (i := 32) rfl)
set_option maxRecDepth 20000 in
theorem ggX10_tires_X10_isIn : GoodIn wsX10_tires wsX10_isIn := goodIn_r _ [5] rfl (by decide +kernel)
set_option maxRecDepth 20000 in
theorem gX10_tires_X10_isIn : GoodIn wsX10_tires (va_wsS RX10 248 yX10_isIn wsX10_isIn) := goodIn_app (goodIn_of _ (by decide +kernel)) ggX10_tires_X10_isIn
theorem kX10_tires_20 : Cond.fieldLink RX10 20 "EveningVowModel" "\x72" "[I" ∈ wsX10_tires := List.mem_of_getElem? (i := 1) rfl
theorem iX10_tires_X10 : ∀ w ∈ u_ws RX10 TX10 35, w ∈ wsX10_tires := fun w h => (List.mem_cons_of_mem _ (List.mem_append_right _ h))
set_option maxHeartbeats 4000000 in
set_option maxRecDepth 100000 in
theorem wX10_tires_L2 {p : Program} {l : Launch} {e : Env} {s : State} {m : MethodId} {args : Array Value} {below : List Frame} {meth : Method} {c : Code} {g : GG} {A : Nat → Prop} (C0 : Cx p s m args meth c cX10_tires 4 none RX10 wsX10_tires g A) (a_t : Nat) (a_r1 : Nat) (p_t : Nat → Nat) (n : Nat) (x2 : Int32) (o_t : Nat → Int32) (f_t_15 : Nat → Int32)  (f_r1' : Nat → Int32) (K : (Nat → Int32) → Option ((Nat → Int32))) (hKx : ∀ (f_r1 : Nat → Int32) (H : Heap) (locs : List Loc) (ls : Array Slot), K f_r1 = some (f_r1') → va_P g.1 vwCl [oX10 a_t p_t o_t, aI g (p_t 15) 266 f_t_15, aI g a_r1 17 f_r1] H → va_D A [oX10 a_t p_t o_t, aI g (p_t 15) 266 f_t_15, aI g a_r1 17 f_r1] → va_S A s.heap H locs → lv_has ls 4 [] → W p l e ({ frames := 1, cells := 0, slots := 0, locals := 21 } : Room) s m args below meth c H locs 0 0 (MQ below (EndV g [oX10 a_t p_t o_t, aI g (p_t 15) 266 f_t_15, aI g a_r1 17 f_r1'] A) args s 0 0 A) (F0 m 49 ls [])) : ∀ (k : Nat) (x3 : Int32) (f_r1 : Nat → Int32), fX10_tires_L2 n x2 o_t f_t_15 K k x3 f_r1 = some (f_r1') → ∀ (H : Heap) (locs : List Loc) (ls : Array Slot), va_P g.1 vwCl [oX10 a_t p_t o_t, aI g (p_t 15) 266 f_t_15, aI g a_r1 17 f_r1] H → va_D A [oX10 a_t p_t o_t, aI g (p_t 15) 266 f_t_15, aI g a_r1 17 f_r1] → va_S A s.heap H locs → lv_has ls 4 [(0, .ref a_t), (1, .ref a_r1), (2, .int x2), (3, .int x3)] → W p l e ({ frames := 1, cells := 0, slots := 0, locals := 21 } : Room) s m args below meth c H locs 0 0 (MQ below (EndV g [oX10 a_t p_t o_t, aI g (p_t 15) 266 f_t_15, aI g a_r1 17 f_r1'] A) args s 0 0 A) (F0 m 2 ls []) := by
  obtain ⟨hx, hb, hml, hown, hts, hr, hlk, hK, hA, hSW⟩ := id C0
  intro k
  induction k with
  | zero =>
    intro x3 f_r1 hF
    exact absurd hF (by simp [fX10_tires_L2])
  | succ k ih =>
    intro x3 f_r1 hF H locs ls hP hD hS hl
    rw [fX10_tires_L2] at hF
    refine lv_iload_n hx hb dX10_tires_2 rfl (lv_at hl 3 rfl) ?_
    refine lv_aload_n hx hb dX10_tires_3 rfl (lv_at hl 0 rfl) ?_
    refine va_get (D := g.1) (ci := 10) (v := .ref (p_t 15)) (C := RX10) (T := TX10) (N := 35) hx hb hts iX10_tires_X10 hown hK.1 hP 0 rfl rfl 15 (by decide) (hts _ kX10_tires_20) (fun _ h9 => h9) rfl dX10_tires_4 ?_
    refine lv_iconst (v := (3 : Int32)) hx hb dX10_tires_7 (by decide) ?_
    refine va_iald_k (j := 3) hx hb hK.1 hP 1 0 rfl rfl (by unfold vp_in; decide) rfl dX10_tires_8 ?_
    refine lv_icmp_ge (tgt := 49) hx hb dX10_tires_9 (by decide) (fun c_1 => ?_) (fun c_1 => ?_)
    · have hF := it_p c_1 hF
      exact hKx f_r1 _ _ _ hF (hP.sub [0, 1, 2] rfl) (hD.sub [0, 1, 2] rfl rfl) hS (lv_sub hl [] rfl)
    · have hF := it_n c_1 hF
      refine lv_aload_n hx hb dX10_tires_12 rfl (lv_at hl 1 rfl) ?_
      refine lv_iload_n hx hb dX10_tires_13 rfl (lv_at hl 3 rfl) ?_
      refine lv_dup2_11 hx hb dX10_tires_14 rfl rfl ?_
      obtain ⟨h_2, hF⟩ := it_ck hF
      refine va_iald hx hb hK.1 hP 2 0 rfl rfl h_2 dX10_tires_15 ?_
      refine lv_aload_n hx hb dX10_tires_16 rfl (lv_at hl 1 rfl) ?_
      refine lv_iload_n hx hb dX10_tires_17 rfl (lv_at hl 3 rfl) ?_
      obtain ⟨u_3, hu_4, hF⟩ := ob1_some hF
      refine call_si (wr := [oX10 a_t p_t o_t, aI g (p_t 15) 266 f_t_15]) (As := [.ref a_r1, .int x3]) (rest := [.int (f_r1 (x3).toNatClampNeg), .int x3, .ref a_r1]) C0 (mX10_isIn l g a_r1 n x3 f_r1 u_3 hu_4) (va_cwS 2 hts gX10_tires_X10_isIn rfl rfl rfl (by decide +kernel) ⟨Nat.le_of_ble_eq_true rfl, Nat.le_of_ble_eq_true rfl⟩) hP hD hS [2] [0, 1] rfl rfl rfl rfl rfl (by decide) hl.1 rfl rfl (Nat.le_of_ble_eq_true rfl) ⟨Nat.zero_le _, Nat.zero_le _⟩ dX10_tires_18 ?_
      intro H locs hP hD hS
      refine lv_if_eq (tgt := 40) hx hb dX10_tires_21 (by decide) (fun c_5 => ?_) (fun c_5 => ?_)
      · have hF := it_p c_5 hF
        refine lv_iconst (v := (0 : Int32)) hx hb dX10_tires_40 (by decide) ?_
        refine lv_isub hx hb dX10_tires_41 ?_
        obtain ⟨h_6, hF⟩ := it_ck hF
        refine va_iast hx hb hK.1 hP hD hS 2 0 rfl rfl h_6 dX10_tires_42 (fun H locs hP hD hS => ?_)
        have hP : va_P g.1 vwCl [oX10 a_t p_t o_t, aI g (p_t 15) 266 f_t_15, aI g a_r1 17 (upd f_r1 (x3).toNatClampNeg ((f_r1 (x3).toNatClampNeg) - (0 : Int32)))] H := hP
        have hD : va_D A [oX10 a_t p_t o_t, aI g (p_t 15) 266 f_t_15, aI g a_r1 17 (upd f_r1 (x3).toNatClampNeg ((f_r1 (x3).toNatClampNeg) - (0 : Int32)))] := hD
        refine lv_iinc (v := (x3 + (1 : Int32))) (lv' := [(3, .int (x3 + (1 : Int32))), (0, .ref a_t), (1, .ref a_r1), (2, .int x2)]) hx hb dX10_tires_43 hl (k := 3) rfl rfl (by decide) rfl (fun ls hl => ?_)
        refine lv_goto (tgt := 2) hx hb dX10_tires_46 (by decide) ?_
        exact ih (x3 + (1 : Int32)) (upd f_r1 (x3).toNatClampNeg ((f_r1 (x3).toNatClampNeg) - (0 : Int32))) hF _ _ _ (hP.sub [0, 1, 2] rfl) (hD.sub [0, 1, 2] rfl rfl) hS (lv_sub hl [1, 2, 3, 0] rfl)
      · have hF := it_n c_5 hF
        refine lv_aload_n hx hb dX10_tires_24 rfl (lv_at hl 0 rfl) ?_
        refine va_get (D := g.1) (ci := 10) (v := .ref (p_t 15)) (C := RX10) (T := TX10) (N := 35) hx hb hts iX10_tires_X10 hown hK.1 hP 0 rfl rfl 15 (by decide) (hts _ kX10_tires_20) (fun _ h9 => h9) rfl dX10_tires_25 ?_
        refine lv_bipush (v := (86 : Int32)) hx hb dX10_tires_28 (by decide) ?_
        refine lv_iconst (v := (2 : Int32)) hx hb dX10_tires_30 (by decide) ?_
        refine lv_iload_n hx hb dX10_tires_31 rfl (lv_at hl 2 rfl) ?_
        refine lv_imul hx hb dX10_tires_32 ?_
        refine lv_iadd hx hb dX10_tires_33 ?_
        refine lv_iconst (v := (1 : Int32)) hx hb dX10_tires_34 (by decide) ?_
        refine lv_iadd hx hb dX10_tires_35 ?_
        obtain ⟨h_7, hF⟩ := it_ck hF
        refine va_iald hx hb hK.1 hP 1 0 rfl rfl h_7 dX10_tires_36 ?_
        refine lv_goto (tgt := 41) hx hb dX10_tires_37 (by decide) ?_
        refine lv_isub hx hb dX10_tires_41 ?_
        obtain ⟨h_8, hF⟩ := it_ck hF
        refine va_iast hx hb hK.1 hP hD hS 2 0 rfl rfl h_8 dX10_tires_42 (fun H locs hP hD hS => ?_)
        have hP : va_P g.1 vwCl [oX10 a_t p_t o_t, aI g (p_t 15) 266 f_t_15, aI g a_r1 17 (upd f_r1 (x3).toNatClampNeg ((f_r1 (x3).toNatClampNeg) - (f_t_15 ((((86 : Int32) + ((2 : Int32) * x2)) + (1 : Int32))).toNatClampNeg)))] H := hP
        have hD : va_D A [oX10 a_t p_t o_t, aI g (p_t 15) 266 f_t_15, aI g a_r1 17 (upd f_r1 (x3).toNatClampNeg ((f_r1 (x3).toNatClampNeg) - (f_t_15 ((((86 : Int32) + ((2 : Int32) * x2)) + (1 : Int32))).toNatClampNeg)))] := hD
        refine lv_iinc (v := (x3 + (1 : Int32))) (lv' := [(3, .int (x3 + (1 : Int32))), (0, .ref a_t), (1, .ref a_r1), (2, .int x2)]) hx hb dX10_tires_43 hl (k := 3) rfl rfl (by decide) rfl (fun ls hl => ?_)
        refine lv_goto (tgt := 2) hx hb dX10_tires_46 (by decide) ?_
        exact ih (x3 + (1 : Int32)) (upd f_r1 (x3).toNatClampNeg ((f_r1 (x3).toNatClampNeg) - (f_t_15 ((((86 : Int32) + ((2 : Int32) * x2)) + (1 : Int32))).toNatClampNeg))) hF _ _ _ (hP.sub [0, 1, 2] rfl) (hD.sub [0, 1, 2] rfl rfl) hS (lv_sub hl [1, 2, 3, 0] rfl)
set_option maxHeartbeats 4000000 in
set_option maxRecDepth 100000 in
theorem mX10_tires (l : Launch) (g : GG) (a_t : Nat) (a_r1 : Nat) (p_t : Nat → Nat) (n : Nat) (x2 : Int32) (o_t : Nat → Int32) (f_t_15 : Nat → Int32) (f_r1 : Nat → Int32) (f_r1' : Nat → Int32) (hF : fX10_tires n x2 o_t f_t_15 f_r1 = some (f_r1')) : MV l g yX10_tires wsX10_tires ({ frames := 1, cells := 0, slots := 0, locals := 21 } : Room) [.ref a_t, .ref a_r1, .int x2] [oX10 a_t p_t o_t, aI g (p_t 15) 266 f_t_15, aI g a_r1 17 f_r1] [oX10 a_t p_t o_t, aI g (p_t 15) 266 f_t_15, aI g a_r1 17 f_r1'] := by
  refine MV.of (cc := cX10_tires) (maxL := 4) (own := RX10) rfl rfl (by decide) (Nat.le_of_ble_eq_true rfl) ?_
  intro p e s m args below meth c A C0 hP hD hS ls hl
  obtain ⟨hx, hb, hml, hown, hts, hr, hlk, hK, hA, hSW⟩ := id C0
  have hl : lv_has ls 4 [(0, .ref a_t), (1, .ref a_r1), (2, .int x2)] := hl
  rw [fX10_tires] at hF
  refine lv_iconst (v := (0 : Int32)) hx hb dX10_tires_0 (by decide) ?_
  refine lv_istore_n (lv' := [(3, .int (0 : Int32)), (0, .ref a_t), (1, .ref a_r1), (2, .int x2)]) hx hb dX10_tires_1 rfl hl (by decide) rfl (fun ls hl => ?_)
  refine wX10_tires_L2 C0 a_t a_r1 p_t n x2 o_t f_t_15 f_r1' _ ?_ n (0 : Int32) f_r1 hF _ _ _ (hP.sub [0, 1, 2] rfl) (hD.sub [0, 1, 2] rfl rfl) hS (lv_sub hl [1, 2, 3, 0] rfl)
  · intro f_r1_x2 H locs ls hF hP hD hS hl
    cases hF
    exact ret_v C0 hP hD hS [0, 1, 2] rfl rfl rfl dX10_tires_49

theorem dAX10_endsByTales : ∀ q ∈ ([(0, (.aload_n 0, 1)), (1, (.getfield 26, 3)), (4, (.iconst 0, 1)), (5, (.aload_n 0, 1)), (6, (.getfield 35, 3)), (9, (.iconst 0, 1)), (10, (.bipush 17, 2)), (12, (.invokestatic 168, 3)), (15, (.iconst 0, 1)), (16, (.istore_n 2, 1)), (17, (.iconst 0, 1)), (18, (.istore_n 3, 1)), (19, (.iload_n 3, 1)), (20, (.iload_n 1, 1)), (21, (.if_icmp .ge 65, 3)), (24, (.aload_n 0, 1)), (25, (.aload_n 0, 1)), (26, (.getfield 35, 3)), (29, (.aload_n 0, 1)), (30, (.getfield 38, 3)), (33, (.iload_n 3, 1)), (34, (.iaload, 1)), (35, (.invokevirtual 325, 3)), (38, (.iconst 0, 1)), (39, (.istore 4, 2)), (41, (.iload 4, 2)), (43, (.aload_n 0, 1)), (44, (.getfield 20, 3)), (47, (.bipush 86, 2)), (49, (.iconst 2, 1)), (50, (.aload_n 0, 1)), (51, (.getfield 38, 3)), (54, (.iload_n 3, 1)), (55, (.iaload, 1)), (56, (.imul, 1)), (57, (.iadd, 1)), (58, (.iaload, 1)), (59, (.if_icmp .ge 21, 3)), (62, (.aload_n 0, 1)), (63, (.aload_n 0, 1)), (64, (.getfield 35, 3)), (67, (.invokevirtual 293, 3)), (70, (.pop, 1)), (71, (.iinc 2 1, 3)), (74, (.iinc 4 1, 3)), (77, (.goto (-36), 3)), (80, (.iinc 3 1, 3)), (83, (.goto (-64), 3)), (86, (.aload_n 0, 1)), (87, (.aload_n 0, 1)), (88, (.getfield 35, 3)), (91, (.iconst 0, 1)), (92, (.invokevirtual 296, 3)), (95, (.istore_n 3, 1)), (96, (.iload_n 3, 1)), (97, (.ifCond .lt 11, 3)), (100, (.iload_n 2, 1)), (101, (.iload_n 3, 1)), (102, (.iadd, 1)), (103, (.bipush 60, 2)), (105, (.if_icmp .le 8, 3)), (108, (.bipush (-2), 2)), (110, (.goto 6, 3)), (113, (.iload_n 2, 1)), (114, (.iload_n 3, 1)), (115, (.iadd, 1)), (116, (.ireturn, 1))] : List (Nat × (Instr × Nat))), decode cX10_endsByTales q.1 = .ok q.2 := by decide +kernel
theorem dX10_endsByTales_0 : decode cX10_endsByTales 0 = .ok (.aload_n 0, 1) := dAX10_endsByTales (0, (.aload_n 0, 1)) (List.mem_of_getElem? (i := 0) rfl)
theorem dX10_endsByTales_1 : decode cX10_endsByTales 1 = .ok (.getfield 26, 3) := dAX10_endsByTales (1, (.getfield 26, 3)) (List.mem_of_getElem? (i := 1) rfl)
theorem dX10_endsByTales_4 : decode cX10_endsByTales 4 = .ok (.iconst 0, 1) := dAX10_endsByTales (4, (.iconst 0, 1)) (List.mem_of_getElem? (i := 2) rfl)
theorem dX10_endsByTales_5 : decode cX10_endsByTales 5 = .ok (.aload_n 0, 1) := dAX10_endsByTales (5, (.aload_n 0, 1)) (List.mem_of_getElem? (i := 3) rfl)
theorem dX10_endsByTales_6 : decode cX10_endsByTales 6 = .ok (.getfield 35, 3) := dAX10_endsByTales (6, (.getfield 35, 3)) (List.mem_of_getElem? (i := 4) rfl)
theorem dX10_endsByTales_9 : decode cX10_endsByTales 9 = .ok (.iconst 0, 1) := dAX10_endsByTales (9, (.iconst 0, 1)) (List.mem_of_getElem? (i := 5) rfl)
theorem dX10_endsByTales_10 : decode cX10_endsByTales 10 = .ok (.bipush 17, 2) := dAX10_endsByTales (10, (.bipush 17, 2)) (List.mem_of_getElem? (i := 6) rfl)
theorem dX10_endsByTales_12 : decode cX10_endsByTales 12 = .ok (.invokestatic 168, 3) := dAX10_endsByTales (12, (.invokestatic 168, 3)) (List.mem_of_getElem? (i := 7) rfl)
theorem dX10_endsByTales_15 : decode cX10_endsByTales 15 = .ok (.iconst 0, 1) := dAX10_endsByTales (15, (.iconst 0, 1)) (List.mem_of_getElem? (i := 8) rfl)
theorem dX10_endsByTales_16 : decode cX10_endsByTales 16 = .ok (.istore_n 2, 1) := dAX10_endsByTales (16, (.istore_n 2, 1)) (List.mem_of_getElem? (i := 9) rfl)
theorem dX10_endsByTales_17 : decode cX10_endsByTales 17 = .ok (.iconst 0, 1) := dAX10_endsByTales (17, (.iconst 0, 1)) (List.mem_of_getElem? (i := 10) rfl)
theorem dX10_endsByTales_18 : decode cX10_endsByTales 18 = .ok (.istore_n 3, 1) := dAX10_endsByTales (18, (.istore_n 3, 1)) (List.mem_of_getElem? (i := 11) rfl)
theorem dX10_endsByTales_19 : decode cX10_endsByTales 19 = .ok (.iload_n 3, 1) := dAX10_endsByTales (19, (.iload_n 3, 1)) (List.mem_of_getElem? (i := 12) rfl)
theorem dX10_endsByTales_20 : decode cX10_endsByTales 20 = .ok (.iload_n 1, 1) := dAX10_endsByTales (20, (.iload_n 1, 1)) (List.mem_of_getElem? (i := 13) rfl)
theorem dX10_endsByTales_21 : decode cX10_endsByTales 21 = .ok (.if_icmp .ge 65, 3) := dAX10_endsByTales (21, (.if_icmp .ge 65, 3)) (List.mem_of_getElem? (i := 14) rfl)
theorem dX10_endsByTales_24 : decode cX10_endsByTales 24 = .ok (.aload_n 0, 1) := dAX10_endsByTales (24, (.aload_n 0, 1)) (List.mem_of_getElem? (i := 15) rfl)
theorem dX10_endsByTales_25 : decode cX10_endsByTales 25 = .ok (.aload_n 0, 1) := dAX10_endsByTales (25, (.aload_n 0, 1)) (List.mem_of_getElem? (i := 16) rfl)
theorem dX10_endsByTales_26 : decode cX10_endsByTales 26 = .ok (.getfield 35, 3) := dAX10_endsByTales (26, (.getfield 35, 3)) (List.mem_of_getElem? (i := 17) rfl)
theorem dX10_endsByTales_29 : decode cX10_endsByTales 29 = .ok (.aload_n 0, 1) := dAX10_endsByTales (29, (.aload_n 0, 1)) (List.mem_of_getElem? (i := 18) rfl)
theorem dX10_endsByTales_30 : decode cX10_endsByTales 30 = .ok (.getfield 38, 3) := dAX10_endsByTales (30, (.getfield 38, 3)) (List.mem_of_getElem? (i := 19) rfl)
theorem dX10_endsByTales_33 : decode cX10_endsByTales 33 = .ok (.iload_n 3, 1) := dAX10_endsByTales (33, (.iload_n 3, 1)) (List.mem_of_getElem? (i := 20) rfl)
theorem dX10_endsByTales_34 : decode cX10_endsByTales 34 = .ok (.iaload, 1) := dAX10_endsByTales (34, (.iaload, 1)) (List.mem_of_getElem? (i := 21) rfl)
theorem dX10_endsByTales_35 : decode cX10_endsByTales 35 = .ok (.invokevirtual 325, 3) := dAX10_endsByTales (35, (.invokevirtual 325, 3)) (List.mem_of_getElem? (i := 22) rfl)
theorem dX10_endsByTales_38 : decode cX10_endsByTales 38 = .ok (.iconst 0, 1) := dAX10_endsByTales (38, (.iconst 0, 1)) (List.mem_of_getElem? (i := 23) rfl)
theorem dX10_endsByTales_39 : decode cX10_endsByTales 39 = .ok (.istore 4, 2) := dAX10_endsByTales (39, (.istore 4, 2)) (List.mem_of_getElem? (i := 24) rfl)
theorem dX10_endsByTales_41 : decode cX10_endsByTales 41 = .ok (.iload 4, 2) := dAX10_endsByTales (41, (.iload 4, 2)) (List.mem_of_getElem? (i := 25) rfl)
theorem dX10_endsByTales_43 : decode cX10_endsByTales 43 = .ok (.aload_n 0, 1) := dAX10_endsByTales (43, (.aload_n 0, 1)) (List.mem_of_getElem? (i := 26) rfl)
theorem dX10_endsByTales_44 : decode cX10_endsByTales 44 = .ok (.getfield 20, 3) := dAX10_endsByTales (44, (.getfield 20, 3)) (List.mem_of_getElem? (i := 27) rfl)
theorem dX10_endsByTales_47 : decode cX10_endsByTales 47 = .ok (.bipush 86, 2) := dAX10_endsByTales (47, (.bipush 86, 2)) (List.mem_of_getElem? (i := 28) rfl)
theorem dX10_endsByTales_49 : decode cX10_endsByTales 49 = .ok (.iconst 2, 1) := dAX10_endsByTales (49, (.iconst 2, 1)) (List.mem_of_getElem? (i := 29) rfl)
theorem dX10_endsByTales_50 : decode cX10_endsByTales 50 = .ok (.aload_n 0, 1) := dAX10_endsByTales (50, (.aload_n 0, 1)) (List.mem_of_getElem? (i := 30) rfl)
theorem dX10_endsByTales_51 : decode cX10_endsByTales 51 = .ok (.getfield 38, 3) := dAX10_endsByTales (51, (.getfield 38, 3)) (List.mem_of_getElem? (i := 31) rfl)
theorem dX10_endsByTales_54 : decode cX10_endsByTales 54 = .ok (.iload_n 3, 1) := dAX10_endsByTales (54, (.iload_n 3, 1)) (List.mem_of_getElem? (i := 32) rfl)
theorem dX10_endsByTales_55 : decode cX10_endsByTales 55 = .ok (.iaload, 1) := dAX10_endsByTales (55, (.iaload, 1)) (List.mem_of_getElem? (i := 33) rfl)
theorem dX10_endsByTales_56 : decode cX10_endsByTales 56 = .ok (.imul, 1) := dAX10_endsByTales (56, (.imul, 1)) (List.mem_of_getElem? (i := 34) rfl)
theorem dX10_endsByTales_57 : decode cX10_endsByTales 57 = .ok (.iadd, 1) := dAX10_endsByTales (57, (.iadd, 1)) (List.mem_of_getElem? (i := 35) rfl)
theorem dX10_endsByTales_58 : decode cX10_endsByTales 58 = .ok (.iaload, 1) := dAX10_endsByTales (58, (.iaload, 1)) (List.mem_of_getElem? (i := 36) rfl)
theorem dX10_endsByTales_59 : decode cX10_endsByTales 59 = .ok (.if_icmp .ge 21, 3) := dAX10_endsByTales (59, (.if_icmp .ge 21, 3)) (List.mem_of_getElem? (i := 37) rfl)
theorem dX10_endsByTales_62 : decode cX10_endsByTales 62 = .ok (.aload_n 0, 1) := dAX10_endsByTales (62, (.aload_n 0, 1)) (List.mem_of_getElem? (i := 38) rfl)
theorem dX10_endsByTales_63 : decode cX10_endsByTales 63 = .ok (.aload_n 0, 1) := dAX10_endsByTales (63, (.aload_n 0, 1)) (List.mem_of_getElem? (i := 39) rfl)
theorem dX10_endsByTales_64 : decode cX10_endsByTales 64 = .ok (.getfield 35, 3) := dAX10_endsByTales (64, (.getfield 35, 3)) (List.mem_of_getElem? (i := 40) rfl)
theorem dX10_endsByTales_67 : decode cX10_endsByTales 67 = .ok (.invokevirtual 293, 3) := dAX10_endsByTales (67, (.invokevirtual 293, 3)) (List.mem_of_getElem? (i := 41) rfl)
theorem dX10_endsByTales_70 : decode cX10_endsByTales 70 = .ok (.pop, 1) := dAX10_endsByTales (70, (.pop, 1)) (List.mem_of_getElem? (i := 42) rfl)
theorem dX10_endsByTales_71 : decode cX10_endsByTales 71 = .ok (.iinc 2 1, 3) := dAX10_endsByTales (71, (.iinc 2 1, 3)) (List.mem_of_getElem? (i := 43) rfl)
theorem dX10_endsByTales_74 : decode cX10_endsByTales 74 = .ok (.iinc 4 1, 3) := dAX10_endsByTales (74, (.iinc 4 1, 3)) (List.mem_of_getElem? (i := 44) rfl)
theorem dX10_endsByTales_77 : decode cX10_endsByTales 77 = .ok (.goto (-36), 3) := dAX10_endsByTales (77, (.goto (-36), 3)) (List.mem_of_getElem? (i := 45) rfl)
theorem dX10_endsByTales_80 : decode cX10_endsByTales 80 = .ok (.iinc 3 1, 3) := dAX10_endsByTales (80, (.iinc 3 1, 3)) (List.mem_of_getElem? (i := 46) rfl)
theorem dX10_endsByTales_83 : decode cX10_endsByTales 83 = .ok (.goto (-64), 3) := dAX10_endsByTales (83, (.goto (-64), 3)) (List.mem_of_getElem? (i := 47) rfl)
theorem dX10_endsByTales_86 : decode cX10_endsByTales 86 = .ok (.aload_n 0, 1) := dAX10_endsByTales (86, (.aload_n 0, 1)) (List.mem_of_getElem? (i := 48) rfl)
theorem dX10_endsByTales_87 : decode cX10_endsByTales 87 = .ok (.aload_n 0, 1) := dAX10_endsByTales (87, (.aload_n 0, 1)) (List.mem_of_getElem? (i := 49) rfl)
theorem dX10_endsByTales_88 : decode cX10_endsByTales 88 = .ok (.getfield 35, 3) := dAX10_endsByTales (88, (.getfield 35, 3)) (List.mem_of_getElem? (i := 50) rfl)
theorem dX10_endsByTales_91 : decode cX10_endsByTales 91 = .ok (.iconst 0, 1) := dAX10_endsByTales (91, (.iconst 0, 1)) (List.mem_of_getElem? (i := 51) rfl)
theorem dX10_endsByTales_92 : decode cX10_endsByTales 92 = .ok (.invokevirtual 296, 3) := dAX10_endsByTales (92, (.invokevirtual 296, 3)) (List.mem_of_getElem? (i := 52) rfl)
theorem dX10_endsByTales_95 : decode cX10_endsByTales 95 = .ok (.istore_n 3, 1) := dAX10_endsByTales (95, (.istore_n 3, 1)) (List.mem_of_getElem? (i := 53) rfl)
theorem dX10_endsByTales_96 : decode cX10_endsByTales 96 = .ok (.iload_n 3, 1) := dAX10_endsByTales (96, (.iload_n 3, 1)) (List.mem_of_getElem? (i := 54) rfl)
theorem dX10_endsByTales_97 : decode cX10_endsByTales 97 = .ok (.ifCond .lt 11, 3) := dAX10_endsByTales (97, (.ifCond .lt 11, 3)) (List.mem_of_getElem? (i := 55) rfl)
theorem dX10_endsByTales_100 : decode cX10_endsByTales 100 = .ok (.iload_n 2, 1) := dAX10_endsByTales (100, (.iload_n 2, 1)) (List.mem_of_getElem? (i := 56) rfl)
theorem dX10_endsByTales_101 : decode cX10_endsByTales 101 = .ok (.iload_n 3, 1) := dAX10_endsByTales (101, (.iload_n 3, 1)) (List.mem_of_getElem? (i := 57) rfl)
theorem dX10_endsByTales_102 : decode cX10_endsByTales 102 = .ok (.iadd, 1) := dAX10_endsByTales (102, (.iadd, 1)) (List.mem_of_getElem? (i := 58) rfl)
theorem dX10_endsByTales_103 : decode cX10_endsByTales 103 = .ok (.bipush 60, 2) := dAX10_endsByTales (103, (.bipush 60, 2)) (List.mem_of_getElem? (i := 59) rfl)
theorem dX10_endsByTales_105 : decode cX10_endsByTales 105 = .ok (.if_icmp .le 8, 3) := dAX10_endsByTales (105, (.if_icmp .le 8, 3)) (List.mem_of_getElem? (i := 60) rfl)
theorem dX10_endsByTales_108 : decode cX10_endsByTales 108 = .ok (.bipush (-2), 2) := dAX10_endsByTales (108, (.bipush (-2), 2)) (List.mem_of_getElem? (i := 61) rfl)
theorem dX10_endsByTales_110 : decode cX10_endsByTales 110 = .ok (.goto 6, 3) := dAX10_endsByTales (110, (.goto 6, 3)) (List.mem_of_getElem? (i := 62) rfl)
theorem dX10_endsByTales_113 : decode cX10_endsByTales 113 = .ok (.iload_n 2, 1) := dAX10_endsByTales (113, (.iload_n 2, 1)) (List.mem_of_getElem? (i := 63) rfl)
theorem dX10_endsByTales_114 : decode cX10_endsByTales 114 = .ok (.iload_n 3, 1) := dAX10_endsByTales (114, (.iload_n 3, 1)) (List.mem_of_getElem? (i := 64) rfl)
theorem dX10_endsByTales_115 : decode cX10_endsByTales 115 = .ok (.iadd, 1) := dAX10_endsByTales (115, (.iadd, 1)) (List.mem_of_getElem? (i := 65) rfl)
theorem dX10_endsByTales_116 : decode cX10_endsByTales 116 = .ok (.ireturn, 1) := dAX10_endsByTales (116, (.ireturn, 1)) (List.mem_of_getElem? (i := 66) rfl)
set_option maxRecDepth 20000 in
theorem ggX10_endsByTales_X10_copy : GoodIn wsX10_endsByTales wsX10_copy := goodIn_r _ [8] rfl (by decide +kernel)
set_option maxRecDepth 20000 in
theorem gX10_endsByTales_X10_copy : GoodIn wsX10_endsByTales (va_wsS RX10 168 yX10_copy wsX10_copy) := goodIn_app (goodIn_of _ (by decide +kernel)) ggX10_endsByTales_X10_copy
set_option maxRecDepth 20000 in
theorem ggX10_endsByTales_X10_tires : GoodIn wsX10_endsByTales wsX10_tires := goodIn_r _ [12, 4, 13, 14, 7, 15, 63, 64, 65, 66, 67, 68, 69, 70, 71, 72, 73, 74, 75, 76, 77, 78, 79, 80, 81, 82, 83, 84, 85, 86, 87, 88, 89, 90, 91, 92, 93, 94, 95, 96, 97] rfl (by decide +kernel)
set_option maxRecDepth 20000 in
theorem gX10_endsByTales_X10_tires : GoodIn wsX10_endsByTales (wsV RX10 325 RX10 yX10_tires wsX10_tires) := goodIn_app (goodIn_of _ (by decide +kernel)) ggX10_endsByTales_X10_tires
set_option maxRecDepth 20000 in
theorem ggX10_endsByTales_X10_hourOf : GoodIn wsX10_endsByTales wsX10_hourOf := goodIn_r _ [19, 4, 20, 21, 22, 7, 23, 13, 14, 15, 24, 25, 26, 27, 28, 29, 30, 31, 32, 33, 34, 35, 36, 37, 38, 39, 40, 41, 42, 43, 44, 45, 46, 47, 48, 49, 50, 51, 63, 64, 65, 66, 67, 68, 69, 70, 71, 72, 73, 74, 75, 76, 77, 78, 79, 80, 81, 82, 83, 84, 85, 86, 87, 88, 89, 90, 91, 92, 93, 94, 95, 96, 97] rfl (by decide +kernel)
set_option maxRecDepth 20000 in
theorem gX10_endsByTales_X10_hourOf : GoodIn wsX10_endsByTales (wsV RX10 293 RX10 yX10_hourOf wsX10_hourOf) := goodIn_app (goodIn_of _ (by decide +kernel)) ggX10_endsByTales_X10_hourOf
set_option maxRecDepth 20000 in
theorem ggX10_endsByTales_X10_endsOn : GoodIn wsX10_endsByTales wsX10_endsOn := goodIn_r _ [55, 56, 37, 38, 39, 7, 40, 4, 13, 14, 15, 57, 58, 59, 60, 61, 62, 20, 21, 22, 23, 24, 25, 26, 27, 28, 29, 30, 31, 32, 33, 34, 35, 36, 41, 42, 43, 44, 45, 46, 47, 48, 49, 50, 51, 16, 17, 18, 19, 63, 64, 65, 66, 67, 68, 69, 70, 71, 72, 73, 74, 75, 76, 77, 78, 79, 80, 81, 82, 83, 84, 85, 86, 87, 88, 89, 90, 91, 92, 93, 94, 95, 96, 97] rfl (by decide +kernel)
set_option maxRecDepth 20000 in
theorem gX10_endsByTales_X10_endsOn : GoodIn wsX10_endsByTales (wsV RX10 296 RX10 yX10_endsOn wsX10_endsOn) := goodIn_app (goodIn_of _ (by decide +kernel)) ggX10_endsByTales_X10_endsOn
theorem kX10_endsByTales_26 : Cond.fieldLink RX10 26 "EveningVowModel" "st" "[I" ∈ wsX10_endsByTales := List.mem_of_getElem? (i := 1) rfl
theorem iX10_endsByTales_X10 : ∀ w ∈ u_ws RX10 TX10 35, w ∈ wsX10_endsByTales := fun w h => (List.mem_cons_of_mem _ (List.mem_append_right _ h))
theorem kX10_endsByTales_35 : Cond.fieldLink RX10 35 "EveningVowModel" "trial" "[I" ∈ wsX10_endsByTales := List.mem_of_getElem? (i := 2) rfl
theorem kX10_endsByTales_38 : Cond.fieldLink RX10 38 "EveningVowModel" "tales" "[I" ∈ wsX10_endsByTales := List.mem_of_getElem? (i := 3) rfl
theorem kX10_endsByTales_20 : Cond.fieldLink RX10 20 "EveningVowModel" "\x72" "[I" ∈ wsX10_endsByTales := List.mem_of_getElem? (i := 4) rfl
set_option maxHeartbeats 4000000 in
set_option maxRecDepth 100000 in
theorem wX10_endsByTales_L41 {p : Program} {l : Launch} {e : Env} {s : State} {m : MethodId} {args : Array Value} {below : List Frame} {meth : Method} {c : Code} {g : GG} {A : Nat → Prop} (C0 : Cx p s m args meth c cX10_endsByTales 5 (some .int) RX10 wsX10_endsByTales g A) (a_t : Nat) (p_t : Nat → Nat) (n : Nat) (x1 : Int32) (x3 : Int32) (f_t_15 : Nat → Int32) (f_t_26 : Nat → Int32) (f_t_17 : Nat → Int32) (r : Int32) (o_t' : Nat → Int32) (f_t_25' : Nat → Int32) (K : Int32 → (Nat → Int32) → (Nat → Int32) → Option (Int32 × (Nat → Int32) × (Nat → Int32))) (hKx : ∀ (x2 : Int32) (o_t : Nat → Int32) (f_t_25 : Nat → Int32) (H : Heap) (locs : List Loc) (ls : Array Slot), K x2 o_t f_t_25 = some (r, o_t', f_t_25') → va_P g.1 vwCl [oX10 a_t p_t o_t, aI g (p_t 15) 266 f_t_15, aI g (p_t 17) 17 f_t_17, aI g (p_t 25) 17 f_t_25, aI g (p_t 26) 4 f_t_26] H → va_D A [oX10 a_t p_t o_t, aI g (p_t 15) 266 f_t_15, aI g (p_t 17) 17 f_t_17, aI g (p_t 25) 17 f_t_25, aI g (p_t 26) 4 f_t_26] → va_S A s.heap H locs → lv_has ls 5 [(0, .ref a_t), (1, .int x1), (2, .int x2), (3, .int x3)] → W p l e ({ frames := 5, cells := 0, slots := 0, locals := 116 } : Room) s m args below meth c H locs 0 0 (MQ below (EndI g r [oX10 a_t p_t o_t', aI g (p_t 15) 266 f_t_15, aI g (p_t 17) 17 f_t_17, aI g (p_t 25) 17 f_t_25', aI g (p_t 26) 4 f_t_26] A) args s 0 0 A) (F0 m 80 ls [])) : ∀ (k : Nat) (x2 : Int32) (x4 : Int32) (o_t : Nat → Int32) (f_t_25 : Nat → Int32), fX10_endsByTales_L41 n x1 x3 f_t_15 f_t_26 K k x2 x4 o_t f_t_25 = some (r, o_t', f_t_25') → ∀ (H : Heap) (locs : List Loc) (ls : Array Slot), va_P g.1 vwCl [oX10 a_t p_t o_t, aI g (p_t 15) 266 f_t_15, aI g (p_t 17) 17 f_t_17, aI g (p_t 25) 17 f_t_25, aI g (p_t 26) 4 f_t_26] H → va_D A [oX10 a_t p_t o_t, aI g (p_t 15) 266 f_t_15, aI g (p_t 17) 17 f_t_17, aI g (p_t 25) 17 f_t_25, aI g (p_t 26) 4 f_t_26] → va_S A s.heap H locs → lv_has ls 5 [(0, .ref a_t), (1, .int x1), (2, .int x2), (3, .int x3), (4, .int x4)] → W p l e ({ frames := 5, cells := 0, slots := 0, locals := 116 } : Room) s m args below meth c H locs 0 0 (MQ below (EndI g r [oX10 a_t p_t o_t', aI g (p_t 15) 266 f_t_15, aI g (p_t 17) 17 f_t_17, aI g (p_t 25) 17 f_t_25', aI g (p_t 26) 4 f_t_26] A) args s 0 0 A) (F0 m 41 ls []) := by
  obtain ⟨hx, hb, hml, hown, hts, hr, hlk, hK, hA, hSW⟩ := id C0
  intro k
  induction k with
  | zero =>
    intro x2 x4 o_t f_t_25 hF
    exact absurd hF (by simp [fX10_endsByTales_L41])
  | succ k ih =>
    intro x2 x4 o_t f_t_25 hF H locs ls hP hD hS hl
    rw [fX10_endsByTales_L41] at hF
    refine lv_iload hx hb dX10_endsByTales_41 (lv_at hl 4 rfl) ?_
    refine lv_aload_n hx hb dX10_endsByTales_43 rfl (lv_at hl 0 rfl) ?_
    refine va_get (D := g.1) (ci := 10) (v := .ref (p_t 15)) (C := RX10) (T := TX10) (N := 35) hx hb hts iX10_endsByTales_X10 hown hK.1 hP 0 rfl rfl 15 (by decide) (hts _ kX10_endsByTales_20) (fun _ h9 => h9) rfl dX10_endsByTales_44 ?_
    refine lv_bipush (v := (86 : Int32)) hx hb dX10_endsByTales_47 (by decide) ?_
    refine lv_iconst (v := (2 : Int32)) hx hb dX10_endsByTales_49 (by decide) ?_
    refine lv_aload_n hx hb dX10_endsByTales_50 rfl (lv_at hl 0 rfl) ?_
    refine va_get (D := g.1) (ci := 10) (v := .ref (p_t 26)) (C := RX10) (T := TX10) (N := 35) hx hb hts iX10_endsByTales_X10 hown hK.1 hP 0 rfl rfl 26 (by decide) (hts _ kX10_endsByTales_38) (fun _ h9 => h9) rfl dX10_endsByTales_51 ?_
    refine lv_iload_n hx hb dX10_endsByTales_54 rfl (lv_at hl 3 rfl) ?_
    obtain ⟨h_7, hF⟩ := it_ck hF
    refine va_iald hx hb hK.1 hP 4 0 rfl rfl h_7 dX10_endsByTales_55 ?_
    refine lv_imul hx hb dX10_endsByTales_56 ?_
    refine lv_iadd hx hb dX10_endsByTales_57 ?_
    obtain ⟨h_8, hF⟩ := it_ck hF
    refine va_iald hx hb hK.1 hP 1 0 rfl rfl h_8 dX10_endsByTales_58 ?_
    refine lv_icmp_ge (tgt := 80) hx hb dX10_endsByTales_59 (by decide) (fun c_9 => ?_) (fun c_9 => ?_)
    · have hF := it_p c_9 hF
      exact hKx x2 o_t f_t_25 _ _ _ hF (hP.sub [0, 1, 2, 3, 4] rfl) (hD.sub [0, 1, 2, 3, 4] rfl rfl) hS (lv_sub hl [0, 1, 2, 3] rfl)
    · have hF := it_n c_9 hF
      refine lv_aload_n hx hb dX10_endsByTales_62 rfl (lv_at hl 0 rfl) ?_
      refine lv_aload_n hx hb dX10_endsByTales_63 rfl (lv_at hl 0 rfl) ?_
      refine va_get (D := g.1) (ci := 10) (v := .ref (p_t 25)) (C := RX10) (T := TX10) (N := 35) hx hb hts iX10_endsByTales_X10 hown hK.1 hP 0 rfl rfl 25 (by decide) (hts _ kX10_endsByTales_35) (fun _ h9 => h9) rfl dX10_endsByTales_64 ?_
      obtain ⟨u_10, u_11, u_12, hu_13, hF⟩ := ob3_some hF
      refine call_i (wr := [aI g (p_t 17) 17 f_t_17, aI g (p_t 26) 4 f_t_26]) (As := [.ref (p_t 25)]) (rest := []) (ci := 10) (q0 := 0) C0 (mX10_hourOf l g a_t (p_t 25) p_t n o_t f_t_15 f_t_25 u_10 u_11 u_12 hu_13) (cwV 1 hts gX10_endsByTales_X10_hourOf rfl rfl rfl (by decide +kernel) ⟨Nat.le_of_ble_eq_true rfl, Nat.le_of_ble_eq_true rfl⟩) hP hD hS [0, 1, 3] [2, 4] rfl rfl rfl rfl rfl (by decide) rfl rfl hl.1 rfl rfl (Nat.le_of_ble_eq_true rfl) ⟨Nat.zero_le _, Nat.zero_le _⟩ dX10_endsByTales_67 ?_
      intro H locs hP hD hS
      refine lv_pop hx hb dX10_endsByTales_70 rfl ?_
      refine lv_iinc (v := (x2 + (1 : Int32))) (lv' := [(2, .int (x2 + (1 : Int32))), (0, .ref a_t), (1, .int x1), (3, .int x3), (4, .int x4)]) hx hb dX10_endsByTales_71 hl (k := 2) rfl rfl (by decide) rfl (fun ls hl => ?_)
      refine lv_iinc (v := (x4 + (1 : Int32))) (lv' := [(4, .int (x4 + (1 : Int32))), (2, .int (x2 + (1 : Int32))), (0, .ref a_t), (1, .int x1), (3, .int x3)]) hx hb dX10_endsByTales_74 hl (k := 4) rfl rfl (by decide) rfl (fun ls hl => ?_)
      refine lv_goto (tgt := 41) hx hb dX10_endsByTales_77 (by decide) ?_
      exact ih (x2 + (1 : Int32)) (x4 + (1 : Int32)) u_11 u_12 hF _ _ _ (hP.sub [2, 3, 0, 4, 1] rfl) (hD.sub [2, 3, 0, 4, 1] rfl rfl) hS (lv_sub hl [2, 3, 1, 4, 0] rfl)
set_option maxHeartbeats 4000000 in
set_option maxRecDepth 100000 in
theorem wX10_endsByTales_L19 {p : Program} {l : Launch} {e : Env} {s : State} {m : MethodId} {args : Array Value} {below : List Frame} {meth : Method} {c : Code} {g : GG} {A : Nat → Prop} (C0 : Cx p s m args meth c cX10_endsByTales 5 (some .int) RX10 wsX10_endsByTales g A) (a_t : Nat) (p_t : Nat → Nat) (n : Nat) (x1 : Int32) (f_t_15 : Nat → Int32) (f_t_26 : Nat → Int32) (f_t_17 : Nat → Int32) (r : Int32) (o_t' : Nat → Int32) (f_t_25' : Nat → Int32) (K : Int32 → (Nat → Int32) → (Nat → Int32) → Option (Int32 × (Nat → Int32) × (Nat → Int32))) (hKx : ∀ (x2 : Int32) (o_t : Nat → Int32) (f_t_25 : Nat → Int32) (H : Heap) (locs : List Loc) (ls : Array Slot), K x2 o_t f_t_25 = some (r, o_t', f_t_25') → va_P g.1 vwCl [oX10 a_t p_t o_t, aI g (p_t 15) 266 f_t_15, aI g (p_t 17) 17 f_t_17, aI g (p_t 25) 17 f_t_25, aI g (p_t 26) 4 f_t_26] H → va_D A [oX10 a_t p_t o_t, aI g (p_t 15) 266 f_t_15, aI g (p_t 17) 17 f_t_17, aI g (p_t 25) 17 f_t_25, aI g (p_t 26) 4 f_t_26] → va_S A s.heap H locs → lv_has ls 5 [(0, .ref a_t), (2, .int x2)] → W p l e ({ frames := 5, cells := 0, slots := 0, locals := 116 } : Room) s m args below meth c H locs 0 0 (MQ below (EndI g r [oX10 a_t p_t o_t', aI g (p_t 15) 266 f_t_15, aI g (p_t 17) 17 f_t_17, aI g (p_t 25) 17 f_t_25', aI g (p_t 26) 4 f_t_26] A) args s 0 0 A) (F0 m 86 ls [])) : ∀ (k : Nat) (x2 : Int32) (x3 : Int32) (o_t : Nat → Int32) (f_t_25 : Nat → Int32), fX10_endsByTales_L19 n x1 f_t_15 f_t_26 K k x2 x3 o_t f_t_25 = some (r, o_t', f_t_25') → ∀ (H : Heap) (locs : List Loc) (ls : Array Slot), va_P g.1 vwCl [oX10 a_t p_t o_t, aI g (p_t 15) 266 f_t_15, aI g (p_t 17) 17 f_t_17, aI g (p_t 25) 17 f_t_25, aI g (p_t 26) 4 f_t_26] H → va_D A [oX10 a_t p_t o_t, aI g (p_t 15) 266 f_t_15, aI g (p_t 17) 17 f_t_17, aI g (p_t 25) 17 f_t_25, aI g (p_t 26) 4 f_t_26] → va_S A s.heap H locs → lv_has ls 5 [(0, .ref a_t), (1, .int x1), (2, .int x2), (3, .int x3)] → W p l e ({ frames := 5, cells := 0, slots := 0, locals := 116 } : Room) s m args below meth c H locs 0 0 (MQ below (EndI g r [oX10 a_t p_t o_t', aI g (p_t 15) 266 f_t_15, aI g (p_t 17) 17 f_t_17, aI g (p_t 25) 17 f_t_25', aI g (p_t 26) 4 f_t_26] A) args s 0 0 A) (F0 m 19 ls []) := by
  obtain ⟨hx, hb, hml, hown, hts, hr, hlk, hK, hA, hSW⟩ := id C0
  intro k
  induction k with
  | zero =>
    intro x2 x3 o_t f_t_25 hF
    exact absurd hF (by simp [fX10_endsByTales_L19])
  | succ k ih =>
    intro x2 x3 o_t f_t_25 hF H locs ls hP hD hS hl
    rw [fX10_endsByTales_L19] at hF
    refine lv_iload_n hx hb dX10_endsByTales_19 rfl (lv_at hl 3 rfl) ?_
    refine lv_iload_n hx hb dX10_endsByTales_20 rfl (lv_at hl 1 rfl) ?_
    refine lv_icmp_ge (tgt := 86) hx hb dX10_endsByTales_21 (by decide) (fun c_3 => ?_) (fun c_3 => ?_)
    · have hF := it_p c_3 hF
      exact hKx x2 o_t f_t_25 _ _ _ hF (hP.sub [0, 1, 2, 3, 4] rfl) (hD.sub [0, 1, 2, 3, 4] rfl rfl) hS (lv_sub hl [0, 2] rfl)
    · have hF := it_n c_3 hF
      refine lv_aload_n hx hb dX10_endsByTales_24 rfl (lv_at hl 0 rfl) ?_
      refine lv_aload_n hx hb dX10_endsByTales_25 rfl (lv_at hl 0 rfl) ?_
      refine va_get (D := g.1) (ci := 10) (v := .ref (p_t 25)) (C := RX10) (T := TX10) (N := 35) hx hb hts iX10_endsByTales_X10 hown hK.1 hP 0 rfl rfl 25 (by decide) (hts _ kX10_endsByTales_35) (fun _ h9 => h9) rfl dX10_endsByTales_26 ?_
      refine lv_aload_n hx hb dX10_endsByTales_29 rfl (lv_at hl 0 rfl) ?_
      refine va_get (D := g.1) (ci := 10) (v := .ref (p_t 26)) (C := RX10) (T := TX10) (N := 35) hx hb hts iX10_endsByTales_X10 hown hK.1 hP 0 rfl rfl 26 (by decide) (hts _ kX10_endsByTales_38) (fun _ h9 => h9) rfl dX10_endsByTales_30 ?_
      refine lv_iload_n hx hb dX10_endsByTales_33 rfl (lv_at hl 3 rfl) ?_
      obtain ⟨h_4, hF⟩ := it_ck hF
      refine va_iald hx hb hK.1 hP 4 0 rfl rfl h_4 dX10_endsByTales_34 ?_
      obtain ⟨u_5, hu_6, hF⟩ := ob1_some hF
      refine call_v (wr := [aI g (p_t 17) 17 f_t_17, aI g (p_t 26) 4 f_t_26]) (As := [.ref (p_t 25), .int (f_t_26 (x3).toNatClampNeg)]) (rest := []) (ci := 10) (q0 := 0) C0 (mX10_tires l g a_t (p_t 25) p_t n (f_t_26 (x3).toNatClampNeg) o_t f_t_15 f_t_25 u_5 hu_6) (cwV 2 hts gX10_endsByTales_X10_tires rfl rfl rfl (by decide +kernel) ⟨Nat.le_of_ble_eq_true rfl, Nat.le_of_ble_eq_true rfl⟩) hP hD hS [0, 1, 3] [2, 4] rfl rfl rfl rfl rfl (by decide) rfl rfl hl.1 rfl rfl (Nat.le_of_ble_eq_true rfl) ⟨Nat.zero_le _, Nat.zero_le _⟩ dX10_endsByTales_35 ?_
      intro H locs hP hD hS
      refine lv_iconst (v := (0 : Int32)) hx hb dX10_endsByTales_38 (by decide) ?_
      refine lv_istore (lv' := [(4, .int (0 : Int32)), (0, .ref a_t), (1, .int x1), (2, .int x2), (3, .int x3)]) hx hb dX10_endsByTales_39 hl (by decide) rfl (fun ls hl => ?_)
      refine wX10_endsByTales_L41 C0 a_t p_t n x1 x3 f_t_15 f_t_26 f_t_17 r o_t' f_t_25' _ ?_ n x2 (0 : Int32) o_t u_5 hF _ _ _ (hP.sub [2, 3, 0, 4, 1] rfl) (hD.sub [2, 3, 0, 4, 1] rfl rfl) hS (lv_sub hl [1, 2, 3, 4, 0] rfl)
      · intro x2_x41 o_t_x41 f_t_25_x41 H locs ls hF hP hD hS hl
        refine lv_iinc (v := (x3 + (1 : Int32))) (lv' := [(3, .int (x3 + (1 : Int32))), (0, .ref a_t), (1, .int x1), (2, .int x2_x41)]) hx hb dX10_endsByTales_80 hl (k := 3) rfl rfl (by decide) rfl (fun ls hl => ?_)
        refine lv_goto (tgt := 19) hx hb dX10_endsByTales_83 (by decide) ?_
        exact ih x2_x41 (x3 + (1 : Int32)) o_t_x41 f_t_25_x41 hF _ _ _ (hP.sub [0, 1, 2, 3, 4] rfl) (hD.sub [0, 1, 2, 3, 4] rfl rfl) hS (lv_sub hl [1, 2, 3, 0] rfl)
set_option maxHeartbeats 4000000 in
set_option maxRecDepth 100000 in
theorem mX10_endsByTales (l : Launch) (g : GG) (a_t : Nat) (p_t : Nat → Nat) (n : Nat) (x1 : Int32) (o_t : Nat → Int32) (f_t_15 : Nat → Int32) (f_t_17 : Nat → Int32) (f_t_25 : Nat → Int32) (f_t_26 : Nat → Int32) (r : Int32) (o_t' : Nat → Int32) (f_t_25' : Nat → Int32) (hF : fX10_endsByTales n x1 o_t f_t_15 f_t_17 f_t_25 f_t_26 = some (r, o_t', f_t_25')) : MI l g yX10_endsByTales wsX10_endsByTales ({ frames := 5, cells := 0, slots := 0, locals := 116 } : Room) [.ref a_t, .int x1] [oX10 a_t p_t o_t, aI g (p_t 15) 266 f_t_15, aI g (p_t 17) 17 f_t_17, aI g (p_t 25) 17 f_t_25, aI g (p_t 26) 4 f_t_26] r [oX10 a_t p_t o_t', aI g (p_t 15) 266 f_t_15, aI g (p_t 17) 17 f_t_17, aI g (p_t 25) 17 f_t_25', aI g (p_t 26) 4 f_t_26] := by
  refine MI.of (cc := cX10_endsByTales) (maxL := 5) (rt := .int) (own := RX10) rfl rfl (by decide) (Nat.le_of_ble_eq_true rfl) ?_
  intro p e s m args below meth c A C0 hP hD hS ls hl
  obtain ⟨hx, hb, hml, hown, hts, hr, hlk, hK, hA, hSW⟩ := id C0
  have hl : lv_has ls 5 [(0, .ref a_t), (1, .int x1)] := hl
  rw [fX10_endsByTales] at hF
  refine lv_aload_n hx hb dX10_endsByTales_0 rfl (lv_at hl 0 rfl) ?_
  refine va_get (D := g.1) (ci := 10) (v := .ref (p_t 17)) (C := RX10) (T := TX10) (N := 35) hx hb hts iX10_endsByTales_X10 hown hK.1 hP 0 rfl rfl 17 (by decide) (hts _ kX10_endsByTales_26) (fun _ h9 => h9) rfl dX10_endsByTales_1 ?_
  refine lv_iconst (v := (0 : Int32)) hx hb dX10_endsByTales_4 (by decide) ?_
  refine lv_aload_n hx hb dX10_endsByTales_5 rfl (lv_at hl 0 rfl) ?_
  refine va_get (D := g.1) (ci := 10) (v := .ref (p_t 25)) (C := RX10) (T := TX10) (N := 35) hx hb hts iX10_endsByTales_X10 hown hK.1 hP 0 rfl rfl 25 (by decide) (hts _ kX10_endsByTales_35) (fun _ h9 => h9) rfl dX10_endsByTales_6 ?_
  refine lv_iconst (v := (0 : Int32)) hx hb dX10_endsByTales_9 (by decide) ?_
  refine lv_bipush (v := (17 : Int32)) hx hb dX10_endsByTales_10 (by decide) ?_
  obtain ⟨u_1, hu_2, hF⟩ := ob1_some hF
  refine call_sv (wr := [oX10 a_t p_t o_t, aI g (p_t 15) 266 f_t_15, aI g (p_t 26) 4 f_t_26]) (As := [.ref (p_t 17), .int (0 : Int32), .ref (p_t 25), .int (0 : Int32), .int (17 : Int32)]) (rest := []) C0 (mX10_copy l g (p_t 17) (p_t 25) n (0 : Int32) (0 : Int32) (17 : Int32) 17 17 f_t_17 f_t_25 u_1 hu_2) (va_cwS 5 hts gX10_endsByTales_X10_copy rfl rfl rfl (by decide +kernel) ⟨Nat.le_of_ble_eq_true rfl, Nat.le_of_ble_eq_true rfl⟩) hP hD hS [2, 3] [0, 1, 4] rfl rfl rfl rfl rfl (by decide) hl.1 rfl rfl (Nat.le_of_ble_eq_true rfl) ⟨Nat.zero_le _, Nat.zero_le _⟩ dX10_endsByTales_12 ?_
  intro H locs hP hD hS
  refine lv_iconst (v := (0 : Int32)) hx hb dX10_endsByTales_15 (by decide) ?_
  refine lv_istore_n (lv' := [(2, .int (0 : Int32)), (0, .ref a_t), (1, .int x1)]) hx hb dX10_endsByTales_16 rfl hl (by decide) rfl (fun ls hl => ?_)
  refine lv_iconst (v := (0 : Int32)) hx hb dX10_endsByTales_17 (by decide) ?_
  refine lv_istore_n (lv' := [(3, .int (0 : Int32)), (2, .int (0 : Int32)), (0, .ref a_t), (1, .int x1)]) hx hb dX10_endsByTales_18 rfl hl (by decide) rfl (fun ls hl => ?_)
  refine wX10_endsByTales_L19 C0 a_t p_t n x1 f_t_15 f_t_26 f_t_17 r o_t' f_t_25' _ ?_ n (0 : Int32) (0 : Int32) o_t u_1 hF _ _ _ (hP.sub [0, 1, 3, 4, 2] rfl) (hD.sub [0, 1, 3, 4, 2] rfl rfl) hS (lv_sub hl [2, 3, 1, 0] rfl)
  · intro x2_x19 o_t_x19 f_t_25_x19 H locs ls hF hP hD hS hl
    refine lv_aload_n hx hb dX10_endsByTales_86 rfl (lv_at hl 0 rfl) ?_
    refine lv_aload_n hx hb dX10_endsByTales_87 rfl (lv_at hl 0 rfl) ?_
    refine va_get (D := g.1) (ci := 10) (v := .ref (p_t 25)) (C := RX10) (T := TX10) (N := 35) hx hb hts iX10_endsByTales_X10 hown hK.1 hP 0 rfl rfl 25 (by decide) (hts _ kX10_endsByTales_35) (fun _ h9 => h9) rfl dX10_endsByTales_88 ?_
    refine lv_iconst (v := (0 : Int32)) hx hb dX10_endsByTales_91 (by decide) ?_
    obtain ⟨u_14, u_15, u_16, hu_17, hF⟩ := ob3_some hF
    refine call_i (wr := [aI g (p_t 17) 17 f_t_17, aI g (p_t 26) 4 f_t_26]) (As := [.ref (p_t 25), .int (0 : Int32)]) (rest := []) (ci := 10) (q0 := 0) C0 (mX10_endsOn l g a_t (p_t 25) p_t n (0 : Int32) o_t_x19 f_t_15 f_t_25_x19 u_14 u_15 u_16 hu_17) (cwV 2 hts gX10_endsByTales_X10_endsOn rfl rfl rfl (by decide +kernel) ⟨Nat.le_of_ble_eq_true rfl, Nat.le_of_ble_eq_true rfl⟩) hP hD hS [0, 1, 3] [2, 4] rfl rfl rfl rfl rfl (by decide) rfl rfl hl.1 rfl rfl (Nat.le_of_ble_eq_true rfl) ⟨Nat.zero_le _, Nat.zero_le _⟩ dX10_endsByTales_92 ?_
    intro H locs hP hD hS
    refine lv_istore_n (lv' := [(3, .int u_14), (0, .ref a_t), (2, .int x2_x19)]) hx hb dX10_endsByTales_95 rfl hl (by decide) rfl (fun ls hl => ?_)
    refine lv_iload_n hx hb dX10_endsByTales_96 rfl (lv_at hl 0 rfl) ?_
    refine lv_if_lt (tgt := 108) hx hb dX10_endsByTales_97 (by decide) (fun c_18 => ?_) (fun c_18 => ?_)
    · have hF := it_p c_18 hF
      refine lv_bipush (v := (-2 : Int32)) hx hb dX10_endsByTales_108 (by decide) ?_
      refine lv_goto (tgt := 116) hx hb dX10_endsByTales_110 (by decide) ?_
      cases hF
      exact ret_i C0 hP hD hS [2, 3, 0, 4, 1] rfl rfl rfl dX10_endsByTales_116 rfl
    · have hF := it_n c_18 hF
      refine lv_iload_n hx hb dX10_endsByTales_100 rfl (lv_at hl 2 rfl) ?_
      refine lv_iload_n hx hb dX10_endsByTales_101 rfl (lv_at hl 0 rfl) ?_
      refine lv_iadd hx hb dX10_endsByTales_102 ?_
      refine lv_bipush (v := (60 : Int32)) hx hb dX10_endsByTales_103 (by decide) ?_
      refine lv_icmp_le (tgt := 113) hx hb dX10_endsByTales_105 (by decide) (fun c_19 => ?_) (fun c_19 => ?_)
      · have hF := it_p c_19 hF
        refine lv_iload_n hx hb dX10_endsByTales_113 rfl (lv_at hl 2 rfl) ?_
        refine lv_iload_n hx hb dX10_endsByTales_114 rfl (lv_at hl 0 rfl) ?_
        refine lv_iadd hx hb dX10_endsByTales_115 ?_
        cases hF
        exact ret_i C0 hP hD hS [2, 3, 0, 4, 1] rfl rfl rfl dX10_endsByTales_116 rfl
      · have hF := it_n c_19 hF
        refine lv_bipush (v := (-2 : Int32)) hx hb dX10_endsByTales_108 (by decide) ?_
        refine lv_goto (tgt := 116) hx hb dX10_endsByTales_110 (by decide) ?_
        cases hF
        exact ret_i C0 hP hD hS [2, 3, 0, 4, 1] rfl rfl rfl dX10_endsByTales_116 rfl

theorem dAX10_tryTales : ∀ q ∈ ([(0, (.iload_n 1, 1)), (1, (.iload_n 2, 1)), (2, (.if_icmp .ne 51, 3)), (5, (.aload_n 0, 1)), (6, (.iload_n 2, 1)), (7, (.invokevirtual 327, 3)), (10, (.istore 4, 2)), (12, (.iload 4, 2)), (14, (.ifCond .lt 12, 3)), (17, (.iload 4, 2)), (19, (.aload_n 0, 1)), (20, (.getfield 330, 3)), (23, (.if_icmp .lt 4, 3)), (26, (.return_, 1)), (27, (.aload_n 0, 1)), (28, (.iload 4, 2)), (30, (.putfield 330, 3)), (33, (.aload_n 0, 1)), (34, (.iload_n 2, 1)), (35, (.putfield 333, 3)), (38, (.aload_n 0, 1)), (39, (.getfield 38, 3)), (42, (.iconst 0, 1)), (43, (.aload_n 0, 1)), (44, (.getfield 41, 3)), (47, (.iconst 0, 1)), (48, (.iload_n 2, 1)), (49, (.invokestatic 168, 3)), (52, (.return_, 1)), (53, (.iconst 0, 1)), (54, (.istore 4, 2)), (56, (.iload 4, 2)), (58, (.aload_n 0, 1)), (59, (.getfield 20, 3)), (62, (.bipush 6, 2)), (64, (.iaload, 1)), (65, (.if_icmp .ge 43, 3)), (68, (.iload_n 3, 1)), (69, (.iload 4, 2)), (71, (.invokestatic 252, 3)), (74, (.ifCond .eq 6, 3)), (77, (.goto 25, 3)), (80, (.aload_n 0, 1)), (81, (.getfield 38, 3)), (84, (.iload_n 1, 1)), (85, (.iload 4, 2)), (87, (.iastore, 1)), (88, (.aload_n 0, 1)), (89, (.iload_n 1, 1)), (90, (.iconst 1, 1)), (91, (.iadd, 1)), (92, (.iload_n 2, 1)), (93, (.iload_n 3, 1)), (94, (.iconst 1, 1)), (95, (.iload 4, 2)), (97, (.ishl, 1)), (98, (.ior, 1)), (99, (.invokevirtual 336, 3)), (102, (.iinc 4 1, 3)), (105, (.goto (-49), 3)), (108, (.return_, 1))] : List (Nat × (Instr × Nat))), decode cX10_tryTales q.1 = .ok q.2 := by decide +kernel
theorem dX10_tryTales_0 : decode cX10_tryTales 0 = .ok (.iload_n 1, 1) := dAX10_tryTales (0, (.iload_n 1, 1)) (List.mem_of_getElem? (i := 0) rfl)
theorem dX10_tryTales_1 : decode cX10_tryTales 1 = .ok (.iload_n 2, 1) := dAX10_tryTales (1, (.iload_n 2, 1)) (List.mem_of_getElem? (i := 1) rfl)
theorem dX10_tryTales_2 : decode cX10_tryTales 2 = .ok (.if_icmp .ne 51, 3) := dAX10_tryTales (2, (.if_icmp .ne 51, 3)) (List.mem_of_getElem? (i := 2) rfl)
theorem dX10_tryTales_5 : decode cX10_tryTales 5 = .ok (.aload_n 0, 1) := dAX10_tryTales (5, (.aload_n 0, 1)) (List.mem_of_getElem? (i := 3) rfl)
theorem dX10_tryTales_6 : decode cX10_tryTales 6 = .ok (.iload_n 2, 1) := dAX10_tryTales (6, (.iload_n 2, 1)) (List.mem_of_getElem? (i := 4) rfl)
theorem dX10_tryTales_7 : decode cX10_tryTales 7 = .ok (.invokevirtual 327, 3) := dAX10_tryTales (7, (.invokevirtual 327, 3)) (List.mem_of_getElem? (i := 5) rfl)
theorem dX10_tryTales_10 : decode cX10_tryTales 10 = .ok (.istore 4, 2) := dAX10_tryTales (10, (.istore 4, 2)) (List.mem_of_getElem? (i := 6) rfl)
theorem dX10_tryTales_12 : decode cX10_tryTales 12 = .ok (.iload 4, 2) := dAX10_tryTales (12, (.iload 4, 2)) (List.mem_of_getElem? (i := 7) rfl)
theorem dX10_tryTales_14 : decode cX10_tryTales 14 = .ok (.ifCond .lt 12, 3) := dAX10_tryTales (14, (.ifCond .lt 12, 3)) (List.mem_of_getElem? (i := 8) rfl)
theorem dX10_tryTales_17 : decode cX10_tryTales 17 = .ok (.iload 4, 2) := dAX10_tryTales (17, (.iload 4, 2)) (List.mem_of_getElem? (i := 9) rfl)
theorem dX10_tryTales_19 : decode cX10_tryTales 19 = .ok (.aload_n 0, 1) := dAX10_tryTales (19, (.aload_n 0, 1)) (List.mem_of_getElem? (i := 10) rfl)
theorem dX10_tryTales_20 : decode cX10_tryTales 20 = .ok (.getfield 330, 3) := dAX10_tryTales (20, (.getfield 330, 3)) (List.mem_of_getElem? (i := 11) rfl)
theorem dX10_tryTales_23 : decode cX10_tryTales 23 = .ok (.if_icmp .lt 4, 3) := dAX10_tryTales (23, (.if_icmp .lt 4, 3)) (List.mem_of_getElem? (i := 12) rfl)
theorem dX10_tryTales_26 : decode cX10_tryTales 26 = .ok (.return_, 1) := dAX10_tryTales (26, (.return_, 1)) (List.mem_of_getElem? (i := 13) rfl)
theorem dX10_tryTales_27 : decode cX10_tryTales 27 = .ok (.aload_n 0, 1) := dAX10_tryTales (27, (.aload_n 0, 1)) (List.mem_of_getElem? (i := 14) rfl)
theorem dX10_tryTales_28 : decode cX10_tryTales 28 = .ok (.iload 4, 2) := dAX10_tryTales (28, (.iload 4, 2)) (List.mem_of_getElem? (i := 15) rfl)
theorem dX10_tryTales_30 : decode cX10_tryTales 30 = .ok (.putfield 330, 3) := dAX10_tryTales (30, (.putfield 330, 3)) (List.mem_of_getElem? (i := 16) rfl)
theorem dX10_tryTales_33 : decode cX10_tryTales 33 = .ok (.aload_n 0, 1) := dAX10_tryTales (33, (.aload_n 0, 1)) (List.mem_of_getElem? (i := 17) rfl)
theorem dX10_tryTales_34 : decode cX10_tryTales 34 = .ok (.iload_n 2, 1) := dAX10_tryTales (34, (.iload_n 2, 1)) (List.mem_of_getElem? (i := 18) rfl)
theorem dX10_tryTales_35 : decode cX10_tryTales 35 = .ok (.putfield 333, 3) := dAX10_tryTales (35, (.putfield 333, 3)) (List.mem_of_getElem? (i := 19) rfl)
theorem dX10_tryTales_38 : decode cX10_tryTales 38 = .ok (.aload_n 0, 1) := dAX10_tryTales (38, (.aload_n 0, 1)) (List.mem_of_getElem? (i := 20) rfl)
theorem dX10_tryTales_39 : decode cX10_tryTales 39 = .ok (.getfield 38, 3) := dAX10_tryTales (39, (.getfield 38, 3)) (List.mem_of_getElem? (i := 21) rfl)
theorem dX10_tryTales_42 : decode cX10_tryTales 42 = .ok (.iconst 0, 1) := dAX10_tryTales (42, (.iconst 0, 1)) (List.mem_of_getElem? (i := 22) rfl)
theorem dX10_tryTales_43 : decode cX10_tryTales 43 = .ok (.aload_n 0, 1) := dAX10_tryTales (43, (.aload_n 0, 1)) (List.mem_of_getElem? (i := 23) rfl)
theorem dX10_tryTales_44 : decode cX10_tryTales 44 = .ok (.getfield 41, 3) := dAX10_tryTales (44, (.getfield 41, 3)) (List.mem_of_getElem? (i := 24) rfl)
theorem dX10_tryTales_47 : decode cX10_tryTales 47 = .ok (.iconst 0, 1) := dAX10_tryTales (47, (.iconst 0, 1)) (List.mem_of_getElem? (i := 25) rfl)
theorem dX10_tryTales_48 : decode cX10_tryTales 48 = .ok (.iload_n 2, 1) := dAX10_tryTales (48, (.iload_n 2, 1)) (List.mem_of_getElem? (i := 26) rfl)
theorem dX10_tryTales_49 : decode cX10_tryTales 49 = .ok (.invokestatic 168, 3) := dAX10_tryTales (49, (.invokestatic 168, 3)) (List.mem_of_getElem? (i := 27) rfl)
theorem dX10_tryTales_52 : decode cX10_tryTales 52 = .ok (.return_, 1) := dAX10_tryTales (52, (.return_, 1)) (List.mem_of_getElem? (i := 28) rfl)
theorem dX10_tryTales_53 : decode cX10_tryTales 53 = .ok (.iconst 0, 1) := dAX10_tryTales (53, (.iconst 0, 1)) (List.mem_of_getElem? (i := 29) rfl)
theorem dX10_tryTales_54 : decode cX10_tryTales 54 = .ok (.istore 4, 2) := dAX10_tryTales (54, (.istore 4, 2)) (List.mem_of_getElem? (i := 30) rfl)
theorem dX10_tryTales_56 : decode cX10_tryTales 56 = .ok (.iload 4, 2) := dAX10_tryTales (56, (.iload 4, 2)) (List.mem_of_getElem? (i := 31) rfl)
theorem dX10_tryTales_58 : decode cX10_tryTales 58 = .ok (.aload_n 0, 1) := dAX10_tryTales (58, (.aload_n 0, 1)) (List.mem_of_getElem? (i := 32) rfl)
theorem dX10_tryTales_59 : decode cX10_tryTales 59 = .ok (.getfield 20, 3) := dAX10_tryTales (59, (.getfield 20, 3)) (List.mem_of_getElem? (i := 33) rfl)
theorem dX10_tryTales_62 : decode cX10_tryTales 62 = .ok (.bipush 6, 2) := dAX10_tryTales (62, (.bipush 6, 2)) (List.mem_of_getElem? (i := 34) rfl)
theorem dX10_tryTales_64 : decode cX10_tryTales 64 = .ok (.iaload, 1) := dAX10_tryTales (64, (.iaload, 1)) (List.mem_of_getElem? (i := 35) rfl)
theorem dX10_tryTales_65 : decode cX10_tryTales 65 = .ok (.if_icmp .ge 43, 3) := dAX10_tryTales (65, (.if_icmp .ge 43, 3)) (List.mem_of_getElem? (i := 36) rfl)
theorem dX10_tryTales_68 : decode cX10_tryTales 68 = .ok (.iload_n 3, 1) := dAX10_tryTales (68, (.iload_n 3, 1)) (List.mem_of_getElem? (i := 37) rfl)
theorem dX10_tryTales_69 : decode cX10_tryTales 69 = .ok (.iload 4, 2) := dAX10_tryTales (69, (.iload 4, 2)) (List.mem_of_getElem? (i := 38) rfl)
theorem dX10_tryTales_71 : decode cX10_tryTales 71 = .ok (.invokestatic 252, 3) := dAX10_tryTales (71, (.invokestatic 252, 3)) (List.mem_of_getElem? (i := 39) rfl)
theorem dX10_tryTales_74 : decode cX10_tryTales 74 = .ok (.ifCond .eq 6, 3) := dAX10_tryTales (74, (.ifCond .eq 6, 3)) (List.mem_of_getElem? (i := 40) rfl)
theorem dX10_tryTales_77 : decode cX10_tryTales 77 = .ok (.goto 25, 3) := dAX10_tryTales (77, (.goto 25, 3)) (List.mem_of_getElem? (i := 41) rfl)
theorem dX10_tryTales_80 : decode cX10_tryTales 80 = .ok (.aload_n 0, 1) := dAX10_tryTales (80, (.aload_n 0, 1)) (List.mem_of_getElem? (i := 42) rfl)
theorem dX10_tryTales_81 : decode cX10_tryTales 81 = .ok (.getfield 38, 3) := dAX10_tryTales (81, (.getfield 38, 3)) (List.mem_of_getElem? (i := 43) rfl)
theorem dX10_tryTales_84 : decode cX10_tryTales 84 = .ok (.iload_n 1, 1) := dAX10_tryTales (84, (.iload_n 1, 1)) (List.mem_of_getElem? (i := 44) rfl)
theorem dX10_tryTales_85 : decode cX10_tryTales 85 = .ok (.iload 4, 2) := dAX10_tryTales (85, (.iload 4, 2)) (List.mem_of_getElem? (i := 45) rfl)
theorem dX10_tryTales_87 : decode cX10_tryTales 87 = .ok (.iastore, 1) := dAX10_tryTales (87, (.iastore, 1)) (List.mem_of_getElem? (i := 46) rfl)
theorem dX10_tryTales_88 : decode cX10_tryTales 88 = .ok (.aload_n 0, 1) := dAX10_tryTales (88, (.aload_n 0, 1)) (List.mem_of_getElem? (i := 47) rfl)
theorem dX10_tryTales_89 : decode cX10_tryTales 89 = .ok (.iload_n 1, 1) := dAX10_tryTales (89, (.iload_n 1, 1)) (List.mem_of_getElem? (i := 48) rfl)
theorem dX10_tryTales_90 : decode cX10_tryTales 90 = .ok (.iconst 1, 1) := dAX10_tryTales (90, (.iconst 1, 1)) (List.mem_of_getElem? (i := 49) rfl)
theorem dX10_tryTales_91 : decode cX10_tryTales 91 = .ok (.iadd, 1) := dAX10_tryTales (91, (.iadd, 1)) (List.mem_of_getElem? (i := 50) rfl)
theorem dX10_tryTales_92 : decode cX10_tryTales 92 = .ok (.iload_n 2, 1) := dAX10_tryTales (92, (.iload_n 2, 1)) (List.mem_of_getElem? (i := 51) rfl)
theorem dX10_tryTales_93 : decode cX10_tryTales 93 = .ok (.iload_n 3, 1) := dAX10_tryTales (93, (.iload_n 3, 1)) (List.mem_of_getElem? (i := 52) rfl)
theorem dX10_tryTales_94 : decode cX10_tryTales 94 = .ok (.iconst 1, 1) := dAX10_tryTales (94, (.iconst 1, 1)) (List.mem_of_getElem? (i := 53) rfl)
theorem dX10_tryTales_95 : decode cX10_tryTales 95 = .ok (.iload 4, 2) := dAX10_tryTales (95, (.iload 4, 2)) (List.mem_of_getElem? (i := 54) rfl)
theorem dX10_tryTales_97 : decode cX10_tryTales 97 = .ok (.ishl, 1) := dAX10_tryTales (97, (.ishl, 1)) (List.mem_of_getElem? (i := 55) rfl)
theorem dX10_tryTales_98 : decode cX10_tryTales 98 = .ok (.ior, 1) := dAX10_tryTales (98, (.ior, 1)) (List.mem_of_getElem? (i := 56) rfl)
theorem dX10_tryTales_99 : decode cX10_tryTales 99 = .ok (.invokevirtual 336, 3) := dAX10_tryTales (99, (.invokevirtual 336, 3)) (List.mem_of_getElem? (i := 57) rfl)
theorem dX10_tryTales_102 : decode cX10_tryTales 102 = .ok (.iinc 4 1, 3) := dAX10_tryTales (102, (.iinc 4 1, 3)) (List.mem_of_getElem? (i := 58) rfl)
theorem dX10_tryTales_105 : decode cX10_tryTales 105 = .ok (.goto (-49), 3) := dAX10_tryTales (105, (.goto (-49), 3)) (List.mem_of_getElem? (i := 59) rfl)
theorem dX10_tryTales_108 : decode cX10_tryTales 108 = .ok (.return_, 1) := dAX10_tryTales (108, (.return_, 1)) (List.mem_of_getElem? (i := 60) rfl)
set_option maxRecDepth 20000 in
theorem ggX10_tryTales_X10_endsByTales : GoodIn wsX10_tryTales wsX10_endsByTales := goodIn_r _ [10, 11, 12, 3, 5, 13, 14, 9, 15, 16, 17, 18, 19, 20, 21, 22, 23, 24, 25, 26, 27, 28, 29, 30, 31, 32, 33, 34, 35, 36, 37, 38, 39, 40, 41, 42, 43, 44, 45, 46, 47, 48, 49, 50, 51, 52, 53, 54, 55, 56, 57, 58, 59, 60, 61, 62, 63, 64, 65, 66, 67, 68, 69, 73, 74, 75, 76, 77, 78, 79, 80, 81, 82, 83, 84, 85, 86, 87, 88, 89, 90, 91, 92, 93, 94, 95, 96, 97, 98, 99, 100, 101, 102, 103, 104, 105, 106, 107] rfl (by decide +kernel)
set_option maxRecDepth 20000 in
theorem gX10_tryTales_X10_endsByTales : GoodIn wsX10_tryTales (wsV RX10 327 RX10 yX10_endsByTales wsX10_endsByTales) := goodIn_app (goodIn_of _ (by decide +kernel)) ggX10_tryTales_X10_endsByTales
set_option maxRecDepth 20000 in
theorem ggX10_tryTales_X10_copy : GoodIn wsX10_tryTales wsX10_copy := goodIn_r _ [15] rfl (by decide +kernel)
set_option maxRecDepth 20000 in
theorem gX10_tryTales_X10_copy : GoodIn wsX10_tryTales (va_wsS RX10 168 yX10_copy wsX10_copy) := goodIn_app (goodIn_of _ (by decide +kernel)) ggX10_tryTales_X10_copy
set_option maxRecDepth 20000 in
theorem ggX10_tryTales_X10_hasBit : GoodIn wsX10_tryTales wsX10_hasBit := goodIn_r _ [58] rfl (by decide +kernel)
set_option maxRecDepth 20000 in
theorem gX10_tryTales_X10_hasBit : GoodIn wsX10_tryTales (va_wsS RX10 252 yX10_hasBit wsX10_hasBit) := goodIn_app (goodIn_of _ (by decide +kernel)) ggX10_tryTales_X10_hasBit
set_option maxRecDepth 20000 in
theorem ggX10_tryTales_X10_tryTales : GoodIn wsX10_tryTales wsX10_tryTales := goodIn_r _ [0, 1, 2, 3, 4, 5, 6, 7, 8, 9, 10, 11, 12, 13, 14, 15, 16, 17, 18, 19, 20, 21, 22, 23, 24, 25, 26, 27, 28, 29, 30, 31, 32, 33, 34, 35, 36, 37, 38, 39, 40, 41, 42, 43, 44, 45, 46, 47, 48, 49, 50, 51, 52, 53, 54, 55, 56, 57, 58, 59, 60, 61, 62, 63, 64, 65, 66, 67, 68, 69, 70, 71, 72, 73, 74, 75, 76, 77, 78, 79, 80, 81, 82, 83, 84, 85, 86, 87, 88, 89, 90, 91, 92, 93, 94, 95, 96, 97, 98, 99, 100, 101, 102, 103, 104, 105, 106, 107] rfl (by decide +kernel)
set_option maxRecDepth 20000 in
theorem gX10_tryTales_X10_tryTales : GoodIn wsX10_tryTales (wsV RX10 336 RX10 yX10_tryTales wsX10_tryTales) := goodIn_app (goodIn_of _ (by decide +kernel)) ggX10_tryTales_X10_tryTales
theorem kX10_tryTales_20 : Cond.fieldLink RX10 20 "EveningVowModel" "\x72" "[I" ∈ wsX10_tryTales := List.mem_of_getElem? (i := 5) rfl
theorem iX10_tryTales_X10 : ∀ w ∈ u_ws RX10 TX10 35, w ∈ wsX10_tryTales := fun w h => (List.mem_cons_of_mem _ (List.mem_append_right _ h))
theorem kX10_tryTales_38 : Cond.fieldLink RX10 38 "EveningVowModel" "tales" "[I" ∈ wsX10_tryTales := List.mem_of_getElem? (i := 3) rfl
theorem kX10_tryTales_330 : Cond.fieldLink RX10 330 "EveningVowModel" "soonestOf" "I" ∈ wsX10_tryTales := List.mem_of_getElem? (i := 1) rfl
theorem kX10_tryTales_333 : Cond.fieldLink RX10 333 "EveningVowModel" "taleMany" "I" ∈ wsX10_tryTales := List.mem_of_getElem? (i := 2) rfl
theorem kX10_tryTales_41 : Cond.fieldLink RX10 41 "EveningVowModel" "bestTales" "[I" ∈ wsX10_tryTales := List.mem_of_getElem? (i := 4) rfl
set_option maxHeartbeats 4000000 in
set_option maxRecDepth 100000 in
theorem wX10_tryTales_L56 {p : Program} {l : Launch} {e : Env} {s : State} {m : MethodId} {args : Array Value} {below : List Frame} {meth : Method} {c : Code} {g : GG} {A : Nat → Prop} (C0 : Cx p s m args meth c cX10_tryTales 5 none RX10 wsX10_tryTales g A) (a_t : Nat) (p_t : Nat → Nat) (n : Nat) (rec : Int32 → Int32 → Int32 → (Nat → Int32) → (Nat → Int32) → (Nat → Int32) → (Nat → Int32) → (Nat → Int32) → (Nat → Int32) → Option ((Nat → Int32) × (Nat → Int32) × (Nat → Int32) × (Nat → Int32))) (x1 : Int32) (x2 : Int32) (x3 : Int32) (f_t_15 : Nat → Int32) (f_t_17 : Nat → Int32)  (o_t' : Nat → Int32) (f_t_25' : Nat → Int32) (f_t_26' : Nat → Int32) (f_t_27' : Nat → Int32) (K : (Nat → Int32) → (Nat → Int32) → (Nat → Int32) → (Nat → Int32) → Option ((Nat → Int32) × (Nat → Int32) × (Nat → Int32) × (Nat → Int32))) (d : Nat) (hrec : ∀ (x1 : Int32) (x2 : Int32) (x3 : Int32) (o_t : Nat → Int32) (f_t_15 : Nat → Int32) (f_t_17 : Nat → Int32) (f_t_25 : Nat → Int32) (f_t_26 : Nat → Int32) (f_t_27 : Nat → Int32) (o_t' : Nat → Int32) (f_t_25' : Nat → Int32) (f_t_26' : Nat → Int32) (f_t_27' : Nat → Int32), rec x1 x2 x3 o_t f_t_15 f_t_17 f_t_25 f_t_26 f_t_27 = some (o_t', f_t_25', f_t_26', f_t_27') → MV l g yX10_tryTales wsX10_tryTales (rmX10_tryTales d) [.ref a_t, .int x1, .int x2, .int x3] [oX10 a_t p_t o_t, aI g (p_t 15) 266 f_t_15, aI g (p_t 17) 17 f_t_17, aI g (p_t 25) 17 f_t_25, aI g (p_t 26) 4 f_t_26, aI g (p_t 27) 4 f_t_27] [oX10 a_t p_t o_t', aI g (p_t 15) 266 f_t_15, aI g (p_t 17) 17 f_t_17, aI g (p_t 25) 17 f_t_25', aI g (p_t 26) 4 f_t_26', aI g (p_t 27) 4 f_t_27']) (hKx : ∀ (o_t : Nat → Int32) (f_t_25 : Nat → Int32) (f_t_26 : Nat → Int32) (f_t_27 : Nat → Int32) (H : Heap) (locs : List Loc) (ls : Array Slot), K o_t f_t_25 f_t_26 f_t_27 = some (o_t', f_t_25', f_t_26', f_t_27') → va_P g.1 vwCl [oX10 a_t p_t o_t, aI g (p_t 15) 266 f_t_15, aI g (p_t 17) 17 f_t_17, aI g (p_t 25) 17 f_t_25, aI g (p_t 26) 4 f_t_26, aI g (p_t 27) 4 f_t_27] H → va_D A [oX10 a_t p_t o_t, aI g (p_t 15) 266 f_t_15, aI g (p_t 17) 17 f_t_17, aI g (p_t 25) 17 f_t_25, aI g (p_t 26) 4 f_t_26, aI g (p_t 27) 4 f_t_27] → va_S A s.heap H locs → lv_has ls 5 [] → W p l e (rmX10_tryTales (d + 1)) s m args below meth c H locs 0 0 (MQ below (EndV g [oX10 a_t p_t o_t', aI g (p_t 15) 266 f_t_15, aI g (p_t 17) 17 f_t_17, aI g (p_t 25) 17 f_t_25', aI g (p_t 26) 4 f_t_26', aI g (p_t 27) 4 f_t_27'] A) args s 0 0 A) (F0 m 108 ls [])) : ∀ (k : Nat) (x4 : Int32) (o_t : Nat → Int32) (f_t_25 : Nat → Int32) (f_t_26 : Nat → Int32) (f_t_27 : Nat → Int32), fX10_tryTales_L56 n rec x1 x2 x3 f_t_15 f_t_17 K k x4 o_t f_t_25 f_t_26 f_t_27 = some (o_t', f_t_25', f_t_26', f_t_27') → ∀ (H : Heap) (locs : List Loc) (ls : Array Slot), va_P g.1 vwCl [oX10 a_t p_t o_t, aI g (p_t 15) 266 f_t_15, aI g (p_t 17) 17 f_t_17, aI g (p_t 25) 17 f_t_25, aI g (p_t 26) 4 f_t_26, aI g (p_t 27) 4 f_t_27] H → va_D A [oX10 a_t p_t o_t, aI g (p_t 15) 266 f_t_15, aI g (p_t 17) 17 f_t_17, aI g (p_t 25) 17 f_t_25, aI g (p_t 26) 4 f_t_26, aI g (p_t 27) 4 f_t_27] → va_S A s.heap H locs → lv_has ls 5 [(0, .ref a_t), (1, .int x1), (2, .int x2), (3, .int x3), (4, .int x4)] → W p l e (rmX10_tryTales (d + 1)) s m args below meth c H locs 0 0 (MQ below (EndV g [oX10 a_t p_t o_t', aI g (p_t 15) 266 f_t_15, aI g (p_t 17) 17 f_t_17, aI g (p_t 25) 17 f_t_25', aI g (p_t 26) 4 f_t_26', aI g (p_t 27) 4 f_t_27'] A) args s 0 0 A) (F0 m 56 ls []) := by
  obtain ⟨hx, hb, hml, hown, hts, hr, hlk, hK, hA, hSW⟩ := id C0
  intro k
  induction k with
  | zero =>
    intro x4 o_t f_t_25 f_t_26 f_t_27 hF
    exact absurd hF (by simp [fX10_tryTales_L56])
  | succ k ih =>
    intro x4 o_t f_t_25 f_t_26 f_t_27 hF H locs ls hP hD hS hl
    rw [fX10_tryTales_L56] at hF
    refine lv_iload hx hb dX10_tryTales_56 (lv_at hl 4 rfl) ?_
    refine lv_aload_n hx hb dX10_tryTales_58 rfl (lv_at hl 0 rfl) ?_
    refine va_get (D := g.1) (ci := 10) (v := .ref (p_t 15)) (C := RX10) (T := TX10) (N := 35) hx hb hts iX10_tryTales_X10 hown hK.1 hP 0 rfl rfl 15 (by decide) (hts _ kX10_tryTales_20) (fun _ h9 => h9) rfl dX10_tryTales_59 ?_
    refine lv_bipush (v := (6 : Int32)) hx hb dX10_tryTales_62 (by decide) ?_
    refine va_iald_k (j := 6) hx hb hK.1 hP 1 0 rfl rfl (by unfold vp_in; decide) rfl dX10_tryTales_64 ?_
    refine lv_icmp_ge (tgt := 108) hx hb dX10_tryTales_65 (by decide) (fun c_2 => ?_) (fun c_2 => ?_)
    · have hF := it_p c_2 hF
      exact hKx o_t f_t_25 f_t_26 f_t_27 _ _ _ hF (hP.sub [0, 1, 2, 3, 4, 5] rfl) (hD.sub [0, 1, 2, 3, 4, 5] rfl rfl) hS (lv_sub hl [] rfl)
    · have hF := it_n c_2 hF
      refine lv_iload_n hx hb dX10_tryTales_68 rfl (lv_at hl 3 rfl) ?_
      refine lv_iload hx hb dX10_tryTales_69 (lv_at hl 4 rfl) ?_
      obtain ⟨u_3, hu_4, hF⟩ := ob1_some hF
      refine call_si (wr := [oX10 a_t p_t o_t, aI g (p_t 15) 266 f_t_15, aI g (p_t 17) 17 f_t_17, aI g (p_t 25) 17 f_t_25, aI g (p_t 26) 4 f_t_26, aI g (p_t 27) 4 f_t_27]) (As := [.int x3, .int x4]) (rest := []) C0 (mX10_hasBit l g n x3 x4 u_3 hu_4) (va_cwS 2 hts gX10_tryTales_X10_hasBit rfl rfl rfl (by decide +kernel) ⟨Nat.le_of_ble_eq_true rfl, Nat.le_of_ble_eq_true rfl⟩) hP hD hS [] [0, 1, 2, 3, 4, 5] rfl rfl rfl rfl rfl (by decide) hl.1 rfl rfl (Nat.le_of_ble_eq_true rfl) ⟨Nat.zero_le _, Nat.zero_le _⟩ dX10_tryTales_71 ?_
      intro H locs hP hD hS
      refine lv_if_eq (tgt := 80) hx hb dX10_tryTales_74 (by decide) (fun c_5 => ?_) (fun c_5 => ?_)
      · have hF := it_p c_5 hF
        refine lv_aload_n hx hb dX10_tryTales_80 rfl (lv_at hl 0 rfl) ?_
        refine va_get (D := g.1) (ci := 10) (v := .ref (p_t 26)) (C := RX10) (T := TX10) (N := 35) hx hb hts iX10_tryTales_X10 hown hK.1 hP 0 rfl rfl 26 (by decide) (hts _ kX10_tryTales_38) (fun _ h9 => h9) rfl dX10_tryTales_81 ?_
        refine lv_iload_n hx hb dX10_tryTales_84 rfl (lv_at hl 1 rfl) ?_
        refine lv_iload hx hb dX10_tryTales_85 (lv_at hl 4 rfl) ?_
        obtain ⟨h_6, hF⟩ := it_ck hF
        refine va_iast hx hb hK.1 hP hD hS 4 0 rfl rfl h_6 dX10_tryTales_87 (fun H locs hP hD hS => ?_)
        have hP : va_P g.1 vwCl [oX10 a_t p_t o_t, aI g (p_t 15) 266 f_t_15, aI g (p_t 17) 17 f_t_17, aI g (p_t 25) 17 f_t_25, aI g (p_t 26) 4 (upd f_t_26 (x1).toNatClampNeg x4), aI g (p_t 27) 4 f_t_27] H := hP
        have hD : va_D A [oX10 a_t p_t o_t, aI g (p_t 15) 266 f_t_15, aI g (p_t 17) 17 f_t_17, aI g (p_t 25) 17 f_t_25, aI g (p_t 26) 4 (upd f_t_26 (x1).toNatClampNeg x4), aI g (p_t 27) 4 f_t_27] := hD
        refine lv_aload_n hx hb dX10_tryTales_88 rfl (lv_at hl 0 rfl) ?_
        refine lv_iload_n hx hb dX10_tryTales_89 rfl (lv_at hl 1 rfl) ?_
        refine lv_iconst (v := (1 : Int32)) hx hb dX10_tryTales_90 (by decide) ?_
        refine lv_iadd hx hb dX10_tryTales_91 ?_
        refine lv_iload_n hx hb dX10_tryTales_92 rfl (lv_at hl 2 rfl) ?_
        refine lv_iload_n hx hb dX10_tryTales_93 rfl (lv_at hl 3 rfl) ?_
        refine lv_iconst (v := (1 : Int32)) hx hb dX10_tryTales_94 (by decide) ?_
        refine lv_iload hx hb dX10_tryTales_95 (lv_at hl 4 rfl) ?_
        refine lv_ishl hx hb dX10_tryTales_97 ?_
        refine lv_ior hx hb dX10_tryTales_98 ?_
        obtain ⟨u_7, u_8, u_9, u_10, hu_11, hF⟩ := ob4_some hF
        refine call_v (wr := []) (As := [.int (x1 + (1 : Int32)), .int x2, .int (x3 ||| ((1 : Int32) <<< (x4 &&& 31)))]) (rest := []) (ci := 10) (q0 := 0) C0 (hrec (x1 + (1 : Int32)) x2 (x3 ||| ((1 : Int32) <<< (x4 &&& 31))) o_t f_t_15 f_t_17 f_t_25 (upd f_t_26 (x1).toNatClampNeg x4) f_t_27 u_7 u_8 u_9 u_10 hu_11) (cwV 3 hts gX10_tryTales_X10_tryTales rfl rfl rfl (by decide +kernel) ⟨by first | exact Nat.le_of_ble_eq_true rfl | (simp only [rmX10_tryTales]; omega), by first | exact Nat.le_of_ble_eq_true rfl | (simp only [rmX10_tryTales]; omega)⟩) hP hD hS [0, 1, 2, 3, 4, 5] [] rfl rfl rfl rfl rfl (by decide) rfl rfl hl.1 rfl rfl (Nat.le_of_ble_eq_true rfl) ⟨Nat.zero_le _, Nat.zero_le _⟩ dX10_tryTales_99 ?_
        intro H locs hP hD hS
        refine lv_iinc (v := (x4 + (1 : Int32))) (lv' := [(4, .int (x4 + (1 : Int32))), (0, .ref a_t), (1, .int x1), (2, .int x2), (3, .int x3)]) hx hb dX10_tryTales_102 hl (k := 4) rfl rfl (by decide) rfl (fun ls hl => ?_)
        refine lv_goto (tgt := 56) hx hb dX10_tryTales_105 (by decide) ?_
        exact ih (x4 + (1 : Int32)) u_7 u_8 u_9 u_10 hF _ _ _ (hP.sub [0, 1, 2, 3, 4, 5] rfl) (hD.sub [0, 1, 2, 3, 4, 5] rfl rfl) hS (lv_sub hl [1, 2, 3, 4, 0] rfl)
      · have hF := it_n c_5 hF
        refine lv_goto (tgt := 102) hx hb dX10_tryTales_77 (by decide) ?_
        refine lv_iinc (v := (x4 + (1 : Int32))) (lv' := [(4, .int (x4 + (1 : Int32))), (0, .ref a_t), (1, .int x1), (2, .int x2), (3, .int x3)]) hx hb dX10_tryTales_102 hl (k := 4) rfl rfl (by decide) rfl (fun ls hl => ?_)
        refine lv_goto (tgt := 56) hx hb dX10_tryTales_105 (by decide) ?_
        exact ih (x4 + (1 : Int32)) o_t f_t_25 f_t_26 f_t_27 hF _ _ _ (hP.sub [0, 1, 2, 3, 4, 5] rfl) (hD.sub [0, 1, 2, 3, 4, 5] rfl rfl) hS (lv_sub hl [1, 2, 3, 4, 0] rfl)
set_option maxHeartbeats 4000000 in
set_option maxRecDepth 100000 in
theorem mX10_tryTales (l : Launch) (g : GG) (a_t : Nat) (p_t : Nat → Nat) (n : Nat) : ∀ (d : Nat) (x1 : Int32) (x2 : Int32) (x3 : Int32) (o_t : Nat → Int32) (f_t_15 : Nat → Int32) (f_t_17 : Nat → Int32) (f_t_25 : Nat → Int32) (f_t_26 : Nat → Int32) (f_t_27 : Nat → Int32) (o_t' : Nat → Int32) (f_t_25' : Nat → Int32) (f_t_26' : Nat → Int32) (f_t_27' : Nat → Int32), fX10_tryTales n d x1 x2 x3 o_t f_t_15 f_t_17 f_t_25 f_t_26 f_t_27 = some (o_t', f_t_25', f_t_26', f_t_27') → MV l g yX10_tryTales wsX10_tryTales (rmX10_tryTales d) [.ref a_t, .int x1, .int x2, .int x3] [oX10 a_t p_t o_t, aI g (p_t 15) 266 f_t_15, aI g (p_t 17) 17 f_t_17, aI g (p_t 25) 17 f_t_25, aI g (p_t 26) 4 f_t_26, aI g (p_t 27) 4 f_t_27] [oX10 a_t p_t o_t', aI g (p_t 15) 266 f_t_15, aI g (p_t 17) 17 f_t_17, aI g (p_t 25) 17 f_t_25', aI g (p_t 26) 4 f_t_26', aI g (p_t 27) 4 f_t_27'] := by
  intro d
  induction d with
  | zero =>
    intro x1 x2 x3 o_t f_t_15 f_t_17 f_t_25 f_t_26 f_t_27 o_t' f_t_25' f_t_26' f_t_27' hF
    exact absurd hF (by simp [fX10_tryTales])
  | succ d hrec =>
  intro x1 x2 x3 o_t f_t_15 f_t_17 f_t_25 f_t_26 f_t_27 o_t' f_t_25' f_t_26' f_t_27' hF
  refine MV.of (cc := cX10_tryTales) (maxL := 5) (own := RX10) rfl rfl (by decide) (Nat.le_of_ble_eq_true rfl) ?_
  intro p e s m args below meth c A C0 hP hD hS ls hl
  obtain ⟨hx, hb, hml, hown, hts, hr, hlk, hK, hA, hSW⟩ := id C0
  have hl : lv_has ls 5 [(0, .ref a_t), (1, .int x1), (2, .int x2), (3, .int x3)] := hl
  rw [fX10_tryTales] at hF
  refine lv_iload_n hx hb dX10_tryTales_0 rfl (lv_at hl 1 rfl) ?_
  refine lv_iload_n hx hb dX10_tryTales_1 rfl (lv_at hl 2 rfl) ?_
  refine lv_icmp_ne (tgt := 53) hx hb dX10_tryTales_2 (by decide) (fun c_1 => ?_) (fun c_1 => ?_)
  · have hF := it_n c_1 hF
    refine lv_iconst (v := (0 : Int32)) hx hb dX10_tryTales_53 (by decide) ?_
    refine lv_istore (lv' := [(4, .int (0 : Int32)), (0, .ref a_t), (1, .int x1), (2, .int x2), (3, .int x3)]) hx hb dX10_tryTales_54 hl (by decide) rfl (fun ls hl => ?_)
    refine wX10_tryTales_L56 C0 a_t p_t n (fX10_tryTales n d) x1 x2 x3 f_t_15 f_t_17 o_t' f_t_25' f_t_26' f_t_27' _ d hrec ?_ n (0 : Int32) o_t f_t_25 f_t_26 f_t_27 hF _ _ _ (hP.sub [0, 1, 2, 3, 4, 5] rfl) (hD.sub [0, 1, 2, 3, 4, 5] rfl rfl) hS (lv_sub hl [1, 2, 3, 4, 0] rfl)
    · intro o_t_x56 f_t_25_x56 f_t_26_x56 f_t_27_x56 H locs ls hF hP hD hS hl
      cases hF
      exact ret_v C0 hP hD hS [0, 1, 2, 3, 4, 5] rfl rfl rfl dX10_tryTales_108
  · have hF := it_p c_1 hF
    refine lv_aload_n hx hb dX10_tryTales_5 rfl (lv_at hl 0 rfl) ?_
    refine lv_iload_n hx hb dX10_tryTales_6 rfl (lv_at hl 2 rfl) ?_
    obtain ⟨u_12, u_13, u_14, hu_15, hF⟩ := ob3_some hF
    refine call_i (wr := [aI g (p_t 27) 4 f_t_27]) (As := [.int x2]) (rest := []) (ci := 10) (q0 := 0) C0 (mX10_endsByTales l g a_t p_t n x2 o_t f_t_15 f_t_17 f_t_25 f_t_26 u_12 u_13 u_14 hu_15) (cwV 1 hts gX10_tryTales_X10_endsByTales rfl rfl rfl (by decide +kernel) ⟨by first | exact Nat.le_of_ble_eq_true rfl | (simp only [rmX10_tryTales]; omega), by first | exact Nat.le_of_ble_eq_true rfl | (simp only [rmX10_tryTales]; omega)⟩) hP hD hS [0, 1, 2, 3, 4] [5] rfl rfl rfl rfl rfl (by decide) rfl rfl hl.1 rfl rfl (Nat.le_of_ble_eq_true rfl) ⟨Nat.zero_le _, Nat.zero_le _⟩ dX10_tryTales_7 ?_
    intro H locs hP hD hS
    refine lv_istore (lv' := [(4, .int u_12), (0, .ref a_t), (1, .int x1), (2, .int x2), (3, .int x3)]) hx hb dX10_tryTales_10 hl (by decide) rfl (fun ls hl => ?_)
    refine lv_iload hx hb dX10_tryTales_12 (lv_at hl 0 rfl) ?_
    refine lv_if_lt (tgt := 26) hx hb dX10_tryTales_14 (by decide) (fun c_16 => ?_) (fun c_16 => ?_)
    · have hF := it_p c_16 hF
      cases hF
      exact ret_v C0 hP hD hS [1, 2, 3, 4, 5, 0] rfl rfl rfl dX10_tryTales_26
    · have hF := it_n c_16 hF
      refine lv_iload hx hb dX10_tryTales_17 (lv_at hl 0 rfl) ?_
      refine lv_aload_n hx hb dX10_tryTales_19 rfl (lv_at hl 1 rfl) ?_
      refine va_get (D := g.1) (ci := 10) (v := .int (u_13 29)) (C := RX10) (T := TX10) (N := 35) hx hb hts iX10_tryTales_X10 hown hK.1 hP 1 rfl rfl 29 (by decide) (hts _ kX10_tryTales_330) (fun _ h9 => h9) rfl dX10_tryTales_20 ?_
      refine lv_icmp_lt (tgt := 27) hx hb dX10_tryTales_23 (by decide) (fun c_17 => ?_) (fun c_17 => ?_)
      · have hF := it_p c_17 hF
        refine lv_aload_n hx hb dX10_tryTales_27 rfl (lv_at hl 1 rfl) ?_
        refine lv_iload hx hb dX10_tryTales_28 (lv_at hl 0 rfl) ?_
        refine va_put (D := g.1) (ci := 10) (v := .int u_12) (ty := .int) (C := RX10) (T := TX10) (N := 35) hx hb hts iX10_tryTales_X10 tyX10 tyX10_ok nmX10 hown hK.1 hP hD hS 1 rfl rfl 29 (by decide) (hts _ kX10_tryTales_330) (fun _ h9 => h9) rfl (by decide +kernel) rfl rfl (Nat.le_of_ble_eq_true rfl) dX10_tryTales_30 (fun H locs hP hD hS => ?_)
        have hP : va_P g.1 vwCl [aI g (p_t 27) 4 f_t_27, oX10 a_t p_t (upd u_13 29 u_12), aI g (p_t 15) 266 f_t_15, aI g (p_t 17) 17 f_t_17, aI g (p_t 25) 17 u_14, aI g (p_t 26) 4 f_t_26] H := hP
        have hD : va_D A [aI g (p_t 27) 4 f_t_27, oX10 a_t p_t (upd u_13 29 u_12), aI g (p_t 15) 266 f_t_15, aI g (p_t 17) 17 f_t_17, aI g (p_t 25) 17 u_14, aI g (p_t 26) 4 f_t_26] := hD
        refine lv_aload_n hx hb dX10_tryTales_33 rfl (lv_at hl 1 rfl) ?_
        refine lv_iload_n hx hb dX10_tryTales_34 rfl (lv_at hl 3 rfl) ?_
        refine va_put (D := g.1) (ci := 10) (v := .int x2) (ty := .int) (C := RX10) (T := TX10) (N := 35) hx hb hts iX10_tryTales_X10 tyX10 tyX10_ok nmX10 hown hK.1 hP hD hS 1 rfl rfl 28 (by decide) (hts _ kX10_tryTales_333) (fun _ h9 => h9) rfl (by decide +kernel) rfl rfl (Nat.le_of_ble_eq_true rfl) dX10_tryTales_35 (fun H locs hP hD hS => ?_)
        have hP : va_P g.1 vwCl [aI g (p_t 27) 4 f_t_27, oX10 a_t p_t (upd (upd u_13 29 u_12) 28 x2), aI g (p_t 15) 266 f_t_15, aI g (p_t 17) 17 f_t_17, aI g (p_t 25) 17 u_14, aI g (p_t 26) 4 f_t_26] H := hP
        have hD : va_D A [aI g (p_t 27) 4 f_t_27, oX10 a_t p_t (upd (upd u_13 29 u_12) 28 x2), aI g (p_t 15) 266 f_t_15, aI g (p_t 17) 17 f_t_17, aI g (p_t 25) 17 u_14, aI g (p_t 26) 4 f_t_26] := hD
        refine lv_aload_n hx hb dX10_tryTales_38 rfl (lv_at hl 1 rfl) ?_
        refine va_get (D := g.1) (ci := 10) (v := .ref (p_t 26)) (C := RX10) (T := TX10) (N := 35) hx hb hts iX10_tryTales_X10 hown hK.1 hP 1 rfl rfl 26 (by decide) (hts _ kX10_tryTales_38) (fun _ h9 => h9) rfl dX10_tryTales_39 ?_
        refine lv_iconst (v := (0 : Int32)) hx hb dX10_tryTales_42 (by decide) ?_
        refine lv_aload_n hx hb dX10_tryTales_43 rfl (lv_at hl 1 rfl) ?_
        refine va_get (D := g.1) (ci := 10) (v := .ref (p_t 27)) (C := RX10) (T := TX10) (N := 35) hx hb hts iX10_tryTales_X10 hown hK.1 hP 1 rfl rfl 27 (by decide) (hts _ kX10_tryTales_41) (fun _ h9 => h9) rfl dX10_tryTales_44 ?_
        refine lv_iconst (v := (0 : Int32)) hx hb dX10_tryTales_47 (by decide) ?_
        refine lv_iload_n hx hb dX10_tryTales_48 rfl (lv_at hl 3 rfl) ?_
        obtain ⟨u_18, hu_19, hF⟩ := ob1_some hF
        refine call_sv (wr := [oX10 a_t p_t (upd (upd u_13 29 u_12) 28 x2), aI g (p_t 15) 266 f_t_15, aI g (p_t 17) 17 f_t_17, aI g (p_t 25) 17 u_14]) (As := [.ref (p_t 26), .int (0 : Int32), .ref (p_t 27), .int (0 : Int32), .int x2]) (rest := []) C0 (mX10_copy l g (p_t 26) (p_t 27) n (0 : Int32) (0 : Int32) x2 4 4 f_t_26 f_t_27 u_18 hu_19) (va_cwS 5 hts gX10_tryTales_X10_copy rfl rfl rfl (by decide +kernel) ⟨Nat.le_of_ble_eq_true rfl, Nat.le_of_ble_eq_true rfl⟩) hP hD hS [5, 0] [1, 2, 3, 4] rfl rfl rfl rfl rfl (by decide) hl.1 rfl rfl (Nat.le_of_ble_eq_true rfl) ⟨Nat.zero_le _, Nat.zero_le _⟩ dX10_tryTales_49 ?_
        intro H locs hP hD hS
        cases hF
        exact ret_v C0 hP hD hS [0, 1, 2, 3, 4, 5] rfl rfl rfl dX10_tryTales_52
      · have hF := it_n c_17 hF
        cases hF
        exact ret_v C0 hP hD hS [1, 2, 3, 4, 5, 0] rfl rfl rfl dX10_tryTales_26

theorem dAX10_endsWithTale : ∀ q ∈ ([(0, (.aload_n 0, 1)), (1, (.invokevirtual 159, 3)), (4, (.aload_n 0, 1)), (5, (.getfield 176, 3)), (8, (.ifCond .eq 20, 3)), (11, (.iload_n 1, 1)), (12, (.iconst 0, 1)), (13, (.aload_n 0, 1)), (14, (.getfield 20, 3)), (17, (.bipush 6, 2)), (19, (.iaload, 1)), (20, (.iconst 1, 1)), (21, (.isub, 1)), (22, (.invokestatic 144, 3)), (25, (.ifCond .ne 9, 3)), (28, (.aload_n 0, 1)), (29, (.iconst 1, 1)), (30, (.invokevirtual 162, 3)), (33, (.ireturn, 1)), (34, (.aload_n 0, 1)), (35, (.getfield 26, 3)), (38, (.bipush 16, 2)), (40, (.iaload, 1)), (41, (.iload_n 1, 1)), (42, (.invokestatic 252, 3)), (45, (.ifCond .eq 9, 3)), (48, (.aload_n 0, 1)), (49, (.iconst 5, 1)), (50, (.invokevirtual 162, 3)), (53, (.ireturn, 1)), (54, (.aload_n 0, 1)), (55, (.getfield 38, 3)), (58, (.iconst 0, 1)), (59, (.iload_n 1, 1)), (60, (.iastore, 1)), (61, (.aload_n 0, 1)), (62, (.iconst 1, 1)), (63, (.invokevirtual 327, 3)), (66, (.ireturn, 1))] : List (Nat × (Instr × Nat))), decode cX10_endsWithTale q.1 = .ok q.2 := by decide +kernel
theorem dX10_endsWithTale_0 : decode cX10_endsWithTale 0 = .ok (.aload_n 0, 1) := dAX10_endsWithTale (0, (.aload_n 0, 1)) (List.mem_of_getElem? (i := 0) rfl)
theorem dX10_endsWithTale_1 : decode cX10_endsWithTale 1 = .ok (.invokevirtual 159, 3) := dAX10_endsWithTale (1, (.invokevirtual 159, 3)) (List.mem_of_getElem? (i := 1) rfl)
theorem dX10_endsWithTale_4 : decode cX10_endsWithTale 4 = .ok (.aload_n 0, 1) := dAX10_endsWithTale (4, (.aload_n 0, 1)) (List.mem_of_getElem? (i := 2) rfl)
theorem dX10_endsWithTale_5 : decode cX10_endsWithTale 5 = .ok (.getfield 176, 3) := dAX10_endsWithTale (5, (.getfield 176, 3)) (List.mem_of_getElem? (i := 3) rfl)
theorem dX10_endsWithTale_8 : decode cX10_endsWithTale 8 = .ok (.ifCond .eq 20, 3) := dAX10_endsWithTale (8, (.ifCond .eq 20, 3)) (List.mem_of_getElem? (i := 4) rfl)
theorem dX10_endsWithTale_11 : decode cX10_endsWithTale 11 = .ok (.iload_n 1, 1) := dAX10_endsWithTale (11, (.iload_n 1, 1)) (List.mem_of_getElem? (i := 5) rfl)
theorem dX10_endsWithTale_12 : decode cX10_endsWithTale 12 = .ok (.iconst 0, 1) := dAX10_endsWithTale (12, (.iconst 0, 1)) (List.mem_of_getElem? (i := 6) rfl)
theorem dX10_endsWithTale_13 : decode cX10_endsWithTale 13 = .ok (.aload_n 0, 1) := dAX10_endsWithTale (13, (.aload_n 0, 1)) (List.mem_of_getElem? (i := 7) rfl)
theorem dX10_endsWithTale_14 : decode cX10_endsWithTale 14 = .ok (.getfield 20, 3) := dAX10_endsWithTale (14, (.getfield 20, 3)) (List.mem_of_getElem? (i := 8) rfl)
theorem dX10_endsWithTale_17 : decode cX10_endsWithTale 17 = .ok (.bipush 6, 2) := dAX10_endsWithTale (17, (.bipush 6, 2)) (List.mem_of_getElem? (i := 9) rfl)
theorem dX10_endsWithTale_19 : decode cX10_endsWithTale 19 = .ok (.iaload, 1) := dAX10_endsWithTale (19, (.iaload, 1)) (List.mem_of_getElem? (i := 10) rfl)
theorem dX10_endsWithTale_20 : decode cX10_endsWithTale 20 = .ok (.iconst 1, 1) := dAX10_endsWithTale (20, (.iconst 1, 1)) (List.mem_of_getElem? (i := 11) rfl)
theorem dX10_endsWithTale_21 : decode cX10_endsWithTale 21 = .ok (.isub, 1) := dAX10_endsWithTale (21, (.isub, 1)) (List.mem_of_getElem? (i := 12) rfl)
theorem dX10_endsWithTale_22 : decode cX10_endsWithTale 22 = .ok (.invokestatic 144, 3) := dAX10_endsWithTale (22, (.invokestatic 144, 3)) (List.mem_of_getElem? (i := 13) rfl)
theorem dX10_endsWithTale_25 : decode cX10_endsWithTale 25 = .ok (.ifCond .ne 9, 3) := dAX10_endsWithTale (25, (.ifCond .ne 9, 3)) (List.mem_of_getElem? (i := 14) rfl)
theorem dX10_endsWithTale_28 : decode cX10_endsWithTale 28 = .ok (.aload_n 0, 1) := dAX10_endsWithTale (28, (.aload_n 0, 1)) (List.mem_of_getElem? (i := 15) rfl)
theorem dX10_endsWithTale_29 : decode cX10_endsWithTale 29 = .ok (.iconst 1, 1) := dAX10_endsWithTale (29, (.iconst 1, 1)) (List.mem_of_getElem? (i := 16) rfl)
theorem dX10_endsWithTale_30 : decode cX10_endsWithTale 30 = .ok (.invokevirtual 162, 3) := dAX10_endsWithTale (30, (.invokevirtual 162, 3)) (List.mem_of_getElem? (i := 17) rfl)
theorem dX10_endsWithTale_33 : decode cX10_endsWithTale 33 = .ok (.ireturn, 1) := dAX10_endsWithTale (33, (.ireturn, 1)) (List.mem_of_getElem? (i := 18) rfl)
theorem dX10_endsWithTale_34 : decode cX10_endsWithTale 34 = .ok (.aload_n 0, 1) := dAX10_endsWithTale (34, (.aload_n 0, 1)) (List.mem_of_getElem? (i := 19) rfl)
theorem dX10_endsWithTale_35 : decode cX10_endsWithTale 35 = .ok (.getfield 26, 3) := dAX10_endsWithTale (35, (.getfield 26, 3)) (List.mem_of_getElem? (i := 20) rfl)
theorem dX10_endsWithTale_38 : decode cX10_endsWithTale 38 = .ok (.bipush 16, 2) := dAX10_endsWithTale (38, (.bipush 16, 2)) (List.mem_of_getElem? (i := 21) rfl)
theorem dX10_endsWithTale_40 : decode cX10_endsWithTale 40 = .ok (.iaload, 1) := dAX10_endsWithTale (40, (.iaload, 1)) (List.mem_of_getElem? (i := 22) rfl)
theorem dX10_endsWithTale_41 : decode cX10_endsWithTale 41 = .ok (.iload_n 1, 1) := dAX10_endsWithTale (41, (.iload_n 1, 1)) (List.mem_of_getElem? (i := 23) rfl)
theorem dX10_endsWithTale_42 : decode cX10_endsWithTale 42 = .ok (.invokestatic 252, 3) := dAX10_endsWithTale (42, (.invokestatic 252, 3)) (List.mem_of_getElem? (i := 24) rfl)
theorem dX10_endsWithTale_45 : decode cX10_endsWithTale 45 = .ok (.ifCond .eq 9, 3) := dAX10_endsWithTale (45, (.ifCond .eq 9, 3)) (List.mem_of_getElem? (i := 25) rfl)
theorem dX10_endsWithTale_48 : decode cX10_endsWithTale 48 = .ok (.aload_n 0, 1) := dAX10_endsWithTale (48, (.aload_n 0, 1)) (List.mem_of_getElem? (i := 26) rfl)
theorem dX10_endsWithTale_49 : decode cX10_endsWithTale 49 = .ok (.iconst 5, 1) := dAX10_endsWithTale (49, (.iconst 5, 1)) (List.mem_of_getElem? (i := 27) rfl)
theorem dX10_endsWithTale_50 : decode cX10_endsWithTale 50 = .ok (.invokevirtual 162, 3) := dAX10_endsWithTale (50, (.invokevirtual 162, 3)) (List.mem_of_getElem? (i := 28) rfl)
theorem dX10_endsWithTale_53 : decode cX10_endsWithTale 53 = .ok (.ireturn, 1) := dAX10_endsWithTale (53, (.ireturn, 1)) (List.mem_of_getElem? (i := 29) rfl)
theorem dX10_endsWithTale_54 : decode cX10_endsWithTale 54 = .ok (.aload_n 0, 1) := dAX10_endsWithTale (54, (.aload_n 0, 1)) (List.mem_of_getElem? (i := 30) rfl)
theorem dX10_endsWithTale_55 : decode cX10_endsWithTale 55 = .ok (.getfield 38, 3) := dAX10_endsWithTale (55, (.getfield 38, 3)) (List.mem_of_getElem? (i := 31) rfl)
theorem dX10_endsWithTale_58 : decode cX10_endsWithTale 58 = .ok (.iconst 0, 1) := dAX10_endsWithTale (58, (.iconst 0, 1)) (List.mem_of_getElem? (i := 32) rfl)
theorem dX10_endsWithTale_59 : decode cX10_endsWithTale 59 = .ok (.iload_n 1, 1) := dAX10_endsWithTale (59, (.iload_n 1, 1)) (List.mem_of_getElem? (i := 33) rfl)
theorem dX10_endsWithTale_60 : decode cX10_endsWithTale 60 = .ok (.iastore, 1) := dAX10_endsWithTale (60, (.iastore, 1)) (List.mem_of_getElem? (i := 34) rfl)
theorem dX10_endsWithTale_61 : decode cX10_endsWithTale 61 = .ok (.aload_n 0, 1) := dAX10_endsWithTale (61, (.aload_n 0, 1)) (List.mem_of_getElem? (i := 35) rfl)
theorem dX10_endsWithTale_62 : decode cX10_endsWithTale 62 = .ok (.iconst 1, 1) := dAX10_endsWithTale (62, (.iconst 1, 1)) (List.mem_of_getElem? (i := 36) rfl)
theorem dX10_endsWithTale_63 : decode cX10_endsWithTale 63 = .ok (.invokevirtual 327, 3) := dAX10_endsWithTale (63, (.invokevirtual 327, 3)) (List.mem_of_getElem? (i := 37) rfl)
theorem dX10_endsWithTale_66 : decode cX10_endsWithTale 66 = .ok (.ireturn, 1) := dAX10_endsWithTale (66, (.ireturn, 1)) (List.mem_of_getElem? (i := 38) rfl)
set_option maxRecDepth 20000 in
theorem ggX10_endsWithTale_X10_good : GoodIn wsX10_endsWithTale wsX10_good := goodIn_r _ [9, 10, 11, 81, 82, 83, 84, 85, 86, 87, 88, 89, 90, 91, 92, 93, 94, 95, 96, 97, 98, 99, 100, 101, 102, 103, 104, 105, 106, 107, 108, 109, 110, 111, 112, 113, 114, 115] rfl (by decide +kernel)
set_option maxRecDepth 20000 in
theorem gX10_endsWithTale_X10_good : GoodIn wsX10_endsWithTale (wsV RX10 159 RX10 yX10_good wsX10_good) := goodIn_app (goodIn_of _ (by decide +kernel)) ggX10_endsWithTale_X10_good
set_option maxRecDepth 20000 in
theorem ggX10_endsWithTale_X10_in : GoodIn wsX10_endsWithTale wsX10_in := goodIn_r _ [14] rfl (by decide +kernel)
set_option maxRecDepth 20000 in
theorem gX10_endsWithTale_X10_in : GoodIn wsX10_endsWithTale (va_wsS RX10 144 yX10_in wsX10_in) := goodIn_app (goodIn_of _ (by decide +kernel)) ggX10_endsWithTale_X10_in
set_option maxRecDepth 20000 in
theorem ggX10_endsWithTale_X10_no : GoodIn wsX10_endsWithTale wsX10_no := goodIn_r _ [18, 11, 81, 82, 83, 84, 85, 86, 87, 88, 89, 90, 91, 92, 93, 94, 95, 96, 97, 98, 99, 100, 101, 102, 103, 104, 105, 106, 107, 108, 109, 110, 111, 112, 113, 114, 115] rfl (by decide +kernel)
set_option maxRecDepth 20000 in
theorem gX10_endsWithTale_X10_no : GoodIn wsX10_endsWithTale (wsV RX10 162 RX10 yX10_no wsX10_no) := goodIn_app (goodIn_of _ (by decide +kernel)) ggX10_endsWithTale_X10_no
set_option maxRecDepth 20000 in
theorem ggX10_endsWithTale_X10_hasBit : GoodIn wsX10_endsWithTale wsX10_hasBit := goodIn_r _ [21] rfl (by decide +kernel)
set_option maxRecDepth 20000 in
theorem gX10_endsWithTale_X10_hasBit : GoodIn wsX10_endsWithTale (va_wsS RX10 252 yX10_hasBit wsX10_hasBit) := goodIn_app (goodIn_of _ (by decide +kernel)) ggX10_endsWithTale_X10_hasBit
set_option maxRecDepth 20000 in
theorem ggX10_endsWithTale_X10_endsByTales : GoodIn wsX10_endsWithTale wsX10_endsByTales := goodIn_r _ [25, 3, 26, 4, 2, 27, 28, 8, 29, 30, 31, 32, 33, 34, 35, 36, 37, 38, 39, 40, 41, 42, 43, 44, 45, 46, 47, 48, 49, 50, 51, 52, 53, 54, 55, 56, 57, 58, 59, 60, 61, 62, 63, 64, 65, 66, 67, 68, 69, 19, 20, 21, 70, 71, 72, 73, 74, 75, 76, 77, 78, 79, 80, 81, 82, 83, 84, 85, 86, 87, 88, 89, 90, 91, 92, 93, 94, 95, 96, 97, 98, 99, 100, 101, 102, 103, 104, 105, 106, 107, 108, 109, 110, 111, 112, 113, 114, 115] rfl (by decide +kernel)
set_option maxRecDepth 20000 in
theorem gX10_endsWithTale_X10_endsByTales : GoodIn wsX10_endsWithTale (wsV RX10 327 RX10 yX10_endsByTales wsX10_endsByTales) := goodIn_app (goodIn_of _ (by decide +kernel)) ggX10_endsWithTale_X10_endsByTales
theorem kX10_endsWithTale_176 : Cond.fieldLink RX10 176 "EveningVowModel" "hasEvening" "Z" ∈ wsX10_endsWithTale := List.mem_of_getElem? (i := 1) rfl
theorem iX10_endsWithTale_X10 : ∀ w ∈ u_ws RX10 TX10 35, w ∈ wsX10_endsWithTale := fun w h => (List.mem_cons_of_mem _ (List.mem_append_right _ h))
theorem kX10_endsWithTale_20 : Cond.fieldLink RX10 20 "EveningVowModel" "\x72" "[I" ∈ wsX10_endsWithTale := List.mem_of_getElem? (i := 2) rfl
theorem kX10_endsWithTale_26 : Cond.fieldLink RX10 26 "EveningVowModel" "st" "[I" ∈ wsX10_endsWithTale := List.mem_of_getElem? (i := 3) rfl
theorem kX10_endsWithTale_38 : Cond.fieldLink RX10 38 "EveningVowModel" "tales" "[I" ∈ wsX10_endsWithTale := List.mem_of_getElem? (i := 4) rfl
set_option maxHeartbeats 4000000 in
set_option maxRecDepth 100000 in
theorem mX10_endsWithTale (l : Launch) (g : GG) (a_t : Nat) (p_t : Nat → Nat) (n : Nat) (x1 : Int32) (o_t : Nat → Int32) (f_t_15 : Nat → Int32) (f_t_17 : Nat → Int32) (f_t_25 : Nat → Int32) (f_t_26 : Nat → Int32) (r : Int32) (o_t' : Nat → Int32) (f_t_25' : Nat → Int32) (f_t_26' : Nat → Int32) (hF : fX10_endsWithTale n x1 o_t f_t_15 f_t_17 f_t_25 f_t_26 = some (r, o_t', f_t_25', f_t_26')) : MI l g yX10_endsWithTale wsX10_endsWithTale ({ frames := 6, cells := 0, slots := 0, locals := 140 } : Room) [.ref a_t, .int x1] [oX10 a_t p_t o_t, aI g (p_t 15) 266 f_t_15, aI g (p_t 17) 17 f_t_17, aI g (p_t 25) 17 f_t_25, aI g (p_t 26) 4 f_t_26] r [oX10 a_t p_t o_t', aI g (p_t 15) 266 f_t_15, aI g (p_t 17) 17 f_t_17, aI g (p_t 25) 17 f_t_25', aI g (p_t 26) 4 f_t_26'] := by
  refine MI.of (cc := cX10_endsWithTale) (maxL := 2) (rt := .int) (own := RX10) rfl rfl (by decide) (Nat.le_of_ble_eq_true rfl) ?_
  intro p e s m args below meth c A C0 hP hD hS ls hl
  obtain ⟨hx, hb, hml, hown, hts, hr, hlk, hK, hA, hSW⟩ := id C0
  have hl : lv_has ls 2 [(0, .ref a_t), (1, .int x1)] := hl
  rw [fX10_endsWithTale] at hF
  refine lv_aload_n hx hb dX10_endsWithTale_0 rfl (lv_at hl 0 rfl) ?_
  obtain ⟨u_1, hu_2, hF⟩ := ob1_some hF
  refine call_v (wr := [aI g (p_t 15) 266 f_t_15, aI g (p_t 17) 17 f_t_17, aI g (p_t 25) 17 f_t_25, aI g (p_t 26) 4 f_t_26]) (As := []) (rest := []) (ci := 10) (q0 := 0) C0 (mX10_good l g a_t p_t n o_t u_1 hu_2) (cwV 0 hts gX10_endsWithTale_X10_good rfl rfl rfl (by decide +kernel) ⟨Nat.le_of_ble_eq_true rfl, Nat.le_of_ble_eq_true rfl⟩) hP hD hS [0] [1, 2, 3, 4] rfl rfl rfl rfl rfl (by decide) rfl rfl hl.1 rfl rfl (Nat.le_of_ble_eq_true rfl) ⟨Nat.zero_le _, Nat.zero_le _⟩ dX10_endsWithTale_1 ?_
  intro H locs hP hD hS
  refine lv_aload_n hx hb dX10_endsWithTale_4 rfl (lv_at hl 0 rfl) ?_
  refine va_get (D := g.1) (ci := 10) (v := .int (u_1 14)) (C := RX10) (T := TX10) (N := 35) hx hb hts iX10_endsWithTale_X10 hown hK.1 hP 4 rfl rfl 14 (by decide) (hts _ kX10_endsWithTale_176) (fun _ h9 => h9) rfl dX10_endsWithTale_5 ?_
  refine lv_if_eq (tgt := 28) hx hb dX10_endsWithTale_8 (by decide) (fun c_3 => ?_) (fun c_3 => ?_)
  · have hF := it_p c_3 hF
    refine lv_aload_n hx hb dX10_endsWithTale_28 rfl (lv_at hl 0 rfl) ?_
    refine lv_iconst (v := (1 : Int32)) hx hb dX10_endsWithTale_29 (by decide) ?_
    obtain ⟨u_4, u_5, hu_6, hF⟩ := ob2_some hF
    refine call_i (wr := [aI g (p_t 15) 266 f_t_15, aI g (p_t 17) 17 f_t_17, aI g (p_t 25) 17 f_t_25, aI g (p_t 26) 4 f_t_26]) (As := [.int (1 : Int32)]) (rest := []) (ci := 10) (q0 := 0) C0 (mX10_no l g a_t p_t n (1 : Int32) u_1 u_4 u_5 hu_6) (cwV 1 hts gX10_endsWithTale_X10_no rfl rfl rfl (by decide +kernel) ⟨Nat.le_of_ble_eq_true rfl, Nat.le_of_ble_eq_true rfl⟩) hP hD hS [4] [0, 1, 2, 3] rfl rfl rfl rfl rfl (by decide) rfl rfl hl.1 rfl rfl (Nat.le_of_ble_eq_true rfl) ⟨Nat.zero_le _, Nat.zero_le _⟩ dX10_endsWithTale_30 ?_
    intro H locs hP hD hS
    cases hF
    exact ret_i C0 hP hD hS [4, 0, 1, 2, 3] rfl rfl rfl dX10_endsWithTale_33 rfl
  · have hF := it_n c_3 hF
    refine lv_iload_n hx hb dX10_endsWithTale_11 rfl (lv_at hl 1 rfl) ?_
    refine lv_iconst (v := (0 : Int32)) hx hb dX10_endsWithTale_12 (by decide) ?_
    refine lv_aload_n hx hb dX10_endsWithTale_13 rfl (lv_at hl 0 rfl) ?_
    refine va_get (D := g.1) (ci := 10) (v := .ref (p_t 15)) (C := RX10) (T := TX10) (N := 35) hx hb hts iX10_endsWithTale_X10 hown hK.1 hP 4 rfl rfl 15 (by decide) (hts _ kX10_endsWithTale_20) (fun _ h9 => h9) rfl dX10_endsWithTale_14 ?_
    refine lv_bipush (v := (6 : Int32)) hx hb dX10_endsWithTale_17 (by decide) ?_
    refine va_iald_k (j := 6) hx hb hK.1 hP 0 0 rfl rfl (by unfold vp_in; decide) rfl dX10_endsWithTale_19 ?_
    refine lv_iconst (v := (1 : Int32)) hx hb dX10_endsWithTale_20 (by decide) ?_
    refine lv_isub hx hb dX10_endsWithTale_21 ?_
    obtain ⟨u_7, hu_8, hF⟩ := ob1_some hF
    refine call_si (wr := [aI g (p_t 15) 266 f_t_15, aI g (p_t 17) 17 f_t_17, aI g (p_t 25) 17 f_t_25, aI g (p_t 26) 4 f_t_26, oX10 a_t p_t u_1]) (As := [.int x1, .int (0 : Int32), .int ((f_t_15 6) - (1 : Int32))]) (rest := []) C0 (mX10_in l g n x1 (0 : Int32) ((f_t_15 6) - (1 : Int32)) u_7 hu_8) (va_cwS 3 hts gX10_endsWithTale_X10_in rfl rfl rfl (by decide +kernel) ⟨Nat.le_of_ble_eq_true rfl, Nat.le_of_ble_eq_true rfl⟩) hP hD hS [] [0, 1, 2, 3, 4] rfl rfl rfl rfl rfl (by decide) hl.1 rfl rfl (Nat.le_of_ble_eq_true rfl) ⟨Nat.zero_le _, Nat.zero_le _⟩ dX10_endsWithTale_22 ?_
    intro H locs hP hD hS
    refine lv_if_ne (tgt := 34) hx hb dX10_endsWithTale_25 (by decide) (fun c_9 => ?_) (fun c_9 => ?_)
    · have hF := it_n c_9 hF
      refine lv_aload_n hx hb dX10_endsWithTale_34 rfl (lv_at hl 0 rfl) ?_
      refine va_get (D := g.1) (ci := 10) (v := .ref (p_t 17)) (C := RX10) (T := TX10) (N := 35) hx hb hts iX10_endsWithTale_X10 hown hK.1 hP 4 rfl rfl 17 (by decide) (hts _ kX10_endsWithTale_26) (fun _ h9 => h9) rfl dX10_endsWithTale_35 ?_
      refine lv_bipush (v := (16 : Int32)) hx hb dX10_endsWithTale_38 (by decide) ?_
      refine va_iald_k (j := 16) hx hb hK.1 hP 1 0 rfl rfl (by unfold vp_in; decide) rfl dX10_endsWithTale_40 ?_
      refine lv_iload_n hx hb dX10_endsWithTale_41 rfl (lv_at hl 1 rfl) ?_
      obtain ⟨u_10, hu_11, hF⟩ := ob1_some hF
      refine call_si (wr := [aI g (p_t 15) 266 f_t_15, aI g (p_t 17) 17 f_t_17, aI g (p_t 25) 17 f_t_25, aI g (p_t 26) 4 f_t_26, oX10 a_t p_t u_1]) (As := [.int (f_t_17 16), .int x1]) (rest := []) C0 (mX10_hasBit l g n (f_t_17 16) x1 u_10 hu_11) (va_cwS 2 hts gX10_endsWithTale_X10_hasBit rfl rfl rfl (by decide +kernel) ⟨Nat.le_of_ble_eq_true rfl, Nat.le_of_ble_eq_true rfl⟩) hP hD hS [] [0, 1, 2, 3, 4] rfl rfl rfl rfl rfl (by decide) hl.1 rfl rfl (Nat.le_of_ble_eq_true rfl) ⟨Nat.zero_le _, Nat.zero_le _⟩ dX10_endsWithTale_42 ?_
      intro H locs hP hD hS
      refine lv_if_eq (tgt := 54) hx hb dX10_endsWithTale_45 (by decide) (fun c_12 => ?_) (fun c_12 => ?_)
      · have hF := it_p c_12 hF
        refine lv_aload_n hx hb dX10_endsWithTale_54 rfl (lv_at hl 0 rfl) ?_
        refine va_get (D := g.1) (ci := 10) (v := .ref (p_t 26)) (C := RX10) (T := TX10) (N := 35) hx hb hts iX10_endsWithTale_X10 hown hK.1 hP 4 rfl rfl 26 (by decide) (hts _ kX10_endsWithTale_38) (fun _ h9 => h9) rfl dX10_endsWithTale_55 ?_
        refine lv_iconst (v := (0 : Int32)) hx hb dX10_endsWithTale_58 (by decide) ?_
        refine lv_iload_n hx hb dX10_endsWithTale_59 rfl (lv_at hl 1 rfl) ?_
        refine va_iast hx hb hK.1 hP hD hS 3 0 rfl rfl (by unfold vp_in; decide) dX10_endsWithTale_60 (fun H locs hP hD hS => ?_)
        have hP : va_P g.1 vwCl [aI g (p_t 15) 266 f_t_15, aI g (p_t 17) 17 f_t_17, aI g (p_t 25) 17 f_t_25, aI g (p_t 26) 4 (upd f_t_26 0 x1), oX10 a_t p_t u_1] H := hP
        have hD : va_D A [aI g (p_t 15) 266 f_t_15, aI g (p_t 17) 17 f_t_17, aI g (p_t 25) 17 f_t_25, aI g (p_t 26) 4 (upd f_t_26 0 x1), oX10 a_t p_t u_1] := hD
        refine lv_aload_n hx hb dX10_endsWithTale_61 rfl (lv_at hl 0 rfl) ?_
        refine lv_iconst (v := (1 : Int32)) hx hb dX10_endsWithTale_62 (by decide) ?_
        obtain ⟨u_13, u_14, u_15, hu_16, hF⟩ := ob3_some hF
        refine call_i (wr := []) (As := [.int (1 : Int32)]) (rest := []) (ci := 10) (q0 := 0) C0 (mX10_endsByTales l g a_t p_t n (1 : Int32) u_1 f_t_15 f_t_17 f_t_25 (upd f_t_26 0 x1) u_13 u_14 u_15 hu_16) (cwV 1 hts gX10_endsWithTale_X10_endsByTales rfl rfl rfl (by decide +kernel) ⟨Nat.le_of_ble_eq_true rfl, Nat.le_of_ble_eq_true rfl⟩) hP hD hS [4, 0, 1, 2, 3] [] rfl rfl rfl rfl rfl (by decide) rfl rfl hl.1 rfl rfl (Nat.le_of_ble_eq_true rfl) ⟨Nat.zero_le _, Nat.zero_le _⟩ dX10_endsWithTale_63 ?_
        intro H locs hP hD hS
        cases hF
        exact ret_i C0 hP hD hS [0, 1, 2, 3, 4] rfl rfl rfl dX10_endsWithTale_66 rfl
      · have hF := it_n c_12 hF
        refine lv_aload_n hx hb dX10_endsWithTale_48 rfl (lv_at hl 0 rfl) ?_
        refine lv_iconst (v := (5 : Int32)) hx hb dX10_endsWithTale_49 (by decide) ?_
        obtain ⟨u_17, u_18, hu_19, hF⟩ := ob2_some hF
        refine call_i (wr := [aI g (p_t 15) 266 f_t_15, aI g (p_t 17) 17 f_t_17, aI g (p_t 25) 17 f_t_25, aI g (p_t 26) 4 f_t_26]) (As := [.int (5 : Int32)]) (rest := []) (ci := 10) (q0 := 0) C0 (mX10_no l g a_t p_t n (5 : Int32) u_1 u_17 u_18 hu_19) (cwV 1 hts gX10_endsWithTale_X10_no rfl rfl rfl (by decide +kernel) ⟨Nat.le_of_ble_eq_true rfl, Nat.le_of_ble_eq_true rfl⟩) hP hD hS [4] [0, 1, 2, 3] rfl rfl rfl rfl rfl (by decide) rfl rfl hl.1 rfl rfl (Nat.le_of_ble_eq_true rfl) ⟨Nat.zero_le _, Nat.zero_le _⟩ dX10_endsWithTale_50 ?_
        intro H locs hP hD hS
        cases hF
        exact ret_i C0 hP hD hS [4, 0, 1, 2, 3] rfl rfl rfl dX10_endsWithTale_53 rfl
    · have hF := it_p c_9 hF
      refine lv_aload_n hx hb dX10_endsWithTale_28 rfl (lv_at hl 0 rfl) ?_
      refine lv_iconst (v := (1 : Int32)) hx hb dX10_endsWithTale_29 (by decide) ?_
      obtain ⟨u_20, u_21, hu_22, hF⟩ := ob2_some hF
      refine call_i (wr := [aI g (p_t 15) 266 f_t_15, aI g (p_t 17) 17 f_t_17, aI g (p_t 25) 17 f_t_25, aI g (p_t 26) 4 f_t_26]) (As := [.int (1 : Int32)]) (rest := []) (ci := 10) (q0 := 0) C0 (mX10_no l g a_t p_t n (1 : Int32) u_1 u_20 u_21 hu_22) (cwV 1 hts gX10_endsWithTale_X10_no rfl rfl rfl (by decide +kernel) ⟨Nat.le_of_ble_eq_true rfl, Nat.le_of_ble_eq_true rfl⟩) hP hD hS [4] [0, 1, 2, 3] rfl rfl rfl rfl rfl (by decide) rfl rfl hl.1 rfl rfl (Nat.le_of_ble_eq_true rfl) ⟨Nat.zero_le _, Nat.zero_le _⟩ dX10_endsWithTale_30 ?_
      intro H locs hP hD hS
      cases hF
      exact ret_i C0 hP hD hS [4, 0, 1, 2, 3] rfl rfl rfl dX10_endsWithTale_33 rfl

theorem dAX10_seekTales : ∀ q ∈ ([(0, (.aload_n 0, 1)), (1, (.ldc_w 321, 3)), (4, (.putfield 330, 3)), (7, (.iconst 0, 1)), (8, (.istore_n 1, 1)), (9, (.iload_n 1, 1)), (10, (.aload_n 0, 1)), (11, (.getfield 20, 3)), (14, (.bipush 6, 2)), (16, (.iaload, 1)), (17, (.aload_n 0, 1)), (18, (.getfield 26, 3)), (21, (.bipush 16, 2)), (23, (.iaload, 1)), (24, (.invokestatic 306, 3)), (27, (.isub, 1)), (28, (.if_icmp .gt 22, 3)), (31, (.aload_n 0, 1)), (32, (.iconst 0, 1)), (33, (.iload_n 1, 1)), (34, (.aload_n 0, 1)), (35, (.getfield 26, 3)), (38, (.bipush 16, 2)), (40, (.iaload, 1)), (41, (.invokevirtual 336, 3)), (44, (.iinc 1 1, 3)), (47, (.goto (-38), 3)), (50, (.aload_n 0, 1)), (51, (.getfield 330, 3)), (54, (.ldc_w 321, 3)), (57, (.if_icmp .ge 7, 3)), (60, (.iconst 1, 1)), (61, (.goto 4, 3)), (64, (.iconst 0, 1)), (65, (.ireturn, 1))] : List (Nat × (Instr × Nat))), decode cX10_seekTales q.1 = .ok q.2 := by decide +kernel
theorem dX10_seekTales_0 : decode cX10_seekTales 0 = .ok (.aload_n 0, 1) := dAX10_seekTales (0, (.aload_n 0, 1)) (List.mem_of_getElem? (i := 0) rfl)
theorem dX10_seekTales_1 : decode cX10_seekTales 1 = .ok (.ldc_w 321, 3) := dAX10_seekTales (1, (.ldc_w 321, 3)) (List.mem_of_getElem? (i := 1) rfl)
theorem dX10_seekTales_4 : decode cX10_seekTales 4 = .ok (.putfield 330, 3) := dAX10_seekTales (4, (.putfield 330, 3)) (List.mem_of_getElem? (i := 2) rfl)
theorem dX10_seekTales_7 : decode cX10_seekTales 7 = .ok (.iconst 0, 1) := dAX10_seekTales (7, (.iconst 0, 1)) (List.mem_of_getElem? (i := 3) rfl)
theorem dX10_seekTales_8 : decode cX10_seekTales 8 = .ok (.istore_n 1, 1) := dAX10_seekTales (8, (.istore_n 1, 1)) (List.mem_of_getElem? (i := 4) rfl)
theorem dX10_seekTales_9 : decode cX10_seekTales 9 = .ok (.iload_n 1, 1) := dAX10_seekTales (9, (.iload_n 1, 1)) (List.mem_of_getElem? (i := 5) rfl)
theorem dX10_seekTales_10 : decode cX10_seekTales 10 = .ok (.aload_n 0, 1) := dAX10_seekTales (10, (.aload_n 0, 1)) (List.mem_of_getElem? (i := 6) rfl)
theorem dX10_seekTales_11 : decode cX10_seekTales 11 = .ok (.getfield 20, 3) := dAX10_seekTales (11, (.getfield 20, 3)) (List.mem_of_getElem? (i := 7) rfl)
theorem dX10_seekTales_14 : decode cX10_seekTales 14 = .ok (.bipush 6, 2) := dAX10_seekTales (14, (.bipush 6, 2)) (List.mem_of_getElem? (i := 8) rfl)
theorem dX10_seekTales_16 : decode cX10_seekTales 16 = .ok (.iaload, 1) := dAX10_seekTales (16, (.iaload, 1)) (List.mem_of_getElem? (i := 9) rfl)
theorem dX10_seekTales_17 : decode cX10_seekTales 17 = .ok (.aload_n 0, 1) := dAX10_seekTales (17, (.aload_n 0, 1)) (List.mem_of_getElem? (i := 10) rfl)
theorem dX10_seekTales_18 : decode cX10_seekTales 18 = .ok (.getfield 26, 3) := dAX10_seekTales (18, (.getfield 26, 3)) (List.mem_of_getElem? (i := 11) rfl)
theorem dX10_seekTales_21 : decode cX10_seekTales 21 = .ok (.bipush 16, 2) := dAX10_seekTales (21, (.bipush 16, 2)) (List.mem_of_getElem? (i := 12) rfl)
theorem dX10_seekTales_23 : decode cX10_seekTales 23 = .ok (.iaload, 1) := dAX10_seekTales (23, (.iaload, 1)) (List.mem_of_getElem? (i := 13) rfl)
theorem dX10_seekTales_24 : decode cX10_seekTales 24 = .ok (.invokestatic 306, 3) := dAX10_seekTales (24, (.invokestatic 306, 3)) (List.mem_of_getElem? (i := 14) rfl)
theorem dX10_seekTales_27 : decode cX10_seekTales 27 = .ok (.isub, 1) := dAX10_seekTales (27, (.isub, 1)) (List.mem_of_getElem? (i := 15) rfl)
theorem dX10_seekTales_28 : decode cX10_seekTales 28 = .ok (.if_icmp .gt 22, 3) := dAX10_seekTales (28, (.if_icmp .gt 22, 3)) (List.mem_of_getElem? (i := 16) rfl)
theorem dX10_seekTales_31 : decode cX10_seekTales 31 = .ok (.aload_n 0, 1) := dAX10_seekTales (31, (.aload_n 0, 1)) (List.mem_of_getElem? (i := 17) rfl)
theorem dX10_seekTales_32 : decode cX10_seekTales 32 = .ok (.iconst 0, 1) := dAX10_seekTales (32, (.iconst 0, 1)) (List.mem_of_getElem? (i := 18) rfl)
theorem dX10_seekTales_33 : decode cX10_seekTales 33 = .ok (.iload_n 1, 1) := dAX10_seekTales (33, (.iload_n 1, 1)) (List.mem_of_getElem? (i := 19) rfl)
theorem dX10_seekTales_34 : decode cX10_seekTales 34 = .ok (.aload_n 0, 1) := dAX10_seekTales (34, (.aload_n 0, 1)) (List.mem_of_getElem? (i := 20) rfl)
theorem dX10_seekTales_35 : decode cX10_seekTales 35 = .ok (.getfield 26, 3) := dAX10_seekTales (35, (.getfield 26, 3)) (List.mem_of_getElem? (i := 21) rfl)
theorem dX10_seekTales_38 : decode cX10_seekTales 38 = .ok (.bipush 16, 2) := dAX10_seekTales (38, (.bipush 16, 2)) (List.mem_of_getElem? (i := 22) rfl)
theorem dX10_seekTales_40 : decode cX10_seekTales 40 = .ok (.iaload, 1) := dAX10_seekTales (40, (.iaload, 1)) (List.mem_of_getElem? (i := 23) rfl)
theorem dX10_seekTales_41 : decode cX10_seekTales 41 = .ok (.invokevirtual 336, 3) := dAX10_seekTales (41, (.invokevirtual 336, 3)) (List.mem_of_getElem? (i := 24) rfl)
theorem dX10_seekTales_44 : decode cX10_seekTales 44 = .ok (.iinc 1 1, 3) := dAX10_seekTales (44, (.iinc 1 1, 3)) (List.mem_of_getElem? (i := 25) rfl)
theorem dX10_seekTales_47 : decode cX10_seekTales 47 = .ok (.goto (-38), 3) := dAX10_seekTales (47, (.goto (-38), 3)) (List.mem_of_getElem? (i := 26) rfl)
theorem dX10_seekTales_50 : decode cX10_seekTales 50 = .ok (.aload_n 0, 1) := dAX10_seekTales (50, (.aload_n 0, 1)) (List.mem_of_getElem? (i := 27) rfl)
theorem dX10_seekTales_51 : decode cX10_seekTales 51 = .ok (.getfield 330, 3) := dAX10_seekTales (51, (.getfield 330, 3)) (List.mem_of_getElem? (i := 28) rfl)
theorem dX10_seekTales_54 : decode cX10_seekTales 54 = .ok (.ldc_w 321, 3) := dAX10_seekTales (54, (.ldc_w 321, 3)) (List.mem_of_getElem? (i := 29) rfl)
theorem dX10_seekTales_57 : decode cX10_seekTales 57 = .ok (.if_icmp .ge 7, 3) := dAX10_seekTales (57, (.if_icmp .ge 7, 3)) (List.mem_of_getElem? (i := 30) rfl)
theorem dX10_seekTales_60 : decode cX10_seekTales 60 = .ok (.iconst 1, 1) := dAX10_seekTales (60, (.iconst 1, 1)) (List.mem_of_getElem? (i := 31) rfl)
theorem dX10_seekTales_61 : decode cX10_seekTales 61 = .ok (.goto 4, 3) := dAX10_seekTales (61, (.goto 4, 3)) (List.mem_of_getElem? (i := 32) rfl)
theorem dX10_seekTales_64 : decode cX10_seekTales 64 = .ok (.iconst 0, 1) := dAX10_seekTales (64, (.iconst 0, 1)) (List.mem_of_getElem? (i := 33) rfl)
theorem dX10_seekTales_65 : decode cX10_seekTales 65 = .ok (.ireturn, 1) := dAX10_seekTales (65, (.ireturn, 1)) (List.mem_of_getElem? (i := 34) rfl)
set_option maxRecDepth 20000 in
theorem ggX10_seekTales_X10_ones : GoodIn wsX10_seekTales wsX10_ones := goodIn_r _ [8] rfl (by decide +kernel)
set_option maxRecDepth 20000 in
theorem gX10_seekTales_X10_ones : GoodIn wsX10_seekTales (va_wsS RX10 306 yX10_ones wsX10_ones) := goodIn_app (goodIn_of _ (by decide +kernel)) ggX10_seekTales_X10_ones
set_option maxRecDepth 20000 in
theorem ggX10_seekTales_X10_tryTales : GoodIn wsX10_seekTales wsX10_tryTales := goodIn_r _ [12, 2, 13, 14, 15, 3, 16, 17, 18, 7, 19, 4, 20, 21, 22, 23, 24, 25, 26, 27, 28, 29, 30, 31, 32, 33, 34, 35, 36, 37, 38, 39, 40, 41, 42, 43, 44, 45, 46, 47, 48, 49, 50, 51, 52, 53, 54, 55, 56, 57, 58, 59, 60, 61, 62, 63, 64, 65, 66, 67, 68, 69, 70, 71, 72, 73, 74, 75, 76, 77, 9, 10, 11, 78, 79, 80, 81, 82, 83, 84, 85, 86, 87, 88, 89, 90, 91, 92, 93, 94, 95, 96, 97, 98, 99, 100, 101, 102, 103, 104, 105, 106, 107, 108, 109, 110, 111, 112] rfl (by decide +kernel)
set_option maxRecDepth 20000 in
theorem gX10_seekTales_X10_tryTales : GoodIn wsX10_seekTales (wsV RX10 336 RX10 yX10_tryTales wsX10_tryTales) := goodIn_app (goodIn_of _ (by decide +kernel)) ggX10_seekTales_X10_tryTales
theorem kX10_seekTales_321 : Cond.constant RX10 321 (1000000 : Int32) ∈ wsX10_seekTales := by decide +kernel
theorem kX10_seekTales_330 : Cond.fieldLink RX10 330 "EveningVowModel" "soonestOf" "I" ∈ wsX10_seekTales := List.mem_of_getElem? (i := 2) rfl
theorem iX10_seekTales_X10 : ∀ w ∈ u_ws RX10 TX10 35, w ∈ wsX10_seekTales := fun w h => (List.mem_cons_of_mem _ (List.mem_append_right _ h))
theorem kX10_seekTales_20 : Cond.fieldLink RX10 20 "EveningVowModel" "\x72" "[I" ∈ wsX10_seekTales := List.mem_of_getElem? (i := 3) rfl
theorem kX10_seekTales_26 : Cond.fieldLink RX10 26 "EveningVowModel" "st" "[I" ∈ wsX10_seekTales := List.mem_of_getElem? (i := 4) rfl
set_option maxHeartbeats 4000000 in
set_option maxRecDepth 100000 in
theorem wX10_seekTales_L9 {p : Program} {l : Launch} {e : Env} {s : State} {m : MethodId} {args : Array Value} {below : List Frame} {meth : Method} {c : Code} {g : GG} {A : Nat → Prop} (C0 : Cx p s m args meth c cX10_seekTales 2 (some .boolean) RX10 wsX10_seekTales g A) (a_t : Nat) (p_t : Nat → Nat) (n : Nat) (f_t_15 : Nat → Int32) (f_t_17 : Nat → Int32)  (r : Int32) (o_t' : Nat → Int32) (f_t_25' : Nat → Int32) (f_t_26' : Nat → Int32) (f_t_27' : Nat → Int32) (K : (Nat → Int32) → (Nat → Int32) → (Nat → Int32) → (Nat → Int32) → Option (Int32 × (Nat → Int32) × (Nat → Int32) × (Nat → Int32) × (Nat → Int32))) (hKx : ∀ (o_t : Nat → Int32) (f_t_25 : Nat → Int32) (f_t_26 : Nat → Int32) (f_t_27 : Nat → Int32) (H : Heap) (locs : List Loc) (ls : Array Slot), K o_t f_t_25 f_t_26 f_t_27 = some (r, o_t', f_t_25', f_t_26', f_t_27') → va_P g.1 vwCl [oX10 a_t p_t o_t, aI g (p_t 15) 266 f_t_15, aI g (p_t 17) 17 f_t_17, aI g (p_t 25) 17 f_t_25, aI g (p_t 26) 4 f_t_26, aI g (p_t 27) 4 f_t_27] H → va_D A [oX10 a_t p_t o_t, aI g (p_t 15) 266 f_t_15, aI g (p_t 17) 17 f_t_17, aI g (p_t 25) 17 f_t_25, aI g (p_t 26) 4 f_t_26, aI g (p_t 27) 4 f_t_27] → va_S A s.heap H locs → lv_has ls 2 [(0, .ref a_t)] → W p l e ({ frames := 17, cells := 0, slots := 0, locals := 404 } : Room) s m args below meth c H locs 0 0 (MQ below (EndI g r [oX10 a_t p_t o_t', aI g (p_t 15) 266 f_t_15, aI g (p_t 17) 17 f_t_17, aI g (p_t 25) 17 f_t_25', aI g (p_t 26) 4 f_t_26', aI g (p_t 27) 4 f_t_27'] A) args s 0 0 A) (F0 m 50 ls [])) : ∀ (k : Nat) (x1 : Int32) (o_t : Nat → Int32) (f_t_25 : Nat → Int32) (f_t_26 : Nat → Int32) (f_t_27 : Nat → Int32), fX10_seekTales_L9 n f_t_15 f_t_17 K k x1 o_t f_t_25 f_t_26 f_t_27 = some (r, o_t', f_t_25', f_t_26', f_t_27') → ∀ (H : Heap) (locs : List Loc) (ls : Array Slot), va_P g.1 vwCl [oX10 a_t p_t o_t, aI g (p_t 15) 266 f_t_15, aI g (p_t 17) 17 f_t_17, aI g (p_t 25) 17 f_t_25, aI g (p_t 26) 4 f_t_26, aI g (p_t 27) 4 f_t_27] H → va_D A [oX10 a_t p_t o_t, aI g (p_t 15) 266 f_t_15, aI g (p_t 17) 17 f_t_17, aI g (p_t 25) 17 f_t_25, aI g (p_t 26) 4 f_t_26, aI g (p_t 27) 4 f_t_27] → va_S A s.heap H locs → lv_has ls 2 [(0, .ref a_t), (1, .int x1)] → W p l e ({ frames := 17, cells := 0, slots := 0, locals := 404 } : Room) s m args below meth c H locs 0 0 (MQ below (EndI g r [oX10 a_t p_t o_t', aI g (p_t 15) 266 f_t_15, aI g (p_t 17) 17 f_t_17, aI g (p_t 25) 17 f_t_25', aI g (p_t 26) 4 f_t_26', aI g (p_t 27) 4 f_t_27'] A) args s 0 0 A) (F0 m 9 ls []) := by
  obtain ⟨hx, hb, hml, hown, hts, hr, hlk, hK, hA, hSW⟩ := id C0
  intro k
  induction k with
  | zero =>
    intro x1 o_t f_t_25 f_t_26 f_t_27 hF
    exact absurd hF (by simp [fX10_seekTales_L9])
  | succ k ih =>
    intro x1 o_t f_t_25 f_t_26 f_t_27 hF H locs ls hP hD hS hl
    rw [fX10_seekTales_L9] at hF
    refine lv_iload_n hx hb dX10_seekTales_9 rfl (lv_at hl 1 rfl) ?_
    refine lv_aload_n hx hb dX10_seekTales_10 rfl (lv_at hl 0 rfl) ?_
    refine va_get (D := g.1) (ci := 10) (v := .ref (p_t 15)) (C := RX10) (T := TX10) (N := 35) hx hb hts iX10_seekTales_X10 hown hK.1 hP 0 rfl rfl 15 (by decide) (hts _ kX10_seekTales_20) (fun _ h9 => h9) rfl dX10_seekTales_11 ?_
    refine lv_bipush (v := (6 : Int32)) hx hb dX10_seekTales_14 (by decide) ?_
    refine va_iald_k (j := 6) hx hb hK.1 hP 1 0 rfl rfl (by unfold vp_in; decide) rfl dX10_seekTales_16 ?_
    refine lv_aload_n hx hb dX10_seekTales_17 rfl (lv_at hl 0 rfl) ?_
    refine va_get (D := g.1) (ci := 10) (v := .ref (p_t 17)) (C := RX10) (T := TX10) (N := 35) hx hb hts iX10_seekTales_X10 hown hK.1 hP 0 rfl rfl 17 (by decide) (hts _ kX10_seekTales_26) (fun _ h9 => h9) rfl dX10_seekTales_18 ?_
    refine lv_bipush (v := (16 : Int32)) hx hb dX10_seekTales_21 (by decide) ?_
    refine va_iald_k (j := 16) hx hb hK.1 hP 2 0 rfl rfl (by unfold vp_in; decide) rfl dX10_seekTales_23 ?_
    obtain ⟨u_1, hu_2, hF⟩ := ob1_some hF
    refine call_si (wr := [oX10 a_t p_t o_t, aI g (p_t 15) 266 f_t_15, aI g (p_t 17) 17 f_t_17, aI g (p_t 25) 17 f_t_25, aI g (p_t 26) 4 f_t_26, aI g (p_t 27) 4 f_t_27]) (As := [.int (f_t_17 16)]) (rest := [.int (f_t_15 6), .int x1]) C0 (mX10_ones l g n (f_t_17 16) u_1 hu_2) (va_cwS 1 hts gX10_seekTales_X10_ones rfl rfl rfl (by decide +kernel) ⟨Nat.le_of_ble_eq_true rfl, Nat.le_of_ble_eq_true rfl⟩) hP hD hS [] [0, 1, 2, 3, 4, 5] rfl rfl rfl rfl rfl (by decide) hl.1 rfl rfl (Nat.le_of_ble_eq_true rfl) ⟨Nat.zero_le _, Nat.zero_le _⟩ dX10_seekTales_24 ?_
    intro H locs hP hD hS
    refine lv_isub hx hb dX10_seekTales_27 ?_
    refine lv_icmp_gt (tgt := 50) hx hb dX10_seekTales_28 (by decide) (fun c_3 => ?_) (fun c_3 => ?_)
    · have hF := it_p c_3 hF
      exact hKx o_t f_t_25 f_t_26 f_t_27 _ _ _ hF (hP.sub [0, 1, 2, 3, 4, 5] rfl) (hD.sub [0, 1, 2, 3, 4, 5] rfl rfl) hS (lv_sub hl [0] rfl)
    · have hF := it_n c_3 hF
      refine lv_aload_n hx hb dX10_seekTales_31 rfl (lv_at hl 0 rfl) ?_
      refine lv_iconst (v := (0 : Int32)) hx hb dX10_seekTales_32 (by decide) ?_
      refine lv_iload_n hx hb dX10_seekTales_33 rfl (lv_at hl 1 rfl) ?_
      refine lv_aload_n hx hb dX10_seekTales_34 rfl (lv_at hl 0 rfl) ?_
      refine va_get (D := g.1) (ci := 10) (v := .ref (p_t 17)) (C := RX10) (T := TX10) (N := 35) hx hb hts iX10_seekTales_X10 hown hK.1 hP 0 rfl rfl 17 (by decide) (hts _ kX10_seekTales_26) (fun _ h9 => h9) rfl dX10_seekTales_35 ?_
      refine lv_bipush (v := (16 : Int32)) hx hb dX10_seekTales_38 (by decide) ?_
      refine va_iald_k (j := 16) hx hb hK.1 hP 2 0 rfl rfl (by unfold vp_in; decide) rfl dX10_seekTales_40 ?_
      obtain ⟨u_4, u_5, u_6, u_7, hu_8, hF⟩ := ob4_some hF
      refine call_v (wr := []) (As := [.int (0 : Int32), .int x1, .int (f_t_17 16)]) (rest := []) (ci := 10) (q0 := 0) C0 (mX10_tryTales l g a_t p_t n 10 (0 : Int32) x1 (f_t_17 16) o_t f_t_15 f_t_17 f_t_25 f_t_26 f_t_27 u_4 u_5 u_6 u_7 hu_8) (cwV 3 hts gX10_seekTales_X10_tryTales rfl rfl rfl (by decide +kernel) ⟨Nat.le_of_ble_eq_true rfl, Nat.le_of_ble_eq_true rfl⟩) hP hD hS [0, 1, 2, 3, 4, 5] [] rfl rfl rfl rfl rfl (by decide) rfl rfl hl.1 rfl rfl (Nat.le_of_ble_eq_true rfl) ⟨Nat.zero_le _, Nat.zero_le _⟩ dX10_seekTales_41 ?_
      intro H locs hP hD hS
      refine lv_iinc (v := (x1 + (1 : Int32))) (lv' := [(1, .int (x1 + (1 : Int32))), (0, .ref a_t)]) hx hb dX10_seekTales_44 hl (k := 1) rfl rfl (by decide) rfl (fun ls hl => ?_)
      refine lv_goto (tgt := 9) hx hb dX10_seekTales_47 (by decide) ?_
      exact ih (x1 + (1 : Int32)) u_4 u_5 u_6 u_7 hF _ _ _ (hP.sub [0, 1, 2, 3, 4, 5] rfl) (hD.sub [0, 1, 2, 3, 4, 5] rfl rfl) hS (lv_sub hl [1, 0] rfl)
set_option maxHeartbeats 4000000 in
set_option maxRecDepth 100000 in
theorem mX10_seekTales (l : Launch) (g : GG) (a_t : Nat) (p_t : Nat → Nat) (n : Nat) (o_t : Nat → Int32) (f_t_15 : Nat → Int32) (f_t_17 : Nat → Int32) (f_t_25 : Nat → Int32) (f_t_26 : Nat → Int32) (f_t_27 : Nat → Int32) (r : Int32) (o_t' : Nat → Int32) (f_t_25' : Nat → Int32) (f_t_26' : Nat → Int32) (f_t_27' : Nat → Int32) (hF : fX10_seekTales n o_t f_t_15 f_t_17 f_t_25 f_t_26 f_t_27 = some (r, o_t', f_t_25', f_t_26', f_t_27')) : MI l g yX10_seekTales wsX10_seekTales ({ frames := 17, cells := 0, slots := 0, locals := 404 } : Room) [.ref a_t] [oX10 a_t p_t o_t, aI g (p_t 15) 266 f_t_15, aI g (p_t 17) 17 f_t_17, aI g (p_t 25) 17 f_t_25, aI g (p_t 26) 4 f_t_26, aI g (p_t 27) 4 f_t_27] r [oX10 a_t p_t o_t', aI g (p_t 15) 266 f_t_15, aI g (p_t 17) 17 f_t_17, aI g (p_t 25) 17 f_t_25', aI g (p_t 26) 4 f_t_26', aI g (p_t 27) 4 f_t_27'] := by
  refine MI.of (cc := cX10_seekTales) (maxL := 2) (rt := .boolean) (own := RX10) rfl rfl (by decide) (Nat.le_of_ble_eq_true rfl) ?_
  intro p e s m args below meth c A C0 hP hD hS ls hl
  obtain ⟨hx, hb, hml, hown, hts, hr, hlk, hK, hA, hSW⟩ := id C0
  have hl : lv_has ls 2 [(0, .ref a_t)] := hl
  rw [fX10_seekTales] at hF
  refine lv_aload_n hx hb dX10_seekTales_0 rfl (lv_at hl 0 rfl) ?_
  refine lv_ldcw (v := (1000000 : Int32)) hx hb hown (hts _ kX10_seekTales_321) dX10_seekTales_1 ?_
  refine va_put (D := g.1) (ci := 10) (v := .int (1000000 : Int32)) (ty := .int) (C := RX10) (T := TX10) (N := 35) hx hb hts iX10_seekTales_X10 tyX10 tyX10_ok nmX10 hown hK.1 hP hD hS 0 rfl rfl 29 (by decide) (hts _ kX10_seekTales_330) (fun _ h9 => h9) rfl (by decide +kernel) rfl rfl (Nat.le_of_ble_eq_true rfl) dX10_seekTales_4 (fun H locs hP hD hS => ?_)
  have hP : va_P g.1 vwCl [oX10 a_t p_t (upd o_t 29 (1000000 : Int32)), aI g (p_t 15) 266 f_t_15, aI g (p_t 17) 17 f_t_17, aI g (p_t 25) 17 f_t_25, aI g (p_t 26) 4 f_t_26, aI g (p_t 27) 4 f_t_27] H := hP
  have hD : va_D A [oX10 a_t p_t (upd o_t 29 (1000000 : Int32)), aI g (p_t 15) 266 f_t_15, aI g (p_t 17) 17 f_t_17, aI g (p_t 25) 17 f_t_25, aI g (p_t 26) 4 f_t_26, aI g (p_t 27) 4 f_t_27] := hD
  refine lv_iconst (v := (0 : Int32)) hx hb dX10_seekTales_7 (by decide) ?_
  refine lv_istore_n (lv' := [(1, .int (0 : Int32)), (0, .ref a_t)]) hx hb dX10_seekTales_8 rfl hl (by decide) rfl (fun ls hl => ?_)
  refine wX10_seekTales_L9 C0 a_t p_t n f_t_15 f_t_17 r o_t' f_t_25' f_t_26' f_t_27' _ ?_ n (0 : Int32) (upd o_t 29 (1000000 : Int32)) f_t_25 f_t_26 f_t_27 hF _ _ _ (hP.sub [0, 1, 2, 3, 4, 5] rfl) (hD.sub [0, 1, 2, 3, 4, 5] rfl rfl) hS (lv_sub hl [1, 0] rfl)
  · intro o_t_x9 f_t_25_x9 f_t_26_x9 f_t_27_x9 H locs ls hF hP hD hS hl
    refine lv_aload_n hx hb dX10_seekTales_50 rfl (lv_at hl 0 rfl) ?_
    refine va_get (D := g.1) (ci := 10) (v := .int (o_t_x9 29)) (C := RX10) (T := TX10) (N := 35) hx hb hts iX10_seekTales_X10 hown hK.1 hP 0 rfl rfl 29 (by decide) (hts _ kX10_seekTales_330) (fun _ h9 => h9) rfl dX10_seekTales_51 ?_
    refine lv_ldcw (v := (1000000 : Int32)) hx hb hown (hts _ kX10_seekTales_321) dX10_seekTales_54 ?_
    refine lv_icmp_ge (tgt := 64) hx hb dX10_seekTales_57 (by decide) (fun c_9 => ?_) (fun c_9 => ?_)
    · have hF := it_p c_9 hF
      refine lv_iconst (v := (0 : Int32)) hx hb dX10_seekTales_64 (by decide) ?_
      cases hF
      exact ret_z C0 hP hD hS [0, 1, 2, 3, 4, 5] rfl rfl rfl dX10_seekTales_65 rfl rfl
    · have hF := it_n c_9 hF
      refine lv_iconst (v := (1 : Int32)) hx hb dX10_seekTales_60 (by decide) ?_
      refine lv_goto (tgt := 65) hx hb dX10_seekTales_61 (by decide) ?_
      cases hF
      exact ret_z C0 hP hD hS [0, 1, 2, 3, 4, 5] rfl rfl rfl dX10_seekTales_65 rfl rfl

theorem dAX10_soonest : ∀ q ∈ ([(0, (.aload_n 0, 1)), (1, (.invokevirtual 159, 3)), (4, (.aload_n 0, 1)), (5, (.getfield 176, 3)), (8, (.ifCond .ne 9, 3)), (11, (.aload_n 0, 1)), (12, (.iconst 1, 1)), (13, (.invokevirtual 162, 3)), (16, (.ireturn, 1)), (17, (.aload_n 0, 1)), (18, (.invokevirtual 340, 3)), (21, (.ifCond .eq 10, 3)), (24, (.aload_n 0, 1)), (25, (.getfield 330, 3)), (28, (.goto 5, 3)), (31, (.bipush (-2), 2)), (33, (.ireturn, 1))] : List (Nat × (Instr × Nat))), decode cX10_soonest q.1 = .ok q.2 := by decide +kernel
theorem dX10_soonest_0 : decode cX10_soonest 0 = .ok (.aload_n 0, 1) := dAX10_soonest (0, (.aload_n 0, 1)) (List.mem_of_getElem? (i := 0) rfl)
theorem dX10_soonest_1 : decode cX10_soonest 1 = .ok (.invokevirtual 159, 3) := dAX10_soonest (1, (.invokevirtual 159, 3)) (List.mem_of_getElem? (i := 1) rfl)
theorem dX10_soonest_4 : decode cX10_soonest 4 = .ok (.aload_n 0, 1) := dAX10_soonest (4, (.aload_n 0, 1)) (List.mem_of_getElem? (i := 2) rfl)
theorem dX10_soonest_5 : decode cX10_soonest 5 = .ok (.getfield 176, 3) := dAX10_soonest (5, (.getfield 176, 3)) (List.mem_of_getElem? (i := 3) rfl)
theorem dX10_soonest_8 : decode cX10_soonest 8 = .ok (.ifCond .ne 9, 3) := dAX10_soonest (8, (.ifCond .ne 9, 3)) (List.mem_of_getElem? (i := 4) rfl)
theorem dX10_soonest_11 : decode cX10_soonest 11 = .ok (.aload_n 0, 1) := dAX10_soonest (11, (.aload_n 0, 1)) (List.mem_of_getElem? (i := 5) rfl)
theorem dX10_soonest_12 : decode cX10_soonest 12 = .ok (.iconst 1, 1) := dAX10_soonest (12, (.iconst 1, 1)) (List.mem_of_getElem? (i := 6) rfl)
theorem dX10_soonest_13 : decode cX10_soonest 13 = .ok (.invokevirtual 162, 3) := dAX10_soonest (13, (.invokevirtual 162, 3)) (List.mem_of_getElem? (i := 7) rfl)
theorem dX10_soonest_16 : decode cX10_soonest 16 = .ok (.ireturn, 1) := dAX10_soonest (16, (.ireturn, 1)) (List.mem_of_getElem? (i := 8) rfl)
theorem dX10_soonest_17 : decode cX10_soonest 17 = .ok (.aload_n 0, 1) := dAX10_soonest (17, (.aload_n 0, 1)) (List.mem_of_getElem? (i := 9) rfl)
theorem dX10_soonest_18 : decode cX10_soonest 18 = .ok (.invokevirtual 340, 3) := dAX10_soonest (18, (.invokevirtual 340, 3)) (List.mem_of_getElem? (i := 10) rfl)
theorem dX10_soonest_21 : decode cX10_soonest 21 = .ok (.ifCond .eq 10, 3) := dAX10_soonest (21, (.ifCond .eq 10, 3)) (List.mem_of_getElem? (i := 11) rfl)
theorem dX10_soonest_24 : decode cX10_soonest 24 = .ok (.aload_n 0, 1) := dAX10_soonest (24, (.aload_n 0, 1)) (List.mem_of_getElem? (i := 12) rfl)
theorem dX10_soonest_25 : decode cX10_soonest 25 = .ok (.getfield 330, 3) := dAX10_soonest (25, (.getfield 330, 3)) (List.mem_of_getElem? (i := 13) rfl)
theorem dX10_soonest_28 : decode cX10_soonest 28 = .ok (.goto 5, 3) := dAX10_soonest (28, (.goto 5, 3)) (List.mem_of_getElem? (i := 14) rfl)
theorem dX10_soonest_31 : decode cX10_soonest 31 = .ok (.bipush (-2), 2) := dAX10_soonest (31, (.bipush (-2), 2)) (List.mem_of_getElem? (i := 15) rfl)
theorem dX10_soonest_33 : decode cX10_soonest 33 = .ok (.ireturn, 1) := dAX10_soonest (33, (.ireturn, 1)) (List.mem_of_getElem? (i := 16) rfl)
set_option maxRecDepth 20000 in
theorem ggX10_soonest_X10_good : GoodIn wsX10_soonest wsX10_good := goodIn_r _ [7, 8, 9, 93, 94, 95, 96, 97, 98, 99, 100, 101, 102, 103, 104, 105, 106, 107, 108, 109, 110, 111, 112, 113, 114, 115, 116, 117, 118, 119, 120, 121, 122, 123, 124, 125, 126, 127] rfl (by decide +kernel)
set_option maxRecDepth 20000 in
theorem gX10_soonest_X10_good : GoodIn wsX10_soonest (wsV RX10 159 RX10 yX10_good wsX10_good) := goodIn_app (goodIn_of _ (by decide +kernel)) ggX10_soonest_X10_good
set_option maxRecDepth 20000 in
theorem ggX10_soonest_X10_no : GoodIn wsX10_soonest wsX10_no := goodIn_r _ [13, 9, 93, 94, 95, 96, 97, 98, 99, 100, 101, 102, 103, 104, 105, 106, 107, 108, 109, 110, 111, 112, 113, 114, 115, 116, 117, 118, 119, 120, 121, 122, 123, 124, 125, 126, 127] rfl (by decide +kernel)
set_option maxRecDepth 20000 in
theorem gX10_soonest_X10_no : GoodIn wsX10_soonest (wsV RX10 162 RX10 yX10_no wsX10_no) := goodIn_app (goodIn_of _ (by decide +kernel)) ggX10_soonest_X10_no
set_option maxRecDepth 20000 in
theorem ggX10_soonest_X10_seekTales : GoodIn wsX10_soonest wsX10_seekTales := goodIn_r _ [17, 18, 2, 19, 20, 21, 22, 6, 23, 24, 25, 26, 27, 28, 29, 30, 31, 32, 33, 34, 35, 36, 37, 38, 39, 40, 41, 42, 43, 44, 45, 46, 47, 48, 49, 50, 51, 52, 53, 54, 55, 56, 57, 58, 59, 60, 61, 62, 63, 64, 65, 66, 67, 68, 69, 70, 71, 72, 73, 74, 75, 76, 77, 78, 79, 80, 81, 82, 83, 84, 85, 86, 87, 88, 89, 90, 91, 92, 93, 94, 95, 96, 97, 98, 99, 100, 101, 102, 103, 104, 105, 106, 107, 108, 109, 110, 111, 112, 113, 114, 115, 116, 117, 118, 119, 120, 121, 122, 123, 124, 125, 126, 127] rfl (by decide +kernel)
set_option maxRecDepth 20000 in
theorem gX10_soonest_X10_seekTales : GoodIn wsX10_soonest (wsV RX10 340 RX10 yX10_seekTales wsX10_seekTales) := goodIn_app (goodIn_of _ (by decide +kernel)) ggX10_soonest_X10_seekTales
theorem kX10_soonest_176 : Cond.fieldLink RX10 176 "EveningVowModel" "hasEvening" "Z" ∈ wsX10_soonest := List.mem_of_getElem? (i := 1) rfl
theorem iX10_soonest_X10 : ∀ w ∈ u_ws RX10 TX10 35, w ∈ wsX10_soonest := fun w h => (List.mem_cons_of_mem _ (List.mem_append_right _ h))
theorem kX10_soonest_330 : Cond.fieldLink RX10 330 "EveningVowModel" "soonestOf" "I" ∈ wsX10_soonest := List.mem_of_getElem? (i := 2) rfl
set_option maxHeartbeats 4000000 in
set_option maxRecDepth 100000 in
theorem mX10_soonest (l : Launch) (g : GG) (a_t : Nat) (p_t : Nat → Nat) (n : Nat) (o_t : Nat → Int32) (f_t_15 : Nat → Int32) (f_t_17 : Nat → Int32) (f_t_25 : Nat → Int32) (f_t_26 : Nat → Int32) (f_t_27 : Nat → Int32) (r : Int32) (o_t' : Nat → Int32) (f_t_25' : Nat → Int32) (f_t_26' : Nat → Int32) (f_t_27' : Nat → Int32) (hF : fX10_soonest n o_t f_t_15 f_t_17 f_t_25 f_t_26 f_t_27 = some (r, o_t', f_t_25', f_t_26', f_t_27')) : MI l g yX10_soonest wsX10_soonest ({ frames := 18, cells := 0, slots := 0, locals := 425 } : Room) [.ref a_t] [oX10 a_t p_t o_t, aI g (p_t 15) 266 f_t_15, aI g (p_t 17) 17 f_t_17, aI g (p_t 25) 17 f_t_25, aI g (p_t 26) 4 f_t_26, aI g (p_t 27) 4 f_t_27] r [oX10 a_t p_t o_t', aI g (p_t 15) 266 f_t_15, aI g (p_t 17) 17 f_t_17, aI g (p_t 25) 17 f_t_25', aI g (p_t 26) 4 f_t_26', aI g (p_t 27) 4 f_t_27'] := by
  refine MI.of (cc := cX10_soonest) (maxL := 1) (rt := .int) (own := RX10) rfl rfl (by decide) (Nat.le_of_ble_eq_true rfl) ?_
  intro p e s m args below meth c A C0 hP hD hS ls hl
  obtain ⟨hx, hb, hml, hown, hts, hr, hlk, hK, hA, hSW⟩ := id C0
  have hl : lv_has ls 1 [(0, .ref a_t)] := hl
  rw [fX10_soonest] at hF
  refine lv_aload_n hx hb dX10_soonest_0 rfl (lv_at hl 0 rfl) ?_
  obtain ⟨u_1, hu_2, hF⟩ := ob1_some hF
  refine call_v (wr := [aI g (p_t 15) 266 f_t_15, aI g (p_t 17) 17 f_t_17, aI g (p_t 25) 17 f_t_25, aI g (p_t 26) 4 f_t_26, aI g (p_t 27) 4 f_t_27]) (As := []) (rest := []) (ci := 10) (q0 := 0) C0 (mX10_good l g a_t p_t n o_t u_1 hu_2) (cwV 0 hts gX10_soonest_X10_good rfl rfl rfl (by decide +kernel) ⟨Nat.le_of_ble_eq_true rfl, Nat.le_of_ble_eq_true rfl⟩) hP hD hS [0] [1, 2, 3, 4, 5] rfl rfl rfl rfl rfl (by decide) rfl rfl hl.1 rfl rfl (Nat.le_of_ble_eq_true rfl) ⟨Nat.zero_le _, Nat.zero_le _⟩ dX10_soonest_1 ?_
  intro H locs hP hD hS
  refine lv_aload_n hx hb dX10_soonest_4 rfl (lv_at hl 0 rfl) ?_
  refine va_get (D := g.1) (ci := 10) (v := .int (u_1 14)) (C := RX10) (T := TX10) (N := 35) hx hb hts iX10_soonest_X10 hown hK.1 hP 5 rfl rfl 14 (by decide) (hts _ kX10_soonest_176) (fun _ h9 => h9) rfl dX10_soonest_5 ?_
  refine lv_if_ne (tgt := 17) hx hb dX10_soonest_8 (by decide) (fun c_3 => ?_) (fun c_3 => ?_)
  · have hF := it_n c_3 hF
    refine lv_aload_n hx hb dX10_soonest_17 rfl (lv_at hl 0 rfl) ?_
    obtain ⟨u_4, u_5, u_6, u_7, u_8, hu_9, hF⟩ := ob5_some hF
    refine call_i (wr := []) (As := []) (rest := []) (ci := 10) (q0 := 0) C0 (mX10_seekTales l g a_t p_t n u_1 f_t_15 f_t_17 f_t_25 f_t_26 f_t_27 u_4 u_5 u_6 u_7 u_8 hu_9) (cwV 0 hts gX10_soonest_X10_seekTales rfl rfl rfl (by decide +kernel) ⟨Nat.le_of_ble_eq_true rfl, Nat.le_of_ble_eq_true rfl⟩) hP hD hS [5, 0, 1, 2, 3, 4] [] rfl rfl rfl rfl rfl (by decide) rfl rfl hl.1 rfl rfl (Nat.le_of_ble_eq_true rfl) ⟨Nat.zero_le _, Nat.zero_le _⟩ dX10_soonest_18 ?_
    intro H locs hP hD hS
    refine lv_if_eq (tgt := 31) hx hb dX10_soonest_21 (by decide) (fun c_10 => ?_) (fun c_10 => ?_)
    · have hF := it_p c_10 hF
      refine lv_bipush (v := (-2 : Int32)) hx hb dX10_soonest_31 (by decide) ?_
      cases hF
      exact ret_i C0 hP hD hS [0, 1, 2, 3, 4, 5] rfl rfl rfl dX10_soonest_33 rfl
    · have hF := it_n c_10 hF
      refine lv_aload_n hx hb dX10_soonest_24 rfl (lv_at hl 0 rfl) ?_
      refine va_get (D := g.1) (ci := 10) (v := .int (u_5 29)) (C := RX10) (T := TX10) (N := 35) hx hb hts iX10_soonest_X10 hown hK.1 hP 0 rfl rfl 29 (by decide) (hts _ kX10_soonest_330) (fun _ h9 => h9) rfl dX10_soonest_25 ?_
      refine lv_goto (tgt := 33) hx hb dX10_soonest_28 (by decide) ?_
      cases hF
      exact ret_i C0 hP hD hS [0, 1, 2, 3, 4, 5] rfl rfl rfl dX10_soonest_33 rfl
  · have hF := it_p c_3 hF
    refine lv_aload_n hx hb dX10_soonest_11 rfl (lv_at hl 0 rfl) ?_
    refine lv_iconst (v := (1 : Int32)) hx hb dX10_soonest_12 (by decide) ?_
    obtain ⟨u_11, u_12, hu_13, hF⟩ := ob2_some hF
    refine call_i (wr := [aI g (p_t 15) 266 f_t_15, aI g (p_t 17) 17 f_t_17, aI g (p_t 25) 17 f_t_25, aI g (p_t 26) 4 f_t_26, aI g (p_t 27) 4 f_t_27]) (As := [.int (1 : Int32)]) (rest := []) (ci := 10) (q0 := 0) C0 (mX10_no l g a_t p_t n (1 : Int32) u_1 u_11 u_12 hu_13) (cwV 1 hts gX10_soonest_X10_no rfl rfl rfl (by decide +kernel) ⟨Nat.le_of_ble_eq_true rfl, Nat.le_of_ble_eq_true rfl⟩) hP hD hS [5] [0, 1, 2, 3, 4] rfl rfl rfl rfl rfl (by decide) rfl rfl hl.1 rfl rfl (Nat.le_of_ble_eq_true rfl) ⟨Nat.zero_le _, Nat.zero_le _⟩ dX10_soonest_13 ?_
    intro H locs hP hD hS
    cases hF
    exact ret_i C0 hP hD hS [5, 0, 1, 2, 3, 4] rfl rfl rfl dX10_soonest_16 rfl

theorem dAX10_taleAt : ∀ q ∈ ([(0, (.aload_n 0, 1)), (1, (.invokevirtual 159, 3)), (4, (.aload_n 0, 1)), (5, (.getfield 176, 3)), (8, (.ifCond .ne 9, 3)), (11, (.aload_n 0, 1)), (12, (.iconst 1, 1)), (13, (.invokevirtual 162, 3)), (16, (.ireturn, 1)), (17, (.aload_n 0, 1)), (18, (.invokevirtual 340, 3)), (21, (.ifCond .ne 10, 3)), (24, (.aload_n 0, 1)), (25, (.bipush 6, 2)), (27, (.invokevirtual 162, 3)), (30, (.ireturn, 1)), (31, (.iload_n 1, 1)), (32, (.iconst 0, 1)), (33, (.aload_n 0, 1)), (34, (.getfield 333, 3)), (37, (.iconst 1, 1)), (38, (.isub, 1)), (39, (.invokestatic 144, 3)), (42, (.ifCond .eq 12, 3)), (45, (.aload_n 0, 1)), (46, (.getfield 41, 3)), (49, (.iload_n 1, 1)), (50, (.iaload, 1)), (51, (.goto 8, 3)), (54, (.aload_n 0, 1)), (55, (.iconst 1, 1)), (56, (.invokevirtual 162, 3)), (59, (.ireturn, 1))] : List (Nat × (Instr × Nat))), decode cX10_taleAt q.1 = .ok q.2 := by decide +kernel
theorem dX10_taleAt_0 : decode cX10_taleAt 0 = .ok (.aload_n 0, 1) := dAX10_taleAt (0, (.aload_n 0, 1)) (List.mem_of_getElem? (i := 0) rfl)
theorem dX10_taleAt_1 : decode cX10_taleAt 1 = .ok (.invokevirtual 159, 3) := dAX10_taleAt (1, (.invokevirtual 159, 3)) (List.mem_of_getElem? (i := 1) rfl)
theorem dX10_taleAt_4 : decode cX10_taleAt 4 = .ok (.aload_n 0, 1) := dAX10_taleAt (4, (.aload_n 0, 1)) (List.mem_of_getElem? (i := 2) rfl)
theorem dX10_taleAt_5 : decode cX10_taleAt 5 = .ok (.getfield 176, 3) := dAX10_taleAt (5, (.getfield 176, 3)) (List.mem_of_getElem? (i := 3) rfl)
theorem dX10_taleAt_8 : decode cX10_taleAt 8 = .ok (.ifCond .ne 9, 3) := dAX10_taleAt (8, (.ifCond .ne 9, 3)) (List.mem_of_getElem? (i := 4) rfl)
theorem dX10_taleAt_11 : decode cX10_taleAt 11 = .ok (.aload_n 0, 1) := dAX10_taleAt (11, (.aload_n 0, 1)) (List.mem_of_getElem? (i := 5) rfl)
theorem dX10_taleAt_12 : decode cX10_taleAt 12 = .ok (.iconst 1, 1) := dAX10_taleAt (12, (.iconst 1, 1)) (List.mem_of_getElem? (i := 6) rfl)
theorem dX10_taleAt_13 : decode cX10_taleAt 13 = .ok (.invokevirtual 162, 3) := dAX10_taleAt (13, (.invokevirtual 162, 3)) (List.mem_of_getElem? (i := 7) rfl)
theorem dX10_taleAt_16 : decode cX10_taleAt 16 = .ok (.ireturn, 1) := dAX10_taleAt (16, (.ireturn, 1)) (List.mem_of_getElem? (i := 8) rfl)
theorem dX10_taleAt_17 : decode cX10_taleAt 17 = .ok (.aload_n 0, 1) := dAX10_taleAt (17, (.aload_n 0, 1)) (List.mem_of_getElem? (i := 9) rfl)
theorem dX10_taleAt_18 : decode cX10_taleAt 18 = .ok (.invokevirtual 340, 3) := dAX10_taleAt (18, (.invokevirtual 340, 3)) (List.mem_of_getElem? (i := 10) rfl)
theorem dX10_taleAt_21 : decode cX10_taleAt 21 = .ok (.ifCond .ne 10, 3) := dAX10_taleAt (21, (.ifCond .ne 10, 3)) (List.mem_of_getElem? (i := 11) rfl)
theorem dX10_taleAt_24 : decode cX10_taleAt 24 = .ok (.aload_n 0, 1) := dAX10_taleAt (24, (.aload_n 0, 1)) (List.mem_of_getElem? (i := 12) rfl)
theorem dX10_taleAt_25 : decode cX10_taleAt 25 = .ok (.bipush 6, 2) := dAX10_taleAt (25, (.bipush 6, 2)) (List.mem_of_getElem? (i := 13) rfl)
theorem dX10_taleAt_27 : decode cX10_taleAt 27 = .ok (.invokevirtual 162, 3) := dAX10_taleAt (27, (.invokevirtual 162, 3)) (List.mem_of_getElem? (i := 14) rfl)
theorem dX10_taleAt_30 : decode cX10_taleAt 30 = .ok (.ireturn, 1) := dAX10_taleAt (30, (.ireturn, 1)) (List.mem_of_getElem? (i := 15) rfl)
theorem dX10_taleAt_31 : decode cX10_taleAt 31 = .ok (.iload_n 1, 1) := dAX10_taleAt (31, (.iload_n 1, 1)) (List.mem_of_getElem? (i := 16) rfl)
theorem dX10_taleAt_32 : decode cX10_taleAt 32 = .ok (.iconst 0, 1) := dAX10_taleAt (32, (.iconst 0, 1)) (List.mem_of_getElem? (i := 17) rfl)
theorem dX10_taleAt_33 : decode cX10_taleAt 33 = .ok (.aload_n 0, 1) := dAX10_taleAt (33, (.aload_n 0, 1)) (List.mem_of_getElem? (i := 18) rfl)
theorem dX10_taleAt_34 : decode cX10_taleAt 34 = .ok (.getfield 333, 3) := dAX10_taleAt (34, (.getfield 333, 3)) (List.mem_of_getElem? (i := 19) rfl)
theorem dX10_taleAt_37 : decode cX10_taleAt 37 = .ok (.iconst 1, 1) := dAX10_taleAt (37, (.iconst 1, 1)) (List.mem_of_getElem? (i := 20) rfl)
theorem dX10_taleAt_38 : decode cX10_taleAt 38 = .ok (.isub, 1) := dAX10_taleAt (38, (.isub, 1)) (List.mem_of_getElem? (i := 21) rfl)
theorem dX10_taleAt_39 : decode cX10_taleAt 39 = .ok (.invokestatic 144, 3) := dAX10_taleAt (39, (.invokestatic 144, 3)) (List.mem_of_getElem? (i := 22) rfl)
theorem dX10_taleAt_42 : decode cX10_taleAt 42 = .ok (.ifCond .eq 12, 3) := dAX10_taleAt (42, (.ifCond .eq 12, 3)) (List.mem_of_getElem? (i := 23) rfl)
theorem dX10_taleAt_45 : decode cX10_taleAt 45 = .ok (.aload_n 0, 1) := dAX10_taleAt (45, (.aload_n 0, 1)) (List.mem_of_getElem? (i := 24) rfl)
theorem dX10_taleAt_46 : decode cX10_taleAt 46 = .ok (.getfield 41, 3) := dAX10_taleAt (46, (.getfield 41, 3)) (List.mem_of_getElem? (i := 25) rfl)
theorem dX10_taleAt_49 : decode cX10_taleAt 49 = .ok (.iload_n 1, 1) := dAX10_taleAt (49, (.iload_n 1, 1)) (List.mem_of_getElem? (i := 26) rfl)
theorem dX10_taleAt_50 : decode cX10_taleAt 50 = .ok (.iaload, 1) := dAX10_taleAt (50, (.iaload, 1)) (List.mem_of_getElem? (i := 27) rfl)
theorem dX10_taleAt_51 : decode cX10_taleAt 51 = .ok (.goto 8, 3) := dAX10_taleAt (51, (.goto 8, 3)) (List.mem_of_getElem? (i := 28) rfl)
theorem dX10_taleAt_54 : decode cX10_taleAt 54 = .ok (.aload_n 0, 1) := dAX10_taleAt (54, (.aload_n 0, 1)) (List.mem_of_getElem? (i := 29) rfl)
theorem dX10_taleAt_55 : decode cX10_taleAt 55 = .ok (.iconst 1, 1) := dAX10_taleAt (55, (.iconst 1, 1)) (List.mem_of_getElem? (i := 30) rfl)
theorem dX10_taleAt_56 : decode cX10_taleAt 56 = .ok (.invokevirtual 162, 3) := dAX10_taleAt (56, (.invokevirtual 162, 3)) (List.mem_of_getElem? (i := 31) rfl)
theorem dX10_taleAt_59 : decode cX10_taleAt 59 = .ok (.ireturn, 1) := dAX10_taleAt (59, (.ireturn, 1)) (List.mem_of_getElem? (i := 32) rfl)
set_option maxRecDepth 20000 in
theorem ggX10_taleAt_X10_good : GoodIn wsX10_taleAt wsX10_good := goodIn_r _ [8, 9, 10, 96, 97, 98, 99, 100, 101, 102, 103, 104, 105, 106, 107, 108, 109, 110, 111, 112, 113, 114, 115, 116, 117, 118, 119, 120, 121, 122, 123, 124, 125, 126, 127, 128, 129, 130] rfl (by decide +kernel)
set_option maxRecDepth 20000 in
theorem gX10_taleAt_X10_good : GoodIn wsX10_taleAt (wsV RX10 159 RX10 yX10_good wsX10_good) := goodIn_app (goodIn_of _ (by decide +kernel)) ggX10_taleAt_X10_good
set_option maxRecDepth 20000 in
theorem ggX10_taleAt_X10_no : GoodIn wsX10_taleAt wsX10_no := goodIn_r _ [14, 10, 96, 97, 98, 99, 100, 101, 102, 103, 104, 105, 106, 107, 108, 109, 110, 111, 112, 113, 114, 115, 116, 117, 118, 119, 120, 121, 122, 123, 124, 125, 126, 127, 128, 129, 130] rfl (by decide +kernel)
set_option maxRecDepth 20000 in
theorem gX10_taleAt_X10_no : GoodIn wsX10_taleAt (wsV RX10 162 RX10 yX10_no wsX10_no) := goodIn_app (goodIn_of _ (by decide +kernel)) ggX10_taleAt_X10_no
set_option maxRecDepth 20000 in
theorem ggX10_taleAt_X10_seekTales : GoodIn wsX10_taleAt wsX10_seekTales := goodIn_r _ [18, 19, 20, 21, 22, 23, 24, 7, 25, 26, 27, 28, 29, 2, 30, 3, 31, 32, 33, 34, 35, 36, 37, 38, 39, 40, 41, 42, 43, 44, 45, 46, 47, 48, 49, 50, 51, 52, 53, 54, 55, 56, 57, 58, 59, 60, 61, 62, 63, 64, 65, 66, 67, 68, 69, 70, 71, 72, 73, 74, 75, 76, 77, 78, 79, 80, 81, 82, 83, 84, 85, 86, 87, 88, 89, 90, 91, 92, 96, 97, 98, 99, 100, 101, 102, 103, 104, 105, 106, 107, 108, 109, 110, 111, 112, 113, 114, 115, 116, 117, 118, 119, 120, 121, 122, 123, 124, 125, 126, 127, 128, 129, 130] rfl (by decide +kernel)
set_option maxRecDepth 20000 in
theorem gX10_taleAt_X10_seekTales : GoodIn wsX10_taleAt (wsV RX10 340 RX10 yX10_seekTales wsX10_seekTales) := goodIn_app (goodIn_of _ (by decide +kernel)) ggX10_taleAt_X10_seekTales
set_option maxRecDepth 20000 in
theorem ggX10_taleAt_X10_in : GoodIn wsX10_taleAt wsX10_in := goodIn_r _ [95] rfl (by decide +kernel)
set_option maxRecDepth 20000 in
theorem gX10_taleAt_X10_in : GoodIn wsX10_taleAt (va_wsS RX10 144 yX10_in wsX10_in) := goodIn_app (goodIn_of _ (by decide +kernel)) ggX10_taleAt_X10_in
theorem kX10_taleAt_176 : Cond.fieldLink RX10 176 "EveningVowModel" "hasEvening" "Z" ∈ wsX10_taleAt := List.mem_of_getElem? (i := 1) rfl
theorem iX10_taleAt_X10 : ∀ w ∈ u_ws RX10 TX10 35, w ∈ wsX10_taleAt := fun w h => (List.mem_cons_of_mem _ (List.mem_append_right _ h))
theorem kX10_taleAt_333 : Cond.fieldLink RX10 333 "EveningVowModel" "taleMany" "I" ∈ wsX10_taleAt := List.mem_of_getElem? (i := 2) rfl
theorem kX10_taleAt_41 : Cond.fieldLink RX10 41 "EveningVowModel" "bestTales" "[I" ∈ wsX10_taleAt := List.mem_of_getElem? (i := 3) rfl
set_option maxHeartbeats 4000000 in
set_option maxRecDepth 100000 in
theorem mX10_taleAt (l : Launch) (g : GG) (a_t : Nat) (p_t : Nat → Nat) (n : Nat) (x1 : Int32) (o_t : Nat → Int32) (f_t_15 : Nat → Int32) (f_t_17 : Nat → Int32) (f_t_25 : Nat → Int32) (f_t_26 : Nat → Int32) (f_t_27 : Nat → Int32) (r : Int32) (o_t' : Nat → Int32) (f_t_25' : Nat → Int32) (f_t_26' : Nat → Int32) (f_t_27' : Nat → Int32) (hF : fX10_taleAt n x1 o_t f_t_15 f_t_17 f_t_25 f_t_26 f_t_27 = some (r, o_t', f_t_25', f_t_26', f_t_27')) : MI l g yX10_taleAt wsX10_taleAt ({ frames := 18, cells := 0, slots := 0, locals := 425 } : Room) [.ref a_t, .int x1] [oX10 a_t p_t o_t, aI g (p_t 15) 266 f_t_15, aI g (p_t 17) 17 f_t_17, aI g (p_t 25) 17 f_t_25, aI g (p_t 26) 4 f_t_26, aI g (p_t 27) 4 f_t_27] r [oX10 a_t p_t o_t', aI g (p_t 15) 266 f_t_15, aI g (p_t 17) 17 f_t_17, aI g (p_t 25) 17 f_t_25', aI g (p_t 26) 4 f_t_26', aI g (p_t 27) 4 f_t_27'] := by
  refine MI.of (cc := cX10_taleAt) (maxL := 2) (rt := .int) (own := RX10) rfl rfl (by decide) (Nat.le_of_ble_eq_true rfl) ?_
  intro p e s m args below meth c A C0 hP hD hS ls hl
  obtain ⟨hx, hb, hml, hown, hts, hr, hlk, hK, hA, hSW⟩ := id C0
  have hl : lv_has ls 2 [(0, .ref a_t), (1, .int x1)] := hl
  rw [fX10_taleAt] at hF
  refine lv_aload_n hx hb dX10_taleAt_0 rfl (lv_at hl 0 rfl) ?_
  obtain ⟨u_1, hu_2, hF⟩ := ob1_some hF
  refine call_v (wr := [aI g (p_t 15) 266 f_t_15, aI g (p_t 17) 17 f_t_17, aI g (p_t 25) 17 f_t_25, aI g (p_t 26) 4 f_t_26, aI g (p_t 27) 4 f_t_27]) (As := []) (rest := []) (ci := 10) (q0 := 0) C0 (mX10_good l g a_t p_t n o_t u_1 hu_2) (cwV 0 hts gX10_taleAt_X10_good rfl rfl rfl (by decide +kernel) ⟨Nat.le_of_ble_eq_true rfl, Nat.le_of_ble_eq_true rfl⟩) hP hD hS [0] [1, 2, 3, 4, 5] rfl rfl rfl rfl rfl (by decide) rfl rfl hl.1 rfl rfl (Nat.le_of_ble_eq_true rfl) ⟨Nat.zero_le _, Nat.zero_le _⟩ dX10_taleAt_1 ?_
  intro H locs hP hD hS
  refine lv_aload_n hx hb dX10_taleAt_4 rfl (lv_at hl 0 rfl) ?_
  refine va_get (D := g.1) (ci := 10) (v := .int (u_1 14)) (C := RX10) (T := TX10) (N := 35) hx hb hts iX10_taleAt_X10 hown hK.1 hP 5 rfl rfl 14 (by decide) (hts _ kX10_taleAt_176) (fun _ h9 => h9) rfl dX10_taleAt_5 ?_
  refine lv_if_ne (tgt := 17) hx hb dX10_taleAt_8 (by decide) (fun c_3 => ?_) (fun c_3 => ?_)
  · have hF := it_n c_3 hF
    refine lv_aload_n hx hb dX10_taleAt_17 rfl (lv_at hl 0 rfl) ?_
    obtain ⟨u_4, u_5, u_6, u_7, u_8, hu_9, hF⟩ := ob5_some hF
    refine call_i (wr := []) (As := []) (rest := []) (ci := 10) (q0 := 0) C0 (mX10_seekTales l g a_t p_t n u_1 f_t_15 f_t_17 f_t_25 f_t_26 f_t_27 u_4 u_5 u_6 u_7 u_8 hu_9) (cwV 0 hts gX10_taleAt_X10_seekTales rfl rfl rfl (by decide +kernel) ⟨Nat.le_of_ble_eq_true rfl, Nat.le_of_ble_eq_true rfl⟩) hP hD hS [5, 0, 1, 2, 3, 4] [] rfl rfl rfl rfl rfl (by decide) rfl rfl hl.1 rfl rfl (Nat.le_of_ble_eq_true rfl) ⟨Nat.zero_le _, Nat.zero_le _⟩ dX10_taleAt_18 ?_
    intro H locs hP hD hS
    refine lv_if_ne (tgt := 31) hx hb dX10_taleAt_21 (by decide) (fun c_10 => ?_) (fun c_10 => ?_)
    · have hF := it_n c_10 hF
      refine lv_iload_n hx hb dX10_taleAt_31 rfl (lv_at hl 1 rfl) ?_
      refine lv_iconst (v := (0 : Int32)) hx hb dX10_taleAt_32 (by decide) ?_
      refine lv_aload_n hx hb dX10_taleAt_33 rfl (lv_at hl 0 rfl) ?_
      refine va_get (D := g.1) (ci := 10) (v := .int (u_5 28)) (C := RX10) (T := TX10) (N := 35) hx hb hts iX10_taleAt_X10 hown hK.1 hP 0 rfl rfl 28 (by decide) (hts _ kX10_taleAt_333) (fun _ h9 => h9) rfl dX10_taleAt_34 ?_
      refine lv_iconst (v := (1 : Int32)) hx hb dX10_taleAt_37 (by decide) ?_
      refine lv_isub hx hb dX10_taleAt_38 ?_
      obtain ⟨u_11, hu_12, hF⟩ := ob1_some hF
      refine call_si (wr := [oX10 a_t p_t u_5, aI g (p_t 15) 266 f_t_15, aI g (p_t 17) 17 f_t_17, aI g (p_t 25) 17 u_6, aI g (p_t 26) 4 u_7, aI g (p_t 27) 4 u_8]) (As := [.int x1, .int (0 : Int32), .int ((u_5 28) - (1 : Int32))]) (rest := []) C0 (mX10_in l g n x1 (0 : Int32) ((u_5 28) - (1 : Int32)) u_11 hu_12) (va_cwS 3 hts gX10_taleAt_X10_in rfl rfl rfl (by decide +kernel) ⟨Nat.le_of_ble_eq_true rfl, Nat.le_of_ble_eq_true rfl⟩) hP hD hS [] [0, 1, 2, 3, 4, 5] rfl rfl rfl rfl rfl (by decide) hl.1 rfl rfl (Nat.le_of_ble_eq_true rfl) ⟨Nat.zero_le _, Nat.zero_le _⟩ dX10_taleAt_39 ?_
      intro H locs hP hD hS
      refine lv_if_eq (tgt := 54) hx hb dX10_taleAt_42 (by decide) (fun c_13 => ?_) (fun c_13 => ?_)
      · have hF := it_p c_13 hF
        refine lv_aload_n hx hb dX10_taleAt_54 rfl (lv_at hl 0 rfl) ?_
        refine lv_iconst (v := (1 : Int32)) hx hb dX10_taleAt_55 (by decide) ?_
        obtain ⟨u_14, u_15, hu_16, hF⟩ := ob2_some hF
        refine call_i (wr := [aI g (p_t 15) 266 f_t_15, aI g (p_t 17) 17 f_t_17, aI g (p_t 25) 17 u_6, aI g (p_t 26) 4 u_7, aI g (p_t 27) 4 u_8]) (As := [.int (1 : Int32)]) (rest := []) (ci := 10) (q0 := 0) C0 (mX10_no l g a_t p_t n (1 : Int32) u_5 u_14 u_15 hu_16) (cwV 1 hts gX10_taleAt_X10_no rfl rfl rfl (by decide +kernel) ⟨Nat.le_of_ble_eq_true rfl, Nat.le_of_ble_eq_true rfl⟩) hP hD hS [0] [1, 2, 3, 4, 5] rfl rfl rfl rfl rfl (by decide) rfl rfl hl.1 rfl rfl (Nat.le_of_ble_eq_true rfl) ⟨Nat.zero_le _, Nat.zero_le _⟩ dX10_taleAt_56 ?_
        intro H locs hP hD hS
        cases hF
        exact ret_i C0 hP hD hS [5, 0, 1, 2, 3, 4] rfl rfl rfl dX10_taleAt_59 rfl
      · have hF := it_n c_13 hF
        refine lv_aload_n hx hb dX10_taleAt_45 rfl (lv_at hl 0 rfl) ?_
        refine va_get (D := g.1) (ci := 10) (v := .ref (p_t 27)) (C := RX10) (T := TX10) (N := 35) hx hb hts iX10_taleAt_X10 hown hK.1 hP 0 rfl rfl 27 (by decide) (hts _ kX10_taleAt_41) (fun _ h9 => h9) rfl dX10_taleAt_46 ?_
        refine lv_iload_n hx hb dX10_taleAt_49 rfl (lv_at hl 1 rfl) ?_
        obtain ⟨h_17, hF⟩ := it_ck hF
        refine va_iald hx hb hK.1 hP 5 0 rfl rfl h_17 dX10_taleAt_50 ?_
        refine lv_goto (tgt := 59) hx hb dX10_taleAt_51 (by decide) ?_
        cases hF
        exact ret_i C0 hP hD hS [0, 1, 2, 3, 4, 5] rfl rfl rfl dX10_taleAt_59 rfl
    · have hF := it_p c_10 hF
      refine lv_aload_n hx hb dX10_taleAt_24 rfl (lv_at hl 0 rfl) ?_
      refine lv_bipush (v := (6 : Int32)) hx hb dX10_taleAt_25 (by decide) ?_
      obtain ⟨u_18, u_19, hu_20, hF⟩ := ob2_some hF
      refine call_i (wr := [aI g (p_t 15) 266 f_t_15, aI g (p_t 17) 17 f_t_17, aI g (p_t 25) 17 u_6, aI g (p_t 26) 4 u_7, aI g (p_t 27) 4 u_8]) (As := [.int (6 : Int32)]) (rest := []) (ci := 10) (q0 := 0) C0 (mX10_no l g a_t p_t n (6 : Int32) u_5 u_18 u_19 hu_20) (cwV 1 hts gX10_taleAt_X10_no rfl rfl rfl (by decide +kernel) ⟨Nat.le_of_ble_eq_true rfl, Nat.le_of_ble_eq_true rfl⟩) hP hD hS [0] [1, 2, 3, 4, 5] rfl rfl rfl rfl rfl (by decide) rfl rfl hl.1 rfl rfl (Nat.le_of_ble_eq_true rfl) ⟨Nat.zero_le _, Nat.zero_le _⟩ dX10_taleAt_27 ?_
      intro H locs hP hD hS
      cases hF
      exact ret_i C0 hP hD hS [5, 0, 1, 2, 3, 4] rfl rfl rfl dX10_taleAt_30 rfl
  · have hF := it_p c_3 hF
    refine lv_aload_n hx hb dX10_taleAt_11 rfl (lv_at hl 0 rfl) ?_
    refine lv_iconst (v := (1 : Int32)) hx hb dX10_taleAt_12 (by decide) ?_
    obtain ⟨u_21, u_22, hu_23, hF⟩ := ob2_some hF
    refine call_i (wr := [aI g (p_t 15) 266 f_t_15, aI g (p_t 17) 17 f_t_17, aI g (p_t 25) 17 f_t_25, aI g (p_t 26) 4 f_t_26, aI g (p_t 27) 4 f_t_27]) (As := [.int (1 : Int32)]) (rest := []) (ci := 10) (q0 := 0) C0 (mX10_no l g a_t p_t n (1 : Int32) u_1 u_21 u_22 hu_23) (cwV 1 hts gX10_taleAt_X10_no rfl rfl rfl (by decide +kernel) ⟨Nat.le_of_ble_eq_true rfl, Nat.le_of_ble_eq_true rfl⟩) hP hD hS [5] [0, 1, 2, 3, 4] rfl rfl rfl rfl rfl (by decide) rfl rfl hl.1 rfl rfl (Nat.le_of_ble_eq_true rfl) ⟨Nat.zero_le _, Nat.zero_le _⟩ dX10_taleAt_13 ?_
    intro H locs hP hD hS
    cases hF
    exact ret_i C0 hP hD hS [5, 0, 1, 2, 3, 4] rfl rfl rfl dX10_taleAt_16 rfl

theorem dAX10_tryCups : ∀ q ∈ ([(0, (.iload_n 1, 1)), (1, (.aload_n 0, 1)), (2, (.getfield 20, 3)), (5, (.iconst 3, 1)), (6, (.iaload, 1)), (7, (.if_icmp .ne 125, 3)), (10, (.iload_n 2, 1)), (11, (.ifCond .gt 13, 3)), (14, (.aload_n 0, 1)), (15, (.getfield 344, 3)), (18, (.ldc_w 321, 3)), (21, (.if_icmp .ne 4, 3)), (24, (.return_, 1)), (25, (.aload_n 0, 1)), (26, (.getfield 26, 3)), (29, (.iconst 0, 1)), (30, (.aload_n 0, 1)), (31, (.getfield 35, 3)), (34, (.iconst 0, 1)), (35, (.bipush 17, 2)), (37, (.invokestatic 168, 3)), (40, (.iconst 0, 1)), (41, (.istore_n 3, 1)), (42, (.iload_n 3, 1)), (43, (.aload_n 0, 1)), (44, (.getfield 20, 3)), (47, (.iconst 3, 1)), (48, (.iaload, 1)), (49, (.if_icmp .ge 31, 3)), (52, (.aload_n 0, 1)), (53, (.getfield 35, 3)), (56, (.iload_n 3, 1)), (57, (.dup2, 1)), (58, (.iaload, 1)), (59, (.aload_n 0, 1)), (60, (.getfield 44, 3)), (63, (.iload_n 3, 1)), (64, (.iaload, 1)), (65, (.aload_n 0, 1)), (66, (.getfield 20, 3)), (69, (.iconst 1, 1)), (70, (.iaload, 1)), (71, (.imul, 1)), (72, (.iadd, 1)), (73, (.iastore, 1)), (74, (.iinc 3 1, 3)), (77, (.goto (-35), 3)), (80, (.aload_n 0, 1)), (81, (.aload_n 0, 1)), (82, (.getfield 35, 3)), (85, (.iconst 0, 1)), (86, (.invokevirtual 296, 3)), (89, (.istore_n 3, 1)), (90, (.iload_n 3, 1)), (91, (.ifCond .ge 9, 3)), (94, (.ldc_w 321, 3)), (97, (.goto 4, 3)), (100, (.iload_n 3, 1)), (101, (.istore_n 3, 1)), (102, (.iload_n 3, 1)), (103, (.aload_n 0, 1)), (104, (.getfield 344, 3)), (107, (.if_icmp .gt 4, 3)), (110, (.return_, 1)), (111, (.aload_n 0, 1)), (112, (.iload_n 3, 1)), (113, (.putfield 344, 3)), (116, (.aload_n 0, 1)), (117, (.getfield 44, 3)), (120, (.iconst 0, 1)), (121, (.aload_n 0, 1)), (122, (.getfield 47, 3)), (125, (.iconst 0, 1)), (126, (.bipush 7, 2)), (128, (.invokestatic 168, 3)), (131, (.return_, 1)), (132, (.iconst 0, 1)), (133, (.istore_n 3, 1)), (134, (.iload_n 3, 1)), (135, (.iload_n 2, 1)), (136, (.if_icmp .gt 41, 3)), (139, (.iload_n 3, 1)), (140, (.ifCond .eq 14, 3)), (143, (.aload_n 0, 1)), (144, (.getfield 26, 3)), (147, (.iload_n 1, 1)), (148, (.invokestatic 248, 3)), (151, (.ifCond .eq 26, 3)), (154, (.aload_n 0, 1)), (155, (.getfield 44, 3)), (158, (.iload_n 1, 1)), (159, (.iload_n 3, 1)), (160, (.iastore, 1)), (161, (.aload_n 0, 1)), (162, (.iload_n 1, 1)), (163, (.iconst 1, 1)), (164, (.iadd, 1)), (165, (.iload_n 2, 1)), (166, (.iload_n 3, 1)), (167, (.isub, 1)), (168, (.invokevirtual 347, 3)), (171, (.iinc 3 1, 3)), (174, (.goto (-40), 3)), (177, (.aload_n 0, 1)), (178, (.getfield 44, 3)), (181, (.iload_n 1, 1)), (182, (.iconst 0, 1)), (183, (.iastore, 1)), (184, (.return_, 1))] : List (Nat × (Instr × Nat))), decode cX10_tryCups q.1 = .ok q.2 := by decide +kernel
theorem dX10_tryCups_0 : decode cX10_tryCups 0 = .ok (.iload_n 1, 1) := dAX10_tryCups (0, (.iload_n 1, 1)) (List.mem_of_getElem? (i := 0) rfl)
theorem dX10_tryCups_1 : decode cX10_tryCups 1 = .ok (.aload_n 0, 1) := dAX10_tryCups (1, (.aload_n 0, 1)) (List.mem_of_getElem? (i := 1) rfl)
theorem dX10_tryCups_2 : decode cX10_tryCups 2 = .ok (.getfield 20, 3) := dAX10_tryCups (2, (.getfield 20, 3)) (List.mem_of_getElem? (i := 2) rfl)
theorem dX10_tryCups_5 : decode cX10_tryCups 5 = .ok (.iconst 3, 1) := dAX10_tryCups (5, (.iconst 3, 1)) (List.mem_of_getElem? (i := 3) rfl)
theorem dX10_tryCups_6 : decode cX10_tryCups 6 = .ok (.iaload, 1) := dAX10_tryCups (6, (.iaload, 1)) (List.mem_of_getElem? (i := 4) rfl)
theorem dX10_tryCups_7 : decode cX10_tryCups 7 = .ok (.if_icmp .ne 125, 3) := dAX10_tryCups (7, (.if_icmp .ne 125, 3)) (List.mem_of_getElem? (i := 5) rfl)
theorem dX10_tryCups_10 : decode cX10_tryCups 10 = .ok (.iload_n 2, 1) := dAX10_tryCups (10, (.iload_n 2, 1)) (List.mem_of_getElem? (i := 6) rfl)
theorem dX10_tryCups_11 : decode cX10_tryCups 11 = .ok (.ifCond .gt 13, 3) := dAX10_tryCups (11, (.ifCond .gt 13, 3)) (List.mem_of_getElem? (i := 7) rfl)
theorem dX10_tryCups_14 : decode cX10_tryCups 14 = .ok (.aload_n 0, 1) := dAX10_tryCups (14, (.aload_n 0, 1)) (List.mem_of_getElem? (i := 8) rfl)
theorem dX10_tryCups_15 : decode cX10_tryCups 15 = .ok (.getfield 344, 3) := dAX10_tryCups (15, (.getfield 344, 3)) (List.mem_of_getElem? (i := 9) rfl)
theorem dX10_tryCups_18 : decode cX10_tryCups 18 = .ok (.ldc_w 321, 3) := dAX10_tryCups (18, (.ldc_w 321, 3)) (List.mem_of_getElem? (i := 10) rfl)
theorem dX10_tryCups_21 : decode cX10_tryCups 21 = .ok (.if_icmp .ne 4, 3) := dAX10_tryCups (21, (.if_icmp .ne 4, 3)) (List.mem_of_getElem? (i := 11) rfl)
theorem dX10_tryCups_24 : decode cX10_tryCups 24 = .ok (.return_, 1) := dAX10_tryCups (24, (.return_, 1)) (List.mem_of_getElem? (i := 12) rfl)
theorem dX10_tryCups_25 : decode cX10_tryCups 25 = .ok (.aload_n 0, 1) := dAX10_tryCups (25, (.aload_n 0, 1)) (List.mem_of_getElem? (i := 13) rfl)
theorem dX10_tryCups_26 : decode cX10_tryCups 26 = .ok (.getfield 26, 3) := dAX10_tryCups (26, (.getfield 26, 3)) (List.mem_of_getElem? (i := 14) rfl)
theorem dX10_tryCups_29 : decode cX10_tryCups 29 = .ok (.iconst 0, 1) := dAX10_tryCups (29, (.iconst 0, 1)) (List.mem_of_getElem? (i := 15) rfl)
theorem dX10_tryCups_30 : decode cX10_tryCups 30 = .ok (.aload_n 0, 1) := dAX10_tryCups (30, (.aload_n 0, 1)) (List.mem_of_getElem? (i := 16) rfl)
theorem dX10_tryCups_31 : decode cX10_tryCups 31 = .ok (.getfield 35, 3) := dAX10_tryCups (31, (.getfield 35, 3)) (List.mem_of_getElem? (i := 17) rfl)
theorem dX10_tryCups_34 : decode cX10_tryCups 34 = .ok (.iconst 0, 1) := dAX10_tryCups (34, (.iconst 0, 1)) (List.mem_of_getElem? (i := 18) rfl)
theorem dX10_tryCups_35 : decode cX10_tryCups 35 = .ok (.bipush 17, 2) := dAX10_tryCups (35, (.bipush 17, 2)) (List.mem_of_getElem? (i := 19) rfl)
theorem dX10_tryCups_37 : decode cX10_tryCups 37 = .ok (.invokestatic 168, 3) := dAX10_tryCups (37, (.invokestatic 168, 3)) (List.mem_of_getElem? (i := 20) rfl)
theorem dX10_tryCups_40 : decode cX10_tryCups 40 = .ok (.iconst 0, 1) := dAX10_tryCups (40, (.iconst 0, 1)) (List.mem_of_getElem? (i := 21) rfl)
theorem dX10_tryCups_41 : decode cX10_tryCups 41 = .ok (.istore_n 3, 1) := dAX10_tryCups (41, (.istore_n 3, 1)) (List.mem_of_getElem? (i := 22) rfl)
theorem dX10_tryCups_42 : decode cX10_tryCups 42 = .ok (.iload_n 3, 1) := dAX10_tryCups (42, (.iload_n 3, 1)) (List.mem_of_getElem? (i := 23) rfl)
theorem dX10_tryCups_43 : decode cX10_tryCups 43 = .ok (.aload_n 0, 1) := dAX10_tryCups (43, (.aload_n 0, 1)) (List.mem_of_getElem? (i := 24) rfl)
theorem dX10_tryCups_44 : decode cX10_tryCups 44 = .ok (.getfield 20, 3) := dAX10_tryCups (44, (.getfield 20, 3)) (List.mem_of_getElem? (i := 25) rfl)
theorem dX10_tryCups_47 : decode cX10_tryCups 47 = .ok (.iconst 3, 1) := dAX10_tryCups (47, (.iconst 3, 1)) (List.mem_of_getElem? (i := 26) rfl)
theorem dX10_tryCups_48 : decode cX10_tryCups 48 = .ok (.iaload, 1) := dAX10_tryCups (48, (.iaload, 1)) (List.mem_of_getElem? (i := 27) rfl)
theorem dX10_tryCups_49 : decode cX10_tryCups 49 = .ok (.if_icmp .ge 31, 3) := dAX10_tryCups (49, (.if_icmp .ge 31, 3)) (List.mem_of_getElem? (i := 28) rfl)
theorem dX10_tryCups_52 : decode cX10_tryCups 52 = .ok (.aload_n 0, 1) := dAX10_tryCups (52, (.aload_n 0, 1)) (List.mem_of_getElem? (i := 29) rfl)
theorem dX10_tryCups_53 : decode cX10_tryCups 53 = .ok (.getfield 35, 3) := dAX10_tryCups (53, (.getfield 35, 3)) (List.mem_of_getElem? (i := 30) rfl)
theorem dX10_tryCups_56 : decode cX10_tryCups 56 = .ok (.iload_n 3, 1) := dAX10_tryCups (56, (.iload_n 3, 1)) (List.mem_of_getElem? (i := 31) rfl)
theorem dX10_tryCups_57 : decode cX10_tryCups 57 = .ok (.dup2, 1) := dAX10_tryCups (57, (.dup2, 1)) (List.mem_of_getElem? (i := 32) rfl)
theorem dX10_tryCups_58 : decode cX10_tryCups 58 = .ok (.iaload, 1) := dAX10_tryCups (58, (.iaload, 1)) (List.mem_of_getElem? (i := 33) rfl)
theorem dX10_tryCups_59 : decode cX10_tryCups 59 = .ok (.aload_n 0, 1) := dAX10_tryCups (59, (.aload_n 0, 1)) (List.mem_of_getElem? (i := 34) rfl)
theorem dX10_tryCups_60 : decode cX10_tryCups 60 = .ok (.getfield 44, 3) := dAX10_tryCups (60, (.getfield 44, 3)) (List.mem_of_getElem? (i := 35) rfl)
theorem dX10_tryCups_63 : decode cX10_tryCups 63 = .ok (.iload_n 3, 1) := dAX10_tryCups (63, (.iload_n 3, 1)) (List.mem_of_getElem? (i := 36) rfl)
theorem dX10_tryCups_64 : decode cX10_tryCups 64 = .ok (.iaload, 1) := dAX10_tryCups (64, (.iaload, 1)) (List.mem_of_getElem? (i := 37) rfl)
theorem dX10_tryCups_65 : decode cX10_tryCups 65 = .ok (.aload_n 0, 1) := dAX10_tryCups (65, (.aload_n 0, 1)) (List.mem_of_getElem? (i := 38) rfl)
theorem dX10_tryCups_66 : decode cX10_tryCups 66 = .ok (.getfield 20, 3) := dAX10_tryCups (66, (.getfield 20, 3)) (List.mem_of_getElem? (i := 39) rfl)
theorem dX10_tryCups_69 : decode cX10_tryCups 69 = .ok (.iconst 1, 1) := dAX10_tryCups (69, (.iconst 1, 1)) (List.mem_of_getElem? (i := 40) rfl)
theorem dX10_tryCups_70 : decode cX10_tryCups 70 = .ok (.iaload, 1) := dAX10_tryCups (70, (.iaload, 1)) (List.mem_of_getElem? (i := 41) rfl)
theorem dX10_tryCups_71 : decode cX10_tryCups 71 = .ok (.imul, 1) := dAX10_tryCups (71, (.imul, 1)) (List.mem_of_getElem? (i := 42) rfl)
theorem dX10_tryCups_72 : decode cX10_tryCups 72 = .ok (.iadd, 1) := dAX10_tryCups (72, (.iadd, 1)) (List.mem_of_getElem? (i := 43) rfl)
theorem dX10_tryCups_73 : decode cX10_tryCups 73 = .ok (.iastore, 1) := dAX10_tryCups (73, (.iastore, 1)) (List.mem_of_getElem? (i := 44) rfl)
theorem dX10_tryCups_74 : decode cX10_tryCups 74 = .ok (.iinc 3 1, 3) := dAX10_tryCups (74, (.iinc 3 1, 3)) (List.mem_of_getElem? (i := 45) rfl)
theorem dX10_tryCups_77 : decode cX10_tryCups 77 = .ok (.goto (-35), 3) := dAX10_tryCups (77, (.goto (-35), 3)) (List.mem_of_getElem? (i := 46) rfl)
theorem dX10_tryCups_80 : decode cX10_tryCups 80 = .ok (.aload_n 0, 1) := dAX10_tryCups (80, (.aload_n 0, 1)) (List.mem_of_getElem? (i := 47) rfl)
theorem dX10_tryCups_81 : decode cX10_tryCups 81 = .ok (.aload_n 0, 1) := dAX10_tryCups (81, (.aload_n 0, 1)) (List.mem_of_getElem? (i := 48) rfl)
theorem dX10_tryCups_82 : decode cX10_tryCups 82 = .ok (.getfield 35, 3) := dAX10_tryCups (82, (.getfield 35, 3)) (List.mem_of_getElem? (i := 49) rfl)
theorem dX10_tryCups_85 : decode cX10_tryCups 85 = .ok (.iconst 0, 1) := dAX10_tryCups (85, (.iconst 0, 1)) (List.mem_of_getElem? (i := 50) rfl)
theorem dX10_tryCups_86 : decode cX10_tryCups 86 = .ok (.invokevirtual 296, 3) := dAX10_tryCups (86, (.invokevirtual 296, 3)) (List.mem_of_getElem? (i := 51) rfl)
theorem dX10_tryCups_89 : decode cX10_tryCups 89 = .ok (.istore_n 3, 1) := dAX10_tryCups (89, (.istore_n 3, 1)) (List.mem_of_getElem? (i := 52) rfl)
theorem dX10_tryCups_90 : decode cX10_tryCups 90 = .ok (.iload_n 3, 1) := dAX10_tryCups (90, (.iload_n 3, 1)) (List.mem_of_getElem? (i := 53) rfl)
theorem dX10_tryCups_91 : decode cX10_tryCups 91 = .ok (.ifCond .ge 9, 3) := dAX10_tryCups (91, (.ifCond .ge 9, 3)) (List.mem_of_getElem? (i := 54) rfl)
theorem dX10_tryCups_94 : decode cX10_tryCups 94 = .ok (.ldc_w 321, 3) := dAX10_tryCups (94, (.ldc_w 321, 3)) (List.mem_of_getElem? (i := 55) rfl)
theorem dX10_tryCups_97 : decode cX10_tryCups 97 = .ok (.goto 4, 3) := dAX10_tryCups (97, (.goto 4, 3)) (List.mem_of_getElem? (i := 56) rfl)
theorem dX10_tryCups_100 : decode cX10_tryCups 100 = .ok (.iload_n 3, 1) := dAX10_tryCups (100, (.iload_n 3, 1)) (List.mem_of_getElem? (i := 57) rfl)
theorem dX10_tryCups_101 : decode cX10_tryCups 101 = .ok (.istore_n 3, 1) := dAX10_tryCups (101, (.istore_n 3, 1)) (List.mem_of_getElem? (i := 58) rfl)
theorem dX10_tryCups_102 : decode cX10_tryCups 102 = .ok (.iload_n 3, 1) := dAX10_tryCups (102, (.iload_n 3, 1)) (List.mem_of_getElem? (i := 59) rfl)
theorem dX10_tryCups_103 : decode cX10_tryCups 103 = .ok (.aload_n 0, 1) := dAX10_tryCups (103, (.aload_n 0, 1)) (List.mem_of_getElem? (i := 60) rfl)
theorem dX10_tryCups_104 : decode cX10_tryCups 104 = .ok (.getfield 344, 3) := dAX10_tryCups (104, (.getfield 344, 3)) (List.mem_of_getElem? (i := 61) rfl)
theorem dX10_tryCups_107 : decode cX10_tryCups 107 = .ok (.if_icmp .gt 4, 3) := dAX10_tryCups (107, (.if_icmp .gt 4, 3)) (List.mem_of_getElem? (i := 62) rfl)
theorem dX10_tryCups_110 : decode cX10_tryCups 110 = .ok (.return_, 1) := dAX10_tryCups (110, (.return_, 1)) (List.mem_of_getElem? (i := 63) rfl)
theorem dX10_tryCups_111 : decode cX10_tryCups 111 = .ok (.aload_n 0, 1) := dAX10_tryCups (111, (.aload_n 0, 1)) (List.mem_of_getElem? (i := 64) rfl)
theorem dX10_tryCups_112 : decode cX10_tryCups 112 = .ok (.iload_n 3, 1) := dAX10_tryCups (112, (.iload_n 3, 1)) (List.mem_of_getElem? (i := 65) rfl)
theorem dX10_tryCups_113 : decode cX10_tryCups 113 = .ok (.putfield 344, 3) := dAX10_tryCups (113, (.putfield 344, 3)) (List.mem_of_getElem? (i := 66) rfl)
theorem dX10_tryCups_116 : decode cX10_tryCups 116 = .ok (.aload_n 0, 1) := dAX10_tryCups (116, (.aload_n 0, 1)) (List.mem_of_getElem? (i := 67) rfl)
theorem dX10_tryCups_117 : decode cX10_tryCups 117 = .ok (.getfield 44, 3) := dAX10_tryCups (117, (.getfield 44, 3)) (List.mem_of_getElem? (i := 68) rfl)
theorem dX10_tryCups_120 : decode cX10_tryCups 120 = .ok (.iconst 0, 1) := dAX10_tryCups (120, (.iconst 0, 1)) (List.mem_of_getElem? (i := 69) rfl)
theorem dX10_tryCups_121 : decode cX10_tryCups 121 = .ok (.aload_n 0, 1) := dAX10_tryCups (121, (.aload_n 0, 1)) (List.mem_of_getElem? (i := 70) rfl)
theorem dX10_tryCups_122 : decode cX10_tryCups 122 = .ok (.getfield 47, 3) := dAX10_tryCups (122, (.getfield 47, 3)) (List.mem_of_getElem? (i := 71) rfl)
theorem dX10_tryCups_125 : decode cX10_tryCups 125 = .ok (.iconst 0, 1) := dAX10_tryCups (125, (.iconst 0, 1)) (List.mem_of_getElem? (i := 72) rfl)
theorem dX10_tryCups_126 : decode cX10_tryCups 126 = .ok (.bipush 7, 2) := dAX10_tryCups (126, (.bipush 7, 2)) (List.mem_of_getElem? (i := 73) rfl)
theorem dX10_tryCups_128 : decode cX10_tryCups 128 = .ok (.invokestatic 168, 3) := dAX10_tryCups (128, (.invokestatic 168, 3)) (List.mem_of_getElem? (i := 74) rfl)
theorem dX10_tryCups_131 : decode cX10_tryCups 131 = .ok (.return_, 1) := dAX10_tryCups (131, (.return_, 1)) (List.mem_of_getElem? (i := 75) rfl)
theorem dX10_tryCups_132 : decode cX10_tryCups 132 = .ok (.iconst 0, 1) := dAX10_tryCups (132, (.iconst 0, 1)) (List.mem_of_getElem? (i := 76) rfl)
theorem dX10_tryCups_133 : decode cX10_tryCups 133 = .ok (.istore_n 3, 1) := dAX10_tryCups (133, (.istore_n 3, 1)) (List.mem_of_getElem? (i := 77) rfl)
theorem dX10_tryCups_134 : decode cX10_tryCups 134 = .ok (.iload_n 3, 1) := dAX10_tryCups (134, (.iload_n 3, 1)) (List.mem_of_getElem? (i := 78) rfl)
theorem dX10_tryCups_135 : decode cX10_tryCups 135 = .ok (.iload_n 2, 1) := dAX10_tryCups (135, (.iload_n 2, 1)) (List.mem_of_getElem? (i := 79) rfl)
theorem dX10_tryCups_136 : decode cX10_tryCups 136 = .ok (.if_icmp .gt 41, 3) := dAX10_tryCups (136, (.if_icmp .gt 41, 3)) (List.mem_of_getElem? (i := 80) rfl)
theorem dX10_tryCups_139 : decode cX10_tryCups 139 = .ok (.iload_n 3, 1) := dAX10_tryCups (139, (.iload_n 3, 1)) (List.mem_of_getElem? (i := 81) rfl)
theorem dX10_tryCups_140 : decode cX10_tryCups 140 = .ok (.ifCond .eq 14, 3) := dAX10_tryCups (140, (.ifCond .eq 14, 3)) (List.mem_of_getElem? (i := 82) rfl)
theorem dX10_tryCups_143 : decode cX10_tryCups 143 = .ok (.aload_n 0, 1) := dAX10_tryCups (143, (.aload_n 0, 1)) (List.mem_of_getElem? (i := 83) rfl)
theorem dX10_tryCups_144 : decode cX10_tryCups 144 = .ok (.getfield 26, 3) := dAX10_tryCups (144, (.getfield 26, 3)) (List.mem_of_getElem? (i := 84) rfl)
theorem dX10_tryCups_147 : decode cX10_tryCups 147 = .ok (.iload_n 1, 1) := dAX10_tryCups (147, (.iload_n 1, 1)) (List.mem_of_getElem? (i := 85) rfl)
theorem dX10_tryCups_148 : decode cX10_tryCups 148 = .ok (.invokestatic 248, 3) := dAX10_tryCups (148, (.invokestatic 248, 3)) (List.mem_of_getElem? (i := 86) rfl)
theorem dX10_tryCups_151 : decode cX10_tryCups 151 = .ok (.ifCond .eq 26, 3) := dAX10_tryCups (151, (.ifCond .eq 26, 3)) (List.mem_of_getElem? (i := 87) rfl)
theorem dX10_tryCups_154 : decode cX10_tryCups 154 = .ok (.aload_n 0, 1) := dAX10_tryCups (154, (.aload_n 0, 1)) (List.mem_of_getElem? (i := 88) rfl)
theorem dX10_tryCups_155 : decode cX10_tryCups 155 = .ok (.getfield 44, 3) := dAX10_tryCups (155, (.getfield 44, 3)) (List.mem_of_getElem? (i := 89) rfl)
theorem dX10_tryCups_158 : decode cX10_tryCups 158 = .ok (.iload_n 1, 1) := dAX10_tryCups (158, (.iload_n 1, 1)) (List.mem_of_getElem? (i := 90) rfl)
theorem dX10_tryCups_159 : decode cX10_tryCups 159 = .ok (.iload_n 3, 1) := dAX10_tryCups (159, (.iload_n 3, 1)) (List.mem_of_getElem? (i := 91) rfl)
theorem dX10_tryCups_160 : decode cX10_tryCups 160 = .ok (.iastore, 1) := dAX10_tryCups (160, (.iastore, 1)) (List.mem_of_getElem? (i := 92) rfl)
theorem dX10_tryCups_161 : decode cX10_tryCups 161 = .ok (.aload_n 0, 1) := dAX10_tryCups (161, (.aload_n 0, 1)) (List.mem_of_getElem? (i := 93) rfl)
theorem dX10_tryCups_162 : decode cX10_tryCups 162 = .ok (.iload_n 1, 1) := dAX10_tryCups (162, (.iload_n 1, 1)) (List.mem_of_getElem? (i := 94) rfl)
theorem dX10_tryCups_163 : decode cX10_tryCups 163 = .ok (.iconst 1, 1) := dAX10_tryCups (163, (.iconst 1, 1)) (List.mem_of_getElem? (i := 95) rfl)
theorem dX10_tryCups_164 : decode cX10_tryCups 164 = .ok (.iadd, 1) := dAX10_tryCups (164, (.iadd, 1)) (List.mem_of_getElem? (i := 96) rfl)
theorem dX10_tryCups_165 : decode cX10_tryCups 165 = .ok (.iload_n 2, 1) := dAX10_tryCups (165, (.iload_n 2, 1)) (List.mem_of_getElem? (i := 97) rfl)
theorem dX10_tryCups_166 : decode cX10_tryCups 166 = .ok (.iload_n 3, 1) := dAX10_tryCups (166, (.iload_n 3, 1)) (List.mem_of_getElem? (i := 98) rfl)
theorem dX10_tryCups_167 : decode cX10_tryCups 167 = .ok (.isub, 1) := dAX10_tryCups (167, (.isub, 1)) (List.mem_of_getElem? (i := 99) rfl)
theorem dX10_tryCups_168 : decode cX10_tryCups 168 = .ok (.invokevirtual 347, 3) := dAX10_tryCups (168, (.invokevirtual 347, 3)) (List.mem_of_getElem? (i := 100) rfl)
theorem dX10_tryCups_171 : decode cX10_tryCups 171 = .ok (.iinc 3 1, 3) := dAX10_tryCups (171, (.iinc 3 1, 3)) (List.mem_of_getElem? (i := 101) rfl)
theorem dX10_tryCups_174 : decode cX10_tryCups 174 = .ok (.goto (-40), 3) := dAX10_tryCups (174, (.goto (-40), 3)) (List.mem_of_getElem? (i := 102) rfl)
theorem dX10_tryCups_177 : decode cX10_tryCups 177 = .ok (.aload_n 0, 1) := dAX10_tryCups (177, (.aload_n 0, 1)) (List.mem_of_getElem? (i := 103) rfl)
theorem dX10_tryCups_178 : decode cX10_tryCups 178 = .ok (.getfield 44, 3) := dAX10_tryCups (178, (.getfield 44, 3)) (List.mem_of_getElem? (i := 104) rfl)
theorem dX10_tryCups_181 : decode cX10_tryCups 181 = .ok (.iload_n 1, 1) := dAX10_tryCups (181, (.iload_n 1, 1)) (List.mem_of_getElem? (i := 105) rfl)
theorem dX10_tryCups_182 : decode cX10_tryCups 182 = .ok (.iconst 0, 1) := dAX10_tryCups (182, (.iconst 0, 1)) (List.mem_of_getElem? (i := 106) rfl)
theorem dX10_tryCups_183 : decode cX10_tryCups 183 = .ok (.iastore, 1) := dAX10_tryCups (183, (.iastore, 1)) (List.mem_of_getElem? (i := 107) rfl)
theorem dX10_tryCups_184 : decode cX10_tryCups 184 = .ok (.return_, 1) := dAX10_tryCups (184, (.return_, 1)) (List.mem_of_getElem? (i := 108) rfl)
set_option maxRecDepth 20000 in
theorem ggX10_tryCups_X10_copy : GoodIn wsX10_tryCups wsX10_copy := goodIn_r _ [11] rfl (by decide +kernel)
set_option maxRecDepth 20000 in
theorem gX10_tryCups_X10_copy : GoodIn wsX10_tryCups (va_wsS RX10 168 yX10_copy wsX10_copy) := goodIn_app (goodIn_of _ (by decide +kernel)) ggX10_tryCups_X10_copy
set_option maxRecDepth 20000 in
theorem ggX10_tryCups_X10_endsOn : GoodIn wsX10_tryCups wsX10_endsOn := goodIn_r _ [15, 16, 17, 18, 19, 10, 20, 1, 21, 22, 23, 24, 25, 26, 27, 28, 29, 30, 31, 32, 33, 34, 35, 36, 37, 38, 39, 40, 41, 42, 43, 44, 45, 46, 47, 48, 49, 50, 51, 52, 53, 54, 55, 56, 57, 58, 59, 60, 61, 65, 66, 67, 68, 69, 70, 71, 72, 73, 74, 75, 76, 77, 78, 79, 80, 81, 82, 83, 84, 85, 86, 87, 88, 89, 90, 91, 92, 93, 94, 95, 96, 97, 98, 99] rfl (by decide +kernel)
set_option maxRecDepth 20000 in
theorem gX10_tryCups_X10_endsOn : GoodIn wsX10_tryCups (wsV RX10 296 RX10 yX10_endsOn wsX10_endsOn) := goodIn_app (goodIn_of _ (by decide +kernel)) ggX10_tryCups_X10_endsOn
set_option maxRecDepth 20000 in
theorem ggX10_tryCups_X10_isIn : GoodIn wsX10_tryCups wsX10_isIn := goodIn_r _ [23] rfl (by decide +kernel)
set_option maxRecDepth 20000 in
theorem gX10_tryCups_X10_isIn : GoodIn wsX10_tryCups (va_wsS RX10 248 yX10_isIn wsX10_isIn) := goodIn_app (goodIn_of _ (by decide +kernel)) ggX10_tryCups_X10_isIn
set_option maxRecDepth 20000 in
theorem ggX10_tryCups_X10_tryCups : GoodIn wsX10_tryCups wsX10_tryCups := goodIn_r _ [0, 1, 2, 3, 4, 5, 6, 7, 8, 9, 10, 11, 12, 13, 14, 15, 16, 17, 18, 19, 20, 21, 22, 23, 24, 25, 26, 27, 28, 29, 30, 31, 32, 33, 34, 35, 36, 37, 38, 39, 40, 41, 42, 43, 44, 45, 46, 47, 48, 49, 50, 51, 52, 53, 54, 55, 56, 57, 58, 59, 60, 61, 62, 63, 64, 65, 66, 67, 68, 69, 70, 71, 72, 73, 74, 75, 76, 77, 78, 79, 80, 81, 82, 83, 84, 85, 86, 87, 88, 89, 90, 91, 92, 93, 94, 95, 96, 97, 98, 99] rfl (by decide +kernel)
set_option maxRecDepth 20000 in
theorem gX10_tryCups_X10_tryCups : GoodIn wsX10_tryCups (wsV RX10 347 RX10 yX10_tryCups wsX10_tryCups) := goodIn_app (goodIn_of _ (by decide +kernel)) ggX10_tryCups_X10_tryCups
theorem kX10_tryCups_20 : Cond.fieldLink RX10 20 "EveningVowModel" "\x72" "[I" ∈ wsX10_tryCups := List.mem_of_getElem? (i := 1) rfl
theorem iX10_tryCups_X10 : ∀ w ∈ u_ws RX10 TX10 35, w ∈ wsX10_tryCups := fun w h => (List.mem_cons_of_mem _ (List.mem_append_right _ h))
theorem kX10_tryCups_44 : Cond.fieldLink RX10 44 "EveningVowModel" "cups" "[I" ∈ wsX10_tryCups := List.mem_of_getElem? (i := 6) rfl
theorem kX10_tryCups_26 : Cond.fieldLink RX10 26 "EveningVowModel" "st" "[I" ∈ wsX10_tryCups := List.mem_of_getElem? (i := 4) rfl
theorem kX10_tryCups_344 : Cond.fieldLink RX10 344 "EveningVowModel" "latestOf" "I" ∈ wsX10_tryCups := List.mem_of_getElem? (i := 2) rfl
theorem kX10_tryCups_321 : Cond.constant RX10 321 (1000000 : Int32) ∈ wsX10_tryCups := by decide +kernel
theorem kX10_tryCups_35 : Cond.fieldLink RX10 35 "EveningVowModel" "trial" "[I" ∈ wsX10_tryCups := List.mem_of_getElem? (i := 5) rfl
theorem kX10_tryCups_47 : Cond.fieldLink RX10 47 "EveningVowModel" "bestCups" "[I" ∈ wsX10_tryCups := List.mem_of_getElem? (i := 7) rfl
set_option maxHeartbeats 4000000 in
set_option maxRecDepth 100000 in
theorem wX10_tryCups_L134 {p : Program} {l : Launch} {e : Env} {s : State} {m : MethodId} {args : Array Value} {below : List Frame} {meth : Method} {c : Code} {g : GG} {A : Nat → Prop} (C0 : Cx p s m args meth c cX10_tryCups 4 none RX10 wsX10_tryCups g A) (a_t : Nat) (p_t : Nat → Nat) (n : Nat) (rec : Int32 → Int32 → (Nat → Int32) → (Nat → Int32) → (Nat → Int32) → (Nat → Int32) → (Nat → Int32) → (Nat → Int32) → Option ((Nat → Int32) × (Nat → Int32) × (Nat → Int32) × (Nat → Int32))) (x1 : Int32) (x2 : Int32) (f_t_15 : Nat → Int32) (f_t_17 : Nat → Int32)  (o_t' : Nat → Int32) (f_t_25' : Nat → Int32) (f_t_30' : Nat → Int32) (f_t_31' : Nat → Int32) (K : (Nat → Int32) → (Nat → Int32) → (Nat → Int32) → (Nat → Int32) → Option ((Nat → Int32) × (Nat → Int32) × (Nat → Int32) × (Nat → Int32))) (d : Nat) (hrec : ∀ (x1 : Int32) (x2 : Int32) (o_t : Nat → Int32) (f_t_15 : Nat → Int32) (f_t_17 : Nat → Int32) (f_t_25 : Nat → Int32) (f_t_30 : Nat → Int32) (f_t_31 : Nat → Int32) (o_t' : Nat → Int32) (f_t_25' : Nat → Int32) (f_t_30' : Nat → Int32) (f_t_31' : Nat → Int32), rec x1 x2 o_t f_t_15 f_t_17 f_t_25 f_t_30 f_t_31 = some (o_t', f_t_25', f_t_30', f_t_31') → MV l g yX10_tryCups wsX10_tryCups (rmX10_tryCups d) [.ref a_t, .int x1, .int x2] [oX10 a_t p_t o_t, aI g (p_t 15) 266 f_t_15, aI g (p_t 17) 17 f_t_17, aI g (p_t 25) 17 f_t_25, aI g (p_t 30) 7 f_t_30, aI g (p_t 31) 7 f_t_31] [oX10 a_t p_t o_t', aI g (p_t 15) 266 f_t_15, aI g (p_t 17) 17 f_t_17, aI g (p_t 25) 17 f_t_25', aI g (p_t 30) 7 f_t_30', aI g (p_t 31) 7 f_t_31']) (hKx : ∀ (o_t : Nat → Int32) (f_t_25 : Nat → Int32) (f_t_30 : Nat → Int32) (f_t_31 : Nat → Int32) (H : Heap) (locs : List Loc) (ls : Array Slot), K o_t f_t_25 f_t_30 f_t_31 = some (o_t', f_t_25', f_t_30', f_t_31') → va_P g.1 vwCl [oX10 a_t p_t o_t, aI g (p_t 15) 266 f_t_15, aI g (p_t 17) 17 f_t_17, aI g (p_t 25) 17 f_t_25, aI g (p_t 30) 7 f_t_30, aI g (p_t 31) 7 f_t_31] H → va_D A [oX10 a_t p_t o_t, aI g (p_t 15) 266 f_t_15, aI g (p_t 17) 17 f_t_17, aI g (p_t 25) 17 f_t_25, aI g (p_t 30) 7 f_t_30, aI g (p_t 31) 7 f_t_31] → va_S A s.heap H locs → lv_has ls 4 [(0, .ref a_t), (1, .int x1)] → W p l e (rmX10_tryCups (d + 1)) s m args below meth c H locs 0 0 (MQ below (EndV g [oX10 a_t p_t o_t', aI g (p_t 15) 266 f_t_15, aI g (p_t 17) 17 f_t_17, aI g (p_t 25) 17 f_t_25', aI g (p_t 30) 7 f_t_30', aI g (p_t 31) 7 f_t_31'] A) args s 0 0 A) (F0 m 177 ls [])) : ∀ (k : Nat) (x3 : Int32) (o_t : Nat → Int32) (f_t_25 : Nat → Int32) (f_t_30 : Nat → Int32) (f_t_31 : Nat → Int32), fX10_tryCups_L134 n rec x1 x2 f_t_15 f_t_17 K k x3 o_t f_t_25 f_t_30 f_t_31 = some (o_t', f_t_25', f_t_30', f_t_31') → ∀ (H : Heap) (locs : List Loc) (ls : Array Slot), va_P g.1 vwCl [oX10 a_t p_t o_t, aI g (p_t 15) 266 f_t_15, aI g (p_t 17) 17 f_t_17, aI g (p_t 25) 17 f_t_25, aI g (p_t 30) 7 f_t_30, aI g (p_t 31) 7 f_t_31] H → va_D A [oX10 a_t p_t o_t, aI g (p_t 15) 266 f_t_15, aI g (p_t 17) 17 f_t_17, aI g (p_t 25) 17 f_t_25, aI g (p_t 30) 7 f_t_30, aI g (p_t 31) 7 f_t_31] → va_S A s.heap H locs → lv_has ls 4 [(0, .ref a_t), (1, .int x1), (2, .int x2), (3, .int x3)] → W p l e (rmX10_tryCups (d + 1)) s m args below meth c H locs 0 0 (MQ below (EndV g [oX10 a_t p_t o_t', aI g (p_t 15) 266 f_t_15, aI g (p_t 17) 17 f_t_17, aI g (p_t 25) 17 f_t_25', aI g (p_t 30) 7 f_t_30', aI g (p_t 31) 7 f_t_31'] A) args s 0 0 A) (F0 m 134 ls []) := by
  obtain ⟨hx, hb, hml, hown, hts, hr, hlk, hK, hA, hSW⟩ := id C0
  intro k
  induction k with
  | zero =>
    intro x3 o_t f_t_25 f_t_30 f_t_31 hF
    exact absurd hF (by simp [fX10_tryCups_L134])
  | succ k ih =>
    intro x3 o_t f_t_25 f_t_30 f_t_31 hF H locs ls hP hD hS hl
    rw [fX10_tryCups_L134] at hF
    refine lv_iload_n hx hb dX10_tryCups_134 rfl (lv_at hl 3 rfl) ?_
    refine lv_iload_n hx hb dX10_tryCups_135 rfl (lv_at hl 2 rfl) ?_
    refine lv_icmp_gt (tgt := 177) hx hb dX10_tryCups_136 (by decide) (fun c_2 => ?_) (fun c_2 => ?_)
    · have hF := it_p c_2 hF
      exact hKx o_t f_t_25 f_t_30 f_t_31 _ _ _ hF (hP.sub [0, 1, 2, 3, 4, 5] rfl) (hD.sub [0, 1, 2, 3, 4, 5] rfl rfl) hS (lv_sub hl [0, 1] rfl)
    · have hF := it_n c_2 hF
      refine lv_iload_n hx hb dX10_tryCups_139 rfl (lv_at hl 3 rfl) ?_
      obtain ⟨J154, eJ154, hF⟩ := jn_some hF
      have hJ154 : ∀  (H : Heap) (locs : List Loc) (ls : Array Slot), J154 () = some (o_t', f_t_25', f_t_30', f_t_31') → va_P g.1 vwCl [oX10 a_t p_t o_t, aI g (p_t 15) 266 f_t_15, aI g (p_t 17) 17 f_t_17, aI g (p_t 25) 17 f_t_25, aI g (p_t 30) 7 f_t_30, aI g (p_t 31) 7 f_t_31] H → va_D A [oX10 a_t p_t o_t, aI g (p_t 15) 266 f_t_15, aI g (p_t 17) 17 f_t_17, aI g (p_t 25) 17 f_t_25, aI g (p_t 30) 7 f_t_30, aI g (p_t 31) 7 f_t_31] → va_S A s.heap H locs → lv_has ls 4 [(0, .ref a_t), (1, .int x1), (2, .int x2), (3, .int x3)] → W p l e (rmX10_tryCups (d + 1)) s m args below meth c H locs 0 0 (MQ below (EndV g [oX10 a_t p_t o_t', aI g (p_t 15) 266 f_t_15, aI g (p_t 17) 17 f_t_17, aI g (p_t 25) 17 f_t_25', aI g (p_t 30) 7 f_t_30', aI g (p_t 31) 7 f_t_31'] A) args s 0 0 A) (F0 m 154 ls []) := by
        intro  H locs ls hF hP hD hS hl
        have hF := jj1 eJ154 hF
        refine lv_aload_n hx hb dX10_tryCups_154 rfl (lv_at hl 0 rfl) ?_
        refine va_get (D := g.1) (ci := 10) (v := .ref (p_t 30)) (C := RX10) (T := TX10) (N := 35) hx hb hts iX10_tryCups_X10 hown hK.1 hP 0 rfl rfl 30 (by decide) (hts _ kX10_tryCups_44) (fun _ h9 => h9) rfl dX10_tryCups_155 ?_
        refine lv_iload_n hx hb dX10_tryCups_158 rfl (lv_at hl 1 rfl) ?_
        refine lv_iload_n hx hb dX10_tryCups_159 rfl (lv_at hl 3 rfl) ?_
        obtain ⟨h_3, hF⟩ := it_ck hF
        refine va_iast hx hb hK.1 hP hD hS 4 0 rfl rfl h_3 dX10_tryCups_160 (fun H locs hP hD hS => ?_)
        have hP : va_P g.1 vwCl [oX10 a_t p_t o_t, aI g (p_t 15) 266 f_t_15, aI g (p_t 17) 17 f_t_17, aI g (p_t 25) 17 f_t_25, aI g (p_t 30) 7 (upd f_t_30 (x1).toNatClampNeg x3), aI g (p_t 31) 7 f_t_31] H := hP
        have hD : va_D A [oX10 a_t p_t o_t, aI g (p_t 15) 266 f_t_15, aI g (p_t 17) 17 f_t_17, aI g (p_t 25) 17 f_t_25, aI g (p_t 30) 7 (upd f_t_30 (x1).toNatClampNeg x3), aI g (p_t 31) 7 f_t_31] := hD
        refine lv_aload_n hx hb dX10_tryCups_161 rfl (lv_at hl 0 rfl) ?_
        refine lv_iload_n hx hb dX10_tryCups_162 rfl (lv_at hl 1 rfl) ?_
        refine lv_iconst (v := (1 : Int32)) hx hb dX10_tryCups_163 (by decide) ?_
        refine lv_iadd hx hb dX10_tryCups_164 ?_
        refine lv_iload_n hx hb dX10_tryCups_165 rfl (lv_at hl 2 rfl) ?_
        refine lv_iload_n hx hb dX10_tryCups_166 rfl (lv_at hl 3 rfl) ?_
        refine lv_isub hx hb dX10_tryCups_167 ?_
        obtain ⟨u_4, u_5, u_6, u_7, hu_8, hF⟩ := ob4_some hF
        refine call_v (wr := []) (As := [.int (x1 + (1 : Int32)), .int (x2 - x3)]) (rest := []) (ci := 10) (q0 := 0) C0 (hrec (x1 + (1 : Int32)) (x2 - x3) o_t f_t_15 f_t_17 f_t_25 (upd f_t_30 (x1).toNatClampNeg x3) f_t_31 u_4 u_5 u_6 u_7 hu_8) (cwV 2 hts gX10_tryCups_X10_tryCups rfl rfl rfl (by decide +kernel) ⟨by first | exact Nat.le_of_ble_eq_true rfl | (simp only [rmX10_tryCups]; omega), by first | exact Nat.le_of_ble_eq_true rfl | (simp only [rmX10_tryCups]; omega)⟩) hP hD hS [0, 1, 2, 3, 4, 5] [] rfl rfl rfl rfl rfl (by decide) rfl rfl hl.1 rfl rfl (Nat.le_of_ble_eq_true rfl) ⟨Nat.zero_le _, Nat.zero_le _⟩ dX10_tryCups_168 ?_
        intro H locs hP hD hS
        refine lv_iinc (v := (x3 + (1 : Int32))) (lv' := [(3, .int (x3 + (1 : Int32))), (0, .ref a_t), (1, .int x1), (2, .int x2)]) hx hb dX10_tryCups_171 hl (k := 3) rfl rfl (by decide) rfl (fun ls hl => ?_)
        refine lv_goto (tgt := 134) hx hb dX10_tryCups_174 (by decide) ?_
        exact ih (x3 + (1 : Int32)) u_4 u_5 u_6 u_7 hF _ _ _ (hP.sub [0, 1, 2, 3, 4, 5] rfl) (hD.sub [0, 1, 2, 3, 4, 5] rfl rfl) hS (lv_sub hl [1, 2, 3, 0] rfl)
      refine lv_if_eq (tgt := 154) hx hb dX10_tryCups_140 (by decide) (fun c_9 => ?_) (fun c_9 => ?_)
      · have hF := it_p c_9 hF
        exact hJ154  _ _ _ hF (hP.sub [0, 1, 2, 3, 4, 5] rfl) (hD.sub [0, 1, 2, 3, 4, 5] rfl rfl) hS (lv_sub hl [0, 1, 2, 3] rfl)
      · have hF := it_n c_9 hF
        refine lv_aload_n hx hb dX10_tryCups_143 rfl (lv_at hl 0 rfl) ?_
        refine va_get (D := g.1) (ci := 10) (v := .ref (p_t 17)) (C := RX10) (T := TX10) (N := 35) hx hb hts iX10_tryCups_X10 hown hK.1 hP 0 rfl rfl 17 (by decide) (hts _ kX10_tryCups_26) (fun _ h9 => h9) rfl dX10_tryCups_144 ?_
        refine lv_iload_n hx hb dX10_tryCups_147 rfl (lv_at hl 1 rfl) ?_
        obtain ⟨u_10, hu_11, hF⟩ := ob1_some hF
        refine call_si (wr := [oX10 a_t p_t o_t, aI g (p_t 15) 266 f_t_15, aI g (p_t 25) 17 f_t_25, aI g (p_t 30) 7 f_t_30, aI g (p_t 31) 7 f_t_31]) (As := [.ref (p_t 17), .int x1]) (rest := []) C0 (mX10_isIn l g (p_t 17) n x1 f_t_17 u_10 hu_11) (va_cwS 2 hts gX10_tryCups_X10_isIn rfl rfl rfl (by decide +kernel) ⟨Nat.le_of_ble_eq_true rfl, Nat.le_of_ble_eq_true rfl⟩) hP hD hS [2] [0, 1, 3, 4, 5] rfl rfl rfl rfl rfl (by decide) hl.1 rfl rfl (Nat.le_of_ble_eq_true rfl) ⟨Nat.zero_le _, Nat.zero_le _⟩ dX10_tryCups_148 ?_
        intro H locs hP hD hS
        refine lv_if_eq (tgt := 177) hx hb dX10_tryCups_151 (by decide) (fun c_12 => ?_) (fun c_12 => ?_)
        · have hF := it_p c_12 hF
          exact hKx o_t f_t_25 f_t_30 f_t_31 _ _ _ hF (hP.sub [0, 1, 5, 2, 3, 4] rfl) (hD.sub [0, 1, 5, 2, 3, 4] rfl rfl) hS (lv_sub hl [0, 1] rfl)
        · have hF := it_n c_12 hF
          exact hJ154  _ _ _ hF (hP.sub [0, 1, 5, 2, 3, 4] rfl) (hD.sub [0, 1, 5, 2, 3, 4] rfl rfl) hS (lv_sub hl [0, 1, 2, 3] rfl)
set_option maxHeartbeats 4000000 in
set_option maxRecDepth 100000 in
theorem wX10_tryCups_L42 {p : Program} {l : Launch} {e : Env} {s : State} {m : MethodId} {args : Array Value} {below : List Frame} {meth : Method} {c : Code} {g : GG} {A : Nat → Prop} (C0 : Cx p s m args meth c cX10_tryCups 4 none RX10 wsX10_tryCups g A) (a_t : Nat) (p_t : Nat → Nat) (n : Nat) (rec : Int32 → Int32 → (Nat → Int32) → (Nat → Int32) → (Nat → Int32) → (Nat → Int32) → (Nat → Int32) → (Nat → Int32) → Option ((Nat → Int32) × (Nat → Int32) × (Nat → Int32) × (Nat → Int32))) (o_t : Nat → Int32) (f_t_15 : Nat → Int32) (f_t_30 : Nat → Int32) (f_t_17 : Nat → Int32) (f_t_31 : Nat → Int32) (o_t' : Nat → Int32) (f_t_25' : Nat → Int32) (f_t_30' : Nat → Int32) (f_t_31' : Nat → Int32) (K : (Nat → Int32) → Option ((Nat → Int32) × (Nat → Int32) × (Nat → Int32) × (Nat → Int32))) (d : Nat) (hrec : ∀ (x1 : Int32) (x2 : Int32) (o_t : Nat → Int32) (f_t_15 : Nat → Int32) (f_t_17 : Nat → Int32) (f_t_25 : Nat → Int32) (f_t_30 : Nat → Int32) (f_t_31 : Nat → Int32) (o_t' : Nat → Int32) (f_t_25' : Nat → Int32) (f_t_30' : Nat → Int32) (f_t_31' : Nat → Int32), rec x1 x2 o_t f_t_15 f_t_17 f_t_25 f_t_30 f_t_31 = some (o_t', f_t_25', f_t_30', f_t_31') → MV l g yX10_tryCups wsX10_tryCups (rmX10_tryCups d) [.ref a_t, .int x1, .int x2] [oX10 a_t p_t o_t, aI g (p_t 15) 266 f_t_15, aI g (p_t 17) 17 f_t_17, aI g (p_t 25) 17 f_t_25, aI g (p_t 30) 7 f_t_30, aI g (p_t 31) 7 f_t_31] [oX10 a_t p_t o_t', aI g (p_t 15) 266 f_t_15, aI g (p_t 17) 17 f_t_17, aI g (p_t 25) 17 f_t_25', aI g (p_t 30) 7 f_t_30', aI g (p_t 31) 7 f_t_31']) (hKx : ∀ (f_t_25 : Nat → Int32) (H : Heap) (locs : List Loc) (ls : Array Slot), K f_t_25 = some (o_t', f_t_25', f_t_30', f_t_31') → va_P g.1 vwCl [oX10 a_t p_t o_t, aI g (p_t 15) 266 f_t_15, aI g (p_t 17) 17 f_t_17, aI g (p_t 25) 17 f_t_25, aI g (p_t 30) 7 f_t_30, aI g (p_t 31) 7 f_t_31] H → va_D A [oX10 a_t p_t o_t, aI g (p_t 15) 266 f_t_15, aI g (p_t 17) 17 f_t_17, aI g (p_t 25) 17 f_t_25, aI g (p_t 30) 7 f_t_30, aI g (p_t 31) 7 f_t_31] → va_S A s.heap H locs → lv_has ls 4 [(0, .ref a_t)] → W p l e (rmX10_tryCups (d + 1)) s m args below meth c H locs 0 0 (MQ below (EndV g [oX10 a_t p_t o_t', aI g (p_t 15) 266 f_t_15, aI g (p_t 17) 17 f_t_17, aI g (p_t 25) 17 f_t_25', aI g (p_t 30) 7 f_t_30', aI g (p_t 31) 7 f_t_31'] A) args s 0 0 A) (F0 m 80 ls [])) : ∀ (k : Nat) (x3 : Int32) (f_t_25 : Nat → Int32), fX10_tryCups_L42 n rec o_t f_t_15 f_t_30 K k x3 f_t_25 = some (o_t', f_t_25', f_t_30', f_t_31') → ∀ (H : Heap) (locs : List Loc) (ls : Array Slot), va_P g.1 vwCl [oX10 a_t p_t o_t, aI g (p_t 15) 266 f_t_15, aI g (p_t 17) 17 f_t_17, aI g (p_t 25) 17 f_t_25, aI g (p_t 30) 7 f_t_30, aI g (p_t 31) 7 f_t_31] H → va_D A [oX10 a_t p_t o_t, aI g (p_t 15) 266 f_t_15, aI g (p_t 17) 17 f_t_17, aI g (p_t 25) 17 f_t_25, aI g (p_t 30) 7 f_t_30, aI g (p_t 31) 7 f_t_31] → va_S A s.heap H locs → lv_has ls 4 [(0, .ref a_t), (3, .int x3)] → W p l e (rmX10_tryCups (d + 1)) s m args below meth c H locs 0 0 (MQ below (EndV g [oX10 a_t p_t o_t', aI g (p_t 15) 266 f_t_15, aI g (p_t 17) 17 f_t_17, aI g (p_t 25) 17 f_t_25', aI g (p_t 30) 7 f_t_30', aI g (p_t 31) 7 f_t_31'] A) args s 0 0 A) (F0 m 42 ls []) := by
  obtain ⟨hx, hb, hml, hown, hts, hr, hlk, hK, hA, hSW⟩ := id C0
  intro k
  induction k with
  | zero =>
    intro x3 f_t_25 hF
    exact absurd hF (by simp [fX10_tryCups_L42])
  | succ k ih =>
    intro x3 f_t_25 hF H locs ls hP hD hS hl
    rw [fX10_tryCups_L42] at hF
    refine lv_iload_n hx hb dX10_tryCups_42 rfl (lv_at hl 1 rfl) ?_
    refine lv_aload_n hx hb dX10_tryCups_43 rfl (lv_at hl 0 rfl) ?_
    refine va_get (D := g.1) (ci := 10) (v := .ref (p_t 15)) (C := RX10) (T := TX10) (N := 35) hx hb hts iX10_tryCups_X10 hown hK.1 hP 0 rfl rfl 15 (by decide) (hts _ kX10_tryCups_20) (fun _ h9 => h9) rfl dX10_tryCups_44 ?_
    refine lv_iconst (v := (3 : Int32)) hx hb dX10_tryCups_47 (by decide) ?_
    refine va_iald_k (j := 3) hx hb hK.1 hP 1 0 rfl rfl (by unfold vp_in; decide) rfl dX10_tryCups_48 ?_
    refine lv_icmp_ge (tgt := 80) hx hb dX10_tryCups_49 (by decide) (fun c_18 => ?_) (fun c_18 => ?_)
    · have hF := it_p c_18 hF
      exact hKx f_t_25 _ _ _ hF (hP.sub [0, 1, 2, 3, 4, 5] rfl) (hD.sub [0, 1, 2, 3, 4, 5] rfl rfl) hS (lv_sub hl [0] rfl)
    · have hF := it_n c_18 hF
      refine lv_aload_n hx hb dX10_tryCups_52 rfl (lv_at hl 0 rfl) ?_
      refine va_get (D := g.1) (ci := 10) (v := .ref (p_t 25)) (C := RX10) (T := TX10) (N := 35) hx hb hts iX10_tryCups_X10 hown hK.1 hP 0 rfl rfl 25 (by decide) (hts _ kX10_tryCups_35) (fun _ h9 => h9) rfl dX10_tryCups_53 ?_
      refine lv_iload_n hx hb dX10_tryCups_56 rfl (lv_at hl 1 rfl) ?_
      refine lv_dup2_11 hx hb dX10_tryCups_57 rfl rfl ?_
      obtain ⟨h_19, hF⟩ := it_ck hF
      refine va_iald hx hb hK.1 hP 3 0 rfl rfl h_19 dX10_tryCups_58 ?_
      refine lv_aload_n hx hb dX10_tryCups_59 rfl (lv_at hl 0 rfl) ?_
      refine va_get (D := g.1) (ci := 10) (v := .ref (p_t 30)) (C := RX10) (T := TX10) (N := 35) hx hb hts iX10_tryCups_X10 hown hK.1 hP 0 rfl rfl 30 (by decide) (hts _ kX10_tryCups_44) (fun _ h9 => h9) rfl dX10_tryCups_60 ?_
      refine lv_iload_n hx hb dX10_tryCups_63 rfl (lv_at hl 1 rfl) ?_
      obtain ⟨h_20, hF⟩ := it_ck hF
      refine va_iald hx hb hK.1 hP 4 0 rfl rfl h_20 dX10_tryCups_64 ?_
      refine lv_aload_n hx hb dX10_tryCups_65 rfl (lv_at hl 0 rfl) ?_
      refine va_get (D := g.1) (ci := 10) (v := .ref (p_t 15)) (C := RX10) (T := TX10) (N := 35) hx hb hts iX10_tryCups_X10 hown hK.1 hP 0 rfl rfl 15 (by decide) (hts _ kX10_tryCups_20) (fun _ h9 => h9) rfl dX10_tryCups_66 ?_
      refine lv_iconst (v := (1 : Int32)) hx hb dX10_tryCups_69 (by decide) ?_
      refine va_iald_k (j := 1) hx hb hK.1 hP 1 0 rfl rfl (by unfold vp_in; decide) rfl dX10_tryCups_70 ?_
      refine lv_imul hx hb dX10_tryCups_71 ?_
      refine lv_iadd hx hb dX10_tryCups_72 ?_
      obtain ⟨h_21, hF⟩ := it_ck hF
      refine va_iast hx hb hK.1 hP hD hS 3 0 rfl rfl h_21 dX10_tryCups_73 (fun H locs hP hD hS => ?_)
      have hP : va_P g.1 vwCl [oX10 a_t p_t o_t, aI g (p_t 15) 266 f_t_15, aI g (p_t 17) 17 f_t_17, aI g (p_t 25) 17 (upd f_t_25 (x3).toNatClampNeg ((f_t_25 (x3).toNatClampNeg) + ((f_t_30 (x3).toNatClampNeg) * (f_t_15 1)))), aI g (p_t 30) 7 f_t_30, aI g (p_t 31) 7 f_t_31] H := hP
      have hD : va_D A [oX10 a_t p_t o_t, aI g (p_t 15) 266 f_t_15, aI g (p_t 17) 17 f_t_17, aI g (p_t 25) 17 (upd f_t_25 (x3).toNatClampNeg ((f_t_25 (x3).toNatClampNeg) + ((f_t_30 (x3).toNatClampNeg) * (f_t_15 1)))), aI g (p_t 30) 7 f_t_30, aI g (p_t 31) 7 f_t_31] := hD
      refine lv_iinc (v := (x3 + (1 : Int32))) (lv' := [(3, .int (x3 + (1 : Int32))), (0, .ref a_t)]) hx hb dX10_tryCups_74 hl (k := 1) rfl rfl (by decide) rfl (fun ls hl => ?_)
      refine lv_goto (tgt := 42) hx hb dX10_tryCups_77 (by decide) ?_
      exact ih (x3 + (1 : Int32)) (upd f_t_25 (x3).toNatClampNeg ((f_t_25 (x3).toNatClampNeg) + ((f_t_30 (x3).toNatClampNeg) * (f_t_15 1)))) hF _ _ _ (hP.sub [0, 1, 2, 3, 4, 5] rfl) (hD.sub [0, 1, 2, 3, 4, 5] rfl rfl) hS (lv_sub hl [1, 0] rfl)
set_option maxHeartbeats 4000000 in
set_option maxRecDepth 100000 in
theorem mX10_tryCups (l : Launch) (g : GG) (a_t : Nat) (p_t : Nat → Nat) (n : Nat) : ∀ (d : Nat) (x1 : Int32) (x2 : Int32) (o_t : Nat → Int32) (f_t_15 : Nat → Int32) (f_t_17 : Nat → Int32) (f_t_25 : Nat → Int32) (f_t_30 : Nat → Int32) (f_t_31 : Nat → Int32) (o_t' : Nat → Int32) (f_t_25' : Nat → Int32) (f_t_30' : Nat → Int32) (f_t_31' : Nat → Int32), fX10_tryCups n d x1 x2 o_t f_t_15 f_t_17 f_t_25 f_t_30 f_t_31 = some (o_t', f_t_25', f_t_30', f_t_31') → MV l g yX10_tryCups wsX10_tryCups (rmX10_tryCups d) [.ref a_t, .int x1, .int x2] [oX10 a_t p_t o_t, aI g (p_t 15) 266 f_t_15, aI g (p_t 17) 17 f_t_17, aI g (p_t 25) 17 f_t_25, aI g (p_t 30) 7 f_t_30, aI g (p_t 31) 7 f_t_31] [oX10 a_t p_t o_t', aI g (p_t 15) 266 f_t_15, aI g (p_t 17) 17 f_t_17, aI g (p_t 25) 17 f_t_25', aI g (p_t 30) 7 f_t_30', aI g (p_t 31) 7 f_t_31'] := by
  intro d
  induction d with
  | zero =>
    intro x1 x2 o_t f_t_15 f_t_17 f_t_25 f_t_30 f_t_31 o_t' f_t_25' f_t_30' f_t_31' hF
    exact absurd hF (by simp [fX10_tryCups])
  | succ d hrec =>
  intro x1 x2 o_t f_t_15 f_t_17 f_t_25 f_t_30 f_t_31 o_t' f_t_25' f_t_30' f_t_31' hF
  refine MV.of (cc := cX10_tryCups) (maxL := 4) (own := RX10) rfl rfl (by decide) (Nat.le_of_ble_eq_true rfl) ?_
  intro p e s m args below meth c A C0 hP hD hS ls hl
  obtain ⟨hx, hb, hml, hown, hts, hr, hlk, hK, hA, hSW⟩ := id C0
  have hl : lv_has ls 4 [(0, .ref a_t), (1, .int x1), (2, .int x2)] := hl
  rw [fX10_tryCups] at hF
  refine lv_iload_n hx hb dX10_tryCups_0 rfl (lv_at hl 1 rfl) ?_
  refine lv_aload_n hx hb dX10_tryCups_1 rfl (lv_at hl 0 rfl) ?_
  refine va_get (D := g.1) (ci := 10) (v := .ref (p_t 15)) (C := RX10) (T := TX10) (N := 35) hx hb hts iX10_tryCups_X10 hown hK.1 hP 0 rfl rfl 15 (by decide) (hts _ kX10_tryCups_20) (fun _ h9 => h9) rfl dX10_tryCups_2 ?_
  refine lv_iconst (v := (3 : Int32)) hx hb dX10_tryCups_5 (by decide) ?_
  refine va_iald_k (j := 3) hx hb hK.1 hP 1 0 rfl rfl (by unfold vp_in; decide) rfl dX10_tryCups_6 ?_
  refine lv_icmp_ne (tgt := 132) hx hb dX10_tryCups_7 (by decide) (fun c_1 => ?_) (fun c_1 => ?_)
  · have hF := it_n c_1 hF
    refine lv_iconst (v := (0 : Int32)) hx hb dX10_tryCups_132 (by decide) ?_
    refine lv_istore_n (lv' := [(3, .int (0 : Int32)), (0, .ref a_t), (1, .int x1), (2, .int x2)]) hx hb dX10_tryCups_133 rfl hl (by decide) rfl (fun ls hl => ?_)
    refine wX10_tryCups_L134 C0 a_t p_t n (fX10_tryCups n d) x1 x2 f_t_15 f_t_17 o_t' f_t_25' f_t_30' f_t_31' _ d hrec ?_ n (0 : Int32) o_t f_t_25 f_t_30 f_t_31 hF _ _ _ (hP.sub [0, 1, 2, 3, 4, 5] rfl) (hD.sub [0, 1, 2, 3, 4, 5] rfl rfl) hS (lv_sub hl [1, 2, 3, 0] rfl)
    · intro o_t_x134 f_t_25_x134 f_t_30_x134 f_t_31_x134 H locs ls hF hP hD hS hl
      refine lv_aload_n hx hb dX10_tryCups_177 rfl (lv_at hl 0 rfl) ?_
      refine va_get (D := g.1) (ci := 10) (v := .ref (p_t 30)) (C := RX10) (T := TX10) (N := 35) hx hb hts iX10_tryCups_X10 hown hK.1 hP 0 rfl rfl 30 (by decide) (hts _ kX10_tryCups_44) (fun _ h9 => h9) rfl dX10_tryCups_178 ?_
      refine lv_iload_n hx hb dX10_tryCups_181 rfl (lv_at hl 1 rfl) ?_
      refine lv_iconst (v := (0 : Int32)) hx hb dX10_tryCups_182 (by decide) ?_
      obtain ⟨h_13, hF⟩ := it_ck hF
      refine va_iast hx hb hK.1 hP hD hS 4 0 rfl rfl h_13 dX10_tryCups_183 (fun H locs hP hD hS => ?_)
      have hP : va_P g.1 vwCl [oX10 a_t p_t o_t_x134, aI g (p_t 15) 266 f_t_15, aI g (p_t 17) 17 f_t_17, aI g (p_t 25) 17 f_t_25_x134, aI g (p_t 30) 7 (upd f_t_30_x134 (x1).toNatClampNeg (0 : Int32)), aI g (p_t 31) 7 f_t_31_x134] H := hP
      have hD : va_D A [oX10 a_t p_t o_t_x134, aI g (p_t 15) 266 f_t_15, aI g (p_t 17) 17 f_t_17, aI g (p_t 25) 17 f_t_25_x134, aI g (p_t 30) 7 (upd f_t_30_x134 (x1).toNatClampNeg (0 : Int32)), aI g (p_t 31) 7 f_t_31_x134] := hD
      cases hF
      exact ret_v C0 hP hD hS [0, 1, 2, 3, 4, 5] rfl rfl rfl dX10_tryCups_184
  · have hF := it_p c_1 hF
    refine lv_iload_n hx hb dX10_tryCups_10 rfl (lv_at hl 2 rfl) ?_
    refine lv_if_gt (tgt := 24) hx hb dX10_tryCups_11 (by decide) (fun c_14 => ?_) (fun c_14 => ?_)
    · have hF := it_p c_14 hF
      cases hF
      exact ret_v C0 hP hD hS [0, 1, 2, 3, 4, 5] rfl rfl rfl dX10_tryCups_24
    · have hF := it_n c_14 hF
      refine lv_aload_n hx hb dX10_tryCups_14 rfl (lv_at hl 0 rfl) ?_
      refine va_get (D := g.1) (ci := 10) (v := .int (o_t 32)) (C := RX10) (T := TX10) (N := 35) hx hb hts iX10_tryCups_X10 hown hK.1 hP 0 rfl rfl 32 (by decide) (hts _ kX10_tryCups_344) (fun _ h9 => h9) rfl dX10_tryCups_15 ?_
      refine lv_ldcw (v := (1000000 : Int32)) hx hb hown (hts _ kX10_tryCups_321) dX10_tryCups_18 ?_
      refine lv_icmp_ne (tgt := 25) hx hb dX10_tryCups_21 (by decide) (fun c_15 => ?_) (fun c_15 => ?_)
      · have hF := it_n c_15 hF
        refine lv_aload_n hx hb dX10_tryCups_25 rfl (lv_at hl 0 rfl) ?_
        refine va_get (D := g.1) (ci := 10) (v := .ref (p_t 17)) (C := RX10) (T := TX10) (N := 35) hx hb hts iX10_tryCups_X10 hown hK.1 hP 0 rfl rfl 17 (by decide) (hts _ kX10_tryCups_26) (fun _ h9 => h9) rfl dX10_tryCups_26 ?_
        refine lv_iconst (v := (0 : Int32)) hx hb dX10_tryCups_29 (by decide) ?_
        refine lv_aload_n hx hb dX10_tryCups_30 rfl (lv_at hl 0 rfl) ?_
        refine va_get (D := g.1) (ci := 10) (v := .ref (p_t 25)) (C := RX10) (T := TX10) (N := 35) hx hb hts iX10_tryCups_X10 hown hK.1 hP 0 rfl rfl 25 (by decide) (hts _ kX10_tryCups_35) (fun _ h9 => h9) rfl dX10_tryCups_31 ?_
        refine lv_iconst (v := (0 : Int32)) hx hb dX10_tryCups_34 (by decide) ?_
        refine lv_bipush (v := (17 : Int32)) hx hb dX10_tryCups_35 (by decide) ?_
        obtain ⟨u_16, hu_17, hF⟩ := ob1_some hF
        refine call_sv (wr := [oX10 a_t p_t o_t, aI g (p_t 15) 266 f_t_15, aI g (p_t 30) 7 f_t_30, aI g (p_t 31) 7 f_t_31]) (As := [.ref (p_t 17), .int (0 : Int32), .ref (p_t 25), .int (0 : Int32), .int (17 : Int32)]) (rest := []) C0 (mX10_copy l g (p_t 17) (p_t 25) n (0 : Int32) (0 : Int32) (17 : Int32) 17 17 f_t_17 f_t_25 u_16 hu_17) (va_cwS 5 hts gX10_tryCups_X10_copy rfl rfl rfl (by decide +kernel) ⟨Nat.le_of_ble_eq_true rfl, Nat.le_of_ble_eq_true rfl⟩) hP hD hS [2, 3] [0, 1, 4, 5] rfl rfl rfl rfl rfl (by decide) hl.1 rfl rfl (Nat.le_of_ble_eq_true rfl) ⟨Nat.zero_le _, Nat.zero_le _⟩ dX10_tryCups_37 ?_
        intro H locs hP hD hS
        refine lv_iconst (v := (0 : Int32)) hx hb dX10_tryCups_40 (by decide) ?_
        refine lv_istore_n (lv' := [(3, .int (0 : Int32)), (0, .ref a_t), (1, .int x1), (2, .int x2)]) hx hb dX10_tryCups_41 rfl hl (by decide) rfl (fun ls hl => ?_)
        refine wX10_tryCups_L42 C0 a_t p_t n (fX10_tryCups n d) o_t f_t_15 f_t_30 f_t_17 f_t_31 o_t' f_t_25' f_t_30' f_t_31' _ d hrec ?_ n (0 : Int32) u_16 hF _ _ _ (hP.sub [0, 1, 4, 5, 2, 3] rfl) (hD.sub [0, 1, 4, 5, 2, 3] rfl rfl) hS (lv_sub hl [1, 0] rfl)
        · intro f_t_25_x42 H locs ls hF hP hD hS hl
          refine lv_aload_n hx hb dX10_tryCups_80 rfl (lv_at hl 0 rfl) ?_
          refine lv_aload_n hx hb dX10_tryCups_81 rfl (lv_at hl 0 rfl) ?_
          refine va_get (D := g.1) (ci := 10) (v := .ref (p_t 25)) (C := RX10) (T := TX10) (N := 35) hx hb hts iX10_tryCups_X10 hown hK.1 hP 0 rfl rfl 25 (by decide) (hts _ kX10_tryCups_35) (fun _ h9 => h9) rfl dX10_tryCups_82 ?_
          refine lv_iconst (v := (0 : Int32)) hx hb dX10_tryCups_85 (by decide) ?_
          obtain ⟨u_22, u_23, u_24, hu_25, hF⟩ := ob3_some hF
          refine call_i (wr := [aI g (p_t 17) 17 f_t_17, aI g (p_t 30) 7 f_t_30, aI g (p_t 31) 7 f_t_31]) (As := [.ref (p_t 25), .int (0 : Int32)]) (rest := []) (ci := 10) (q0 := 0) C0 (mX10_endsOn l g a_t (p_t 25) p_t n (0 : Int32) o_t f_t_15 f_t_25_x42 u_22 u_23 u_24 hu_25) (cwV 2 hts gX10_tryCups_X10_endsOn rfl rfl rfl (by decide +kernel) ⟨by first | exact Nat.le_of_ble_eq_true rfl | (simp only [rmX10_tryCups]; omega), by first | exact Nat.le_of_ble_eq_true rfl | (simp only [rmX10_tryCups]; omega)⟩) hP hD hS [0, 1, 3] [2, 4, 5] rfl rfl rfl rfl rfl (by decide) rfl rfl hl.1 rfl rfl (Nat.le_of_ble_eq_true rfl) ⟨Nat.zero_le _, Nat.zero_le _⟩ dX10_tryCups_86 ?_
          intro H locs hP hD hS
          refine lv_istore_n (lv' := [(3, .int u_22), (0, .ref a_t)]) hx hb dX10_tryCups_89 rfl hl (by decide) rfl (fun ls hl => ?_)
          refine lv_iload_n hx hb dX10_tryCups_90 rfl (lv_at hl 0 rfl) ?_
          obtain ⟨J101, eJ101, hF⟩ := jn_some hF
          have hJ101 : ∀ (s0_101 : Int32) (H : Heap) (locs : List Loc) (ls : Array Slot), J101 s0_101 = some (o_t', f_t_25', f_t_30', f_t_31') → va_P g.1 vwCl [aI g (p_t 17) 17 f_t_17, aI g (p_t 30) 7 f_t_30, aI g (p_t 31) 7 f_t_31, oX10 a_t p_t u_23, aI g (p_t 15) 266 f_t_15, aI g (p_t 25) 17 u_24] H → va_D A [aI g (p_t 17) 17 f_t_17, aI g (p_t 30) 7 f_t_30, aI g (p_t 31) 7 f_t_31, oX10 a_t p_t u_23, aI g (p_t 15) 266 f_t_15, aI g (p_t 25) 17 u_24] → va_S A s.heap H locs → lv_has ls 4 [(0, .ref a_t)] → W p l e (rmX10_tryCups (d + 1)) s m args below meth c H locs 0 0 (MQ below (EndV g [oX10 a_t p_t o_t', aI g (p_t 15) 266 f_t_15, aI g (p_t 17) 17 f_t_17, aI g (p_t 25) 17 f_t_25', aI g (p_t 30) 7 f_t_30', aI g (p_t 31) 7 f_t_31'] A) args s 0 0 A) (F0 m 101 ls [.int s0_101]) := by
            intro s0_101 H locs ls hF hP hD hS hl
            have hF := jj1 eJ101 hF
            refine lv_istore_n (lv' := [(3, .int s0_101), (0, .ref a_t)]) hx hb dX10_tryCups_101 rfl hl (by decide) rfl (fun ls hl => ?_)
            refine lv_iload_n hx hb dX10_tryCups_102 rfl (lv_at hl 0 rfl) ?_
            refine lv_aload_n hx hb dX10_tryCups_103 rfl (lv_at hl 1 rfl) ?_
            refine va_get (D := g.1) (ci := 10) (v := .int (u_23 32)) (C := RX10) (T := TX10) (N := 35) hx hb hts iX10_tryCups_X10 hown hK.1 hP 3 rfl rfl 32 (by decide) (hts _ kX10_tryCups_344) (fun _ h9 => h9) rfl dX10_tryCups_104 ?_
            refine lv_icmp_gt (tgt := 111) hx hb dX10_tryCups_107 (by decide) (fun c_26 => ?_) (fun c_26 => ?_)
            · have hF := it_p c_26 hF
              refine lv_aload_n hx hb dX10_tryCups_111 rfl (lv_at hl 1 rfl) ?_
              refine lv_iload_n hx hb dX10_tryCups_112 rfl (lv_at hl 0 rfl) ?_
              refine va_put (D := g.1) (ci := 10) (v := .int s0_101) (ty := .int) (C := RX10) (T := TX10) (N := 35) hx hb hts iX10_tryCups_X10 tyX10 tyX10_ok nmX10 hown hK.1 hP hD hS 3 rfl rfl 32 (by decide) (hts _ kX10_tryCups_344) (fun _ h9 => h9) rfl (by decide +kernel) rfl rfl (Nat.le_of_ble_eq_true rfl) dX10_tryCups_113 (fun H locs hP hD hS => ?_)
              have hP : va_P g.1 vwCl [aI g (p_t 17) 17 f_t_17, aI g (p_t 30) 7 f_t_30, aI g (p_t 31) 7 f_t_31, oX10 a_t p_t (upd u_23 32 s0_101), aI g (p_t 15) 266 f_t_15, aI g (p_t 25) 17 u_24] H := hP
              have hD : va_D A [aI g (p_t 17) 17 f_t_17, aI g (p_t 30) 7 f_t_30, aI g (p_t 31) 7 f_t_31, oX10 a_t p_t (upd u_23 32 s0_101), aI g (p_t 15) 266 f_t_15, aI g (p_t 25) 17 u_24] := hD
              refine lv_aload_n hx hb dX10_tryCups_116 rfl (lv_at hl 1 rfl) ?_
              refine va_get (D := g.1) (ci := 10) (v := .ref (p_t 30)) (C := RX10) (T := TX10) (N := 35) hx hb hts iX10_tryCups_X10 hown hK.1 hP 3 rfl rfl 30 (by decide) (hts _ kX10_tryCups_44) (fun _ h9 => h9) rfl dX10_tryCups_117 ?_
              refine lv_iconst (v := (0 : Int32)) hx hb dX10_tryCups_120 (by decide) ?_
              refine lv_aload_n hx hb dX10_tryCups_121 rfl (lv_at hl 1 rfl) ?_
              refine va_get (D := g.1) (ci := 10) (v := .ref (p_t 31)) (C := RX10) (T := TX10) (N := 35) hx hb hts iX10_tryCups_X10 hown hK.1 hP 3 rfl rfl 31 (by decide) (hts _ kX10_tryCups_47) (fun _ h9 => h9) rfl dX10_tryCups_122 ?_
              refine lv_iconst (v := (0 : Int32)) hx hb dX10_tryCups_125 (by decide) ?_
              refine lv_bipush (v := (7 : Int32)) hx hb dX10_tryCups_126 (by decide) ?_
              obtain ⟨u_27, hu_28, hF⟩ := ob1_some hF
              refine call_sv (wr := [aI g (p_t 17) 17 f_t_17, oX10 a_t p_t (upd u_23 32 s0_101), aI g (p_t 15) 266 f_t_15, aI g (p_t 25) 17 u_24]) (As := [.ref (p_t 30), .int (0 : Int32), .ref (p_t 31), .int (0 : Int32), .int (7 : Int32)]) (rest := []) C0 (mX10_copy l g (p_t 30) (p_t 31) n (0 : Int32) (0 : Int32) (7 : Int32) 7 7 f_t_30 f_t_31 u_27 hu_28) (va_cwS 5 hts gX10_tryCups_X10_copy rfl rfl rfl (by decide +kernel) ⟨Nat.le_of_ble_eq_true rfl, Nat.le_of_ble_eq_true rfl⟩) hP hD hS [1, 2] [0, 3, 4, 5] rfl rfl rfl rfl rfl (by decide) hl.1 rfl rfl (Nat.le_of_ble_eq_true rfl) ⟨Nat.zero_le _, Nat.zero_le _⟩ dX10_tryCups_128 ?_
              intro H locs hP hD hS
              cases hF
              exact ret_v C0 hP hD hS [1, 2, 0, 3, 4, 5] rfl rfl rfl dX10_tryCups_131
            · have hF := it_n c_26 hF
              cases hF
              exact ret_v C0 hP hD hS [3, 4, 0, 5, 1, 2] rfl rfl rfl dX10_tryCups_110
          refine lv_if_ge (tgt := 100) hx hb dX10_tryCups_91 (by decide) (fun c_29 => ?_) (fun c_29 => ?_)
          · have hF := it_p c_29 hF
            refine lv_iload_n hx hb dX10_tryCups_100 rfl (lv_at hl 0 rfl) ?_
            exact hJ101 u_22 _ _ _ hF (hP.sub [0, 1, 2, 3, 4, 5] rfl) (hD.sub [0, 1, 2, 3, 4, 5] rfl rfl) hS (lv_sub hl [1] rfl)
          · have hF := it_n c_29 hF
            refine lv_ldcw (v := (1000000 : Int32)) hx hb hown (hts _ kX10_tryCups_321) dX10_tryCups_94 ?_
            refine lv_goto (tgt := 101) hx hb dX10_tryCups_97 (by decide) ?_
            exact hJ101 (1000000 : Int32) _ _ _ hF (hP.sub [0, 1, 2, 3, 4, 5] rfl) (hD.sub [0, 1, 2, 3, 4, 5] rfl rfl) hS (lv_sub hl [1] rfl)
      · have hF := it_p c_15 hF
        cases hF
        exact ret_v C0 hP hD hS [0, 1, 2, 3, 4, 5] rfl rfl rfl dX10_tryCups_24

theorem dAX10_seekCups : ∀ q ∈ ([(0, (.aload_n 0, 1)), (1, (.iconst (-1), 1)), (2, (.putfield 344, 3)), (5, (.iconst 0, 1)), (6, (.istore_n 1, 1)), (7, (.iload_n 1, 1)), (8, (.aload_n 0, 1)), (9, (.getfield 26, 3)), (12, (.bipush 15, 2)), (14, (.iaload, 1)), (15, (.if_icmp .gt 15, 3)), (18, (.aload_n 0, 1)), (19, (.iconst 0, 1)), (20, (.iload_n 1, 1)), (21, (.invokevirtual 347, 3)), (24, (.iinc 1 1, 3)), (27, (.goto (-20), 3)), (30, (.aload_n 0, 1)), (31, (.getfield 344, 3)), (34, (.ldc_w 321, 3)), (37, (.if_icmp .ge 7, 3)), (40, (.iconst 1, 1)), (41, (.goto 4, 3)), (44, (.iconst 0, 1)), (45, (.ireturn, 1))] : List (Nat × (Instr × Nat))), decode cX10_seekCups q.1 = .ok q.2 := by decide +kernel
theorem dX10_seekCups_0 : decode cX10_seekCups 0 = .ok (.aload_n 0, 1) := dAX10_seekCups (0, (.aload_n 0, 1)) (List.mem_of_getElem? (i := 0) rfl)
theorem dX10_seekCups_1 : decode cX10_seekCups 1 = .ok (.iconst (-1), 1) := dAX10_seekCups (1, (.iconst (-1), 1)) (List.mem_of_getElem? (i := 1) rfl)
theorem dX10_seekCups_2 : decode cX10_seekCups 2 = .ok (.putfield 344, 3) := dAX10_seekCups (2, (.putfield 344, 3)) (List.mem_of_getElem? (i := 2) rfl)
theorem dX10_seekCups_5 : decode cX10_seekCups 5 = .ok (.iconst 0, 1) := dAX10_seekCups (5, (.iconst 0, 1)) (List.mem_of_getElem? (i := 3) rfl)
theorem dX10_seekCups_6 : decode cX10_seekCups 6 = .ok (.istore_n 1, 1) := dAX10_seekCups (6, (.istore_n 1, 1)) (List.mem_of_getElem? (i := 4) rfl)
theorem dX10_seekCups_7 : decode cX10_seekCups 7 = .ok (.iload_n 1, 1) := dAX10_seekCups (7, (.iload_n 1, 1)) (List.mem_of_getElem? (i := 5) rfl)
theorem dX10_seekCups_8 : decode cX10_seekCups 8 = .ok (.aload_n 0, 1) := dAX10_seekCups (8, (.aload_n 0, 1)) (List.mem_of_getElem? (i := 6) rfl)
theorem dX10_seekCups_9 : decode cX10_seekCups 9 = .ok (.getfield 26, 3) := dAX10_seekCups (9, (.getfield 26, 3)) (List.mem_of_getElem? (i := 7) rfl)
theorem dX10_seekCups_12 : decode cX10_seekCups 12 = .ok (.bipush 15, 2) := dAX10_seekCups (12, (.bipush 15, 2)) (List.mem_of_getElem? (i := 8) rfl)
theorem dX10_seekCups_14 : decode cX10_seekCups 14 = .ok (.iaload, 1) := dAX10_seekCups (14, (.iaload, 1)) (List.mem_of_getElem? (i := 9) rfl)
theorem dX10_seekCups_15 : decode cX10_seekCups 15 = .ok (.if_icmp .gt 15, 3) := dAX10_seekCups (15, (.if_icmp .gt 15, 3)) (List.mem_of_getElem? (i := 10) rfl)
theorem dX10_seekCups_18 : decode cX10_seekCups 18 = .ok (.aload_n 0, 1) := dAX10_seekCups (18, (.aload_n 0, 1)) (List.mem_of_getElem? (i := 11) rfl)
theorem dX10_seekCups_19 : decode cX10_seekCups 19 = .ok (.iconst 0, 1) := dAX10_seekCups (19, (.iconst 0, 1)) (List.mem_of_getElem? (i := 12) rfl)
theorem dX10_seekCups_20 : decode cX10_seekCups 20 = .ok (.iload_n 1, 1) := dAX10_seekCups (20, (.iload_n 1, 1)) (List.mem_of_getElem? (i := 13) rfl)
theorem dX10_seekCups_21 : decode cX10_seekCups 21 = .ok (.invokevirtual 347, 3) := dAX10_seekCups (21, (.invokevirtual 347, 3)) (List.mem_of_getElem? (i := 14) rfl)
theorem dX10_seekCups_24 : decode cX10_seekCups 24 = .ok (.iinc 1 1, 3) := dAX10_seekCups (24, (.iinc 1 1, 3)) (List.mem_of_getElem? (i := 15) rfl)
theorem dX10_seekCups_27 : decode cX10_seekCups 27 = .ok (.goto (-20), 3) := dAX10_seekCups (27, (.goto (-20), 3)) (List.mem_of_getElem? (i := 16) rfl)
theorem dX10_seekCups_30 : decode cX10_seekCups 30 = .ok (.aload_n 0, 1) := dAX10_seekCups (30, (.aload_n 0, 1)) (List.mem_of_getElem? (i := 17) rfl)
theorem dX10_seekCups_31 : decode cX10_seekCups 31 = .ok (.getfield 344, 3) := dAX10_seekCups (31, (.getfield 344, 3)) (List.mem_of_getElem? (i := 18) rfl)
theorem dX10_seekCups_34 : decode cX10_seekCups 34 = .ok (.ldc_w 321, 3) := dAX10_seekCups (34, (.ldc_w 321, 3)) (List.mem_of_getElem? (i := 19) rfl)
theorem dX10_seekCups_37 : decode cX10_seekCups 37 = .ok (.if_icmp .ge 7, 3) := dAX10_seekCups (37, (.if_icmp .ge 7, 3)) (List.mem_of_getElem? (i := 20) rfl)
theorem dX10_seekCups_40 : decode cX10_seekCups 40 = .ok (.iconst 1, 1) := dAX10_seekCups (40, (.iconst 1, 1)) (List.mem_of_getElem? (i := 21) rfl)
theorem dX10_seekCups_41 : decode cX10_seekCups 41 = .ok (.goto 4, 3) := dAX10_seekCups (41, (.goto 4, 3)) (List.mem_of_getElem? (i := 22) rfl)
theorem dX10_seekCups_44 : decode cX10_seekCups 44 = .ok (.iconst 0, 1) := dAX10_seekCups (44, (.iconst 0, 1)) (List.mem_of_getElem? (i := 23) rfl)
theorem dX10_seekCups_45 : decode cX10_seekCups 45 = .ok (.ireturn, 1) := dAX10_seekCups (45, (.ireturn, 1)) (List.mem_of_getElem? (i := 24) rfl)
set_option maxRecDepth 20000 in
theorem ggX10_seekCups_X10_tryCups : GoodIn wsX10_seekCups wsX10_tryCups := goodIn_r _ [8, 9, 1, 3, 2, 10, 11, 12, 13, 14, 7, 15, 16, 17, 18, 19, 20, 21, 22, 23, 24, 25, 26, 27, 28, 29, 30, 31, 32, 33, 34, 35, 36, 37, 38, 39, 40, 41, 42, 43, 44, 45, 46, 47, 48, 49, 50, 51, 52, 53, 54, 55, 56, 57, 58, 59, 60, 61, 62, 63, 64, 65, 4, 5, 6, 66, 67, 68, 69, 70, 71, 72, 73, 74, 75, 76, 77, 78, 79, 80, 81, 82, 83, 84, 85, 86, 87, 88, 89, 90, 91, 92, 93, 94, 95, 96, 97, 98, 99, 100] rfl (by decide +kernel)
set_option maxRecDepth 20000 in
theorem gX10_seekCups_X10_tryCups : GoodIn wsX10_seekCups (wsV RX10 347 RX10 yX10_tryCups wsX10_tryCups) := goodIn_app (goodIn_of _ (by decide +kernel)) ggX10_seekCups_X10_tryCups
theorem kX10_seekCups_344 : Cond.fieldLink RX10 344 "EveningVowModel" "latestOf" "I" ∈ wsX10_seekCups := List.mem_of_getElem? (i := 1) rfl
theorem iX10_seekCups_X10 : ∀ w ∈ u_ws RX10 TX10 35, w ∈ wsX10_seekCups := fun w h => (List.mem_cons_of_mem _ (List.mem_append_right _ h))
theorem kX10_seekCups_26 : Cond.fieldLink RX10 26 "EveningVowModel" "st" "[I" ∈ wsX10_seekCups := List.mem_of_getElem? (i := 2) rfl
theorem kX10_seekCups_321 : Cond.constant RX10 321 (1000000 : Int32) ∈ wsX10_seekCups := by decide +kernel
set_option maxHeartbeats 4000000 in
set_option maxRecDepth 100000 in
theorem wX10_seekCups_L7 {p : Program} {l : Launch} {e : Env} {s : State} {m : MethodId} {args : Array Value} {below : List Frame} {meth : Method} {c : Code} {g : GG} {A : Nat → Prop} (C0 : Cx p s m args meth c cX10_seekCups 2 (some .boolean) RX10 wsX10_seekCups g A) (a_t : Nat) (p_t : Nat → Nat) (n : Nat) (f_t_15 : Nat → Int32) (f_t_17 : Nat → Int32)  (r : Int32) (o_t' : Nat → Int32) (f_t_25' : Nat → Int32) (f_t_30' : Nat → Int32) (f_t_31' : Nat → Int32) (K : (Nat → Int32) → (Nat → Int32) → (Nat → Int32) → (Nat → Int32) → Option (Int32 × (Nat → Int32) × (Nat → Int32) × (Nat → Int32) × (Nat → Int32))) (hKx : ∀ (o_t : Nat → Int32) (f_t_25 : Nat → Int32) (f_t_30 : Nat → Int32) (f_t_31 : Nat → Int32) (H : Heap) (locs : List Loc) (ls : Array Slot), K o_t f_t_25 f_t_30 f_t_31 = some (r, o_t', f_t_25', f_t_30', f_t_31') → va_P g.1 vwCl [oX10 a_t p_t o_t, aI g (p_t 15) 266 f_t_15, aI g (p_t 17) 17 f_t_17, aI g (p_t 25) 17 f_t_25, aI g (p_t 30) 7 f_t_30, aI g (p_t 31) 7 f_t_31] H → va_D A [oX10 a_t p_t o_t, aI g (p_t 15) 266 f_t_15, aI g (p_t 17) 17 f_t_17, aI g (p_t 25) 17 f_t_25, aI g (p_t 30) 7 f_t_30, aI g (p_t 31) 7 f_t_31] → va_S A s.heap H locs → lv_has ls 2 [(0, .ref a_t)] → W p l e ({ frames := 16, cells := 0, slots := 0, locals := 369 } : Room) s m args below meth c H locs 0 0 (MQ below (EndI g r [oX10 a_t p_t o_t', aI g (p_t 15) 266 f_t_15, aI g (p_t 17) 17 f_t_17, aI g (p_t 25) 17 f_t_25', aI g (p_t 30) 7 f_t_30', aI g (p_t 31) 7 f_t_31'] A) args s 0 0 A) (F0 m 30 ls [])) : ∀ (k : Nat) (x1 : Int32) (o_t : Nat → Int32) (f_t_25 : Nat → Int32) (f_t_30 : Nat → Int32) (f_t_31 : Nat → Int32), fX10_seekCups_L7 n f_t_15 f_t_17 K k x1 o_t f_t_25 f_t_30 f_t_31 = some (r, o_t', f_t_25', f_t_30', f_t_31') → ∀ (H : Heap) (locs : List Loc) (ls : Array Slot), va_P g.1 vwCl [oX10 a_t p_t o_t, aI g (p_t 15) 266 f_t_15, aI g (p_t 17) 17 f_t_17, aI g (p_t 25) 17 f_t_25, aI g (p_t 30) 7 f_t_30, aI g (p_t 31) 7 f_t_31] H → va_D A [oX10 a_t p_t o_t, aI g (p_t 15) 266 f_t_15, aI g (p_t 17) 17 f_t_17, aI g (p_t 25) 17 f_t_25, aI g (p_t 30) 7 f_t_30, aI g (p_t 31) 7 f_t_31] → va_S A s.heap H locs → lv_has ls 2 [(0, .ref a_t), (1, .int x1)] → W p l e ({ frames := 16, cells := 0, slots := 0, locals := 369 } : Room) s m args below meth c H locs 0 0 (MQ below (EndI g r [oX10 a_t p_t o_t', aI g (p_t 15) 266 f_t_15, aI g (p_t 17) 17 f_t_17, aI g (p_t 25) 17 f_t_25', aI g (p_t 30) 7 f_t_30', aI g (p_t 31) 7 f_t_31'] A) args s 0 0 A) (F0 m 7 ls []) := by
  obtain ⟨hx, hb, hml, hown, hts, hr, hlk, hK, hA, hSW⟩ := id C0
  intro k
  induction k with
  | zero =>
    intro x1 o_t f_t_25 f_t_30 f_t_31 hF
    exact absurd hF (by simp [fX10_seekCups_L7])
  | succ k ih =>
    intro x1 o_t f_t_25 f_t_30 f_t_31 hF H locs ls hP hD hS hl
    rw [fX10_seekCups_L7] at hF
    refine lv_iload_n hx hb dX10_seekCups_7 rfl (lv_at hl 1 rfl) ?_
    refine lv_aload_n hx hb dX10_seekCups_8 rfl (lv_at hl 0 rfl) ?_
    refine va_get (D := g.1) (ci := 10) (v := .ref (p_t 17)) (C := RX10) (T := TX10) (N := 35) hx hb hts iX10_seekCups_X10 hown hK.1 hP 0 rfl rfl 17 (by decide) (hts _ kX10_seekCups_26) (fun _ h9 => h9) rfl dX10_seekCups_9 ?_
    refine lv_bipush (v := (15 : Int32)) hx hb dX10_seekCups_12 (by decide) ?_
    refine va_iald_k (j := 15) hx hb hK.1 hP 2 0 rfl rfl (by unfold vp_in; decide) rfl dX10_seekCups_14 ?_
    refine lv_icmp_gt (tgt := 30) hx hb dX10_seekCups_15 (by decide) (fun c_1 => ?_) (fun c_1 => ?_)
    · have hF := it_p c_1 hF
      exact hKx o_t f_t_25 f_t_30 f_t_31 _ _ _ hF (hP.sub [0, 1, 2, 3, 4, 5] rfl) (hD.sub [0, 1, 2, 3, 4, 5] rfl rfl) hS (lv_sub hl [0] rfl)
    · have hF := it_n c_1 hF
      refine lv_aload_n hx hb dX10_seekCups_18 rfl (lv_at hl 0 rfl) ?_
      refine lv_iconst (v := (0 : Int32)) hx hb dX10_seekCups_19 (by decide) ?_
      refine lv_iload_n hx hb dX10_seekCups_20 rfl (lv_at hl 1 rfl) ?_
      obtain ⟨u_2, u_3, u_4, u_5, hu_6, hF⟩ := ob4_some hF
      refine call_v (wr := []) (As := [.int (0 : Int32), .int x1]) (rest := []) (ci := 10) (q0 := 0) C0 (mX10_tryCups l g a_t p_t n 10 (0 : Int32) x1 o_t f_t_15 f_t_17 f_t_25 f_t_30 f_t_31 u_2 u_3 u_4 u_5 hu_6) (cwV 2 hts gX10_seekCups_X10_tryCups rfl rfl rfl (by decide +kernel) ⟨Nat.le_of_ble_eq_true rfl, Nat.le_of_ble_eq_true rfl⟩) hP hD hS [0, 1, 2, 3, 4, 5] [] rfl rfl rfl rfl rfl (by decide) rfl rfl hl.1 rfl rfl (Nat.le_of_ble_eq_true rfl) ⟨Nat.zero_le _, Nat.zero_le _⟩ dX10_seekCups_21 ?_
      intro H locs hP hD hS
      refine lv_iinc (v := (x1 + (1 : Int32))) (lv' := [(1, .int (x1 + (1 : Int32))), (0, .ref a_t)]) hx hb dX10_seekCups_24 hl (k := 1) rfl rfl (by decide) rfl (fun ls hl => ?_)
      refine lv_goto (tgt := 7) hx hb dX10_seekCups_27 (by decide) ?_
      exact ih (x1 + (1 : Int32)) u_2 u_3 u_4 u_5 hF _ _ _ (hP.sub [0, 1, 2, 3, 4, 5] rfl) (hD.sub [0, 1, 2, 3, 4, 5] rfl rfl) hS (lv_sub hl [1, 0] rfl)
set_option maxHeartbeats 4000000 in
set_option maxRecDepth 100000 in
theorem mX10_seekCups (l : Launch) (g : GG) (a_t : Nat) (p_t : Nat → Nat) (n : Nat) (o_t : Nat → Int32) (f_t_15 : Nat → Int32) (f_t_17 : Nat → Int32) (f_t_25 : Nat → Int32) (f_t_30 : Nat → Int32) (f_t_31 : Nat → Int32) (r : Int32) (o_t' : Nat → Int32) (f_t_25' : Nat → Int32) (f_t_30' : Nat → Int32) (f_t_31' : Nat → Int32) (hF : fX10_seekCups n o_t f_t_15 f_t_17 f_t_25 f_t_30 f_t_31 = some (r, o_t', f_t_25', f_t_30', f_t_31')) : MI l g yX10_seekCups wsX10_seekCups ({ frames := 16, cells := 0, slots := 0, locals := 369 } : Room) [.ref a_t] [oX10 a_t p_t o_t, aI g (p_t 15) 266 f_t_15, aI g (p_t 17) 17 f_t_17, aI g (p_t 25) 17 f_t_25, aI g (p_t 30) 7 f_t_30, aI g (p_t 31) 7 f_t_31] r [oX10 a_t p_t o_t', aI g (p_t 15) 266 f_t_15, aI g (p_t 17) 17 f_t_17, aI g (p_t 25) 17 f_t_25', aI g (p_t 30) 7 f_t_30', aI g (p_t 31) 7 f_t_31'] := by
  refine MI.of (cc := cX10_seekCups) (maxL := 2) (rt := .boolean) (own := RX10) rfl rfl (by decide) (Nat.le_of_ble_eq_true rfl) ?_
  intro p e s m args below meth c A C0 hP hD hS ls hl
  obtain ⟨hx, hb, hml, hown, hts, hr, hlk, hK, hA, hSW⟩ := id C0
  have hl : lv_has ls 2 [(0, .ref a_t)] := hl
  rw [fX10_seekCups] at hF
  refine lv_aload_n hx hb dX10_seekCups_0 rfl (lv_at hl 0 rfl) ?_
  refine lv_iconst (v := (-1 : Int32)) hx hb dX10_seekCups_1 (by decide) ?_
  refine va_put (D := g.1) (ci := 10) (v := .int (-1 : Int32)) (ty := .int) (C := RX10) (T := TX10) (N := 35) hx hb hts iX10_seekCups_X10 tyX10 tyX10_ok nmX10 hown hK.1 hP hD hS 0 rfl rfl 32 (by decide) (hts _ kX10_seekCups_344) (fun _ h9 => h9) rfl (by decide +kernel) rfl rfl (Nat.le_of_ble_eq_true rfl) dX10_seekCups_2 (fun H locs hP hD hS => ?_)
  have hP : va_P g.1 vwCl [oX10 a_t p_t (upd o_t 32 (-1 : Int32)), aI g (p_t 15) 266 f_t_15, aI g (p_t 17) 17 f_t_17, aI g (p_t 25) 17 f_t_25, aI g (p_t 30) 7 f_t_30, aI g (p_t 31) 7 f_t_31] H := hP
  have hD : va_D A [oX10 a_t p_t (upd o_t 32 (-1 : Int32)), aI g (p_t 15) 266 f_t_15, aI g (p_t 17) 17 f_t_17, aI g (p_t 25) 17 f_t_25, aI g (p_t 30) 7 f_t_30, aI g (p_t 31) 7 f_t_31] := hD
  refine lv_iconst (v := (0 : Int32)) hx hb dX10_seekCups_5 (by decide) ?_
  refine lv_istore_n (lv' := [(1, .int (0 : Int32)), (0, .ref a_t)]) hx hb dX10_seekCups_6 rfl hl (by decide) rfl (fun ls hl => ?_)
  refine wX10_seekCups_L7 C0 a_t p_t n f_t_15 f_t_17 r o_t' f_t_25' f_t_30' f_t_31' _ ?_ n (0 : Int32) (upd o_t 32 (-1 : Int32)) f_t_25 f_t_30 f_t_31 hF _ _ _ (hP.sub [0, 1, 2, 3, 4, 5] rfl) (hD.sub [0, 1, 2, 3, 4, 5] rfl rfl) hS (lv_sub hl [1, 0] rfl)
  · intro o_t_x7 f_t_25_x7 f_t_30_x7 f_t_31_x7 H locs ls hF hP hD hS hl
    refine lv_aload_n hx hb dX10_seekCups_30 rfl (lv_at hl 0 rfl) ?_
    refine va_get (D := g.1) (ci := 10) (v := .int (o_t_x7 32)) (C := RX10) (T := TX10) (N := 35) hx hb hts iX10_seekCups_X10 hown hK.1 hP 0 rfl rfl 32 (by decide) (hts _ kX10_seekCups_344) (fun _ h9 => h9) rfl dX10_seekCups_31 ?_
    refine lv_ldcw (v := (1000000 : Int32)) hx hb hown (hts _ kX10_seekCups_321) dX10_seekCups_34 ?_
    refine lv_icmp_ge (tgt := 44) hx hb dX10_seekCups_37 (by decide) (fun c_7 => ?_) (fun c_7 => ?_)
    · have hF := it_p c_7 hF
      refine lv_iconst (v := (0 : Int32)) hx hb dX10_seekCups_44 (by decide) ?_
      cases hF
      exact ret_z C0 hP hD hS [0, 1, 2, 3, 4, 5] rfl rfl rfl dX10_seekCups_45 rfl rfl
    · have hF := it_n c_7 hF
      refine lv_iconst (v := (1 : Int32)) hx hb dX10_seekCups_40 (by decide) ?_
      refine lv_goto (tgt := 45) hx hb dX10_seekCups_41 (by decide) ?_
      cases hF
      exact ret_z C0 hP hD hS [0, 1, 2, 3, 4, 5] rfl rfl rfl dX10_seekCups_45 rfl rfl

theorem dAX10_latest : ∀ q ∈ ([(0, (.aload_n 0, 1)), (1, (.invokevirtual 159, 3)), (4, (.aload_n 0, 1)), (5, (.getfield 176, 3)), (8, (.ifCond .ne 9, 3)), (11, (.aload_n 0, 1)), (12, (.iconst 1, 1)), (13, (.invokevirtual 162, 3)), (16, (.ireturn, 1)), (17, (.aload_n 0, 1)), (18, (.invokevirtual 350, 3)), (21, (.ifCond .eq 10, 3)), (24, (.aload_n 0, 1)), (25, (.getfield 344, 3)), (28, (.goto 5, 3)), (31, (.bipush (-2), 2)), (33, (.ireturn, 1))] : List (Nat × (Instr × Nat))), decode cX10_latest q.1 = .ok q.2 := by decide +kernel
theorem dX10_latest_0 : decode cX10_latest 0 = .ok (.aload_n 0, 1) := dAX10_latest (0, (.aload_n 0, 1)) (List.mem_of_getElem? (i := 0) rfl)
theorem dX10_latest_1 : decode cX10_latest 1 = .ok (.invokevirtual 159, 3) := dAX10_latest (1, (.invokevirtual 159, 3)) (List.mem_of_getElem? (i := 1) rfl)
theorem dX10_latest_4 : decode cX10_latest 4 = .ok (.aload_n 0, 1) := dAX10_latest (4, (.aload_n 0, 1)) (List.mem_of_getElem? (i := 2) rfl)
theorem dX10_latest_5 : decode cX10_latest 5 = .ok (.getfield 176, 3) := dAX10_latest (5, (.getfield 176, 3)) (List.mem_of_getElem? (i := 3) rfl)
theorem dX10_latest_8 : decode cX10_latest 8 = .ok (.ifCond .ne 9, 3) := dAX10_latest (8, (.ifCond .ne 9, 3)) (List.mem_of_getElem? (i := 4) rfl)
theorem dX10_latest_11 : decode cX10_latest 11 = .ok (.aload_n 0, 1) := dAX10_latest (11, (.aload_n 0, 1)) (List.mem_of_getElem? (i := 5) rfl)
theorem dX10_latest_12 : decode cX10_latest 12 = .ok (.iconst 1, 1) := dAX10_latest (12, (.iconst 1, 1)) (List.mem_of_getElem? (i := 6) rfl)
theorem dX10_latest_13 : decode cX10_latest 13 = .ok (.invokevirtual 162, 3) := dAX10_latest (13, (.invokevirtual 162, 3)) (List.mem_of_getElem? (i := 7) rfl)
theorem dX10_latest_16 : decode cX10_latest 16 = .ok (.ireturn, 1) := dAX10_latest (16, (.ireturn, 1)) (List.mem_of_getElem? (i := 8) rfl)
theorem dX10_latest_17 : decode cX10_latest 17 = .ok (.aload_n 0, 1) := dAX10_latest (17, (.aload_n 0, 1)) (List.mem_of_getElem? (i := 9) rfl)
theorem dX10_latest_18 : decode cX10_latest 18 = .ok (.invokevirtual 350, 3) := dAX10_latest (18, (.invokevirtual 350, 3)) (List.mem_of_getElem? (i := 10) rfl)
theorem dX10_latest_21 : decode cX10_latest 21 = .ok (.ifCond .eq 10, 3) := dAX10_latest (21, (.ifCond .eq 10, 3)) (List.mem_of_getElem? (i := 11) rfl)
theorem dX10_latest_24 : decode cX10_latest 24 = .ok (.aload_n 0, 1) := dAX10_latest (24, (.aload_n 0, 1)) (List.mem_of_getElem? (i := 12) rfl)
theorem dX10_latest_25 : decode cX10_latest 25 = .ok (.getfield 344, 3) := dAX10_latest (25, (.getfield 344, 3)) (List.mem_of_getElem? (i := 13) rfl)
theorem dX10_latest_28 : decode cX10_latest 28 = .ok (.goto 5, 3) := dAX10_latest (28, (.goto 5, 3)) (List.mem_of_getElem? (i := 14) rfl)
theorem dX10_latest_31 : decode cX10_latest 31 = .ok (.bipush (-2), 2) := dAX10_latest (31, (.bipush (-2), 2)) (List.mem_of_getElem? (i := 15) rfl)
theorem dX10_latest_33 : decode cX10_latest 33 = .ok (.ireturn, 1) := dAX10_latest (33, (.ireturn, 1)) (List.mem_of_getElem? (i := 16) rfl)
set_option maxRecDepth 20000 in
theorem ggX10_latest_X10_good : GoodIn wsX10_latest wsX10_good := goodIn_r _ [7, 8, 9, 81, 82, 83, 84, 85, 86, 87, 88, 89, 90, 91, 92, 93, 94, 95, 96, 97, 98, 99, 100, 101, 102, 103, 104, 105, 106, 107, 108, 109, 110, 111, 112, 113, 114, 115] rfl (by decide +kernel)
set_option maxRecDepth 20000 in
theorem gX10_latest_X10_good : GoodIn wsX10_latest (wsV RX10 159 RX10 yX10_good wsX10_good) := goodIn_app (goodIn_of _ (by decide +kernel)) ggX10_latest_X10_good
set_option maxRecDepth 20000 in
theorem ggX10_latest_X10_no : GoodIn wsX10_latest wsX10_no := goodIn_r _ [13, 9, 81, 82, 83, 84, 85, 86, 87, 88, 89, 90, 91, 92, 93, 94, 95, 96, 97, 98, 99, 100, 101, 102, 103, 104, 105, 106, 107, 108, 109, 110, 111, 112, 113, 114, 115] rfl (by decide +kernel)
set_option maxRecDepth 20000 in
theorem gX10_latest_X10_no : GoodIn wsX10_latest (wsV RX10 162 RX10 yX10_no wsX10_no) := goodIn_app (goodIn_of _ (by decide +kernel)) ggX10_latest_X10_no
set_option maxRecDepth 20000 in
theorem ggX10_latest_X10_seekCups : GoodIn wsX10_latest wsX10_seekCups := goodIn_r _ [17, 2, 18, 19, 20, 21, 22, 6, 23, 24, 25, 26, 27, 28, 29, 30, 31, 32, 33, 34, 35, 36, 37, 38, 39, 40, 41, 42, 43, 44, 45, 46, 47, 48, 49, 50, 51, 52, 53, 54, 55, 56, 57, 58, 59, 60, 61, 62, 63, 64, 65, 66, 67, 68, 69, 70, 71, 72, 73, 74, 75, 76, 77, 78, 79, 80, 81, 82, 83, 84, 85, 86, 87, 88, 89, 90, 91, 92, 93, 94, 95, 96, 97, 98, 99, 100, 101, 102, 103, 104, 105, 106, 107, 108, 109, 110, 111, 112, 113, 114, 115] rfl (by decide +kernel)
set_option maxRecDepth 20000 in
theorem gX10_latest_X10_seekCups : GoodIn wsX10_latest (wsV RX10 350 RX10 yX10_seekCups wsX10_seekCups) := goodIn_app (goodIn_of _ (by decide +kernel)) ggX10_latest_X10_seekCups
theorem kX10_latest_176 : Cond.fieldLink RX10 176 "EveningVowModel" "hasEvening" "Z" ∈ wsX10_latest := List.mem_of_getElem? (i := 1) rfl
theorem iX10_latest_X10 : ∀ w ∈ u_ws RX10 TX10 35, w ∈ wsX10_latest := fun w h => (List.mem_cons_of_mem _ (List.mem_append_right _ h))
theorem kX10_latest_344 : Cond.fieldLink RX10 344 "EveningVowModel" "latestOf" "I" ∈ wsX10_latest := List.mem_of_getElem? (i := 2) rfl
set_option maxHeartbeats 4000000 in
set_option maxRecDepth 100000 in
theorem mX10_latest (l : Launch) (g : GG) (a_t : Nat) (p_t : Nat → Nat) (n : Nat) (o_t : Nat → Int32) (f_t_15 : Nat → Int32) (f_t_17 : Nat → Int32) (f_t_25 : Nat → Int32) (f_t_30 : Nat → Int32) (f_t_31 : Nat → Int32) (r : Int32) (o_t' : Nat → Int32) (f_t_25' : Nat → Int32) (f_t_30' : Nat → Int32) (f_t_31' : Nat → Int32) (hF : fX10_latest n o_t f_t_15 f_t_17 f_t_25 f_t_30 f_t_31 = some (r, o_t', f_t_25', f_t_30', f_t_31')) : MI l g yX10_latest wsX10_latest ({ frames := 17, cells := 0, slots := 0, locals := 390 } : Room) [.ref a_t] [oX10 a_t p_t o_t, aI g (p_t 15) 266 f_t_15, aI g (p_t 17) 17 f_t_17, aI g (p_t 25) 17 f_t_25, aI g (p_t 30) 7 f_t_30, aI g (p_t 31) 7 f_t_31] r [oX10 a_t p_t o_t', aI g (p_t 15) 266 f_t_15, aI g (p_t 17) 17 f_t_17, aI g (p_t 25) 17 f_t_25', aI g (p_t 30) 7 f_t_30', aI g (p_t 31) 7 f_t_31'] := by
  refine MI.of (cc := cX10_latest) (maxL := 1) (rt := .int) (own := RX10) rfl rfl (by decide) (Nat.le_of_ble_eq_true rfl) ?_
  intro p e s m args below meth c A C0 hP hD hS ls hl
  obtain ⟨hx, hb, hml, hown, hts, hr, hlk, hK, hA, hSW⟩ := id C0
  have hl : lv_has ls 1 [(0, .ref a_t)] := hl
  rw [fX10_latest] at hF
  refine lv_aload_n hx hb dX10_latest_0 rfl (lv_at hl 0 rfl) ?_
  obtain ⟨u_1, hu_2, hF⟩ := ob1_some hF
  refine call_v (wr := [aI g (p_t 15) 266 f_t_15, aI g (p_t 17) 17 f_t_17, aI g (p_t 25) 17 f_t_25, aI g (p_t 30) 7 f_t_30, aI g (p_t 31) 7 f_t_31]) (As := []) (rest := []) (ci := 10) (q0 := 0) C0 (mX10_good l g a_t p_t n o_t u_1 hu_2) (cwV 0 hts gX10_latest_X10_good rfl rfl rfl (by decide +kernel) ⟨Nat.le_of_ble_eq_true rfl, Nat.le_of_ble_eq_true rfl⟩) hP hD hS [0] [1, 2, 3, 4, 5] rfl rfl rfl rfl rfl (by decide) rfl rfl hl.1 rfl rfl (Nat.le_of_ble_eq_true rfl) ⟨Nat.zero_le _, Nat.zero_le _⟩ dX10_latest_1 ?_
  intro H locs hP hD hS
  refine lv_aload_n hx hb dX10_latest_4 rfl (lv_at hl 0 rfl) ?_
  refine va_get (D := g.1) (ci := 10) (v := .int (u_1 14)) (C := RX10) (T := TX10) (N := 35) hx hb hts iX10_latest_X10 hown hK.1 hP 5 rfl rfl 14 (by decide) (hts _ kX10_latest_176) (fun _ h9 => h9) rfl dX10_latest_5 ?_
  refine lv_if_ne (tgt := 17) hx hb dX10_latest_8 (by decide) (fun c_3 => ?_) (fun c_3 => ?_)
  · have hF := it_n c_3 hF
    refine lv_aload_n hx hb dX10_latest_17 rfl (lv_at hl 0 rfl) ?_
    obtain ⟨u_4, u_5, u_6, u_7, u_8, hu_9, hF⟩ := ob5_some hF
    refine call_i (wr := []) (As := []) (rest := []) (ci := 10) (q0 := 0) C0 (mX10_seekCups l g a_t p_t n u_1 f_t_15 f_t_17 f_t_25 f_t_30 f_t_31 u_4 u_5 u_6 u_7 u_8 hu_9) (cwV 0 hts gX10_latest_X10_seekCups rfl rfl rfl (by decide +kernel) ⟨Nat.le_of_ble_eq_true rfl, Nat.le_of_ble_eq_true rfl⟩) hP hD hS [5, 0, 1, 2, 3, 4] [] rfl rfl rfl rfl rfl (by decide) rfl rfl hl.1 rfl rfl (Nat.le_of_ble_eq_true rfl) ⟨Nat.zero_le _, Nat.zero_le _⟩ dX10_latest_18 ?_
    intro H locs hP hD hS
    refine lv_if_eq (tgt := 31) hx hb dX10_latest_21 (by decide) (fun c_10 => ?_) (fun c_10 => ?_)
    · have hF := it_p c_10 hF
      refine lv_bipush (v := (-2 : Int32)) hx hb dX10_latest_31 (by decide) ?_
      cases hF
      exact ret_i C0 hP hD hS [0, 1, 2, 3, 4, 5] rfl rfl rfl dX10_latest_33 rfl
    · have hF := it_n c_10 hF
      refine lv_aload_n hx hb dX10_latest_24 rfl (lv_at hl 0 rfl) ?_
      refine va_get (D := g.1) (ci := 10) (v := .int (u_5 32)) (C := RX10) (T := TX10) (N := 35) hx hb hts iX10_latest_X10 hown hK.1 hP 0 rfl rfl 32 (by decide) (hts _ kX10_latest_344) (fun _ h9 => h9) rfl dX10_latest_25 ?_
      refine lv_goto (tgt := 33) hx hb dX10_latest_28 (by decide) ?_
      cases hF
      exact ret_i C0 hP hD hS [0, 1, 2, 3, 4, 5] rfl rfl rfl dX10_latest_33 rfl
  · have hF := it_p c_3 hF
    refine lv_aload_n hx hb dX10_latest_11 rfl (lv_at hl 0 rfl) ?_
    refine lv_iconst (v := (1 : Int32)) hx hb dX10_latest_12 (by decide) ?_
    obtain ⟨u_11, u_12, hu_13, hF⟩ := ob2_some hF
    refine call_i (wr := [aI g (p_t 15) 266 f_t_15, aI g (p_t 17) 17 f_t_17, aI g (p_t 25) 17 f_t_25, aI g (p_t 30) 7 f_t_30, aI g (p_t 31) 7 f_t_31]) (As := [.int (1 : Int32)]) (rest := []) (ci := 10) (q0 := 0) C0 (mX10_no l g a_t p_t n (1 : Int32) u_1 u_11 u_12 hu_13) (cwV 1 hts gX10_latest_X10_no rfl rfl rfl (by decide +kernel) ⟨Nat.le_of_ble_eq_true rfl, Nat.le_of_ble_eq_true rfl⟩) hP hD hS [5] [0, 1, 2, 3, 4] rfl rfl rfl rfl rfl (by decide) rfl rfl hl.1 rfl rfl (Nat.le_of_ble_eq_true rfl) ⟨Nat.zero_le _, Nat.zero_le _⟩ dX10_latest_13 ?_
    intro H locs hP hD hS
    cases hF
    exact ret_i C0 hP hD hS [5, 0, 1, 2, 3, 4] rfl rfl rfl dX10_latest_16 rfl

theorem dAX10_cupsFor : ∀ q ∈ ([(0, (.aload_n 0, 1)), (1, (.invokevirtual 159, 3)), (4, (.aload_n 0, 1)), (5, (.getfield 176, 3)), (8, (.ifCond .ne 9, 3)), (11, (.aload_n 0, 1)), (12, (.iconst 1, 1)), (13, (.invokevirtual 162, 3)), (16, (.ireturn, 1)), (17, (.iload_n 1, 1)), (18, (.iconst 0, 1)), (19, (.bipush 60, 2)), (21, (.invokestatic 144, 3)), (24, (.ifCond .ne 9, 3)), (27, (.aload_n 0, 1)), (28, (.iconst 2, 1)), (29, (.invokevirtual 162, 3)), (32, (.ireturn, 1)), (33, (.iconst 0, 1)), (34, (.istore_n 2, 1)), (35, (.iload_n 2, 1)), (36, (.aload_n 0, 1)), (37, (.getfield 26, 3)), (40, (.bipush 15, 2)), (42, (.iaload, 1)), (43, (.if_icmp .gt 30, 3)), (46, (.aload_n 0, 1)), (47, (.iconst (-1), 1)), (48, (.putfield 344, 3)), (51, (.aload_n 0, 1)), (52, (.iconst 0, 1)), (53, (.iload_n 2, 1)), (54, (.invokevirtual 347, 3)), (57, (.aload_n 0, 1)), (58, (.getfield 344, 3)), (61, (.iload_n 1, 1)), (62, (.if_icmp .lt 5, 3)), (65, (.iload_n 2, 1)), (66, (.ireturn, 1)), (67, (.iinc 2 1, 3)), (70, (.goto (-35), 3)), (73, (.bipush (-2), 2)), (75, (.ireturn, 1))] : List (Nat × (Instr × Nat))), decode cX10_cupsFor q.1 = .ok q.2 := by decide +kernel
theorem dX10_cupsFor_0 : decode cX10_cupsFor 0 = .ok (.aload_n 0, 1) := dAX10_cupsFor (0, (.aload_n 0, 1)) (List.mem_of_getElem? (i := 0) rfl)
theorem dX10_cupsFor_1 : decode cX10_cupsFor 1 = .ok (.invokevirtual 159, 3) := dAX10_cupsFor (1, (.invokevirtual 159, 3)) (List.mem_of_getElem? (i := 1) rfl)
theorem dX10_cupsFor_4 : decode cX10_cupsFor 4 = .ok (.aload_n 0, 1) := dAX10_cupsFor (4, (.aload_n 0, 1)) (List.mem_of_getElem? (i := 2) rfl)
theorem dX10_cupsFor_5 : decode cX10_cupsFor 5 = .ok (.getfield 176, 3) := dAX10_cupsFor (5, (.getfield 176, 3)) (List.mem_of_getElem? (i := 3) rfl)
theorem dX10_cupsFor_8 : decode cX10_cupsFor 8 = .ok (.ifCond .ne 9, 3) := dAX10_cupsFor (8, (.ifCond .ne 9, 3)) (List.mem_of_getElem? (i := 4) rfl)
theorem dX10_cupsFor_11 : decode cX10_cupsFor 11 = .ok (.aload_n 0, 1) := dAX10_cupsFor (11, (.aload_n 0, 1)) (List.mem_of_getElem? (i := 5) rfl)
theorem dX10_cupsFor_12 : decode cX10_cupsFor 12 = .ok (.iconst 1, 1) := dAX10_cupsFor (12, (.iconst 1, 1)) (List.mem_of_getElem? (i := 6) rfl)
theorem dX10_cupsFor_13 : decode cX10_cupsFor 13 = .ok (.invokevirtual 162, 3) := dAX10_cupsFor (13, (.invokevirtual 162, 3)) (List.mem_of_getElem? (i := 7) rfl)
theorem dX10_cupsFor_16 : decode cX10_cupsFor 16 = .ok (.ireturn, 1) := dAX10_cupsFor (16, (.ireturn, 1)) (List.mem_of_getElem? (i := 8) rfl)
theorem dX10_cupsFor_17 : decode cX10_cupsFor 17 = .ok (.iload_n 1, 1) := dAX10_cupsFor (17, (.iload_n 1, 1)) (List.mem_of_getElem? (i := 9) rfl)
theorem dX10_cupsFor_18 : decode cX10_cupsFor 18 = .ok (.iconst 0, 1) := dAX10_cupsFor (18, (.iconst 0, 1)) (List.mem_of_getElem? (i := 10) rfl)
theorem dX10_cupsFor_19 : decode cX10_cupsFor 19 = .ok (.bipush 60, 2) := dAX10_cupsFor (19, (.bipush 60, 2)) (List.mem_of_getElem? (i := 11) rfl)
theorem dX10_cupsFor_21 : decode cX10_cupsFor 21 = .ok (.invokestatic 144, 3) := dAX10_cupsFor (21, (.invokestatic 144, 3)) (List.mem_of_getElem? (i := 12) rfl)
theorem dX10_cupsFor_24 : decode cX10_cupsFor 24 = .ok (.ifCond .ne 9, 3) := dAX10_cupsFor (24, (.ifCond .ne 9, 3)) (List.mem_of_getElem? (i := 13) rfl)
theorem dX10_cupsFor_27 : decode cX10_cupsFor 27 = .ok (.aload_n 0, 1) := dAX10_cupsFor (27, (.aload_n 0, 1)) (List.mem_of_getElem? (i := 14) rfl)
theorem dX10_cupsFor_28 : decode cX10_cupsFor 28 = .ok (.iconst 2, 1) := dAX10_cupsFor (28, (.iconst 2, 1)) (List.mem_of_getElem? (i := 15) rfl)
theorem dX10_cupsFor_29 : decode cX10_cupsFor 29 = .ok (.invokevirtual 162, 3) := dAX10_cupsFor (29, (.invokevirtual 162, 3)) (List.mem_of_getElem? (i := 16) rfl)
theorem dX10_cupsFor_32 : decode cX10_cupsFor 32 = .ok (.ireturn, 1) := dAX10_cupsFor (32, (.ireturn, 1)) (List.mem_of_getElem? (i := 17) rfl)
theorem dX10_cupsFor_33 : decode cX10_cupsFor 33 = .ok (.iconst 0, 1) := dAX10_cupsFor (33, (.iconst 0, 1)) (List.mem_of_getElem? (i := 18) rfl)
theorem dX10_cupsFor_34 : decode cX10_cupsFor 34 = .ok (.istore_n 2, 1) := dAX10_cupsFor (34, (.istore_n 2, 1)) (List.mem_of_getElem? (i := 19) rfl)
theorem dX10_cupsFor_35 : decode cX10_cupsFor 35 = .ok (.iload_n 2, 1) := dAX10_cupsFor (35, (.iload_n 2, 1)) (List.mem_of_getElem? (i := 20) rfl)
theorem dX10_cupsFor_36 : decode cX10_cupsFor 36 = .ok (.aload_n 0, 1) := dAX10_cupsFor (36, (.aload_n 0, 1)) (List.mem_of_getElem? (i := 21) rfl)
theorem dX10_cupsFor_37 : decode cX10_cupsFor 37 = .ok (.getfield 26, 3) := dAX10_cupsFor (37, (.getfield 26, 3)) (List.mem_of_getElem? (i := 22) rfl)
theorem dX10_cupsFor_40 : decode cX10_cupsFor 40 = .ok (.bipush 15, 2) := dAX10_cupsFor (40, (.bipush 15, 2)) (List.mem_of_getElem? (i := 23) rfl)
theorem dX10_cupsFor_42 : decode cX10_cupsFor 42 = .ok (.iaload, 1) := dAX10_cupsFor (42, (.iaload, 1)) (List.mem_of_getElem? (i := 24) rfl)
theorem dX10_cupsFor_43 : decode cX10_cupsFor 43 = .ok (.if_icmp .gt 30, 3) := dAX10_cupsFor (43, (.if_icmp .gt 30, 3)) (List.mem_of_getElem? (i := 25) rfl)
theorem dX10_cupsFor_46 : decode cX10_cupsFor 46 = .ok (.aload_n 0, 1) := dAX10_cupsFor (46, (.aload_n 0, 1)) (List.mem_of_getElem? (i := 26) rfl)
theorem dX10_cupsFor_47 : decode cX10_cupsFor 47 = .ok (.iconst (-1), 1) := dAX10_cupsFor (47, (.iconst (-1), 1)) (List.mem_of_getElem? (i := 27) rfl)
theorem dX10_cupsFor_48 : decode cX10_cupsFor 48 = .ok (.putfield 344, 3) := dAX10_cupsFor (48, (.putfield 344, 3)) (List.mem_of_getElem? (i := 28) rfl)
theorem dX10_cupsFor_51 : decode cX10_cupsFor 51 = .ok (.aload_n 0, 1) := dAX10_cupsFor (51, (.aload_n 0, 1)) (List.mem_of_getElem? (i := 29) rfl)
theorem dX10_cupsFor_52 : decode cX10_cupsFor 52 = .ok (.iconst 0, 1) := dAX10_cupsFor (52, (.iconst 0, 1)) (List.mem_of_getElem? (i := 30) rfl)
theorem dX10_cupsFor_53 : decode cX10_cupsFor 53 = .ok (.iload_n 2, 1) := dAX10_cupsFor (53, (.iload_n 2, 1)) (List.mem_of_getElem? (i := 31) rfl)
theorem dX10_cupsFor_54 : decode cX10_cupsFor 54 = .ok (.invokevirtual 347, 3) := dAX10_cupsFor (54, (.invokevirtual 347, 3)) (List.mem_of_getElem? (i := 32) rfl)
theorem dX10_cupsFor_57 : decode cX10_cupsFor 57 = .ok (.aload_n 0, 1) := dAX10_cupsFor (57, (.aload_n 0, 1)) (List.mem_of_getElem? (i := 33) rfl)
theorem dX10_cupsFor_58 : decode cX10_cupsFor 58 = .ok (.getfield 344, 3) := dAX10_cupsFor (58, (.getfield 344, 3)) (List.mem_of_getElem? (i := 34) rfl)
theorem dX10_cupsFor_61 : decode cX10_cupsFor 61 = .ok (.iload_n 1, 1) := dAX10_cupsFor (61, (.iload_n 1, 1)) (List.mem_of_getElem? (i := 35) rfl)
theorem dX10_cupsFor_62 : decode cX10_cupsFor 62 = .ok (.if_icmp .lt 5, 3) := dAX10_cupsFor (62, (.if_icmp .lt 5, 3)) (List.mem_of_getElem? (i := 36) rfl)
theorem dX10_cupsFor_65 : decode cX10_cupsFor 65 = .ok (.iload_n 2, 1) := dAX10_cupsFor (65, (.iload_n 2, 1)) (List.mem_of_getElem? (i := 37) rfl)
theorem dX10_cupsFor_66 : decode cX10_cupsFor 66 = .ok (.ireturn, 1) := dAX10_cupsFor (66, (.ireturn, 1)) (List.mem_of_getElem? (i := 38) rfl)
theorem dX10_cupsFor_67 : decode cX10_cupsFor 67 = .ok (.iinc 2 1, 3) := dAX10_cupsFor (67, (.iinc 2 1, 3)) (List.mem_of_getElem? (i := 39) rfl)
theorem dX10_cupsFor_70 : decode cX10_cupsFor 70 = .ok (.goto (-35), 3) := dAX10_cupsFor (70, (.goto (-35), 3)) (List.mem_of_getElem? (i := 40) rfl)
theorem dX10_cupsFor_73 : decode cX10_cupsFor 73 = .ok (.bipush (-2), 2) := dAX10_cupsFor (73, (.bipush (-2), 2)) (List.mem_of_getElem? (i := 41) rfl)
theorem dX10_cupsFor_75 : decode cX10_cupsFor 75 = .ok (.ireturn, 1) := dAX10_cupsFor (75, (.ireturn, 1)) (List.mem_of_getElem? (i := 42) rfl)
set_option maxRecDepth 20000 in
theorem ggX10_cupsFor_X10_good : GoodIn wsX10_cupsFor wsX10_good := goodIn_r _ [8, 9, 10, 80, 81, 82, 83, 84, 85, 86, 87, 88, 89, 90, 91, 92, 93, 94, 95, 96, 97, 98, 99, 100, 101, 102, 103, 104, 105, 106, 107, 108, 109, 110, 111, 112, 113, 114] rfl (by decide +kernel)
set_option maxRecDepth 20000 in
theorem gX10_cupsFor_X10_good : GoodIn wsX10_cupsFor (wsV RX10 159 RX10 yX10_good wsX10_good) := goodIn_app (goodIn_of _ (by decide +kernel)) ggX10_cupsFor_X10_good
set_option maxRecDepth 20000 in
theorem ggX10_cupsFor_X10_no : GoodIn wsX10_cupsFor wsX10_no := goodIn_r _ [14, 10, 80, 81, 82, 83, 84, 85, 86, 87, 88, 89, 90, 91, 92, 93, 94, 95, 96, 97, 98, 99, 100, 101, 102, 103, 104, 105, 106, 107, 108, 109, 110, 111, 112, 113, 114] rfl (by decide +kernel)
set_option maxRecDepth 20000 in
theorem gX10_cupsFor_X10_no : GoodIn wsX10_cupsFor (wsV RX10 162 RX10 yX10_no wsX10_no) := goodIn_app (goodIn_of _ (by decide +kernel)) ggX10_cupsFor_X10_no
set_option maxRecDepth 20000 in
theorem ggX10_cupsFor_X10_in : GoodIn wsX10_cupsFor wsX10_in := goodIn_r _ [17] rfl (by decide +kernel)
set_option maxRecDepth 20000 in
theorem gX10_cupsFor_X10_in : GoodIn wsX10_cupsFor (va_wsS RX10 144 yX10_in wsX10_in) := goodIn_app (goodIn_of _ (by decide +kernel)) ggX10_cupsFor_X10_in
set_option maxRecDepth 20000 in
theorem ggX10_cupsFor_X10_tryCups : GoodIn wsX10_cupsFor wsX10_tryCups := goodIn_r _ [21, 22, 3, 23, 2, 24, 25, 26, 27, 28, 7, 29, 30, 31, 32, 33, 34, 35, 36, 37, 38, 39, 40, 41, 42, 43, 44, 45, 46, 47, 48, 49, 50, 51, 52, 53, 54, 55, 56, 57, 58, 59, 60, 61, 62, 63, 64, 65, 66, 67, 68, 69, 70, 71, 72, 73, 74, 75, 76, 77, 78, 79, 18, 19, 20, 80, 81, 82, 83, 84, 85, 86, 87, 88, 89, 90, 91, 92, 93, 94, 95, 96, 97, 98, 99, 100, 101, 102, 103, 104, 105, 106, 107, 108, 109, 110, 111, 112, 113, 114] rfl (by decide +kernel)
set_option maxRecDepth 20000 in
theorem gX10_cupsFor_X10_tryCups : GoodIn wsX10_cupsFor (wsV RX10 347 RX10 yX10_tryCups wsX10_tryCups) := goodIn_app (goodIn_of _ (by decide +kernel)) ggX10_cupsFor_X10_tryCups
theorem kX10_cupsFor_176 : Cond.fieldLink RX10 176 "EveningVowModel" "hasEvening" "Z" ∈ wsX10_cupsFor := List.mem_of_getElem? (i := 1) rfl
theorem iX10_cupsFor_X10 : ∀ w ∈ u_ws RX10 TX10 35, w ∈ wsX10_cupsFor := fun w h => (List.mem_cons_of_mem _ (List.mem_append_right _ h))
theorem kX10_cupsFor_26 : Cond.fieldLink RX10 26 "EveningVowModel" "st" "[I" ∈ wsX10_cupsFor := List.mem_of_getElem? (i := 2) rfl
theorem kX10_cupsFor_344 : Cond.fieldLink RX10 344 "EveningVowModel" "latestOf" "I" ∈ wsX10_cupsFor := List.mem_of_getElem? (i := 3) rfl
set_option maxHeartbeats 4000000 in
set_option maxRecDepth 100000 in
theorem wX10_cupsFor_L35 {p : Program} {l : Launch} {e : Env} {s : State} {m : MethodId} {args : Array Value} {below : List Frame} {meth : Method} {c : Code} {g : GG} {A : Nat → Prop} (C0 : Cx p s m args meth c cX10_cupsFor 3 (some .int) RX10 wsX10_cupsFor g A) (a_t : Nat) (p_t : Nat → Nat) (n : Nat) (x1 : Int32) (f_t_15 : Nat → Int32) (f_t_17 : Nat → Int32)  (r : Int32) (o_t' : Nat → Int32) (f_t_25' : Nat → Int32) (f_t_30' : Nat → Int32) (f_t_31' : Nat → Int32) (K : (Nat → Int32) → (Nat → Int32) → (Nat → Int32) → (Nat → Int32) → Option (Int32 × (Nat → Int32) × (Nat → Int32) × (Nat → Int32) × (Nat → Int32))) (hKx : ∀ (o_t : Nat → Int32) (f_t_25 : Nat → Int32) (f_t_30 : Nat → Int32) (f_t_31 : Nat → Int32) (H : Heap) (locs : List Loc) (ls : Array Slot), K o_t f_t_25 f_t_30 f_t_31 = some (r, o_t', f_t_25', f_t_30', f_t_31') → va_P g.1 vwCl [oX10 a_t p_t o_t, aI g (p_t 15) 266 f_t_15, aI g (p_t 17) 17 f_t_17, aI g (p_t 25) 17 f_t_25, aI g (p_t 30) 7 f_t_30, aI g (p_t 31) 7 f_t_31] H → va_D A [oX10 a_t p_t o_t, aI g (p_t 15) 266 f_t_15, aI g (p_t 17) 17 f_t_17, aI g (p_t 25) 17 f_t_25, aI g (p_t 30) 7 f_t_30, aI g (p_t 31) 7 f_t_31] → va_S A s.heap H locs → lv_has ls 3 [] → W p l e ({ frames := 16, cells := 0, slots := 0, locals := 369 } : Room) s m args below meth c H locs 0 0 (MQ below (EndI g r [oX10 a_t p_t o_t', aI g (p_t 15) 266 f_t_15, aI g (p_t 17) 17 f_t_17, aI g (p_t 25) 17 f_t_25', aI g (p_t 30) 7 f_t_30', aI g (p_t 31) 7 f_t_31'] A) args s 0 0 A) (F0 m 73 ls [])) : ∀ (k : Nat) (x2 : Int32) (o_t : Nat → Int32) (f_t_25 : Nat → Int32) (f_t_30 : Nat → Int32) (f_t_31 : Nat → Int32), fX10_cupsFor_L35 n x1 f_t_15 f_t_17 K k x2 o_t f_t_25 f_t_30 f_t_31 = some (r, o_t', f_t_25', f_t_30', f_t_31') → ∀ (H : Heap) (locs : List Loc) (ls : Array Slot), va_P g.1 vwCl [oX10 a_t p_t o_t, aI g (p_t 15) 266 f_t_15, aI g (p_t 17) 17 f_t_17, aI g (p_t 25) 17 f_t_25, aI g (p_t 30) 7 f_t_30, aI g (p_t 31) 7 f_t_31] H → va_D A [oX10 a_t p_t o_t, aI g (p_t 15) 266 f_t_15, aI g (p_t 17) 17 f_t_17, aI g (p_t 25) 17 f_t_25, aI g (p_t 30) 7 f_t_30, aI g (p_t 31) 7 f_t_31] → va_S A s.heap H locs → lv_has ls 3 [(0, .ref a_t), (1, .int x1), (2, .int x2)] → W p l e ({ frames := 16, cells := 0, slots := 0, locals := 369 } : Room) s m args below meth c H locs 0 0 (MQ below (EndI g r [oX10 a_t p_t o_t', aI g (p_t 15) 266 f_t_15, aI g (p_t 17) 17 f_t_17, aI g (p_t 25) 17 f_t_25', aI g (p_t 30) 7 f_t_30', aI g (p_t 31) 7 f_t_31'] A) args s 0 0 A) (F0 m 35 ls []) := by
  obtain ⟨hx, hb, hml, hown, hts, hr, hlk, hK, hA, hSW⟩ := id C0
  intro k
  induction k with
  | zero =>
    intro x2 o_t f_t_25 f_t_30 f_t_31 hF
    exact absurd hF (by simp [fX10_cupsFor_L35])
  | succ k ih =>
    intro x2 o_t f_t_25 f_t_30 f_t_31 hF H locs ls hP hD hS hl
    rw [fX10_cupsFor_L35] at hF
    refine lv_iload_n hx hb dX10_cupsFor_35 rfl (lv_at hl 2 rfl) ?_
    refine lv_aload_n hx hb dX10_cupsFor_36 rfl (lv_at hl 0 rfl) ?_
    refine va_get (D := g.1) (ci := 10) (v := .ref (p_t 17)) (C := RX10) (T := TX10) (N := 35) hx hb hts iX10_cupsFor_X10 hown hK.1 hP 0 rfl rfl 17 (by decide) (hts _ kX10_cupsFor_26) (fun _ h9 => h9) rfl dX10_cupsFor_37 ?_
    refine lv_bipush (v := (15 : Int32)) hx hb dX10_cupsFor_40 (by decide) ?_
    refine va_iald_k (j := 15) hx hb hK.1 hP 2 0 rfl rfl (by unfold vp_in; decide) rfl dX10_cupsFor_42 ?_
    refine lv_icmp_gt (tgt := 73) hx hb dX10_cupsFor_43 (by decide) (fun c_7 => ?_) (fun c_7 => ?_)
    · have hF := it_p c_7 hF
      exact hKx o_t f_t_25 f_t_30 f_t_31 _ _ _ hF (hP.sub [0, 1, 2, 3, 4, 5] rfl) (hD.sub [0, 1, 2, 3, 4, 5] rfl rfl) hS (lv_sub hl [] rfl)
    · have hF := it_n c_7 hF
      refine lv_aload_n hx hb dX10_cupsFor_46 rfl (lv_at hl 0 rfl) ?_
      refine lv_iconst (v := (-1 : Int32)) hx hb dX10_cupsFor_47 (by decide) ?_
      refine va_put (D := g.1) (ci := 10) (v := .int (-1 : Int32)) (ty := .int) (C := RX10) (T := TX10) (N := 35) hx hb hts iX10_cupsFor_X10 tyX10 tyX10_ok nmX10 hown hK.1 hP hD hS 0 rfl rfl 32 (by decide) (hts _ kX10_cupsFor_344) (fun _ h9 => h9) rfl (by decide +kernel) rfl rfl (Nat.le_of_ble_eq_true rfl) dX10_cupsFor_48 (fun H locs hP hD hS => ?_)
      have hP : va_P g.1 vwCl [oX10 a_t p_t (upd o_t 32 (-1 : Int32)), aI g (p_t 15) 266 f_t_15, aI g (p_t 17) 17 f_t_17, aI g (p_t 25) 17 f_t_25, aI g (p_t 30) 7 f_t_30, aI g (p_t 31) 7 f_t_31] H := hP
      have hD : va_D A [oX10 a_t p_t (upd o_t 32 (-1 : Int32)), aI g (p_t 15) 266 f_t_15, aI g (p_t 17) 17 f_t_17, aI g (p_t 25) 17 f_t_25, aI g (p_t 30) 7 f_t_30, aI g (p_t 31) 7 f_t_31] := hD
      refine lv_aload_n hx hb dX10_cupsFor_51 rfl (lv_at hl 0 rfl) ?_
      refine lv_iconst (v := (0 : Int32)) hx hb dX10_cupsFor_52 (by decide) ?_
      refine lv_iload_n hx hb dX10_cupsFor_53 rfl (lv_at hl 2 rfl) ?_
      obtain ⟨u_8, u_9, u_10, u_11, hu_12, hF⟩ := ob4_some hF
      refine call_v (wr := []) (As := [.int (0 : Int32), .int x2]) (rest := []) (ci := 10) (q0 := 0) C0 (mX10_tryCups l g a_t p_t n 10 (0 : Int32) x2 (upd o_t 32 (-1 : Int32)) f_t_15 f_t_17 f_t_25 f_t_30 f_t_31 u_8 u_9 u_10 u_11 hu_12) (cwV 2 hts gX10_cupsFor_X10_tryCups rfl rfl rfl (by decide +kernel) ⟨Nat.le_of_ble_eq_true rfl, Nat.le_of_ble_eq_true rfl⟩) hP hD hS [0, 1, 2, 3, 4, 5] [] rfl rfl rfl rfl rfl (by decide) rfl rfl hl.1 rfl rfl (Nat.le_of_ble_eq_true rfl) ⟨Nat.zero_le _, Nat.zero_le _⟩ dX10_cupsFor_54 ?_
      intro H locs hP hD hS
      refine lv_aload_n hx hb dX10_cupsFor_57 rfl (lv_at hl 0 rfl) ?_
      refine va_get (D := g.1) (ci := 10) (v := .int (u_8 32)) (C := RX10) (T := TX10) (N := 35) hx hb hts iX10_cupsFor_X10 hown hK.1 hP 0 rfl rfl 32 (by decide) (hts _ kX10_cupsFor_344) (fun _ h9 => h9) rfl dX10_cupsFor_58 ?_
      refine lv_iload_n hx hb dX10_cupsFor_61 rfl (lv_at hl 1 rfl) ?_
      refine lv_icmp_lt (tgt := 67) hx hb dX10_cupsFor_62 (by decide) (fun c_13 => ?_) (fun c_13 => ?_)
      · have hF := it_p c_13 hF
        refine lv_iinc (v := (x2 + (1 : Int32))) (lv' := [(2, .int (x2 + (1 : Int32))), (0, .ref a_t), (1, .int x1)]) hx hb dX10_cupsFor_67 hl (k := 2) rfl rfl (by decide) rfl (fun ls hl => ?_)
        refine lv_goto (tgt := 35) hx hb dX10_cupsFor_70 (by decide) ?_
        exact ih (x2 + (1 : Int32)) u_8 u_9 u_10 u_11 hF _ _ _ (hP.sub [0, 1, 2, 3, 4, 5] rfl) (hD.sub [0, 1, 2, 3, 4, 5] rfl rfl) hS (lv_sub hl [1, 2, 0] rfl)
      · have hF := it_n c_13 hF
        refine lv_iload_n hx hb dX10_cupsFor_65 rfl (lv_at hl 2 rfl) ?_
        cases hF
        exact ret_i C0 hP hD hS [0, 1, 2, 3, 4, 5] rfl rfl rfl dX10_cupsFor_66 rfl
set_option maxHeartbeats 4000000 in
set_option maxRecDepth 100000 in
theorem mX10_cupsFor (l : Launch) (g : GG) (a_t : Nat) (p_t : Nat → Nat) (n : Nat) (x1 : Int32) (o_t : Nat → Int32) (f_t_15 : Nat → Int32) (f_t_17 : Nat → Int32) (f_t_25 : Nat → Int32) (f_t_30 : Nat → Int32) (f_t_31 : Nat → Int32) (r : Int32) (o_t' : Nat → Int32) (f_t_25' : Nat → Int32) (f_t_30' : Nat → Int32) (f_t_31' : Nat → Int32) (hF : fX10_cupsFor n x1 o_t f_t_15 f_t_17 f_t_25 f_t_30 f_t_31 = some (r, o_t', f_t_25', f_t_30', f_t_31')) : MI l g yX10_cupsFor wsX10_cupsFor ({ frames := 16, cells := 0, slots := 0, locals := 369 } : Room) [.ref a_t, .int x1] [oX10 a_t p_t o_t, aI g (p_t 15) 266 f_t_15, aI g (p_t 17) 17 f_t_17, aI g (p_t 25) 17 f_t_25, aI g (p_t 30) 7 f_t_30, aI g (p_t 31) 7 f_t_31] r [oX10 a_t p_t o_t', aI g (p_t 15) 266 f_t_15, aI g (p_t 17) 17 f_t_17, aI g (p_t 25) 17 f_t_25', aI g (p_t 30) 7 f_t_30', aI g (p_t 31) 7 f_t_31'] := by
  refine MI.of (cc := cX10_cupsFor) (maxL := 3) (rt := .int) (own := RX10) rfl rfl (by decide) (Nat.le_of_ble_eq_true rfl) ?_
  intro p e s m args below meth c A C0 hP hD hS ls hl
  obtain ⟨hx, hb, hml, hown, hts, hr, hlk, hK, hA, hSW⟩ := id C0
  have hl : lv_has ls 3 [(0, .ref a_t), (1, .int x1)] := hl
  rw [fX10_cupsFor] at hF
  refine lv_aload_n hx hb dX10_cupsFor_0 rfl (lv_at hl 0 rfl) ?_
  obtain ⟨u_1, hu_2, hF⟩ := ob1_some hF
  refine call_v (wr := [aI g (p_t 15) 266 f_t_15, aI g (p_t 17) 17 f_t_17, aI g (p_t 25) 17 f_t_25, aI g (p_t 30) 7 f_t_30, aI g (p_t 31) 7 f_t_31]) (As := []) (rest := []) (ci := 10) (q0 := 0) C0 (mX10_good l g a_t p_t n o_t u_1 hu_2) (cwV 0 hts gX10_cupsFor_X10_good rfl rfl rfl (by decide +kernel) ⟨Nat.le_of_ble_eq_true rfl, Nat.le_of_ble_eq_true rfl⟩) hP hD hS [0] [1, 2, 3, 4, 5] rfl rfl rfl rfl rfl (by decide) rfl rfl hl.1 rfl rfl (Nat.le_of_ble_eq_true rfl) ⟨Nat.zero_le _, Nat.zero_le _⟩ dX10_cupsFor_1 ?_
  intro H locs hP hD hS
  refine lv_aload_n hx hb dX10_cupsFor_4 rfl (lv_at hl 0 rfl) ?_
  refine va_get (D := g.1) (ci := 10) (v := .int (u_1 14)) (C := RX10) (T := TX10) (N := 35) hx hb hts iX10_cupsFor_X10 hown hK.1 hP 5 rfl rfl 14 (by decide) (hts _ kX10_cupsFor_176) (fun _ h9 => h9) rfl dX10_cupsFor_5 ?_
  refine lv_if_ne (tgt := 17) hx hb dX10_cupsFor_8 (by decide) (fun c_3 => ?_) (fun c_3 => ?_)
  · have hF := it_n c_3 hF
    refine lv_iload_n hx hb dX10_cupsFor_17 rfl (lv_at hl 1 rfl) ?_
    refine lv_iconst (v := (0 : Int32)) hx hb dX10_cupsFor_18 (by decide) ?_
    refine lv_bipush (v := (60 : Int32)) hx hb dX10_cupsFor_19 (by decide) ?_
    obtain ⟨u_4, hu_5, hF⟩ := ob1_some hF
    refine call_si (wr := [aI g (p_t 15) 266 f_t_15, aI g (p_t 17) 17 f_t_17, aI g (p_t 25) 17 f_t_25, aI g (p_t 30) 7 f_t_30, aI g (p_t 31) 7 f_t_31, oX10 a_t p_t u_1]) (As := [.int x1, .int (0 : Int32), .int (60 : Int32)]) (rest := []) C0 (mX10_in l g n x1 (0 : Int32) (60 : Int32) u_4 hu_5) (va_cwS 3 hts gX10_cupsFor_X10_in rfl rfl rfl (by decide +kernel) ⟨Nat.le_of_ble_eq_true rfl, Nat.le_of_ble_eq_true rfl⟩) hP hD hS [] [0, 1, 2, 3, 4, 5] rfl rfl rfl rfl rfl (by decide) hl.1 rfl rfl (Nat.le_of_ble_eq_true rfl) ⟨Nat.zero_le _, Nat.zero_le _⟩ dX10_cupsFor_21 ?_
    intro H locs hP hD hS
    refine lv_if_ne (tgt := 33) hx hb dX10_cupsFor_24 (by decide) (fun c_6 => ?_) (fun c_6 => ?_)
    · have hF := it_n c_6 hF
      refine lv_iconst (v := (0 : Int32)) hx hb dX10_cupsFor_33 (by decide) ?_
      refine lv_istore_n (lv' := [(2, .int (0 : Int32)), (0, .ref a_t), (1, .int x1)]) hx hb dX10_cupsFor_34 rfl hl (by decide) rfl (fun ls hl => ?_)
      refine wX10_cupsFor_L35 C0 a_t p_t n x1 f_t_15 f_t_17 r o_t' f_t_25' f_t_30' f_t_31' _ ?_ n (0 : Int32) u_1 f_t_25 f_t_30 f_t_31 hF _ _ _ (hP.sub [5, 0, 1, 2, 3, 4] rfl) (hD.sub [5, 0, 1, 2, 3, 4] rfl rfl) hS (lv_sub hl [1, 2, 0] rfl)
      · intro o_t_x35 f_t_25_x35 f_t_30_x35 f_t_31_x35 H locs ls hF hP hD hS hl
        refine lv_bipush (v := (-2 : Int32)) hx hb dX10_cupsFor_73 (by decide) ?_
        cases hF
        exact ret_i C0 hP hD hS [0, 1, 2, 3, 4, 5] rfl rfl rfl dX10_cupsFor_75 rfl
    · have hF := it_p c_6 hF
      refine lv_aload_n hx hb dX10_cupsFor_27 rfl (lv_at hl 0 rfl) ?_
      refine lv_iconst (v := (2 : Int32)) hx hb dX10_cupsFor_28 (by decide) ?_
      obtain ⟨u_14, u_15, hu_16, hF⟩ := ob2_some hF
      refine call_i (wr := [aI g (p_t 15) 266 f_t_15, aI g (p_t 17) 17 f_t_17, aI g (p_t 25) 17 f_t_25, aI g (p_t 30) 7 f_t_30, aI g (p_t 31) 7 f_t_31]) (As := [.int (2 : Int32)]) (rest := []) (ci := 10) (q0 := 0) C0 (mX10_no l g a_t p_t n (2 : Int32) u_1 u_14 u_15 hu_16) (cwV 1 hts gX10_cupsFor_X10_no rfl rfl rfl (by decide +kernel) ⟨Nat.le_of_ble_eq_true rfl, Nat.le_of_ble_eq_true rfl⟩) hP hD hS [5] [0, 1, 2, 3, 4] rfl rfl rfl rfl rfl (by decide) rfl rfl hl.1 rfl rfl (Nat.le_of_ble_eq_true rfl) ⟨Nat.zero_le _, Nat.zero_le _⟩ dX10_cupsFor_29 ?_
      intro H locs hP hD hS
      cases hF
      exact ret_i C0 hP hD hS [5, 0, 1, 2, 3, 4] rfl rfl rfl dX10_cupsFor_32 rfl
  · have hF := it_p c_3 hF
    refine lv_aload_n hx hb dX10_cupsFor_11 rfl (lv_at hl 0 rfl) ?_
    refine lv_iconst (v := (1 : Int32)) hx hb dX10_cupsFor_12 (by decide) ?_
    obtain ⟨u_17, u_18, hu_19, hF⟩ := ob2_some hF
    refine call_i (wr := [aI g (p_t 15) 266 f_t_15, aI g (p_t 17) 17 f_t_17, aI g (p_t 25) 17 f_t_25, aI g (p_t 30) 7 f_t_30, aI g (p_t 31) 7 f_t_31]) (As := [.int (1 : Int32)]) (rest := []) (ci := 10) (q0 := 0) C0 (mX10_no l g a_t p_t n (1 : Int32) u_1 u_17 u_18 hu_19) (cwV 1 hts gX10_cupsFor_X10_no rfl rfl rfl (by decide +kernel) ⟨Nat.le_of_ble_eq_true rfl, Nat.le_of_ble_eq_true rfl⟩) hP hD hS [5] [0, 1, 2, 3, 4] rfl rfl rfl rfl rfl (by decide) rfl rfl hl.1 rfl rfl (Nat.le_of_ble_eq_true rfl) ⟨Nat.zero_le _, Nat.zero_le _⟩ dX10_cupsFor_13 ?_
    intro H locs hP hD hS
    cases hF
    exact ret_i C0 hP hD hS [5, 0, 1, 2, 3, 4] rfl rfl rfl dX10_cupsFor_16 rfl

theorem dAX10_cupsTo : ∀ q ∈ ([(0, (.aload_n 0, 1)), (1, (.invokevirtual 159, 3)), (4, (.aload_n 0, 1)), (5, (.iload_n 1, 1)), (6, (.invokevirtual 300, 3)), (9, (.ifCond .ne 9, 3)), (12, (.aload_n 0, 1)), (13, (.iconst 1, 1)), (14, (.invokevirtual 162, 3)), (17, (.ireturn, 1)), (18, (.aload_n 0, 1)), (19, (.invokevirtual 350, 3)), (22, (.ifCond .eq 12, 3)), (25, (.aload_n 0, 1)), (26, (.getfield 47, 3)), (29, (.iload_n 1, 1)), (30, (.iaload, 1)), (31, (.goto 9, 3)), (34, (.aload_n 0, 1)), (35, (.bipush 6, 2)), (37, (.invokevirtual 162, 3)), (40, (.ireturn, 1))] : List (Nat × (Instr × Nat))), decode cX10_cupsTo q.1 = .ok q.2 := by decide +kernel
theorem dX10_cupsTo_0 : decode cX10_cupsTo 0 = .ok (.aload_n 0, 1) := dAX10_cupsTo (0, (.aload_n 0, 1)) (List.mem_of_getElem? (i := 0) rfl)
theorem dX10_cupsTo_1 : decode cX10_cupsTo 1 = .ok (.invokevirtual 159, 3) := dAX10_cupsTo (1, (.invokevirtual 159, 3)) (List.mem_of_getElem? (i := 1) rfl)
theorem dX10_cupsTo_4 : decode cX10_cupsTo 4 = .ok (.aload_n 0, 1) := dAX10_cupsTo (4, (.aload_n 0, 1)) (List.mem_of_getElem? (i := 2) rfl)
theorem dX10_cupsTo_5 : decode cX10_cupsTo 5 = .ok (.iload_n 1, 1) := dAX10_cupsTo (5, (.iload_n 1, 1)) (List.mem_of_getElem? (i := 3) rfl)
theorem dX10_cupsTo_6 : decode cX10_cupsTo 6 = .ok (.invokevirtual 300, 3) := dAX10_cupsTo (6, (.invokevirtual 300, 3)) (List.mem_of_getElem? (i := 4) rfl)
theorem dX10_cupsTo_9 : decode cX10_cupsTo 9 = .ok (.ifCond .ne 9, 3) := dAX10_cupsTo (9, (.ifCond .ne 9, 3)) (List.mem_of_getElem? (i := 5) rfl)
theorem dX10_cupsTo_12 : decode cX10_cupsTo 12 = .ok (.aload_n 0, 1) := dAX10_cupsTo (12, (.aload_n 0, 1)) (List.mem_of_getElem? (i := 6) rfl)
theorem dX10_cupsTo_13 : decode cX10_cupsTo 13 = .ok (.iconst 1, 1) := dAX10_cupsTo (13, (.iconst 1, 1)) (List.mem_of_getElem? (i := 7) rfl)
theorem dX10_cupsTo_14 : decode cX10_cupsTo 14 = .ok (.invokevirtual 162, 3) := dAX10_cupsTo (14, (.invokevirtual 162, 3)) (List.mem_of_getElem? (i := 8) rfl)
theorem dX10_cupsTo_17 : decode cX10_cupsTo 17 = .ok (.ireturn, 1) := dAX10_cupsTo (17, (.ireturn, 1)) (List.mem_of_getElem? (i := 9) rfl)
theorem dX10_cupsTo_18 : decode cX10_cupsTo 18 = .ok (.aload_n 0, 1) := dAX10_cupsTo (18, (.aload_n 0, 1)) (List.mem_of_getElem? (i := 10) rfl)
theorem dX10_cupsTo_19 : decode cX10_cupsTo 19 = .ok (.invokevirtual 350, 3) := dAX10_cupsTo (19, (.invokevirtual 350, 3)) (List.mem_of_getElem? (i := 11) rfl)
theorem dX10_cupsTo_22 : decode cX10_cupsTo 22 = .ok (.ifCond .eq 12, 3) := dAX10_cupsTo (22, (.ifCond .eq 12, 3)) (List.mem_of_getElem? (i := 12) rfl)
theorem dX10_cupsTo_25 : decode cX10_cupsTo 25 = .ok (.aload_n 0, 1) := dAX10_cupsTo (25, (.aload_n 0, 1)) (List.mem_of_getElem? (i := 13) rfl)
theorem dX10_cupsTo_26 : decode cX10_cupsTo 26 = .ok (.getfield 47, 3) := dAX10_cupsTo (26, (.getfield 47, 3)) (List.mem_of_getElem? (i := 14) rfl)
theorem dX10_cupsTo_29 : decode cX10_cupsTo 29 = .ok (.iload_n 1, 1) := dAX10_cupsTo (29, (.iload_n 1, 1)) (List.mem_of_getElem? (i := 15) rfl)
theorem dX10_cupsTo_30 : decode cX10_cupsTo 30 = .ok (.iaload, 1) := dAX10_cupsTo (30, (.iaload, 1)) (List.mem_of_getElem? (i := 16) rfl)
theorem dX10_cupsTo_31 : decode cX10_cupsTo 31 = .ok (.goto 9, 3) := dAX10_cupsTo (31, (.goto 9, 3)) (List.mem_of_getElem? (i := 17) rfl)
theorem dX10_cupsTo_34 : decode cX10_cupsTo 34 = .ok (.aload_n 0, 1) := dAX10_cupsTo (34, (.aload_n 0, 1)) (List.mem_of_getElem? (i := 18) rfl)
theorem dX10_cupsTo_35 : decode cX10_cupsTo 35 = .ok (.bipush 6, 2) := dAX10_cupsTo (35, (.bipush 6, 2)) (List.mem_of_getElem? (i := 19) rfl)
theorem dX10_cupsTo_37 : decode cX10_cupsTo 37 = .ok (.invokevirtual 162, 3) := dAX10_cupsTo (37, (.invokevirtual 162, 3)) (List.mem_of_getElem? (i := 20) rfl)
theorem dX10_cupsTo_40 : decode cX10_cupsTo 40 = .ok (.ireturn, 1) := dAX10_cupsTo (40, (.ireturn, 1)) (List.mem_of_getElem? (i := 21) rfl)
set_option maxRecDepth 20000 in
theorem ggX10_cupsTo_X10_good : GoodIn wsX10_cupsTo wsX10_good := goodIn_r _ [6, 7, 8, 88, 89, 90, 91, 92, 93, 94, 95, 96, 97, 98, 99, 100, 101, 102, 103, 104, 105, 106, 107, 108, 109, 110, 111, 112, 113, 114, 115, 116, 117, 118, 119, 120, 121, 122] rfl (by decide +kernel)
set_option maxRecDepth 20000 in
theorem gX10_cupsTo_X10_good : GoodIn wsX10_cupsTo (wsV RX10 159 RX10 yX10_good wsX10_good) := goodIn_app (goodIn_of _ (by decide +kernel)) ggX10_cupsTo_X10_good
set_option maxRecDepth 20000 in
theorem ggX10_cupsTo_X10_isGuest : GoodIn wsX10_cupsTo wsX10_isGuest := goodIn_r _ [12, 13, 14, 15, 16, 5, 17, 88, 89, 90, 91, 92, 93, 94, 95, 96, 97, 98, 99, 100, 101, 102, 103, 104, 105, 106, 107, 108, 109, 110, 111, 112, 113, 114, 115, 116, 117, 118, 119, 120, 121, 122] rfl (by decide +kernel)
set_option maxRecDepth 20000 in
theorem gX10_cupsTo_X10_isGuest : GoodIn wsX10_cupsTo (wsV RX10 300 RX10 yX10_isGuest wsX10_isGuest) := goodIn_app (goodIn_of _ (by decide +kernel)) ggX10_cupsTo_X10_isGuest
set_option maxRecDepth 20000 in
theorem ggX10_cupsTo_X10_no : GoodIn wsX10_cupsTo wsX10_no := goodIn_r _ [21, 8, 88, 89, 90, 91, 92, 93, 94, 95, 96, 97, 98, 99, 100, 101, 102, 103, 104, 105, 106, 107, 108, 109, 110, 111, 112, 113, 114, 115, 116, 117, 118, 119, 120, 121, 122] rfl (by decide +kernel)
set_option maxRecDepth 20000 in
theorem gX10_cupsTo_X10_no : GoodIn wsX10_cupsTo (wsV RX10 162 RX10 yX10_no wsX10_no) := goodIn_app (goodIn_of _ (by decide +kernel)) ggX10_cupsTo_X10_no
set_option maxRecDepth 20000 in
theorem ggX10_cupsTo_X10_seekCups : GoodIn wsX10_cupsTo wsX10_seekCups := goodIn_r _ [25, 26, 27, 28, 29, 30, 31, 5, 32, 14, 33, 34, 1, 35, 36, 37, 38, 39, 40, 41, 42, 43, 44, 45, 46, 47, 48, 49, 50, 51, 52, 53, 54, 55, 56, 57, 58, 59, 60, 61, 62, 63, 64, 65, 66, 67, 68, 69, 70, 71, 72, 73, 74, 75, 76, 77, 78, 79, 80, 81, 82, 83, 84, 85, 86, 87, 88, 89, 90, 91, 92, 93, 94, 95, 96, 97, 98, 99, 100, 101, 102, 103, 104, 105, 106, 107, 108, 109, 110, 111, 112, 113, 114, 115, 116, 117, 118, 119, 120, 121, 122] rfl (by decide +kernel)
set_option maxRecDepth 20000 in
theorem gX10_cupsTo_X10_seekCups : GoodIn wsX10_cupsTo (wsV RX10 350 RX10 yX10_seekCups wsX10_seekCups) := goodIn_app (goodIn_of _ (by decide +kernel)) ggX10_cupsTo_X10_seekCups
theorem kX10_cupsTo_47 : Cond.fieldLink RX10 47 "EveningVowModel" "bestCups" "[I" ∈ wsX10_cupsTo := List.mem_of_getElem? (i := 1) rfl
theorem iX10_cupsTo_X10 : ∀ w ∈ u_ws RX10 TX10 35, w ∈ wsX10_cupsTo := fun w h => (List.mem_cons_of_mem _ (List.mem_append_right _ h))
set_option maxHeartbeats 4000000 in
set_option maxRecDepth 100000 in
theorem mX10_cupsTo (l : Launch) (g : GG) (a_t : Nat) (p_t : Nat → Nat) (n : Nat) (x1 : Int32) (o_t : Nat → Int32) (f_t_15 : Nat → Int32) (f_t_17 : Nat → Int32) (f_t_25 : Nat → Int32) (f_t_30 : Nat → Int32) (f_t_31 : Nat → Int32) (r : Int32) (o_t' : Nat → Int32) (f_t_25' : Nat → Int32) (f_t_30' : Nat → Int32) (f_t_31' : Nat → Int32) (hF : fX10_cupsTo n x1 o_t f_t_15 f_t_17 f_t_25 f_t_30 f_t_31 = some (r, o_t', f_t_25', f_t_30', f_t_31')) : MI l g yX10_cupsTo wsX10_cupsTo ({ frames := 17, cells := 0, slots := 0, locals := 390 } : Room) [.ref a_t, .int x1] [oX10 a_t p_t o_t, aI g (p_t 15) 266 f_t_15, aI g (p_t 17) 17 f_t_17, aI g (p_t 25) 17 f_t_25, aI g (p_t 30) 7 f_t_30, aI g (p_t 31) 7 f_t_31] r [oX10 a_t p_t o_t', aI g (p_t 15) 266 f_t_15, aI g (p_t 17) 17 f_t_17, aI g (p_t 25) 17 f_t_25', aI g (p_t 30) 7 f_t_30', aI g (p_t 31) 7 f_t_31'] := by
  refine MI.of (cc := cX10_cupsTo) (maxL := 2) (rt := .int) (own := RX10) rfl rfl (by decide) (Nat.le_of_ble_eq_true rfl) ?_
  intro p e s m args below meth c A C0 hP hD hS ls hl
  obtain ⟨hx, hb, hml, hown, hts, hr, hlk, hK, hA, hSW⟩ := id C0
  have hl : lv_has ls 2 [(0, .ref a_t), (1, .int x1)] := hl
  rw [fX10_cupsTo] at hF
  refine lv_aload_n hx hb dX10_cupsTo_0 rfl (lv_at hl 0 rfl) ?_
  obtain ⟨u_1, hu_2, hF⟩ := ob1_some hF
  refine call_v (wr := [aI g (p_t 15) 266 f_t_15, aI g (p_t 17) 17 f_t_17, aI g (p_t 25) 17 f_t_25, aI g (p_t 30) 7 f_t_30, aI g (p_t 31) 7 f_t_31]) (As := []) (rest := []) (ci := 10) (q0 := 0) C0 (mX10_good l g a_t p_t n o_t u_1 hu_2) (cwV 0 hts gX10_cupsTo_X10_good rfl rfl rfl (by decide +kernel) ⟨Nat.le_of_ble_eq_true rfl, Nat.le_of_ble_eq_true rfl⟩) hP hD hS [0] [1, 2, 3, 4, 5] rfl rfl rfl rfl rfl (by decide) rfl rfl hl.1 rfl rfl (Nat.le_of_ble_eq_true rfl) ⟨Nat.zero_le _, Nat.zero_le _⟩ dX10_cupsTo_1 ?_
  intro H locs hP hD hS
  refine lv_aload_n hx hb dX10_cupsTo_4 rfl (lv_at hl 0 rfl) ?_
  refine lv_iload_n hx hb dX10_cupsTo_5 rfl (lv_at hl 1 rfl) ?_
  obtain ⟨u_3, hu_4, hF⟩ := ob1_some hF
  refine call_i (wr := [aI g (p_t 17) 17 f_t_17, aI g (p_t 25) 17 f_t_25, aI g (p_t 30) 7 f_t_30, aI g (p_t 31) 7 f_t_31]) (As := [.int x1]) (rest := []) (ci := 10) (q0 := 0) C0 (mX10_isGuest l g a_t p_t n x1 u_1 f_t_15 u_3 hu_4) (cwV 1 hts gX10_cupsTo_X10_isGuest rfl rfl rfl (by decide +kernel) ⟨Nat.le_of_ble_eq_true rfl, Nat.le_of_ble_eq_true rfl⟩) hP hD hS [5, 0] [1, 2, 3, 4] rfl rfl rfl rfl rfl (by decide) rfl rfl hl.1 rfl rfl (Nat.le_of_ble_eq_true rfl) ⟨Nat.zero_le _, Nat.zero_le _⟩ dX10_cupsTo_6 ?_
  intro H locs hP hD hS
  refine lv_if_ne (tgt := 18) hx hb dX10_cupsTo_9 (by decide) (fun c_5 => ?_) (fun c_5 => ?_)
  · have hF := it_n c_5 hF
    refine lv_aload_n hx hb dX10_cupsTo_18 rfl (lv_at hl 0 rfl) ?_
    obtain ⟨u_6, u_7, u_8, u_9, u_10, hu_11, hF⟩ := ob5_some hF
    refine call_i (wr := []) (As := []) (rest := []) (ci := 10) (q0 := 0) C0 (mX10_seekCups l g a_t p_t n u_1 f_t_15 f_t_17 f_t_25 f_t_30 f_t_31 u_6 u_7 u_8 u_9 u_10 hu_11) (cwV 0 hts gX10_cupsTo_X10_seekCups rfl rfl rfl (by decide +kernel) ⟨Nat.le_of_ble_eq_true rfl, Nat.le_of_ble_eq_true rfl⟩) hP hD hS [4, 5, 0, 1, 2, 3] [] rfl rfl rfl rfl rfl (by decide) rfl rfl hl.1 rfl rfl (Nat.le_of_ble_eq_true rfl) ⟨Nat.zero_le _, Nat.zero_le _⟩ dX10_cupsTo_19 ?_
    intro H locs hP hD hS
    refine lv_if_eq (tgt := 34) hx hb dX10_cupsTo_22 (by decide) (fun c_12 => ?_) (fun c_12 => ?_)
    · have hF := it_p c_12 hF
      refine lv_aload_n hx hb dX10_cupsTo_34 rfl (lv_at hl 0 rfl) ?_
      refine lv_bipush (v := (6 : Int32)) hx hb dX10_cupsTo_35 (by decide) ?_
      obtain ⟨u_13, u_14, hu_15, hF⟩ := ob2_some hF
      refine call_i (wr := [aI g (p_t 15) 266 f_t_15, aI g (p_t 17) 17 f_t_17, aI g (p_t 25) 17 u_8, aI g (p_t 30) 7 u_9, aI g (p_t 31) 7 u_10]) (As := [.int (6 : Int32)]) (rest := []) (ci := 10) (q0 := 0) C0 (mX10_no l g a_t p_t n (6 : Int32) u_7 u_13 u_14 hu_15) (cwV 1 hts gX10_cupsTo_X10_no rfl rfl rfl (by decide +kernel) ⟨Nat.le_of_ble_eq_true rfl, Nat.le_of_ble_eq_true rfl⟩) hP hD hS [0] [1, 2, 3, 4, 5] rfl rfl rfl rfl rfl (by decide) rfl rfl hl.1 rfl rfl (Nat.le_of_ble_eq_true rfl) ⟨Nat.zero_le _, Nat.zero_le _⟩ dX10_cupsTo_37 ?_
      intro H locs hP hD hS
      cases hF
      exact ret_i C0 hP hD hS [5, 0, 1, 2, 3, 4] rfl rfl rfl dX10_cupsTo_40 rfl
    · have hF := it_n c_12 hF
      refine lv_aload_n hx hb dX10_cupsTo_25 rfl (lv_at hl 0 rfl) ?_
      refine va_get (D := g.1) (ci := 10) (v := .ref (p_t 31)) (C := RX10) (T := TX10) (N := 35) hx hb hts iX10_cupsTo_X10 hown hK.1 hP 0 rfl rfl 31 (by decide) (hts _ kX10_cupsTo_47) (fun _ h9 => h9) rfl dX10_cupsTo_26 ?_
      refine lv_iload_n hx hb dX10_cupsTo_29 rfl (lv_at hl 1 rfl) ?_
      obtain ⟨h_16, hF⟩ := it_ck hF
      refine va_iald hx hb hK.1 hP 5 0 rfl rfl h_16 dX10_cupsTo_30 ?_
      refine lv_goto (tgt := 40) hx hb dX10_cupsTo_31 (by decide) ?_
      cases hF
      exact ret_i C0 hP hD hS [0, 1, 2, 3, 4, 5] rfl rfl rfl dX10_cupsTo_40 rfl
  · have hF := it_p c_5 hF
    refine lv_aload_n hx hb dX10_cupsTo_12 rfl (lv_at hl 0 rfl) ?_
    refine lv_iconst (v := (1 : Int32)) hx hb dX10_cupsTo_13 (by decide) ?_
    obtain ⟨u_17, u_18, hu_19, hF⟩ := ob2_some hF
    refine call_i (wr := [aI g (p_t 17) 17 f_t_17, aI g (p_t 25) 17 f_t_25, aI g (p_t 30) 7 f_t_30, aI g (p_t 31) 7 f_t_31, aI g (p_t 15) 266 f_t_15]) (As := [.int (1 : Int32)]) (rest := []) (ci := 10) (q0 := 0) C0 (mX10_no l g a_t p_t n (1 : Int32) u_1 u_17 u_18 hu_19) (cwV 1 hts gX10_cupsTo_X10_no rfl rfl rfl (by decide +kernel) ⟨Nat.le_of_ble_eq_true rfl, Nat.le_of_ble_eq_true rfl⟩) hP hD hS [4] [0, 1, 2, 3, 5] rfl rfl rfl rfl rfl (by decide) rfl rfl hl.1 rfl rfl (Nat.le_of_ble_eq_true rfl) ⟨Nat.zero_le _, Nat.zero_le _⟩ dX10_cupsTo_14 ?_
    intro H locs hP hD hS
    cases hF
    exact ret_i C0 hP hD hS [5, 4, 0, 1, 2, 3] rfl rfl rfl dX10_cupsTo_17 rfl

theorem dAX10_endsByCup : ∀ q ∈ ([(0, (.aload_n 0, 1)), (1, (.getfield 26, 3)), (4, (.iconst 0, 1)), (5, (.aload_n 0, 1)), (6, (.getfield 35, 3)), (9, (.iconst 0, 1)), (10, (.bipush 17, 2)), (12, (.invokestatic 168, 3)), (15, (.aload_n 0, 1)), (16, (.getfield 35, 3)), (19, (.iload_n 1, 1)), (20, (.dup2, 1)), (21, (.iaload, 1)), (22, (.aload_n 0, 1)), (23, (.getfield 20, 3)), (26, (.iconst 1, 1)), (27, (.iaload, 1)), (28, (.iadd, 1)), (29, (.iastore, 1)), (30, (.aload_n 0, 1)), (31, (.aload_n 0, 1)), (32, (.getfield 35, 3)), (35, (.iconst 0, 1)), (36, (.invokevirtual 296, 3)), (39, (.ireturn, 1))] : List (Nat × (Instr × Nat))), decode cX10_endsByCup q.1 = .ok q.2 := by decide +kernel
theorem dX10_endsByCup_0 : decode cX10_endsByCup 0 = .ok (.aload_n 0, 1) := dAX10_endsByCup (0, (.aload_n 0, 1)) (List.mem_of_getElem? (i := 0) rfl)
theorem dX10_endsByCup_1 : decode cX10_endsByCup 1 = .ok (.getfield 26, 3) := dAX10_endsByCup (1, (.getfield 26, 3)) (List.mem_of_getElem? (i := 1) rfl)
theorem dX10_endsByCup_4 : decode cX10_endsByCup 4 = .ok (.iconst 0, 1) := dAX10_endsByCup (4, (.iconst 0, 1)) (List.mem_of_getElem? (i := 2) rfl)
theorem dX10_endsByCup_5 : decode cX10_endsByCup 5 = .ok (.aload_n 0, 1) := dAX10_endsByCup (5, (.aload_n 0, 1)) (List.mem_of_getElem? (i := 3) rfl)
theorem dX10_endsByCup_6 : decode cX10_endsByCup 6 = .ok (.getfield 35, 3) := dAX10_endsByCup (6, (.getfield 35, 3)) (List.mem_of_getElem? (i := 4) rfl)
theorem dX10_endsByCup_9 : decode cX10_endsByCup 9 = .ok (.iconst 0, 1) := dAX10_endsByCup (9, (.iconst 0, 1)) (List.mem_of_getElem? (i := 5) rfl)
theorem dX10_endsByCup_10 : decode cX10_endsByCup 10 = .ok (.bipush 17, 2) := dAX10_endsByCup (10, (.bipush 17, 2)) (List.mem_of_getElem? (i := 6) rfl)
theorem dX10_endsByCup_12 : decode cX10_endsByCup 12 = .ok (.invokestatic 168, 3) := dAX10_endsByCup (12, (.invokestatic 168, 3)) (List.mem_of_getElem? (i := 7) rfl)
theorem dX10_endsByCup_15 : decode cX10_endsByCup 15 = .ok (.aload_n 0, 1) := dAX10_endsByCup (15, (.aload_n 0, 1)) (List.mem_of_getElem? (i := 8) rfl)
theorem dX10_endsByCup_16 : decode cX10_endsByCup 16 = .ok (.getfield 35, 3) := dAX10_endsByCup (16, (.getfield 35, 3)) (List.mem_of_getElem? (i := 9) rfl)
theorem dX10_endsByCup_19 : decode cX10_endsByCup 19 = .ok (.iload_n 1, 1) := dAX10_endsByCup (19, (.iload_n 1, 1)) (List.mem_of_getElem? (i := 10) rfl)
theorem dX10_endsByCup_20 : decode cX10_endsByCup 20 = .ok (.dup2, 1) := dAX10_endsByCup (20, (.dup2, 1)) (List.mem_of_getElem? (i := 11) rfl)
theorem dX10_endsByCup_21 : decode cX10_endsByCup 21 = .ok (.iaload, 1) := dAX10_endsByCup (21, (.iaload, 1)) (List.mem_of_getElem? (i := 12) rfl)
theorem dX10_endsByCup_22 : decode cX10_endsByCup 22 = .ok (.aload_n 0, 1) := dAX10_endsByCup (22, (.aload_n 0, 1)) (List.mem_of_getElem? (i := 13) rfl)
theorem dX10_endsByCup_23 : decode cX10_endsByCup 23 = .ok (.getfield 20, 3) := dAX10_endsByCup (23, (.getfield 20, 3)) (List.mem_of_getElem? (i := 14) rfl)
theorem dX10_endsByCup_26 : decode cX10_endsByCup 26 = .ok (.iconst 1, 1) := dAX10_endsByCup (26, (.iconst 1, 1)) (List.mem_of_getElem? (i := 15) rfl)
theorem dX10_endsByCup_27 : decode cX10_endsByCup 27 = .ok (.iaload, 1) := dAX10_endsByCup (27, (.iaload, 1)) (List.mem_of_getElem? (i := 16) rfl)
theorem dX10_endsByCup_28 : decode cX10_endsByCup 28 = .ok (.iadd, 1) := dAX10_endsByCup (28, (.iadd, 1)) (List.mem_of_getElem? (i := 17) rfl)
theorem dX10_endsByCup_29 : decode cX10_endsByCup 29 = .ok (.iastore, 1) := dAX10_endsByCup (29, (.iastore, 1)) (List.mem_of_getElem? (i := 18) rfl)
theorem dX10_endsByCup_30 : decode cX10_endsByCup 30 = .ok (.aload_n 0, 1) := dAX10_endsByCup (30, (.aload_n 0, 1)) (List.mem_of_getElem? (i := 19) rfl)
theorem dX10_endsByCup_31 : decode cX10_endsByCup 31 = .ok (.aload_n 0, 1) := dAX10_endsByCup (31, (.aload_n 0, 1)) (List.mem_of_getElem? (i := 20) rfl)
theorem dX10_endsByCup_32 : decode cX10_endsByCup 32 = .ok (.getfield 35, 3) := dAX10_endsByCup (32, (.getfield 35, 3)) (List.mem_of_getElem? (i := 21) rfl)
theorem dX10_endsByCup_35 : decode cX10_endsByCup 35 = .ok (.iconst 0, 1) := dAX10_endsByCup (35, (.iconst 0, 1)) (List.mem_of_getElem? (i := 22) rfl)
theorem dX10_endsByCup_36 : decode cX10_endsByCup 36 = .ok (.invokevirtual 296, 3) := dAX10_endsByCup (36, (.invokevirtual 296, 3)) (List.mem_of_getElem? (i := 23) rfl)
theorem dX10_endsByCup_39 : decode cX10_endsByCup 39 = .ok (.ireturn, 1) := dAX10_endsByCup (39, (.ireturn, 1)) (List.mem_of_getElem? (i := 24) rfl)
set_option maxRecDepth 20000 in
theorem ggX10_endsByCup_X10_copy : GoodIn wsX10_endsByCup wsX10_copy := goodIn_r _ [7] rfl (by decide +kernel)
set_option maxRecDepth 20000 in
theorem gX10_endsByCup_X10_copy : GoodIn wsX10_endsByCup (va_wsS RX10 168 yX10_copy wsX10_copy) := goodIn_app (goodIn_of _ (by decide +kernel)) ggX10_endsByCup_X10_copy
set_option maxRecDepth 20000 in
theorem ggX10_endsByCup_X10_endsOn : GoodIn wsX10_endsByCup wsX10_endsOn := goodIn_r _ [11, 12, 13, 14, 15, 6, 16, 3, 17, 18, 19, 20, 21, 22, 23, 24, 25, 26, 27, 28, 29, 30, 31, 32, 33, 34, 35, 36, 37, 38, 39, 40, 41, 42, 43, 44, 45, 46, 47, 48, 49, 50, 51, 52, 53, 54, 55, 56, 57, 58, 59, 60, 61, 62, 63, 64, 65, 66, 67, 68, 69, 70, 71, 72, 73, 74, 75, 76, 77, 78, 79, 80, 81, 82, 83, 84, 85, 86, 87, 88, 89, 90, 91, 92] rfl (by decide +kernel)
set_option maxRecDepth 20000 in
theorem gX10_endsByCup_X10_endsOn : GoodIn wsX10_endsByCup (wsV RX10 296 RX10 yX10_endsOn wsX10_endsOn) := goodIn_app (goodIn_of _ (by decide +kernel)) ggX10_endsByCup_X10_endsOn
theorem kX10_endsByCup_26 : Cond.fieldLink RX10 26 "EveningVowModel" "st" "[I" ∈ wsX10_endsByCup := List.mem_of_getElem? (i := 1) rfl
theorem iX10_endsByCup_X10 : ∀ w ∈ u_ws RX10 TX10 35, w ∈ wsX10_endsByCup := fun w h => (List.mem_cons_of_mem _ (List.mem_append_right _ h))
theorem kX10_endsByCup_35 : Cond.fieldLink RX10 35 "EveningVowModel" "trial" "[I" ∈ wsX10_endsByCup := List.mem_of_getElem? (i := 2) rfl
theorem kX10_endsByCup_20 : Cond.fieldLink RX10 20 "EveningVowModel" "\x72" "[I" ∈ wsX10_endsByCup := List.mem_of_getElem? (i := 3) rfl
set_option maxHeartbeats 4000000 in
set_option maxRecDepth 100000 in
theorem mX10_endsByCup (l : Launch) (g : GG) (a_t : Nat) (p_t : Nat → Nat) (n : Nat) (x1 : Int32) (o_t : Nat → Int32) (f_t_15 : Nat → Int32) (f_t_17 : Nat → Int32) (f_t_25 : Nat → Int32) (r : Int32) (o_t' : Nat → Int32) (f_t_25' : Nat → Int32) (hF : fX10_endsByCup n x1 o_t f_t_15 f_t_17 f_t_25 = some (r, o_t', f_t_25')) : MI l g yX10_endsByCup wsX10_endsByCup ({ frames := 5, cells := 0, slots := 0, locals := 116 } : Room) [.ref a_t, .int x1] [oX10 a_t p_t o_t, aI g (p_t 15) 266 f_t_15, aI g (p_t 17) 17 f_t_17, aI g (p_t 25) 17 f_t_25] r [oX10 a_t p_t o_t', aI g (p_t 15) 266 f_t_15, aI g (p_t 17) 17 f_t_17, aI g (p_t 25) 17 f_t_25'] := by
  refine MI.of (cc := cX10_endsByCup) (maxL := 2) (rt := .int) (own := RX10) rfl rfl (by decide) (Nat.le_of_ble_eq_true rfl) ?_
  intro p e s m args below meth c A C0 hP hD hS ls hl
  obtain ⟨hx, hb, hml, hown, hts, hr, hlk, hK, hA, hSW⟩ := id C0
  have hl : lv_has ls 2 [(0, .ref a_t), (1, .int x1)] := hl
  rw [fX10_endsByCup] at hF
  refine lv_aload_n hx hb dX10_endsByCup_0 rfl (lv_at hl 0 rfl) ?_
  refine va_get (D := g.1) (ci := 10) (v := .ref (p_t 17)) (C := RX10) (T := TX10) (N := 35) hx hb hts iX10_endsByCup_X10 hown hK.1 hP 0 rfl rfl 17 (by decide) (hts _ kX10_endsByCup_26) (fun _ h9 => h9) rfl dX10_endsByCup_1 ?_
  refine lv_iconst (v := (0 : Int32)) hx hb dX10_endsByCup_4 (by decide) ?_
  refine lv_aload_n hx hb dX10_endsByCup_5 rfl (lv_at hl 0 rfl) ?_
  refine va_get (D := g.1) (ci := 10) (v := .ref (p_t 25)) (C := RX10) (T := TX10) (N := 35) hx hb hts iX10_endsByCup_X10 hown hK.1 hP 0 rfl rfl 25 (by decide) (hts _ kX10_endsByCup_35) (fun _ h9 => h9) rfl dX10_endsByCup_6 ?_
  refine lv_iconst (v := (0 : Int32)) hx hb dX10_endsByCup_9 (by decide) ?_
  refine lv_bipush (v := (17 : Int32)) hx hb dX10_endsByCup_10 (by decide) ?_
  obtain ⟨u_1, hu_2, hF⟩ := ob1_some hF
  refine call_sv (wr := [oX10 a_t p_t o_t, aI g (p_t 15) 266 f_t_15]) (As := [.ref (p_t 17), .int (0 : Int32), .ref (p_t 25), .int (0 : Int32), .int (17 : Int32)]) (rest := []) C0 (mX10_copy l g (p_t 17) (p_t 25) n (0 : Int32) (0 : Int32) (17 : Int32) 17 17 f_t_17 f_t_25 u_1 hu_2) (va_cwS 5 hts gX10_endsByCup_X10_copy rfl rfl rfl (by decide +kernel) ⟨Nat.le_of_ble_eq_true rfl, Nat.le_of_ble_eq_true rfl⟩) hP hD hS [2, 3] [0, 1] rfl rfl rfl rfl rfl (by decide) hl.1 rfl rfl (Nat.le_of_ble_eq_true rfl) ⟨Nat.zero_le _, Nat.zero_le _⟩ dX10_endsByCup_12 ?_
  intro H locs hP hD hS
  refine lv_aload_n hx hb dX10_endsByCup_15 rfl (lv_at hl 0 rfl) ?_
  refine va_get (D := g.1) (ci := 10) (v := .ref (p_t 25)) (C := RX10) (T := TX10) (N := 35) hx hb hts iX10_endsByCup_X10 hown hK.1 hP 0 rfl rfl 25 (by decide) (hts _ kX10_endsByCup_35) (fun _ h9 => h9) rfl dX10_endsByCup_16 ?_
  refine lv_iload_n hx hb dX10_endsByCup_19 rfl (lv_at hl 1 rfl) ?_
  refine lv_dup2_11 hx hb dX10_endsByCup_20 rfl rfl ?_
  obtain ⟨h_3, hF⟩ := it_ck hF
  refine va_iald hx hb hK.1 hP 3 0 rfl rfl h_3 dX10_endsByCup_21 ?_
  refine lv_aload_n hx hb dX10_endsByCup_22 rfl (lv_at hl 0 rfl) ?_
  refine va_get (D := g.1) (ci := 10) (v := .ref (p_t 15)) (C := RX10) (T := TX10) (N := 35) hx hb hts iX10_endsByCup_X10 hown hK.1 hP 0 rfl rfl 15 (by decide) (hts _ kX10_endsByCup_20) (fun _ h9 => h9) rfl dX10_endsByCup_23 ?_
  refine lv_iconst (v := (1 : Int32)) hx hb dX10_endsByCup_26 (by decide) ?_
  refine va_iald_k (j := 1) hx hb hK.1 hP 1 0 rfl rfl (by unfold vp_in; decide) rfl dX10_endsByCup_27 ?_
  refine lv_iadd hx hb dX10_endsByCup_28 ?_
  obtain ⟨h_4, hF⟩ := it_ck hF
  refine va_iast hx hb hK.1 hP hD hS 3 0 rfl rfl h_4 dX10_endsByCup_29 (fun H locs hP hD hS => ?_)
  have hP : va_P g.1 vwCl [oX10 a_t p_t o_t, aI g (p_t 15) 266 f_t_15, aI g (p_t 17) 17 f_t_17, aI g (p_t 25) 17 (upd u_1 (x1).toNatClampNeg ((u_1 (x1).toNatClampNeg) + (f_t_15 1)))] H := hP
  have hD : va_D A [oX10 a_t p_t o_t, aI g (p_t 15) 266 f_t_15, aI g (p_t 17) 17 f_t_17, aI g (p_t 25) 17 (upd u_1 (x1).toNatClampNeg ((u_1 (x1).toNatClampNeg) + (f_t_15 1)))] := hD
  refine lv_aload_n hx hb dX10_endsByCup_30 rfl (lv_at hl 0 rfl) ?_
  refine lv_aload_n hx hb dX10_endsByCup_31 rfl (lv_at hl 0 rfl) ?_
  refine va_get (D := g.1) (ci := 10) (v := .ref (p_t 25)) (C := RX10) (T := TX10) (N := 35) hx hb hts iX10_endsByCup_X10 hown hK.1 hP 0 rfl rfl 25 (by decide) (hts _ kX10_endsByCup_35) (fun _ h9 => h9) rfl dX10_endsByCup_32 ?_
  refine lv_iconst (v := (0 : Int32)) hx hb dX10_endsByCup_35 (by decide) ?_
  obtain ⟨u_5, u_6, u_7, hu_8, hF⟩ := ob3_some hF
  refine call_i (wr := [aI g (p_t 17) 17 f_t_17]) (As := [.ref (p_t 25), .int (0 : Int32)]) (rest := []) (ci := 10) (q0 := 0) C0 (mX10_endsOn l g a_t (p_t 25) p_t n (0 : Int32) o_t f_t_15 (upd u_1 (x1).toNatClampNeg ((u_1 (x1).toNatClampNeg) + (f_t_15 1))) u_5 u_6 u_7 hu_8) (cwV 2 hts gX10_endsByCup_X10_endsOn rfl rfl rfl (by decide +kernel) ⟨Nat.le_of_ble_eq_true rfl, Nat.le_of_ble_eq_true rfl⟩) hP hD hS [0, 1, 3] [2] rfl rfl rfl rfl rfl (by decide) rfl rfl hl.1 rfl rfl (Nat.le_of_ble_eq_true rfl) ⟨Nat.zero_le _, Nat.zero_le _⟩ dX10_endsByCup_36 ?_
  intro H locs hP hD hS
  cases hF
  exact ret_i C0 hP hD hS [1, 2, 0, 3] rfl rfl rfl dX10_endsByCup_39 rfl

