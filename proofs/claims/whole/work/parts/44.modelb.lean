theorem dAX10_hourDrawn : ∀ q ∈ ([(0, (.iconst 0, 1)), (1, (.istore_n 2, 1)), (2, (.iload_n 2, 1)), (3, (.aload_n 0, 1)), (4, (.getfield 20, 3)), (7, (.iconst 3, 1)), (8, (.iaload, 1)), (9, (.if_icmp .ge 59, 3)), (12, (.aload_n 0, 1)), (13, (.aload_n 1, 1)), (14, (.iload_n 2, 1)), (15, (.invokevirtual 274, 3)), (18, (.ifCond .ne 6, 3)), (21, (.goto 41, 3)), (24, (.aload_n 0, 1)), (25, (.bipush 75, 2)), (27, (.aload_n 0, 1)), (28, (.getfield 283, 3)), (31, (.imul, 1)), (32, (.bipush 74, 2)), (34, (.iadd, 1)), (35, (.ldc_w 286, 3)), (38, (.irem, 1)), (39, (.putfield 283, 3)), (42, (.aload_n 1, 1)), (43, (.iload_n 2, 1)), (44, (.dup2, 1)), (45, (.iaload, 1)), (46, (.aload_n 0, 1)), (47, (.getfield 283, 3)), (50, (.iconst 2, 1)), (51, (.aload_n 0, 1)), (52, (.iload_n 2, 1)), (53, (.invokevirtual 277, 3)), (56, (.imul, 1)), (57, (.iconst 1, 1)), (58, (.iadd, 1)), (59, (.irem, 1)), (60, (.isub, 1)), (61, (.iastore, 1)), (62, (.iinc 2 1, 3)), (65, (.goto (-63), 3)), (68, (.aload_n 1, 1)), (69, (.bipush 14, 2)), (71, (.dup2, 1)), (72, (.iaload, 1)), (73, (.iconst 1, 1)), (74, (.iadd, 1)), (75, (.iastore, 1)), (76, (.aload_n 0, 1)), (77, (.aload_n 1, 1)), (78, (.invokevirtual 280, 3)), (81, (.ireturn, 1))] : List (Nat × (Instr × Nat))), decode cX10_hourDrawn q.1 = .ok q.2 := by decide +kernel
theorem dX10_hourDrawn_0 : decode cX10_hourDrawn 0 = .ok (.iconst 0, 1) := dAX10_hourDrawn (0, (.iconst 0, 1)) (List.mem_of_getElem? (i := 0) rfl)
theorem dX10_hourDrawn_1 : decode cX10_hourDrawn 1 = .ok (.istore_n 2, 1) := dAX10_hourDrawn (1, (.istore_n 2, 1)) (List.mem_of_getElem? (i := 1) rfl)
theorem dX10_hourDrawn_2 : decode cX10_hourDrawn 2 = .ok (.iload_n 2, 1) := dAX10_hourDrawn (2, (.iload_n 2, 1)) (List.mem_of_getElem? (i := 2) rfl)
theorem dX10_hourDrawn_3 : decode cX10_hourDrawn 3 = .ok (.aload_n 0, 1) := dAX10_hourDrawn (3, (.aload_n 0, 1)) (List.mem_of_getElem? (i := 3) rfl)
theorem dX10_hourDrawn_4 : decode cX10_hourDrawn 4 = .ok (.getfield 20, 3) := dAX10_hourDrawn (4, (.getfield 20, 3)) (List.mem_of_getElem? (i := 4) rfl)
theorem dX10_hourDrawn_7 : decode cX10_hourDrawn 7 = .ok (.iconst 3, 1) := dAX10_hourDrawn (7, (.iconst 3, 1)) (List.mem_of_getElem? (i := 5) rfl)
theorem dX10_hourDrawn_8 : decode cX10_hourDrawn 8 = .ok (.iaload, 1) := dAX10_hourDrawn (8, (.iaload, 1)) (List.mem_of_getElem? (i := 6) rfl)
theorem dX10_hourDrawn_9 : decode cX10_hourDrawn 9 = .ok (.if_icmp .ge 59, 3) := dAX10_hourDrawn (9, (.if_icmp .ge 59, 3)) (List.mem_of_getElem? (i := 7) rfl)
theorem dX10_hourDrawn_12 : decode cX10_hourDrawn 12 = .ok (.aload_n 0, 1) := dAX10_hourDrawn (12, (.aload_n 0, 1)) (List.mem_of_getElem? (i := 8) rfl)
theorem dX10_hourDrawn_13 : decode cX10_hourDrawn 13 = .ok (.aload_n 1, 1) := dAX10_hourDrawn (13, (.aload_n 1, 1)) (List.mem_of_getElem? (i := 9) rfl)
theorem dX10_hourDrawn_14 : decode cX10_hourDrawn 14 = .ok (.iload_n 2, 1) := dAX10_hourDrawn (14, (.iload_n 2, 1)) (List.mem_of_getElem? (i := 10) rfl)
theorem dX10_hourDrawn_15 : decode cX10_hourDrawn 15 = .ok (.invokevirtual 274, 3) := dAX10_hourDrawn (15, (.invokevirtual 274, 3)) (List.mem_of_getElem? (i := 11) rfl)
theorem dX10_hourDrawn_18 : decode cX10_hourDrawn 18 = .ok (.ifCond .ne 6, 3) := dAX10_hourDrawn (18, (.ifCond .ne 6, 3)) (List.mem_of_getElem? (i := 12) rfl)
theorem dX10_hourDrawn_21 : decode cX10_hourDrawn 21 = .ok (.goto 41, 3) := dAX10_hourDrawn (21, (.goto 41, 3)) (List.mem_of_getElem? (i := 13) rfl)
theorem dX10_hourDrawn_24 : decode cX10_hourDrawn 24 = .ok (.aload_n 0, 1) := dAX10_hourDrawn (24, (.aload_n 0, 1)) (List.mem_of_getElem? (i := 14) rfl)
theorem dX10_hourDrawn_25 : decode cX10_hourDrawn 25 = .ok (.bipush 75, 2) := dAX10_hourDrawn (25, (.bipush 75, 2)) (List.mem_of_getElem? (i := 15) rfl)
theorem dX10_hourDrawn_27 : decode cX10_hourDrawn 27 = .ok (.aload_n 0, 1) := dAX10_hourDrawn (27, (.aload_n 0, 1)) (List.mem_of_getElem? (i := 16) rfl)
theorem dX10_hourDrawn_28 : decode cX10_hourDrawn 28 = .ok (.getfield 283, 3) := dAX10_hourDrawn (28, (.getfield 283, 3)) (List.mem_of_getElem? (i := 17) rfl)
theorem dX10_hourDrawn_31 : decode cX10_hourDrawn 31 = .ok (.imul, 1) := dAX10_hourDrawn (31, (.imul, 1)) (List.mem_of_getElem? (i := 18) rfl)
theorem dX10_hourDrawn_32 : decode cX10_hourDrawn 32 = .ok (.bipush 74, 2) := dAX10_hourDrawn (32, (.bipush 74, 2)) (List.mem_of_getElem? (i := 19) rfl)
theorem dX10_hourDrawn_34 : decode cX10_hourDrawn 34 = .ok (.iadd, 1) := dAX10_hourDrawn (34, (.iadd, 1)) (List.mem_of_getElem? (i := 20) rfl)
theorem dX10_hourDrawn_35 : decode cX10_hourDrawn 35 = .ok (.ldc_w 286, 3) := dAX10_hourDrawn (35, (.ldc_w 286, 3)) (List.mem_of_getElem? (i := 21) rfl)
theorem dX10_hourDrawn_38 : decode cX10_hourDrawn 38 = .ok (.irem, 1) := dAX10_hourDrawn (38, (.irem, 1)) (List.mem_of_getElem? (i := 22) rfl)
theorem dX10_hourDrawn_39 : decode cX10_hourDrawn 39 = .ok (.putfield 283, 3) := dAX10_hourDrawn (39, (.putfield 283, 3)) (List.mem_of_getElem? (i := 23) rfl)
theorem dX10_hourDrawn_42 : decode cX10_hourDrawn 42 = .ok (.aload_n 1, 1) := dAX10_hourDrawn (42, (.aload_n 1, 1)) (List.mem_of_getElem? (i := 24) rfl)
theorem dX10_hourDrawn_43 : decode cX10_hourDrawn 43 = .ok (.iload_n 2, 1) := dAX10_hourDrawn (43, (.iload_n 2, 1)) (List.mem_of_getElem? (i := 25) rfl)
theorem dX10_hourDrawn_44 : decode cX10_hourDrawn 44 = .ok (.dup2, 1) := dAX10_hourDrawn (44, (.dup2, 1)) (List.mem_of_getElem? (i := 26) rfl)
theorem dX10_hourDrawn_45 : decode cX10_hourDrawn 45 = .ok (.iaload, 1) := dAX10_hourDrawn (45, (.iaload, 1)) (List.mem_of_getElem? (i := 27) rfl)
theorem dX10_hourDrawn_46 : decode cX10_hourDrawn 46 = .ok (.aload_n 0, 1) := dAX10_hourDrawn (46, (.aload_n 0, 1)) (List.mem_of_getElem? (i := 28) rfl)
theorem dX10_hourDrawn_47 : decode cX10_hourDrawn 47 = .ok (.getfield 283, 3) := dAX10_hourDrawn (47, (.getfield 283, 3)) (List.mem_of_getElem? (i := 29) rfl)
theorem dX10_hourDrawn_50 : decode cX10_hourDrawn 50 = .ok (.iconst 2, 1) := dAX10_hourDrawn (50, (.iconst 2, 1)) (List.mem_of_getElem? (i := 30) rfl)
theorem dX10_hourDrawn_51 : decode cX10_hourDrawn 51 = .ok (.aload_n 0, 1) := dAX10_hourDrawn (51, (.aload_n 0, 1)) (List.mem_of_getElem? (i := 31) rfl)
theorem dX10_hourDrawn_52 : decode cX10_hourDrawn 52 = .ok (.iload_n 2, 1) := dAX10_hourDrawn (52, (.iload_n 2, 1)) (List.mem_of_getElem? (i := 32) rfl)
theorem dX10_hourDrawn_53 : decode cX10_hourDrawn 53 = .ok (.invokevirtual 277, 3) := dAX10_hourDrawn (53, (.invokevirtual 277, 3)) (List.mem_of_getElem? (i := 33) rfl)
theorem dX10_hourDrawn_56 : decode cX10_hourDrawn 56 = .ok (.imul, 1) := dAX10_hourDrawn (56, (.imul, 1)) (List.mem_of_getElem? (i := 34) rfl)
theorem dX10_hourDrawn_57 : decode cX10_hourDrawn 57 = .ok (.iconst 1, 1) := dAX10_hourDrawn (57, (.iconst 1, 1)) (List.mem_of_getElem? (i := 35) rfl)
theorem dX10_hourDrawn_58 : decode cX10_hourDrawn 58 = .ok (.iadd, 1) := dAX10_hourDrawn (58, (.iadd, 1)) (List.mem_of_getElem? (i := 36) rfl)
theorem dX10_hourDrawn_59 : decode cX10_hourDrawn 59 = .ok (.irem, 1) := dAX10_hourDrawn (59, (.irem, 1)) (List.mem_of_getElem? (i := 37) rfl)
theorem dX10_hourDrawn_60 : decode cX10_hourDrawn 60 = .ok (.isub, 1) := dAX10_hourDrawn (60, (.isub, 1)) (List.mem_of_getElem? (i := 38) rfl)
theorem dX10_hourDrawn_61 : decode cX10_hourDrawn 61 = .ok (.iastore, 1) := dAX10_hourDrawn (61, (.iastore, 1)) (List.mem_of_getElem? (i := 39) rfl)
theorem dX10_hourDrawn_62 : decode cX10_hourDrawn 62 = .ok (.iinc 2 1, 3) := dAX10_hourDrawn (62, (.iinc 2 1, 3)) (List.mem_of_getElem? (i := 40) rfl)
theorem dX10_hourDrawn_65 : decode cX10_hourDrawn 65 = .ok (.goto (-63), 3) := dAX10_hourDrawn (65, (.goto (-63), 3)) (List.mem_of_getElem? (i := 41) rfl)
theorem dX10_hourDrawn_68 : decode cX10_hourDrawn 68 = .ok (.aload_n 1, 1) := dAX10_hourDrawn (68, (.aload_n 1, 1)) (List.mem_of_getElem? (i := 42) rfl)
theorem dX10_hourDrawn_69 : decode cX10_hourDrawn 69 = .ok (.bipush 14, 2) := dAX10_hourDrawn (69, (.bipush 14, 2)) (List.mem_of_getElem? (i := 43) rfl)
theorem dX10_hourDrawn_71 : decode cX10_hourDrawn 71 = .ok (.dup2, 1) := dAX10_hourDrawn (71, (.dup2, 1)) (List.mem_of_getElem? (i := 44) rfl)
theorem dX10_hourDrawn_72 : decode cX10_hourDrawn 72 = .ok (.iaload, 1) := dAX10_hourDrawn (72, (.iaload, 1)) (List.mem_of_getElem? (i := 45) rfl)
theorem dX10_hourDrawn_73 : decode cX10_hourDrawn 73 = .ok (.iconst 1, 1) := dAX10_hourDrawn (73, (.iconst 1, 1)) (List.mem_of_getElem? (i := 46) rfl)
theorem dX10_hourDrawn_74 : decode cX10_hourDrawn 74 = .ok (.iadd, 1) := dAX10_hourDrawn (74, (.iadd, 1)) (List.mem_of_getElem? (i := 47) rfl)
theorem dX10_hourDrawn_75 : decode cX10_hourDrawn 75 = .ok (.iastore, 1) := dAX10_hourDrawn (75, (.iastore, 1)) (List.mem_of_getElem? (i := 48) rfl)
theorem dX10_hourDrawn_76 : decode cX10_hourDrawn 76 = .ok (.aload_n 0, 1) := dAX10_hourDrawn (76, (.aload_n 0, 1)) (List.mem_of_getElem? (i := 49) rfl)
theorem dX10_hourDrawn_77 : decode cX10_hourDrawn 77 = .ok (.aload_n 1, 1) := dAX10_hourDrawn (77, (.aload_n 1, 1)) (List.mem_of_getElem? (i := 50) rfl)
theorem dX10_hourDrawn_78 : decode cX10_hourDrawn 78 = .ok (.invokevirtual 280, 3) := dAX10_hourDrawn (78, (.invokevirtual 280, 3)) (List.mem_of_getElem? (i := 51) rfl)
theorem dX10_hourDrawn_81 : decode cX10_hourDrawn 81 = .ok (.ireturn, 1) := dAX10_hourDrawn (81, (.ireturn, 1)) (List.mem_of_getElem? (i := 52) rfl)
set_option maxRecDepth 20000 in
theorem ggX10_hourDrawn_X10_doesSink : GoodIn wsX10_hourDrawn wsX10_doesSink := goodIn_r _ [8, 9, 10, 7, 11, 12, 13, 14, 15, 1, 40, 41, 42, 43, 44, 45, 46, 47, 48, 49, 50, 51, 52, 53, 54, 55, 56, 57, 58, 59, 60, 61, 62, 63, 64, 65, 66, 67, 68, 69, 70, 71, 72, 73, 74] rfl (by decide +kernel)
set_option maxRecDepth 20000 in
theorem gX10_hourDrawn_X10_doesSink : GoodIn wsX10_hourDrawn (wsV RX10 274 RX10 yX10_doesSink wsX10_doesSink) := goodIn_app (goodIn_of _ (by decide +kernel)) ggX10_hourDrawn_X10_doesSink
set_option maxRecDepth 20000 in
theorem ggX10_hourDrawn_X10_sinksOf : GoodIn wsX10_hourDrawn wsX10_sinksOf := goodIn_r _ [19, 1, 40, 41, 42, 43, 44, 45, 46, 47, 48, 49, 50, 51, 52, 53, 54, 55, 56, 57, 58, 59, 60, 61, 62, 63, 64, 65, 66, 67, 68, 69, 70, 71, 72, 73, 74] rfl (by decide +kernel)
set_option maxRecDepth 20000 in
theorem gX10_hourDrawn_X10_sinksOf : GoodIn wsX10_hourDrawn (wsV RX10 277 RX10 yX10_sinksOf wsX10_sinksOf) := goodIn_app (goodIn_of _ (by decide +kernel)) ggX10_hourDrawn_X10_sinksOf
set_option maxRecDepth 20000 in
theorem ggX10_hourDrawn_X10_leaves : GoodIn wsX10_hourDrawn wsX10_leaves := goodIn_r _ [23, 24, 1, 25, 26, 27, 7, 28, 9, 10, 11, 29, 30, 31, 32, 12, 13, 14, 15, 33, 34, 35, 36, 37, 38, 39, 40, 41, 42, 43, 44, 45, 46, 47, 48, 49, 50, 51, 52, 53, 54, 55, 56, 57, 58, 59, 60, 61, 62, 63, 64, 65, 66, 67, 68, 69, 70, 71, 72, 73, 74] rfl (by decide +kernel)
set_option maxRecDepth 20000 in
theorem gX10_hourDrawn_X10_leaves : GoodIn wsX10_hourDrawn (wsV RX10 280 RX10 yX10_leaves wsX10_leaves) := goodIn_app (goodIn_of _ (by decide +kernel)) ggX10_hourDrawn_X10_leaves
theorem kX10_hourDrawn_20 : Cond.fieldLink RX10 20 "EveningVowModel" "\x72" "[I" ∈ wsX10_hourDrawn := List.mem_of_getElem? (i := 1) rfl
theorem iX10_hourDrawn_X10 : ∀ w ∈ u_ws RX10 TX10 35, w ∈ wsX10_hourDrawn := fun w h => (List.mem_cons_of_mem _ (List.mem_append_right _ h))
theorem kX10_hourDrawn_283 : Cond.fieldLink RX10 283 "EveningVowModel" "seedNow" "I" ∈ wsX10_hourDrawn := List.mem_of_getElem? (i := 2) rfl
theorem kX10_hourDrawn_286 : Cond.constant RX10 286 (65537 : Int32) ∈ wsX10_hourDrawn := by decide +kernel
set_option maxHeartbeats 4000000 in
set_option maxRecDepth 100000 in
theorem wX10_hourDrawn_L2 {p : Program} {l : Launch} {e : Env} {s : State} {m : MethodId} {args : Array Value} {below : List Frame} {meth : Method} {c : Code} {g : GG} {A : Nat → Prop} (C0 : Cx p s m args meth c cX10_hourDrawn 3 (some .int) RX10 wsX10_hourDrawn g A) (a_t : Nat) (a_r1 : Nat) (p_t : Nat → Nat) (n : Nat) (f_t_15 : Nat → Int32)  (r : Int32) (o_t' : Nat → Int32) (f_r1' : Nat → Int32) (K : (Nat → Int32) → (Nat → Int32) → Option (Int32 × (Nat → Int32) × (Nat → Int32))) (hKx : ∀ (o_t : Nat → Int32) (f_r1 : Nat → Int32) (H : Heap) (locs : List Loc) (ls : Array Slot), K o_t f_r1 = some (r, o_t', f_r1') → va_P g.1 vwCl [oX10 a_t p_t o_t, aI g (p_t 15) 266 f_t_15, aI g a_r1 17 f_r1] H → va_D A [oX10 a_t p_t o_t, aI g (p_t 15) 266 f_t_15, aI g a_r1 17 f_r1] → va_S A s.heap H locs → lv_has ls 3 [(0, .ref a_t), (1, .ref a_r1)] → W p l e ({ frames := 3, cells := 0, slots := 0, locals := 71 } : Room) s m args below meth c H locs 0 0 (MQ below (EndI g r [oX10 a_t p_t o_t', aI g (p_t 15) 266 f_t_15, aI g a_r1 17 f_r1'] A) args s 0 0 A) (F0 m 68 ls [])) : ∀ (k : Nat) (x2 : Int32) (o_t : Nat → Int32) (f_r1 : Nat → Int32), fX10_hourDrawn_L2 n f_t_15 K k x2 o_t f_r1 = some (r, o_t', f_r1') → ∀ (H : Heap) (locs : List Loc) (ls : Array Slot), va_P g.1 vwCl [oX10 a_t p_t o_t, aI g (p_t 15) 266 f_t_15, aI g a_r1 17 f_r1] H → va_D A [oX10 a_t p_t o_t, aI g (p_t 15) 266 f_t_15, aI g a_r1 17 f_r1] → va_S A s.heap H locs → lv_has ls 3 [(0, .ref a_t), (1, .ref a_r1), (2, .int x2)] → W p l e ({ frames := 3, cells := 0, slots := 0, locals := 71 } : Room) s m args below meth c H locs 0 0 (MQ below (EndI g r [oX10 a_t p_t o_t', aI g (p_t 15) 266 f_t_15, aI g a_r1 17 f_r1'] A) args s 0 0 A) (F0 m 2 ls []) := by
  obtain ⟨hx, hb, hml, hown, hts, hr, hlk, hK, hA, hSW⟩ := id C0
  intro k
  induction k with
  | zero =>
    intro x2 o_t f_r1 hF
    exact absurd hF (by simp [fX10_hourDrawn_L2])
  | succ k ih =>
    intro x2 o_t f_r1 hF H locs ls hP hD hS hl
    rw [fX10_hourDrawn_L2] at hF
    refine lv_iload_n hx hb dX10_hourDrawn_2 rfl (lv_at hl 2 rfl) ?_
    refine lv_aload_n hx hb dX10_hourDrawn_3 rfl (lv_at hl 0 rfl) ?_
    refine va_get (D := g.1) (ci := 10) (v := .ref (p_t 15)) (C := RX10) (T := TX10) (N := 35) hx hb hts iX10_hourDrawn_X10 hown hK.1 hP 0 rfl rfl 15 (by decide) (hts _ kX10_hourDrawn_20) (fun _ h9 => h9) rfl dX10_hourDrawn_4 ?_
    refine lv_iconst (v := (3 : Int32)) hx hb dX10_hourDrawn_7 (by decide) ?_
    refine va_iald_k (j := 3) hx hb hK.1 hP 1 0 rfl rfl (by unfold vp_in; decide) rfl dX10_hourDrawn_8 ?_
    refine lv_icmp_ge (tgt := 68) hx hb dX10_hourDrawn_9 (by decide) (fun c_1 => ?_) (fun c_1 => ?_)
    · have hF := it_p c_1 hF
      exact hKx o_t f_r1 _ _ _ hF (hP.sub [0, 1, 2] rfl) (hD.sub [0, 1, 2] rfl rfl) hS (lv_sub hl [0, 1] rfl)
    · have hF := it_n c_1 hF
      refine lv_aload_n hx hb dX10_hourDrawn_12 rfl (lv_at hl 0 rfl) ?_
      refine lv_aload_n hx hb dX10_hourDrawn_13 rfl (lv_at hl 1 rfl) ?_
      refine lv_iload_n hx hb dX10_hourDrawn_14 rfl (lv_at hl 2 rfl) ?_
      obtain ⟨u_2, hu_3, hF⟩ := ob1_some hF
      refine call_i (wr := []) (As := [.ref a_r1, .int x2]) (rest := []) (ci := 10) (q0 := 0) C0 (mX10_doesSink l g a_t a_r1 p_t n x2 o_t f_t_15 f_r1 u_2 hu_3) (cwV 2 hts gX10_hourDrawn_X10_doesSink rfl rfl rfl (by decide +kernel) ⟨Nat.le_of_ble_eq_true rfl, Nat.le_of_ble_eq_true rfl⟩) hP hD hS [0, 1, 2] [] rfl rfl rfl rfl rfl (by decide) rfl rfl hl.1 rfl rfl (Nat.le_of_ble_eq_true rfl) ⟨Nat.zero_le _, Nat.zero_le _⟩ dX10_hourDrawn_15 ?_
      intro H locs hP hD hS
      refine lv_if_ne (tgt := 24) hx hb dX10_hourDrawn_18 (by decide) (fun c_4 => ?_) (fun c_4 => ?_)
      · have hF := it_n c_4 hF
        refine lv_aload_n hx hb dX10_hourDrawn_24 rfl (lv_at hl 0 rfl) ?_
        refine lv_bipush (v := (75 : Int32)) hx hb dX10_hourDrawn_25 (by decide) ?_
        refine lv_aload_n hx hb dX10_hourDrawn_27 rfl (lv_at hl 0 rfl) ?_
        refine va_get (D := g.1) (ci := 10) (v := .int (o_t 23)) (C := RX10) (T := TX10) (N := 35) hx hb hts iX10_hourDrawn_X10 hown hK.1 hP 0 rfl rfl 23 (by decide) (hts _ kX10_hourDrawn_283) (fun _ h9 => h9) rfl dX10_hourDrawn_28 ?_
        refine lv_imul hx hb dX10_hourDrawn_31 ?_
        refine lv_bipush (v := (74 : Int32)) hx hb dX10_hourDrawn_32 (by decide) ?_
        refine lv_iadd hx hb dX10_hourDrawn_34 ?_
        refine lv_ldcw (v := (65537 : Int32)) hx hb hown (hts _ kX10_hourDrawn_286) dX10_hourDrawn_35 ?_
        refine lv_irem hx hb dX10_hourDrawn_38 (by decide) ?_
        refine va_put (D := g.1) (ci := 10) (v := .int ((((75 : Int32) * (o_t 23)) + (74 : Int32)) - (((75 : Int32) * (o_t 23)) + (74 : Int32)) / (65537 : Int32) * (65537 : Int32))) (ty := .int) (C := RX10) (T := TX10) (N := 35) hx hb hts iX10_hourDrawn_X10 tyX10 tyX10_ok nmX10 hown hK.1 hP hD hS 0 rfl rfl 23 (by decide) (hts _ kX10_hourDrawn_283) (fun _ h9 => h9) rfl (by decide +kernel) rfl rfl (Nat.le_of_ble_eq_true rfl) dX10_hourDrawn_39 (fun H locs hP hD hS => ?_)
        have hP : va_P g.1 vwCl [oX10 a_t p_t (upd o_t 23 ((((75 : Int32) * (o_t 23)) + (74 : Int32)) - (((75 : Int32) * (o_t 23)) + (74 : Int32)) / (65537 : Int32) * (65537 : Int32))), aI g (p_t 15) 266 f_t_15, aI g a_r1 17 f_r1] H := hP
        have hD : va_D A [oX10 a_t p_t (upd o_t 23 ((((75 : Int32) * (o_t 23)) + (74 : Int32)) - (((75 : Int32) * (o_t 23)) + (74 : Int32)) / (65537 : Int32) * (65537 : Int32))), aI g (p_t 15) 266 f_t_15, aI g a_r1 17 f_r1] := hD
        refine lv_aload_n hx hb dX10_hourDrawn_42 rfl (lv_at hl 1 rfl) ?_
        refine lv_iload_n hx hb dX10_hourDrawn_43 rfl (lv_at hl 2 rfl) ?_
        refine lv_dup2_11 hx hb dX10_hourDrawn_44 rfl rfl ?_
        obtain ⟨h_5, hF⟩ := it_ck hF
        refine va_iald hx hb hK.1 hP 2 0 rfl rfl h_5 dX10_hourDrawn_45 ?_
        refine lv_aload_n hx hb dX10_hourDrawn_46 rfl (lv_at hl 0 rfl) ?_
        refine va_get (D := g.1) (ci := 10) (v := .int ((((75 : Int32) * (o_t 23)) + (74 : Int32)) - (((75 : Int32) * (o_t 23)) + (74 : Int32)) / (65537 : Int32) * (65537 : Int32))) (C := RX10) (T := TX10) (N := 35) hx hb hts iX10_hourDrawn_X10 hown hK.1 hP 0 rfl rfl 23 (by decide) (hts _ kX10_hourDrawn_283) (fun _ h9 => h9) rfl dX10_hourDrawn_47 ?_
        refine lv_iconst (v := (2 : Int32)) hx hb dX10_hourDrawn_50 (by decide) ?_
        refine lv_aload_n hx hb dX10_hourDrawn_51 rfl (lv_at hl 0 rfl) ?_
        refine lv_iload_n hx hb dX10_hourDrawn_52 rfl (lv_at hl 2 rfl) ?_
        obtain ⟨u_6, hu_7, hF⟩ := ob1_some hF
        refine call_i (wr := [aI g a_r1 17 f_r1]) (As := [.int x2]) (rest := [.int (2 : Int32), .int ((((75 : Int32) * (o_t 23)) + (74 : Int32)) - (((75 : Int32) * (o_t 23)) + (74 : Int32)) / (65537 : Int32) * (65537 : Int32)), .int (f_r1 (x2).toNatClampNeg), .int x2, .ref a_r1]) (ci := 10) (q0 := 0) C0 (mX10_sinksOf l g a_t p_t n x2 (upd o_t 23 ((((75 : Int32) * (o_t 23)) + (74 : Int32)) - (((75 : Int32) * (o_t 23)) + (74 : Int32)) / (65537 : Int32) * (65537 : Int32))) f_t_15 u_6 hu_7) (cwV 1 hts gX10_hourDrawn_X10_sinksOf rfl rfl rfl (by decide +kernel) ⟨Nat.le_of_ble_eq_true rfl, Nat.le_of_ble_eq_true rfl⟩) hP hD hS [0, 1] [2] rfl rfl rfl rfl rfl (by decide) rfl rfl hl.1 rfl rfl (Nat.le_of_ble_eq_true rfl) ⟨Nat.zero_le _, Nat.zero_le _⟩ dX10_hourDrawn_53 ?_
        intro H locs hP hD hS
        refine lv_imul hx hb dX10_hourDrawn_56 ?_
        refine lv_iconst (v := (1 : Int32)) hx hb dX10_hourDrawn_57 (by decide) ?_
        refine lv_iadd hx hb dX10_hourDrawn_58 ?_
        obtain ⟨h_8, hF⟩ := it_ck hF
        refine lv_irem hx hb dX10_hourDrawn_59 h_8 ?_
        refine lv_isub hx hb dX10_hourDrawn_60 ?_
        obtain ⟨h_9, hF⟩ := it_ck hF
        refine va_iast hx hb hK.1 hP hD hS 0 0 rfl rfl h_9 dX10_hourDrawn_61 (fun H locs hP hD hS => ?_)
        have hP : va_P g.1 vwCl [aI g a_r1 17 (upd f_r1 (x2).toNatClampNeg ((f_r1 (x2).toNatClampNeg) - (((((75 : Int32) * (o_t 23)) + (74 : Int32)) - (((75 : Int32) * (o_t 23)) + (74 : Int32)) / (65537 : Int32) * (65537 : Int32)) - ((((75 : Int32) * (o_t 23)) + (74 : Int32)) - (((75 : Int32) * (o_t 23)) + (74 : Int32)) / (65537 : Int32) * (65537 : Int32)) / (((2 : Int32) * u_6) + (1 : Int32)) * (((2 : Int32) * u_6) + (1 : Int32))))), oX10 a_t p_t (upd o_t 23 ((((75 : Int32) * (o_t 23)) + (74 : Int32)) - (((75 : Int32) * (o_t 23)) + (74 : Int32)) / (65537 : Int32) * (65537 : Int32))), aI g (p_t 15) 266 f_t_15] H := hP
        have hD : va_D A [aI g a_r1 17 (upd f_r1 (x2).toNatClampNeg ((f_r1 (x2).toNatClampNeg) - (((((75 : Int32) * (o_t 23)) + (74 : Int32)) - (((75 : Int32) * (o_t 23)) + (74 : Int32)) / (65537 : Int32) * (65537 : Int32)) - ((((75 : Int32) * (o_t 23)) + (74 : Int32)) - (((75 : Int32) * (o_t 23)) + (74 : Int32)) / (65537 : Int32) * (65537 : Int32)) / (((2 : Int32) * u_6) + (1 : Int32)) * (((2 : Int32) * u_6) + (1 : Int32))))), oX10 a_t p_t (upd o_t 23 ((((75 : Int32) * (o_t 23)) + (74 : Int32)) - (((75 : Int32) * (o_t 23)) + (74 : Int32)) / (65537 : Int32) * (65537 : Int32))), aI g (p_t 15) 266 f_t_15] := hD
        refine lv_iinc (v := (x2 + (1 : Int32))) (lv' := [(2, .int (x2 + (1 : Int32))), (0, .ref a_t), (1, .ref a_r1)]) hx hb dX10_hourDrawn_62 hl (k := 2) rfl rfl (by decide) rfl (fun ls hl => ?_)
        refine lv_goto (tgt := 2) hx hb dX10_hourDrawn_65 (by decide) ?_
        exact ih (x2 + (1 : Int32)) (upd o_t 23 ((((75 : Int32) * (o_t 23)) + (74 : Int32)) - (((75 : Int32) * (o_t 23)) + (74 : Int32)) / (65537 : Int32) * (65537 : Int32))) (upd f_r1 (x2).toNatClampNeg ((f_r1 (x2).toNatClampNeg) - (((((75 : Int32) * (o_t 23)) + (74 : Int32)) - (((75 : Int32) * (o_t 23)) + (74 : Int32)) / (65537 : Int32) * (65537 : Int32)) - ((((75 : Int32) * (o_t 23)) + (74 : Int32)) - (((75 : Int32) * (o_t 23)) + (74 : Int32)) / (65537 : Int32) * (65537 : Int32)) / (((2 : Int32) * u_6) + (1 : Int32)) * (((2 : Int32) * u_6) + (1 : Int32))))) hF _ _ _ (hP.sub [1, 2, 0] rfl) (hD.sub [1, 2, 0] rfl rfl) hS (lv_sub hl [1, 2, 0] rfl)
      · have hF := it_p c_4 hF
        refine lv_goto (tgt := 62) hx hb dX10_hourDrawn_21 (by decide) ?_
        refine lv_iinc (v := (x2 + (1 : Int32))) (lv' := [(2, .int (x2 + (1 : Int32))), (0, .ref a_t), (1, .ref a_r1)]) hx hb dX10_hourDrawn_62 hl (k := 2) rfl rfl (by decide) rfl (fun ls hl => ?_)
        refine lv_goto (tgt := 2) hx hb dX10_hourDrawn_65 (by decide) ?_
        exact ih (x2 + (1 : Int32)) o_t f_r1 hF _ _ _ (hP.sub [0, 1, 2] rfl) (hD.sub [0, 1, 2] rfl rfl) hS (lv_sub hl [1, 2, 0] rfl)
set_option maxHeartbeats 4000000 in
set_option maxRecDepth 100000 in
theorem mX10_hourDrawn (l : Launch) (g : GG) (a_t : Nat) (a_r1 : Nat) (p_t : Nat → Nat) (n : Nat) (o_t : Nat → Int32) (f_t_15 : Nat → Int32) (f_r1 : Nat → Int32) (r : Int32) (o_t' : Nat → Int32) (f_r1' : Nat → Int32) (hF : fX10_hourDrawn n o_t f_t_15 f_r1 = some (r, o_t', f_r1')) : MI l g yX10_hourDrawn wsX10_hourDrawn ({ frames := 3, cells := 0, slots := 0, locals := 71 } : Room) [.ref a_t, .ref a_r1] [oX10 a_t p_t o_t, aI g (p_t 15) 266 f_t_15, aI g a_r1 17 f_r1] r [oX10 a_t p_t o_t', aI g (p_t 15) 266 f_t_15, aI g a_r1 17 f_r1'] := by
  refine MI.of (cc := cX10_hourDrawn) (maxL := 3) (rt := .int) (own := RX10) rfl rfl (by decide) (Nat.le_of_ble_eq_true rfl) ?_
  intro p e s m args below meth c A C0 hP hD hS ls hl
  obtain ⟨hx, hb, hml, hown, hts, hr, hlk, hK, hA, hSW⟩ := id C0
  have hl : lv_has ls 3 [(0, .ref a_t), (1, .ref a_r1)] := hl
  rw [fX10_hourDrawn] at hF
  refine lv_iconst (v := (0 : Int32)) hx hb dX10_hourDrawn_0 (by decide) ?_
  refine lv_istore_n (lv' := [(2, .int (0 : Int32)), (0, .ref a_t), (1, .ref a_r1)]) hx hb dX10_hourDrawn_1 rfl hl (by decide) rfl (fun ls hl => ?_)
  refine wX10_hourDrawn_L2 C0 a_t a_r1 p_t n f_t_15 r o_t' f_r1' _ ?_ n (0 : Int32) o_t f_r1 hF _ _ _ (hP.sub [0, 1, 2] rfl) (hD.sub [0, 1, 2] rfl rfl) hS (lv_sub hl [1, 2, 0] rfl)
  · intro o_t_x2 f_r1_x2 H locs ls hF hP hD hS hl
    refine lv_aload_n hx hb dX10_hourDrawn_68 rfl (lv_at hl 1 rfl) ?_
    refine lv_bipush (v := (14 : Int32)) hx hb dX10_hourDrawn_69 (by decide) ?_
    refine lv_dup2_11 hx hb dX10_hourDrawn_71 rfl rfl ?_
    refine va_iald_k (j := 14) hx hb hK.1 hP 2 0 rfl rfl (by unfold vp_in; decide) rfl dX10_hourDrawn_72 ?_
    refine lv_iconst (v := (1 : Int32)) hx hb dX10_hourDrawn_73 (by decide) ?_
    refine lv_iadd hx hb dX10_hourDrawn_74 ?_
    refine va_iast hx hb hK.1 hP hD hS 2 0 rfl rfl (by unfold vp_in; decide) dX10_hourDrawn_75 (fun H locs hP hD hS => ?_)
    have hP : va_P g.1 vwCl [oX10 a_t p_t o_t_x2, aI g (p_t 15) 266 f_t_15, aI g a_r1 17 (upd f_r1_x2 14 ((f_r1_x2 14) + (1 : Int32)))] H := hP
    have hD : va_D A [oX10 a_t p_t o_t_x2, aI g (p_t 15) 266 f_t_15, aI g a_r1 17 (upd f_r1_x2 14 ((f_r1_x2 14) + (1 : Int32)))] := hD
    refine lv_aload_n hx hb dX10_hourDrawn_76 rfl (lv_at hl 0 rfl) ?_
    refine lv_aload_n hx hb dX10_hourDrawn_77 rfl (lv_at hl 1 rfl) ?_
    obtain ⟨u_10, u_11, u_12, hu_13, hF⟩ := ob3_some hF
    refine call_i (wr := []) (As := [.ref a_r1]) (rest := []) (ci := 10) (q0 := 0) C0 (mX10_leaves l g a_t a_r1 p_t n o_t_x2 f_t_15 (upd f_r1_x2 14 ((f_r1_x2 14) + (1 : Int32))) u_10 u_11 u_12 hu_13) (cwV 1 hts gX10_hourDrawn_X10_leaves rfl rfl rfl (by decide +kernel) ⟨Nat.le_of_ble_eq_true rfl, Nat.le_of_ble_eq_true rfl⟩) hP hD hS [0, 1, 2] [] rfl rfl rfl rfl rfl (by decide) rfl rfl hl.1 rfl rfl (Nat.le_of_ble_eq_true rfl) ⟨Nat.zero_le _, Nat.zero_le _⟩ dX10_hourDrawn_78 ?_
    intro H locs hP hD hS
    cases hF
    exact ret_i C0 hP hD hS [0, 1, 2] rfl rfl rfl dX10_hourDrawn_81 rfl

theorem dAX10_endsOn : ∀ q ∈ ([(0, (.aload_n 0, 1)), (1, (.iconst 0, 1)), (2, (.putfield 287, 3)), (5, (.iconst 0, 1)), (6, (.istore_n 3, 1)), (7, (.iload_n 3, 1)), (8, (.bipush 60, 2)), (10, (.if_icmp .gt 46, 3)), (13, (.aload_n 0, 1)), (14, (.aload_n 1, 1)), (15, (.invokevirtual 259, 3)), (18, (.ifCond .ne 5, 3)), (21, (.iload_n 3, 1)), (22, (.ireturn, 1)), (23, (.iload_n 3, 1)), (24, (.bipush 60, 2)), (26, (.if_icmp .ge 24, 3)), (29, (.aload_n 0, 1)), (30, (.iload_n 2, 1)), (31, (.ifCond .eq 11, 3)), (34, (.aload_n 0, 1)), (35, (.aload_n 1, 1)), (36, (.invokevirtual 290, 3)), (39, (.goto 8, 3)), (42, (.aload_n 0, 1)), (43, (.aload_n 1, 1)), (44, (.invokevirtual 293, 3)), (47, (.putfield 287, 3)), (50, (.iinc 3 1, 3)), (53, (.goto (-46), 3)), (56, (.bipush (-2), 2)), (58, (.ireturn, 1))] : List (Nat × (Instr × Nat))), decode cX10_endsOn q.1 = .ok q.2 := by decide +kernel
theorem dX10_endsOn_0 : decode cX10_endsOn 0 = .ok (.aload_n 0, 1) := dAX10_endsOn (0, (.aload_n 0, 1)) (List.mem_of_getElem? (i := 0) rfl)
theorem dX10_endsOn_1 : decode cX10_endsOn 1 = .ok (.iconst 0, 1) := dAX10_endsOn (1, (.iconst 0, 1)) (List.mem_of_getElem? (i := 1) rfl)
theorem dX10_endsOn_2 : decode cX10_endsOn 2 = .ok (.putfield 287, 3) := dAX10_endsOn (2, (.putfield 287, 3)) (List.mem_of_getElem? (i := 2) rfl)
theorem dX10_endsOn_5 : decode cX10_endsOn 5 = .ok (.iconst 0, 1) := dAX10_endsOn (5, (.iconst 0, 1)) (List.mem_of_getElem? (i := 3) rfl)
theorem dX10_endsOn_6 : decode cX10_endsOn 6 = .ok (.istore_n 3, 1) := dAX10_endsOn (6, (.istore_n 3, 1)) (List.mem_of_getElem? (i := 4) rfl)
theorem dX10_endsOn_7 : decode cX10_endsOn 7 = .ok (.iload_n 3, 1) := dAX10_endsOn (7, (.iload_n 3, 1)) (List.mem_of_getElem? (i := 5) rfl)
theorem dX10_endsOn_8 : decode cX10_endsOn 8 = .ok (.bipush 60, 2) := dAX10_endsOn (8, (.bipush 60, 2)) (List.mem_of_getElem? (i := 6) rfl)
theorem dX10_endsOn_10 : decode cX10_endsOn 10 = .ok (.if_icmp .gt 46, 3) := dAX10_endsOn (10, (.if_icmp .gt 46, 3)) (List.mem_of_getElem? (i := 7) rfl)
theorem dX10_endsOn_13 : decode cX10_endsOn 13 = .ok (.aload_n 0, 1) := dAX10_endsOn (13, (.aload_n 0, 1)) (List.mem_of_getElem? (i := 8) rfl)
theorem dX10_endsOn_14 : decode cX10_endsOn 14 = .ok (.aload_n 1, 1) := dAX10_endsOn (14, (.aload_n 1, 1)) (List.mem_of_getElem? (i := 9) rfl)
theorem dX10_endsOn_15 : decode cX10_endsOn 15 = .ok (.invokevirtual 259, 3) := dAX10_endsOn (15, (.invokevirtual 259, 3)) (List.mem_of_getElem? (i := 10) rfl)
theorem dX10_endsOn_18 : decode cX10_endsOn 18 = .ok (.ifCond .ne 5, 3) := dAX10_endsOn (18, (.ifCond .ne 5, 3)) (List.mem_of_getElem? (i := 11) rfl)
theorem dX10_endsOn_21 : decode cX10_endsOn 21 = .ok (.iload_n 3, 1) := dAX10_endsOn (21, (.iload_n 3, 1)) (List.mem_of_getElem? (i := 12) rfl)
theorem dX10_endsOn_22 : decode cX10_endsOn 22 = .ok (.ireturn, 1) := dAX10_endsOn (22, (.ireturn, 1)) (List.mem_of_getElem? (i := 13) rfl)
theorem dX10_endsOn_23 : decode cX10_endsOn 23 = .ok (.iload_n 3, 1) := dAX10_endsOn (23, (.iload_n 3, 1)) (List.mem_of_getElem? (i := 14) rfl)
theorem dX10_endsOn_24 : decode cX10_endsOn 24 = .ok (.bipush 60, 2) := dAX10_endsOn (24, (.bipush 60, 2)) (List.mem_of_getElem? (i := 15) rfl)
theorem dX10_endsOn_26 : decode cX10_endsOn 26 = .ok (.if_icmp .ge 24, 3) := dAX10_endsOn (26, (.if_icmp .ge 24, 3)) (List.mem_of_getElem? (i := 16) rfl)
theorem dX10_endsOn_29 : decode cX10_endsOn 29 = .ok (.aload_n 0, 1) := dAX10_endsOn (29, (.aload_n 0, 1)) (List.mem_of_getElem? (i := 17) rfl)
theorem dX10_endsOn_30 : decode cX10_endsOn 30 = .ok (.iload_n 2, 1) := dAX10_endsOn (30, (.iload_n 2, 1)) (List.mem_of_getElem? (i := 18) rfl)
theorem dX10_endsOn_31 : decode cX10_endsOn 31 = .ok (.ifCond .eq 11, 3) := dAX10_endsOn (31, (.ifCond .eq 11, 3)) (List.mem_of_getElem? (i := 19) rfl)
theorem dX10_endsOn_34 : decode cX10_endsOn 34 = .ok (.aload_n 0, 1) := dAX10_endsOn (34, (.aload_n 0, 1)) (List.mem_of_getElem? (i := 20) rfl)
theorem dX10_endsOn_35 : decode cX10_endsOn 35 = .ok (.aload_n 1, 1) := dAX10_endsOn (35, (.aload_n 1, 1)) (List.mem_of_getElem? (i := 21) rfl)
theorem dX10_endsOn_36 : decode cX10_endsOn 36 = .ok (.invokevirtual 290, 3) := dAX10_endsOn (36, (.invokevirtual 290, 3)) (List.mem_of_getElem? (i := 22) rfl)
theorem dX10_endsOn_39 : decode cX10_endsOn 39 = .ok (.goto 8, 3) := dAX10_endsOn (39, (.goto 8, 3)) (List.mem_of_getElem? (i := 23) rfl)
theorem dX10_endsOn_42 : decode cX10_endsOn 42 = .ok (.aload_n 0, 1) := dAX10_endsOn (42, (.aload_n 0, 1)) (List.mem_of_getElem? (i := 24) rfl)
theorem dX10_endsOn_43 : decode cX10_endsOn 43 = .ok (.aload_n 1, 1) := dAX10_endsOn (43, (.aload_n 1, 1)) (List.mem_of_getElem? (i := 25) rfl)
theorem dX10_endsOn_44 : decode cX10_endsOn 44 = .ok (.invokevirtual 293, 3) := dAX10_endsOn (44, (.invokevirtual 293, 3)) (List.mem_of_getElem? (i := 26) rfl)
theorem dX10_endsOn_47 : decode cX10_endsOn 47 = .ok (.putfield 287, 3) := dAX10_endsOn (47, (.putfield 287, 3)) (List.mem_of_getElem? (i := 27) rfl)
theorem dX10_endsOn_50 : decode cX10_endsOn 50 = .ok (.iinc 3 1, 3) := dAX10_endsOn (50, (.iinc 3 1, 3)) (List.mem_of_getElem? (i := 28) rfl)
theorem dX10_endsOn_53 : decode cX10_endsOn 53 = .ok (.goto (-46), 3) := dAX10_endsOn (53, (.goto (-46), 3)) (List.mem_of_getElem? (i := 29) rfl)
theorem dX10_endsOn_56 : decode cX10_endsOn 56 = .ok (.bipush (-2), 2) := dAX10_endsOn (56, (.bipush (-2), 2)) (List.mem_of_getElem? (i := 30) rfl)
theorem dX10_endsOn_58 : decode cX10_endsOn 58 = .ok (.ireturn, 1) := dAX10_endsOn (58, (.ireturn, 1)) (List.mem_of_getElem? (i := 31) rfl)
set_option maxRecDepth 20000 in
theorem ggX10_endsOn_X10_thereOf : GoodIn wsX10_endsOn wsX10_thereOf := goodIn_r _ [6, 7, 8, 9, 5, 10, 49, 50, 51, 52, 53, 54, 55, 56, 57, 58, 59, 60, 61, 62, 63, 64, 65, 66, 67, 68, 69, 70, 71, 72, 73, 74, 75, 76, 77, 78, 79, 80, 81, 82, 83] rfl (by decide +kernel)
set_option maxRecDepth 20000 in
theorem gX10_endsOn_X10_thereOf : GoodIn wsX10_endsOn (wsV RX10 259 RX10 yX10_thereOf wsX10_thereOf) := goodIn_app (goodIn_of _ (by decide +kernel)) ggX10_endsOn_X10_thereOf
set_option maxRecDepth 20000 in
theorem ggX10_endsOn_X10_hourDrawn : GoodIn wsX10_endsOn wsX10_hourDrawn := goodIn_r _ [14, 7, 15, 16, 17, 18, 19, 5, 20, 8, 9, 10, 21, 22, 23, 24, 25, 26, 27, 28, 29, 30, 31, 32, 33, 2, 3, 4, 6, 34, 35, 36, 37, 38, 39, 40, 41, 42, 43, 44, 49, 50, 51, 52, 53, 54, 55, 56, 57, 58, 59, 60, 61, 62, 63, 64, 65, 66, 67, 68, 69, 70, 71, 72, 73, 74, 75, 76, 77, 78, 79, 80, 81, 82, 83] rfl (by decide +kernel)
set_option maxRecDepth 20000 in
theorem gX10_endsOn_X10_hourDrawn : GoodIn wsX10_endsOn (wsV RX10 290 RX10 yX10_hourDrawn wsX10_hourDrawn) := goodIn_app (goodIn_of _ (by decide +kernel)) ggX10_endsOn_X10_hourDrawn
set_option maxRecDepth 20000 in
theorem ggX10_endsOn_X10_hourOf : GoodIn wsX10_endsOn wsX10_hourOf := goodIn_r _ [48, 7, 17, 18, 19, 5, 20, 8, 9, 10, 21, 22, 23, 24, 25, 26, 27, 28, 29, 30, 31, 32, 33, 2, 3, 4, 6, 34, 35, 36, 37, 38, 39, 40, 41, 42, 43, 44, 49, 50, 51, 52, 53, 54, 55, 56, 57, 58, 59, 60, 61, 62, 63, 64, 65, 66, 67, 68, 69, 70, 71, 72, 73, 74, 75, 76, 77, 78, 79, 80, 81, 82, 83] rfl (by decide +kernel)
set_option maxRecDepth 20000 in
theorem gX10_endsOn_X10_hourOf : GoodIn wsX10_endsOn (wsV RX10 293 RX10 yX10_hourOf wsX10_hourOf) := goodIn_app (goodIn_of _ (by decide +kernel)) ggX10_endsOn_X10_hourOf
theorem kX10_endsOn_287 : Cond.fieldLink RX10 287 "EveningVowModel" "lastOnes" "I" ∈ wsX10_endsOn := List.mem_of_getElem? (i := 1) rfl
theorem iX10_endsOn_X10 : ∀ w ∈ u_ws RX10 TX10 35, w ∈ wsX10_endsOn := fun w h => (List.mem_cons_of_mem _ (List.mem_append_right _ h))
set_option maxHeartbeats 4000000 in
set_option maxRecDepth 100000 in
theorem wX10_endsOn_L7 {p : Program} {l : Launch} {e : Env} {s : State} {m : MethodId} {args : Array Value} {below : List Frame} {meth : Method} {c : Code} {g : GG} {A : Nat → Prop} (C0 : Cx p s m args meth c cX10_endsOn 4 (some .int) RX10 wsX10_endsOn g A) (a_t : Nat) (a_r1 : Nat) (p_t : Nat → Nat) (n : Nat) (x2 : Int32) (f_t_15 : Nat → Int32)  (r : Int32) (o_t' : Nat → Int32) (f_r1' : Nat → Int32) (K : (Nat → Int32) → (Nat → Int32) → Option (Int32 × (Nat → Int32) × (Nat → Int32))) (hKx : ∀ (o_t : Nat → Int32) (f_r1 : Nat → Int32) (H : Heap) (locs : List Loc) (ls : Array Slot), K o_t f_r1 = some (r, o_t', f_r1') → va_P g.1 vwCl [oX10 a_t p_t o_t, aI g (p_t 15) 266 f_t_15, aI g a_r1 17 f_r1] H → va_D A [oX10 a_t p_t o_t, aI g (p_t 15) 266 f_t_15, aI g a_r1 17 f_r1] → va_S A s.heap H locs → lv_has ls 4 [] → W p l e ({ frames := 4, cells := 0, slots := 0, locals := 93 } : Room) s m args below meth c H locs 0 0 (MQ below (EndI g r [oX10 a_t p_t o_t', aI g (p_t 15) 266 f_t_15, aI g a_r1 17 f_r1'] A) args s 0 0 A) (F0 m 56 ls [])) : ∀ (k : Nat) (x3 : Int32) (o_t : Nat → Int32) (f_r1 : Nat → Int32), fX10_endsOn_L7 n x2 f_t_15 K k x3 o_t f_r1 = some (r, o_t', f_r1') → ∀ (H : Heap) (locs : List Loc) (ls : Array Slot), va_P g.1 vwCl [oX10 a_t p_t o_t, aI g (p_t 15) 266 f_t_15, aI g a_r1 17 f_r1] H → va_D A [oX10 a_t p_t o_t, aI g (p_t 15) 266 f_t_15, aI g a_r1 17 f_r1] → va_S A s.heap H locs → lv_has ls 4 [(0, .ref a_t), (1, .ref a_r1), (2, .int x2), (3, .int x3)] → W p l e ({ frames := 4, cells := 0, slots := 0, locals := 93 } : Room) s m args below meth c H locs 0 0 (MQ below (EndI g r [oX10 a_t p_t o_t', aI g (p_t 15) 266 f_t_15, aI g a_r1 17 f_r1'] A) args s 0 0 A) (F0 m 7 ls []) := by
  obtain ⟨hx, hb, hml, hown, hts, hr, hlk, hK, hA, hSW⟩ := id C0
  intro k
  induction k with
  | zero =>
    intro x3 o_t f_r1 hF
    exact absurd hF (by simp [fX10_endsOn_L7])
  | succ k ih =>
    intro x3 o_t f_r1 hF H locs ls hP hD hS hl
    rw [fX10_endsOn_L7] at hF
    refine lv_iload_n hx hb dX10_endsOn_7 rfl (lv_at hl 3 rfl) ?_
    refine lv_bipush (v := (60 : Int32)) hx hb dX10_endsOn_8 (by decide) ?_
    refine lv_icmp_gt (tgt := 56) hx hb dX10_endsOn_10 (by decide) (fun c_1 => ?_) (fun c_1 => ?_)
    · have hF := it_p c_1 hF
      exact hKx o_t f_r1 _ _ _ hF (hP.sub [0, 1, 2] rfl) (hD.sub [0, 1, 2] rfl rfl) hS (lv_sub hl [] rfl)
    · have hF := it_n c_1 hF
      refine lv_aload_n hx hb dX10_endsOn_13 rfl (lv_at hl 0 rfl) ?_
      refine lv_aload_n hx hb dX10_endsOn_14 rfl (lv_at hl 1 rfl) ?_
      obtain ⟨u_2, hu_3, hF⟩ := ob1_some hF
      refine call_i (wr := []) (As := [.ref a_r1]) (rest := []) (ci := 10) (q0 := 0) C0 (mX10_thereOf l g a_t a_r1 p_t n o_t f_t_15 f_r1 u_2 hu_3) (cwV 1 hts gX10_endsOn_X10_thereOf rfl rfl rfl (by decide +kernel) ⟨Nat.le_of_ble_eq_true rfl, Nat.le_of_ble_eq_true rfl⟩) hP hD hS [0, 1, 2] [] rfl rfl rfl rfl rfl (by decide) rfl rfl hl.1 rfl rfl (Nat.le_of_ble_eq_true rfl) ⟨Nat.zero_le _, Nat.zero_le _⟩ dX10_endsOn_15 ?_
      intro H locs hP hD hS
      refine lv_if_ne (tgt := 23) hx hb dX10_endsOn_18 (by decide) (fun c_4 => ?_) (fun c_4 => ?_)
      · have hF := it_n c_4 hF
        refine lv_iload_n hx hb dX10_endsOn_23 rfl (lv_at hl 3 rfl) ?_
        refine lv_bipush (v := (60 : Int32)) hx hb dX10_endsOn_24 (by decide) ?_
        refine lv_icmp_ge (tgt := 50) hx hb dX10_endsOn_26 (by decide) (fun c_5 => ?_) (fun c_5 => ?_)
        · have hF := it_p c_5 hF
          refine lv_iinc (v := (x3 + (1 : Int32))) (lv' := [(3, .int (x3 + (1 : Int32))), (0, .ref a_t), (1, .ref a_r1), (2, .int x2)]) hx hb dX10_endsOn_50 hl (k := 3) rfl rfl (by decide) rfl (fun ls hl => ?_)
          refine lv_goto (tgt := 7) hx hb dX10_endsOn_53 (by decide) ?_
          exact ih (x3 + (1 : Int32)) o_t f_r1 hF _ _ _ (hP.sub [0, 1, 2] rfl) (hD.sub [0, 1, 2] rfl rfl) hS (lv_sub hl [1, 2, 3, 0] rfl)
        · have hF := it_n c_5 hF
          refine lv_aload_n hx hb dX10_endsOn_29 rfl (lv_at hl 0 rfl) ?_
          refine lv_iload_n hx hb dX10_endsOn_30 rfl (lv_at hl 2 rfl) ?_
          refine lv_if_eq (tgt := 42) hx hb dX10_endsOn_31 (by decide) (fun c_6 => ?_) (fun c_6 => ?_)
          · have hF := it_p c_6 hF
            refine lv_aload_n hx hb dX10_endsOn_42 rfl (lv_at hl 0 rfl) ?_
            refine lv_aload_n hx hb dX10_endsOn_43 rfl (lv_at hl 1 rfl) ?_
            obtain ⟨u_7, u_8, u_9, hu_10, hF⟩ := ob3_some hF
            refine call_i (wr := []) (As := [.ref a_r1]) (rest := [.ref a_t]) (ci := 10) (q0 := 0) C0 (mX10_hourOf l g a_t a_r1 p_t n o_t f_t_15 f_r1 u_7 u_8 u_9 hu_10) (cwV 1 hts gX10_endsOn_X10_hourOf rfl rfl rfl (by decide +kernel) ⟨Nat.le_of_ble_eq_true rfl, Nat.le_of_ble_eq_true rfl⟩) hP hD hS [0, 1, 2] [] rfl rfl rfl rfl rfl (by decide) rfl rfl hl.1 rfl rfl (Nat.le_of_ble_eq_true rfl) ⟨Nat.zero_le _, Nat.zero_le _⟩ dX10_endsOn_44 ?_
            intro H locs hP hD hS
            refine va_put (D := g.1) (ci := 10) (v := .int u_7) (ty := .int) (C := RX10) (T := TX10) (N := 35) hx hb hts iX10_endsOn_X10 tyX10 tyX10_ok nmX10 hown hK.1 hP hD hS 0 rfl rfl 24 (by decide) (hts _ kX10_endsOn_287) (fun _ h9 => h9) rfl (by decide +kernel) rfl rfl (Nat.le_of_ble_eq_true rfl) dX10_endsOn_47 (fun H locs hP hD hS => ?_)
            have hP : va_P g.1 vwCl [oX10 a_t p_t (upd u_8 24 u_7), aI g (p_t 15) 266 f_t_15, aI g a_r1 17 u_9] H := hP
            have hD : va_D A [oX10 a_t p_t (upd u_8 24 u_7), aI g (p_t 15) 266 f_t_15, aI g a_r1 17 u_9] := hD
            refine lv_iinc (v := (x3 + (1 : Int32))) (lv' := [(3, .int (x3 + (1 : Int32))), (0, .ref a_t), (1, .ref a_r1), (2, .int x2)]) hx hb dX10_endsOn_50 hl (k := 3) rfl rfl (by decide) rfl (fun ls hl => ?_)
            refine lv_goto (tgt := 7) hx hb dX10_endsOn_53 (by decide) ?_
            exact ih (x3 + (1 : Int32)) (upd u_8 24 u_7) u_9 hF _ _ _ (hP.sub [0, 1, 2] rfl) (hD.sub [0, 1, 2] rfl rfl) hS (lv_sub hl [1, 2, 3, 0] rfl)
          · have hF := it_n c_6 hF
            refine lv_aload_n hx hb dX10_endsOn_34 rfl (lv_at hl 0 rfl) ?_
            refine lv_aload_n hx hb dX10_endsOn_35 rfl (lv_at hl 1 rfl) ?_
            obtain ⟨u_11, u_12, u_13, hu_14, hF⟩ := ob3_some hF
            refine call_i (wr := []) (As := [.ref a_r1]) (rest := [.ref a_t]) (ci := 10) (q0 := 0) C0 (mX10_hourDrawn l g a_t a_r1 p_t n o_t f_t_15 f_r1 u_11 u_12 u_13 hu_14) (cwV 1 hts gX10_endsOn_X10_hourDrawn rfl rfl rfl (by decide +kernel) ⟨Nat.le_of_ble_eq_true rfl, Nat.le_of_ble_eq_true rfl⟩) hP hD hS [0, 1, 2] [] rfl rfl rfl rfl rfl (by decide) rfl rfl hl.1 rfl rfl (Nat.le_of_ble_eq_true rfl) ⟨Nat.zero_le _, Nat.zero_le _⟩ dX10_endsOn_36 ?_
            intro H locs hP hD hS
            refine lv_goto (tgt := 47) hx hb dX10_endsOn_39 (by decide) ?_
            refine va_put (D := g.1) (ci := 10) (v := .int u_11) (ty := .int) (C := RX10) (T := TX10) (N := 35) hx hb hts iX10_endsOn_X10 tyX10 tyX10_ok nmX10 hown hK.1 hP hD hS 0 rfl rfl 24 (by decide) (hts _ kX10_endsOn_287) (fun _ h9 => h9) rfl (by decide +kernel) rfl rfl (Nat.le_of_ble_eq_true rfl) dX10_endsOn_47 (fun H locs hP hD hS => ?_)
            have hP : va_P g.1 vwCl [oX10 a_t p_t (upd u_12 24 u_11), aI g (p_t 15) 266 f_t_15, aI g a_r1 17 u_13] H := hP
            have hD : va_D A [oX10 a_t p_t (upd u_12 24 u_11), aI g (p_t 15) 266 f_t_15, aI g a_r1 17 u_13] := hD
            refine lv_iinc (v := (x3 + (1 : Int32))) (lv' := [(3, .int (x3 + (1 : Int32))), (0, .ref a_t), (1, .ref a_r1), (2, .int x2)]) hx hb dX10_endsOn_50 hl (k := 3) rfl rfl (by decide) rfl (fun ls hl => ?_)
            refine lv_goto (tgt := 7) hx hb dX10_endsOn_53 (by decide) ?_
            exact ih (x3 + (1 : Int32)) (upd u_12 24 u_11) u_13 hF _ _ _ (hP.sub [0, 1, 2] rfl) (hD.sub [0, 1, 2] rfl rfl) hS (lv_sub hl [1, 2, 3, 0] rfl)
      · have hF := it_p c_4 hF
        refine lv_iload_n hx hb dX10_endsOn_21 rfl (lv_at hl 3 rfl) ?_
        cases hF
        exact ret_i C0 hP hD hS [0, 1, 2] rfl rfl rfl dX10_endsOn_22 rfl
set_option maxHeartbeats 4000000 in
set_option maxRecDepth 100000 in
theorem mX10_endsOn (l : Launch) (g : GG) (a_t : Nat) (a_r1 : Nat) (p_t : Nat → Nat) (n : Nat) (x2 : Int32) (o_t : Nat → Int32) (f_t_15 : Nat → Int32) (f_r1 : Nat → Int32) (r : Int32) (o_t' : Nat → Int32) (f_r1' : Nat → Int32) (hF : fX10_endsOn n x2 o_t f_t_15 f_r1 = some (r, o_t', f_r1')) : MI l g yX10_endsOn wsX10_endsOn ({ frames := 4, cells := 0, slots := 0, locals := 93 } : Room) [.ref a_t, .ref a_r1, .int x2] [oX10 a_t p_t o_t, aI g (p_t 15) 266 f_t_15, aI g a_r1 17 f_r1] r [oX10 a_t p_t o_t', aI g (p_t 15) 266 f_t_15, aI g a_r1 17 f_r1'] := by
  refine MI.of (cc := cX10_endsOn) (maxL := 4) (rt := .int) (own := RX10) rfl rfl (by decide) (Nat.le_of_ble_eq_true rfl) ?_
  intro p e s m args below meth c A C0 hP hD hS ls hl
  obtain ⟨hx, hb, hml, hown, hts, hr, hlk, hK, hA, hSW⟩ := id C0
  have hl : lv_has ls 4 [(0, .ref a_t), (1, .ref a_r1), (2, .int x2)] := hl
  rw [fX10_endsOn] at hF
  refine lv_aload_n hx hb dX10_endsOn_0 rfl (lv_at hl 0 rfl) ?_
  refine lv_iconst (v := (0 : Int32)) hx hb dX10_endsOn_1 (by decide) ?_
  refine va_put (D := g.1) (ci := 10) (v := .int (0 : Int32)) (ty := .int) (C := RX10) (T := TX10) (N := 35) hx hb hts iX10_endsOn_X10 tyX10 tyX10_ok nmX10 hown hK.1 hP hD hS 0 rfl rfl 24 (by decide) (hts _ kX10_endsOn_287) (fun _ h9 => h9) rfl (by decide +kernel) rfl rfl (Nat.le_of_ble_eq_true rfl) dX10_endsOn_2 (fun H locs hP hD hS => ?_)
  have hP : va_P g.1 vwCl [oX10 a_t p_t (upd o_t 24 (0 : Int32)), aI g (p_t 15) 266 f_t_15, aI g a_r1 17 f_r1] H := hP
  have hD : va_D A [oX10 a_t p_t (upd o_t 24 (0 : Int32)), aI g (p_t 15) 266 f_t_15, aI g a_r1 17 f_r1] := hD
  refine lv_iconst (v := (0 : Int32)) hx hb dX10_endsOn_5 (by decide) ?_
  refine lv_istore_n (lv' := [(3, .int (0 : Int32)), (0, .ref a_t), (1, .ref a_r1), (2, .int x2)]) hx hb dX10_endsOn_6 rfl hl (by decide) rfl (fun ls hl => ?_)
  refine wX10_endsOn_L7 C0 a_t a_r1 p_t n x2 f_t_15 r o_t' f_r1' _ ?_ n (0 : Int32) (upd o_t 24 (0 : Int32)) f_r1 hF _ _ _ (hP.sub [0, 1, 2] rfl) (hD.sub [0, 1, 2] rfl rfl) hS (lv_sub hl [1, 2, 3, 0] rfl)
  · intro o_t_x7 f_r1_x7 H locs ls hF hP hD hS hl
    refine lv_bipush (v := (-2 : Int32)) hx hb dX10_endsOn_56 (by decide) ?_
    cases hF
    exact ret_i C0 hP hD hS [0, 1, 2] rfl rfl rfl dX10_endsOn_58 rfl

theorem dAX10_endsNow : ∀ q ∈ ([(0, (.aload_n 0, 1)), (1, (.getfield 26, 3)), (4, (.iconst 0, 1)), (5, (.aload_n 0, 1)), (6, (.getfield 35, 3)), (9, (.iconst 0, 1)), (10, (.bipush 17, 2)), (12, (.invokestatic 168, 3)), (15, (.aload_n 0, 1)), (16, (.aload_n 0, 1)), (17, (.getfield 35, 3)), (20, (.iconst 0, 1)), (21, (.invokevirtual 296, 3)), (24, (.ireturn, 1))] : List (Nat × (Instr × Nat))), decode cX10_endsNow q.1 = .ok q.2 := by decide +kernel
theorem dX10_endsNow_0 : decode cX10_endsNow 0 = .ok (.aload_n 0, 1) := dAX10_endsNow (0, (.aload_n 0, 1)) (List.mem_of_getElem? (i := 0) rfl)
theorem dX10_endsNow_1 : decode cX10_endsNow 1 = .ok (.getfield 26, 3) := dAX10_endsNow (1, (.getfield 26, 3)) (List.mem_of_getElem? (i := 1) rfl)
theorem dX10_endsNow_4 : decode cX10_endsNow 4 = .ok (.iconst 0, 1) := dAX10_endsNow (4, (.iconst 0, 1)) (List.mem_of_getElem? (i := 2) rfl)
theorem dX10_endsNow_5 : decode cX10_endsNow 5 = .ok (.aload_n 0, 1) := dAX10_endsNow (5, (.aload_n 0, 1)) (List.mem_of_getElem? (i := 3) rfl)
theorem dX10_endsNow_6 : decode cX10_endsNow 6 = .ok (.getfield 35, 3) := dAX10_endsNow (6, (.getfield 35, 3)) (List.mem_of_getElem? (i := 4) rfl)
theorem dX10_endsNow_9 : decode cX10_endsNow 9 = .ok (.iconst 0, 1) := dAX10_endsNow (9, (.iconst 0, 1)) (List.mem_of_getElem? (i := 5) rfl)
theorem dX10_endsNow_10 : decode cX10_endsNow 10 = .ok (.bipush 17, 2) := dAX10_endsNow (10, (.bipush 17, 2)) (List.mem_of_getElem? (i := 6) rfl)
theorem dX10_endsNow_12 : decode cX10_endsNow 12 = .ok (.invokestatic 168, 3) := dAX10_endsNow (12, (.invokestatic 168, 3)) (List.mem_of_getElem? (i := 7) rfl)
theorem dX10_endsNow_15 : decode cX10_endsNow 15 = .ok (.aload_n 0, 1) := dAX10_endsNow (15, (.aload_n 0, 1)) (List.mem_of_getElem? (i := 8) rfl)
theorem dX10_endsNow_16 : decode cX10_endsNow 16 = .ok (.aload_n 0, 1) := dAX10_endsNow (16, (.aload_n 0, 1)) (List.mem_of_getElem? (i := 9) rfl)
theorem dX10_endsNow_17 : decode cX10_endsNow 17 = .ok (.getfield 35, 3) := dAX10_endsNow (17, (.getfield 35, 3)) (List.mem_of_getElem? (i := 10) rfl)
theorem dX10_endsNow_20 : decode cX10_endsNow 20 = .ok (.iconst 0, 1) := dAX10_endsNow (20, (.iconst 0, 1)) (List.mem_of_getElem? (i := 11) rfl)
theorem dX10_endsNow_21 : decode cX10_endsNow 21 = .ok (.invokevirtual 296, 3) := dAX10_endsNow (21, (.invokevirtual 296, 3)) (List.mem_of_getElem? (i := 12) rfl)
theorem dX10_endsNow_24 : decode cX10_endsNow 24 = .ok (.ireturn, 1) := dAX10_endsNow (24, (.ireturn, 1)) (List.mem_of_getElem? (i := 13) rfl)
set_option maxRecDepth 20000 in
theorem ggX10_endsNow_X10_copy : GoodIn wsX10_endsNow wsX10_copy := goodIn_r _ [6] rfl (by decide +kernel)
set_option maxRecDepth 20000 in
theorem gX10_endsNow_X10_copy : GoodIn wsX10_endsNow (va_wsS RX10 168 yX10_copy wsX10_copy) := goodIn_app (goodIn_of _ (by decide +kernel)) ggX10_endsNow_X10_copy
set_option maxRecDepth 20000 in
theorem ggX10_endsNow_X10_endsOn : GoodIn wsX10_endsNow wsX10_endsOn := goodIn_r _ [10, 11, 12, 13, 14, 5, 15, 16, 17, 18, 19, 20, 21, 22, 23, 24, 25, 26, 27, 28, 29, 30, 31, 32, 33, 34, 35, 36, 37, 38, 39, 40, 41, 42, 43, 44, 45, 46, 47, 48, 49, 50, 51, 52, 53, 54, 55, 56, 57, 58, 59, 60, 61, 62, 63, 64, 65, 66, 67, 68, 69, 70, 71, 72, 73, 74, 75, 76, 77, 78, 79, 80, 81, 82, 83, 84, 85, 86, 87, 88, 89, 90, 91, 92] rfl (by decide +kernel)
set_option maxRecDepth 20000 in
theorem gX10_endsNow_X10_endsOn : GoodIn wsX10_endsNow (wsV RX10 296 RX10 yX10_endsOn wsX10_endsOn) := goodIn_app (goodIn_of _ (by decide +kernel)) ggX10_endsNow_X10_endsOn
theorem kX10_endsNow_26 : Cond.fieldLink RX10 26 "EveningVowModel" "st" "[I" ∈ wsX10_endsNow := List.mem_of_getElem? (i := 1) rfl
theorem iX10_endsNow_X10 : ∀ w ∈ u_ws RX10 TX10 35, w ∈ wsX10_endsNow := fun w h => (List.mem_cons_of_mem _ (List.mem_append_right _ h))
theorem kX10_endsNow_35 : Cond.fieldLink RX10 35 "EveningVowModel" "trial" "[I" ∈ wsX10_endsNow := List.mem_of_getElem? (i := 2) rfl
set_option maxHeartbeats 4000000 in
set_option maxRecDepth 100000 in
theorem mX10_endsNow (l : Launch) (g : GG) (a_t : Nat) (p_t : Nat → Nat) (n : Nat) (o_t : Nat → Int32) (f_t_15 : Nat → Int32) (f_t_17 : Nat → Int32) (f_t_25 : Nat → Int32) (r : Int32) (o_t' : Nat → Int32) (f_t_25' : Nat → Int32) (hF : fX10_endsNow n o_t f_t_15 f_t_17 f_t_25 = some (r, o_t', f_t_25')) : MI l g yX10_endsNow wsX10_endsNow ({ frames := 5, cells := 0, slots := 0, locals := 116 } : Room) [.ref a_t] [oX10 a_t p_t o_t, aI g (p_t 15) 266 f_t_15, aI g (p_t 17) 17 f_t_17, aI g (p_t 25) 17 f_t_25] r [oX10 a_t p_t o_t', aI g (p_t 15) 266 f_t_15, aI g (p_t 17) 17 f_t_17, aI g (p_t 25) 17 f_t_25'] := by
  refine MI.of (cc := cX10_endsNow) (maxL := 1) (rt := .int) (own := RX10) rfl rfl (by decide) (Nat.le_of_ble_eq_true rfl) ?_
  intro p e s m args below meth c A C0 hP hD hS ls hl
  obtain ⟨hx, hb, hml, hown, hts, hr, hlk, hK, hA, hSW⟩ := id C0
  have hl : lv_has ls 1 [(0, .ref a_t)] := hl
  rw [fX10_endsNow] at hF
  refine lv_aload_n hx hb dX10_endsNow_0 rfl (lv_at hl 0 rfl) ?_
  refine va_get (D := g.1) (ci := 10) (v := .ref (p_t 17)) (C := RX10) (T := TX10) (N := 35) hx hb hts iX10_endsNow_X10 hown hK.1 hP 0 rfl rfl 17 (by decide) (hts _ kX10_endsNow_26) (fun _ h9 => h9) rfl dX10_endsNow_1 ?_
  refine lv_iconst (v := (0 : Int32)) hx hb dX10_endsNow_4 (by decide) ?_
  refine lv_aload_n hx hb dX10_endsNow_5 rfl (lv_at hl 0 rfl) ?_
  refine va_get (D := g.1) (ci := 10) (v := .ref (p_t 25)) (C := RX10) (T := TX10) (N := 35) hx hb hts iX10_endsNow_X10 hown hK.1 hP 0 rfl rfl 25 (by decide) (hts _ kX10_endsNow_35) (fun _ h9 => h9) rfl dX10_endsNow_6 ?_
  refine lv_iconst (v := (0 : Int32)) hx hb dX10_endsNow_9 (by decide) ?_
  refine lv_bipush (v := (17 : Int32)) hx hb dX10_endsNow_10 (by decide) ?_
  obtain ⟨u_1, hu_2, hF⟩ := ob1_some hF
  refine call_sv (wr := [oX10 a_t p_t o_t, aI g (p_t 15) 266 f_t_15]) (As := [.ref (p_t 17), .int (0 : Int32), .ref (p_t 25), .int (0 : Int32), .int (17 : Int32)]) (rest := []) C0 (mX10_copy l g (p_t 17) (p_t 25) n (0 : Int32) (0 : Int32) (17 : Int32) 17 17 f_t_17 f_t_25 u_1 hu_2) (va_cwS 5 hts gX10_endsNow_X10_copy rfl rfl rfl (by decide +kernel) ⟨Nat.le_of_ble_eq_true rfl, Nat.le_of_ble_eq_true rfl⟩) hP hD hS [2, 3] [0, 1] rfl rfl rfl rfl rfl (by decide) hl.1 rfl rfl (Nat.le_of_ble_eq_true rfl) ⟨Nat.zero_le _, Nat.zero_le _⟩ dX10_endsNow_12 ?_
  intro H locs hP hD hS
  refine lv_aload_n hx hb dX10_endsNow_15 rfl (lv_at hl 0 rfl) ?_
  refine lv_aload_n hx hb dX10_endsNow_16 rfl (lv_at hl 0 rfl) ?_
  refine va_get (D := g.1) (ci := 10) (v := .ref (p_t 25)) (C := RX10) (T := TX10) (N := 35) hx hb hts iX10_endsNow_X10 hown hK.1 hP 0 rfl rfl 25 (by decide) (hts _ kX10_endsNow_35) (fun _ h9 => h9) rfl dX10_endsNow_17 ?_
  refine lv_iconst (v := (0 : Int32)) hx hb dX10_endsNow_20 (by decide) ?_
  obtain ⟨u_3, u_4, u_5, hu_6, hF⟩ := ob3_some hF
  refine call_i (wr := [aI g (p_t 17) 17 f_t_17]) (As := [.ref (p_t 25), .int (0 : Int32)]) (rest := []) (ci := 10) (q0 := 0) C0 (mX10_endsOn l g a_t (p_t 25) p_t n (0 : Int32) o_t f_t_15 u_1 u_3 u_4 u_5 hu_6) (cwV 2 hts gX10_endsNow_X10_endsOn rfl rfl rfl (by decide +kernel) ⟨Nat.le_of_ble_eq_true rfl, Nat.le_of_ble_eq_true rfl⟩) hP hD hS [0, 1, 3] [2] rfl rfl rfl rfl rfl (by decide) rfl rfl hl.1 rfl rfl (Nat.le_of_ble_eq_true rfl) ⟨Nat.zero_le _, Nat.zero_le _⟩ dX10_endsNow_21 ?_
  intro H locs hP hD hS
  cases hF
  exact ret_i C0 hP hD hS [1, 2, 0, 3] rfl rfl rfl dX10_endsNow_24 rfl

theorem dAX10_guest : ∀ q ∈ ([(0, (.aload_n 0, 1)), (1, (.invokevirtual 159, 3)), (4, (.aload_n 0, 1)), (5, (.iload_n 1, 1)), (6, (.invokevirtual 300, 3)), (9, (.ifCond .eq 12, 3)), (12, (.iload_n 2, 1)), (13, (.iconst 0, 1)), (14, (.iconst 5, 1)), (15, (.invokestatic 144, 3)), (18, (.ifCond .ne 9, 3)), (21, (.aload_n 0, 1)), (22, (.iconst 1, 1)), (23, (.invokevirtual 303, 3)), (26, (.ireturn, 1)), (27, (.iload_n 2, 1)), (28, (.tableswitch 104 0 4 #[36, 42, 49, 59, 76], 36)), (64, (.aload_n 0, 1)), (65, (.iload_n 1, 1)), (66, (.invokevirtual 267, 3)), (69, (.ireturn, 1)), (70, (.aload_n 0, 1)), (71, (.getfield 26, 3)), (74, (.iload_n 1, 1)), (75, (.iaload, 1)), (76, (.ireturn, 1)), (77, (.aload_n 0, 1)), (78, (.aload_n 0, 1)), (79, (.getfield 26, 3)), (82, (.iload_n 1, 1)), (83, (.invokevirtual 263, 3)), (86, (.ireturn, 1)), (87, (.aload_n 0, 1)), (88, (.getfield 26, 3)), (91, (.iload_n 1, 1)), (92, (.invokestatic 248, 3)), (95, (.ifCond .eq 7, 3)), (98, (.iconst 1, 1)), (99, (.goto 4, 3)), (102, (.iconst 0, 1)), (103, (.ireturn, 1)), (104, (.aload_n 0, 1)), (105, (.getfield 26, 3)), (108, (.iload_n 1, 1)), (109, (.invokestatic 248, 3)), (112, (.ifCond .eq 8, 3)), (115, (.bipush (-2), 2)), (117, (.goto 14, 3)), (120, (.aload_n 0, 1)), (121, (.getfield 26, 3)), (124, (.bipush 7, 2)), (126, (.iload_n 1, 1)), (127, (.iadd, 1)), (128, (.iaload, 1)), (129, (.iconst 1, 1)), (130, (.isub, 1)), (131, (.ireturn, 1)), (132, (.aload_n 0, 1)), (133, (.getfield 20, 3)), (136, (.bipush 9, 2)), (138, (.iconst 4, 1)), (139, (.iload_n 1, 1)), (140, (.imul, 1)), (141, (.iadd, 1)), (142, (.iconst 3, 1)), (143, (.iadd, 1)), (144, (.iaload, 1)), (145, (.ifCond .ne 8, 3)), (148, (.bipush (-2), 2)), (150, (.goto 18, 3)), (153, (.aload_n 0, 1)), (154, (.getfield 20, 3)), (157, (.bipush 9, 2)), (159, (.iconst 4, 1)), (160, (.iload_n 1, 1)), (161, (.imul, 1)), (162, (.iadd, 1)), (163, (.iconst 3, 1)), (164, (.iadd, 1)), (165, (.iaload, 1)), (166, (.iconst 1, 1)), (167, (.isub, 1)), (168, (.ireturn, 1))] : List (Nat × (Instr × Nat))), decode cX10_guest q.1 = .ok q.2 := by decide +kernel
theorem dX10_guest_0 : decode cX10_guest 0 = .ok (.aload_n 0, 1) := dAX10_guest (0, (.aload_n 0, 1)) (List.mem_of_getElem? (i := 0) rfl)
theorem dX10_guest_1 : decode cX10_guest 1 = .ok (.invokevirtual 159, 3) := dAX10_guest (1, (.invokevirtual 159, 3)) (List.mem_of_getElem? (i := 1) rfl)
theorem dX10_guest_4 : decode cX10_guest 4 = .ok (.aload_n 0, 1) := dAX10_guest (4, (.aload_n 0, 1)) (List.mem_of_getElem? (i := 2) rfl)
theorem dX10_guest_5 : decode cX10_guest 5 = .ok (.iload_n 1, 1) := dAX10_guest (5, (.iload_n 1, 1)) (List.mem_of_getElem? (i := 3) rfl)
theorem dX10_guest_6 : decode cX10_guest 6 = .ok (.invokevirtual 300, 3) := dAX10_guest (6, (.invokevirtual 300, 3)) (List.mem_of_getElem? (i := 4) rfl)
theorem dX10_guest_9 : decode cX10_guest 9 = .ok (.ifCond .eq 12, 3) := dAX10_guest (9, (.ifCond .eq 12, 3)) (List.mem_of_getElem? (i := 5) rfl)
theorem dX10_guest_12 : decode cX10_guest 12 = .ok (.iload_n 2, 1) := dAX10_guest (12, (.iload_n 2, 1)) (List.mem_of_getElem? (i := 6) rfl)
theorem dX10_guest_13 : decode cX10_guest 13 = .ok (.iconst 0, 1) := dAX10_guest (13, (.iconst 0, 1)) (List.mem_of_getElem? (i := 7) rfl)
theorem dX10_guest_14 : decode cX10_guest 14 = .ok (.iconst 5, 1) := dAX10_guest (14, (.iconst 5, 1)) (List.mem_of_getElem? (i := 8) rfl)
theorem dX10_guest_15 : decode cX10_guest 15 = .ok (.invokestatic 144, 3) := dAX10_guest (15, (.invokestatic 144, 3)) (List.mem_of_getElem? (i := 9) rfl)
theorem dX10_guest_18 : decode cX10_guest 18 = .ok (.ifCond .ne 9, 3) := dAX10_guest (18, (.ifCond .ne 9, 3)) (List.mem_of_getElem? (i := 10) rfl)
theorem dX10_guest_21 : decode cX10_guest 21 = .ok (.aload_n 0, 1) := dAX10_guest (21, (.aload_n 0, 1)) (List.mem_of_getElem? (i := 11) rfl)
theorem dX10_guest_22 : decode cX10_guest 22 = .ok (.iconst 1, 1) := dAX10_guest (22, (.iconst 1, 1)) (List.mem_of_getElem? (i := 12) rfl)
theorem dX10_guest_23 : decode cX10_guest 23 = .ok (.invokevirtual 303, 3) := dAX10_guest (23, (.invokevirtual 303, 3)) (List.mem_of_getElem? (i := 13) rfl)
theorem dX10_guest_26 : decode cX10_guest 26 = .ok (.ireturn, 1) := dAX10_guest (26, (.ireturn, 1)) (List.mem_of_getElem? (i := 14) rfl)
theorem dX10_guest_27 : decode cX10_guest 27 = .ok (.iload_n 2, 1) := dAX10_guest (27, (.iload_n 2, 1)) (List.mem_of_getElem? (i := 15) rfl)
theorem dX10_guest_28 : decode cX10_guest 28 = .ok (.tableswitch 104 0 4 #[36, 42, 49, 59, 76], 36) := dAX10_guest (28, (.tableswitch 104 0 4 #[36, 42, 49, 59, 76], 36)) (List.mem_of_getElem? (i := 16) rfl)
theorem dX10_guest_64 : decode cX10_guest 64 = .ok (.aload_n 0, 1) := dAX10_guest (64, (.aload_n 0, 1)) (List.mem_of_getElem? (i := 17) rfl)
theorem dX10_guest_65 : decode cX10_guest 65 = .ok (.iload_n 1, 1) := dAX10_guest (65, (.iload_n 1, 1)) (List.mem_of_getElem? (i := 18) rfl)
theorem dX10_guest_66 : decode cX10_guest 66 = .ok (.invokevirtual 267, 3) := dAX10_guest (66, (.invokevirtual 267, 3)) (List.mem_of_getElem? (i := 19) rfl)
theorem dX10_guest_69 : decode cX10_guest 69 = .ok (.ireturn, 1) := dAX10_guest (69, (.ireturn, 1)) (List.mem_of_getElem? (i := 20) rfl)
theorem dX10_guest_70 : decode cX10_guest 70 = .ok (.aload_n 0, 1) := dAX10_guest (70, (.aload_n 0, 1)) (List.mem_of_getElem? (i := 21) rfl)
theorem dX10_guest_71 : decode cX10_guest 71 = .ok (.getfield 26, 3) := dAX10_guest (71, (.getfield 26, 3)) (List.mem_of_getElem? (i := 22) rfl)
theorem dX10_guest_74 : decode cX10_guest 74 = .ok (.iload_n 1, 1) := dAX10_guest (74, (.iload_n 1, 1)) (List.mem_of_getElem? (i := 23) rfl)
theorem dX10_guest_75 : decode cX10_guest 75 = .ok (.iaload, 1) := dAX10_guest (75, (.iaload, 1)) (List.mem_of_getElem? (i := 24) rfl)
theorem dX10_guest_76 : decode cX10_guest 76 = .ok (.ireturn, 1) := dAX10_guest (76, (.ireturn, 1)) (List.mem_of_getElem? (i := 25) rfl)
theorem dX10_guest_77 : decode cX10_guest 77 = .ok (.aload_n 0, 1) := dAX10_guest (77, (.aload_n 0, 1)) (List.mem_of_getElem? (i := 26) rfl)
theorem dX10_guest_78 : decode cX10_guest 78 = .ok (.aload_n 0, 1) := dAX10_guest (78, (.aload_n 0, 1)) (List.mem_of_getElem? (i := 27) rfl)
theorem dX10_guest_79 : decode cX10_guest 79 = .ok (.getfield 26, 3) := dAX10_guest (79, (.getfield 26, 3)) (List.mem_of_getElem? (i := 28) rfl)
theorem dX10_guest_82 : decode cX10_guest 82 = .ok (.iload_n 1, 1) := dAX10_guest (82, (.iload_n 1, 1)) (List.mem_of_getElem? (i := 29) rfl)
theorem dX10_guest_83 : decode cX10_guest 83 = .ok (.invokevirtual 263, 3) := dAX10_guest (83, (.invokevirtual 263, 3)) (List.mem_of_getElem? (i := 30) rfl)
theorem dX10_guest_86 : decode cX10_guest 86 = .ok (.ireturn, 1) := dAX10_guest (86, (.ireturn, 1)) (List.mem_of_getElem? (i := 31) rfl)
theorem dX10_guest_87 : decode cX10_guest 87 = .ok (.aload_n 0, 1) := dAX10_guest (87, (.aload_n 0, 1)) (List.mem_of_getElem? (i := 32) rfl)
theorem dX10_guest_88 : decode cX10_guest 88 = .ok (.getfield 26, 3) := dAX10_guest (88, (.getfield 26, 3)) (List.mem_of_getElem? (i := 33) rfl)
theorem dX10_guest_91 : decode cX10_guest 91 = .ok (.iload_n 1, 1) := dAX10_guest (91, (.iload_n 1, 1)) (List.mem_of_getElem? (i := 34) rfl)
theorem dX10_guest_92 : decode cX10_guest 92 = .ok (.invokestatic 248, 3) := dAX10_guest (92, (.invokestatic 248, 3)) (List.mem_of_getElem? (i := 35) rfl)
theorem dX10_guest_95 : decode cX10_guest 95 = .ok (.ifCond .eq 7, 3) := dAX10_guest (95, (.ifCond .eq 7, 3)) (List.mem_of_getElem? (i := 36) rfl)
theorem dX10_guest_98 : decode cX10_guest 98 = .ok (.iconst 1, 1) := dAX10_guest (98, (.iconst 1, 1)) (List.mem_of_getElem? (i := 37) rfl)
theorem dX10_guest_99 : decode cX10_guest 99 = .ok (.goto 4, 3) := dAX10_guest (99, (.goto 4, 3)) (List.mem_of_getElem? (i := 38) rfl)
theorem dX10_guest_102 : decode cX10_guest 102 = .ok (.iconst 0, 1) := dAX10_guest (102, (.iconst 0, 1)) (List.mem_of_getElem? (i := 39) rfl)
theorem dX10_guest_103 : decode cX10_guest 103 = .ok (.ireturn, 1) := dAX10_guest (103, (.ireturn, 1)) (List.mem_of_getElem? (i := 40) rfl)
theorem dX10_guest_104 : decode cX10_guest 104 = .ok (.aload_n 0, 1) := dAX10_guest (104, (.aload_n 0, 1)) (List.mem_of_getElem? (i := 41) rfl)
theorem dX10_guest_105 : decode cX10_guest 105 = .ok (.getfield 26, 3) := dAX10_guest (105, (.getfield 26, 3)) (List.mem_of_getElem? (i := 42) rfl)
theorem dX10_guest_108 : decode cX10_guest 108 = .ok (.iload_n 1, 1) := dAX10_guest (108, (.iload_n 1, 1)) (List.mem_of_getElem? (i := 43) rfl)
theorem dX10_guest_109 : decode cX10_guest 109 = .ok (.invokestatic 248, 3) := dAX10_guest (109, (.invokestatic 248, 3)) (List.mem_of_getElem? (i := 44) rfl)
theorem dX10_guest_112 : decode cX10_guest 112 = .ok (.ifCond .eq 8, 3) := dAX10_guest (112, (.ifCond .eq 8, 3)) (List.mem_of_getElem? (i := 45) rfl)
theorem dX10_guest_115 : decode cX10_guest 115 = .ok (.bipush (-2), 2) := dAX10_guest (115, (.bipush (-2), 2)) (List.mem_of_getElem? (i := 46) rfl)
theorem dX10_guest_117 : decode cX10_guest 117 = .ok (.goto 14, 3) := dAX10_guest (117, (.goto 14, 3)) (List.mem_of_getElem? (i := 47) rfl)
theorem dX10_guest_120 : decode cX10_guest 120 = .ok (.aload_n 0, 1) := dAX10_guest (120, (.aload_n 0, 1)) (List.mem_of_getElem? (i := 48) rfl)
theorem dX10_guest_121 : decode cX10_guest 121 = .ok (.getfield 26, 3) := dAX10_guest (121, (.getfield 26, 3)) (List.mem_of_getElem? (i := 49) rfl)
theorem dX10_guest_124 : decode cX10_guest 124 = .ok (.bipush 7, 2) := dAX10_guest (124, (.bipush 7, 2)) (List.mem_of_getElem? (i := 50) rfl)
theorem dX10_guest_126 : decode cX10_guest 126 = .ok (.iload_n 1, 1) := dAX10_guest (126, (.iload_n 1, 1)) (List.mem_of_getElem? (i := 51) rfl)
theorem dX10_guest_127 : decode cX10_guest 127 = .ok (.iadd, 1) := dAX10_guest (127, (.iadd, 1)) (List.mem_of_getElem? (i := 52) rfl)
theorem dX10_guest_128 : decode cX10_guest 128 = .ok (.iaload, 1) := dAX10_guest (128, (.iaload, 1)) (List.mem_of_getElem? (i := 53) rfl)
theorem dX10_guest_129 : decode cX10_guest 129 = .ok (.iconst 1, 1) := dAX10_guest (129, (.iconst 1, 1)) (List.mem_of_getElem? (i := 54) rfl)
theorem dX10_guest_130 : decode cX10_guest 130 = .ok (.isub, 1) := dAX10_guest (130, (.isub, 1)) (List.mem_of_getElem? (i := 55) rfl)
theorem dX10_guest_131 : decode cX10_guest 131 = .ok (.ireturn, 1) := dAX10_guest (131, (.ireturn, 1)) (List.mem_of_getElem? (i := 56) rfl)
theorem dX10_guest_132 : decode cX10_guest 132 = .ok (.aload_n 0, 1) := dAX10_guest (132, (.aload_n 0, 1)) (List.mem_of_getElem? (i := 57) rfl)
theorem dX10_guest_133 : decode cX10_guest 133 = .ok (.getfield 20, 3) := dAX10_guest (133, (.getfield 20, 3)) (List.mem_of_getElem? (i := 58) rfl)
theorem dX10_guest_136 : decode cX10_guest 136 = .ok (.bipush 9, 2) := dAX10_guest (136, (.bipush 9, 2)) (List.mem_of_getElem? (i := 59) rfl)
theorem dX10_guest_138 : decode cX10_guest 138 = .ok (.iconst 4, 1) := dAX10_guest (138, (.iconst 4, 1)) (List.mem_of_getElem? (i := 60) rfl)
theorem dX10_guest_139 : decode cX10_guest 139 = .ok (.iload_n 1, 1) := dAX10_guest (139, (.iload_n 1, 1)) (List.mem_of_getElem? (i := 61) rfl)
theorem dX10_guest_140 : decode cX10_guest 140 = .ok (.imul, 1) := dAX10_guest (140, (.imul, 1)) (List.mem_of_getElem? (i := 62) rfl)
theorem dX10_guest_141 : decode cX10_guest 141 = .ok (.iadd, 1) := dAX10_guest (141, (.iadd, 1)) (List.mem_of_getElem? (i := 63) rfl)
theorem dX10_guest_142 : decode cX10_guest 142 = .ok (.iconst 3, 1) := dAX10_guest (142, (.iconst 3, 1)) (List.mem_of_getElem? (i := 64) rfl)
theorem dX10_guest_143 : decode cX10_guest 143 = .ok (.iadd, 1) := dAX10_guest (143, (.iadd, 1)) (List.mem_of_getElem? (i := 65) rfl)
theorem dX10_guest_144 : decode cX10_guest 144 = .ok (.iaload, 1) := dAX10_guest (144, (.iaload, 1)) (List.mem_of_getElem? (i := 66) rfl)
theorem dX10_guest_145 : decode cX10_guest 145 = .ok (.ifCond .ne 8, 3) := dAX10_guest (145, (.ifCond .ne 8, 3)) (List.mem_of_getElem? (i := 67) rfl)
theorem dX10_guest_148 : decode cX10_guest 148 = .ok (.bipush (-2), 2) := dAX10_guest (148, (.bipush (-2), 2)) (List.mem_of_getElem? (i := 68) rfl)
theorem dX10_guest_150 : decode cX10_guest 150 = .ok (.goto 18, 3) := dAX10_guest (150, (.goto 18, 3)) (List.mem_of_getElem? (i := 69) rfl)
theorem dX10_guest_153 : decode cX10_guest 153 = .ok (.aload_n 0, 1) := dAX10_guest (153, (.aload_n 0, 1)) (List.mem_of_getElem? (i := 70) rfl)
theorem dX10_guest_154 : decode cX10_guest 154 = .ok (.getfield 20, 3) := dAX10_guest (154, (.getfield 20, 3)) (List.mem_of_getElem? (i := 71) rfl)
theorem dX10_guest_157 : decode cX10_guest 157 = .ok (.bipush 9, 2) := dAX10_guest (157, (.bipush 9, 2)) (List.mem_of_getElem? (i := 72) rfl)
theorem dX10_guest_159 : decode cX10_guest 159 = .ok (.iconst 4, 1) := dAX10_guest (159, (.iconst 4, 1)) (List.mem_of_getElem? (i := 73) rfl)
theorem dX10_guest_160 : decode cX10_guest 160 = .ok (.iload_n 1, 1) := dAX10_guest (160, (.iload_n 1, 1)) (List.mem_of_getElem? (i := 74) rfl)
theorem dX10_guest_161 : decode cX10_guest 161 = .ok (.imul, 1) := dAX10_guest (161, (.imul, 1)) (List.mem_of_getElem? (i := 75) rfl)
theorem dX10_guest_162 : decode cX10_guest 162 = .ok (.iadd, 1) := dAX10_guest (162, (.iadd, 1)) (List.mem_of_getElem? (i := 76) rfl)
theorem dX10_guest_163 : decode cX10_guest 163 = .ok (.iconst 3, 1) := dAX10_guest (163, (.iconst 3, 1)) (List.mem_of_getElem? (i := 77) rfl)
theorem dX10_guest_164 : decode cX10_guest 164 = .ok (.iadd, 1) := dAX10_guest (164, (.iadd, 1)) (List.mem_of_getElem? (i := 78) rfl)
theorem dX10_guest_165 : decode cX10_guest 165 = .ok (.iaload, 1) := dAX10_guest (165, (.iaload, 1)) (List.mem_of_getElem? (i := 79) rfl)
theorem dX10_guest_166 : decode cX10_guest 166 = .ok (.iconst 1, 1) := dAX10_guest (166, (.iconst 1, 1)) (List.mem_of_getElem? (i := 80) rfl)
theorem dX10_guest_167 : decode cX10_guest 167 = .ok (.isub, 1) := dAX10_guest (167, (.isub, 1)) (List.mem_of_getElem? (i := 81) rfl)
theorem dX10_guest_168 : decode cX10_guest 168 = .ok (.ireturn, 1) := dAX10_guest (168, (.ireturn, 1)) (List.mem_of_getElem? (i := 82) rfl)
set_option maxRecDepth 20000 in
theorem ggX10_guest_X10_good : GoodIn wsX10_guest wsX10_good := goodIn_r _ [7, 8, 9, 33, 34, 35, 36, 37, 38, 39, 40, 41, 42, 43, 44, 45, 46, 47, 48, 49, 50, 51, 52, 53, 54, 55, 56, 57, 58, 59, 60, 61, 62, 63, 64, 65, 66, 67] rfl (by decide +kernel)
set_option maxRecDepth 20000 in
theorem gX10_guest_X10_good : GoodIn wsX10_guest (wsV RX10 159 RX10 yX10_good wsX10_good) := goodIn_app (goodIn_of _ (by decide +kernel)) ggX10_guest_X10_good
set_option maxRecDepth 20000 in
theorem ggX10_guest_X10_isGuest : GoodIn wsX10_guest wsX10_isGuest := goodIn_r _ [13, 14, 2, 15, 16, 6, 17, 33, 34, 35, 36, 37, 38, 39, 40, 41, 42, 43, 44, 45, 46, 47, 48, 49, 50, 51, 52, 53, 54, 55, 56, 57, 58, 59, 60, 61, 62, 63, 64, 65, 66, 67] rfl (by decide +kernel)
set_option maxRecDepth 20000 in
theorem gX10_guest_X10_isGuest : GoodIn wsX10_guest (wsV RX10 300 RX10 yX10_isGuest wsX10_isGuest) := goodIn_app (goodIn_of _ (by decide +kernel)) ggX10_guest_X10_isGuest
set_option maxRecDepth 20000 in
theorem ggX10_guest_X10_in : GoodIn wsX10_guest wsX10_in := goodIn_r _ [17] rfl (by decide +kernel)
set_option maxRecDepth 20000 in
theorem gX10_guest_X10_in : GoodIn wsX10_guest (va_wsS RX10 144 yX10_in wsX10_in) := goodIn_app (goodIn_of _ (by decide +kernel)) ggX10_guest_X10_in
set_option maxRecDepth 20000 in
theorem ggX10_guest_X10_less : GoodIn wsX10_guest wsX10_less := goodIn_r _ [21, 9, 33, 34, 35, 36, 37, 38, 39, 40, 41, 42, 43, 44, 45, 46, 47, 48, 49, 50, 51, 52, 53, 54, 55, 56, 57, 58, 59, 60, 61, 62, 63, 64, 65, 66, 67] rfl (by decide +kernel)
set_option maxRecDepth 20000 in
theorem gX10_guest_X10_less : GoodIn wsX10_guest (wsV RX10 303 RX10 yX10_less wsX10_less) := goodIn_app (goodIn_of _ (by decide +kernel)) ggX10_guest_X10_less
set_option maxRecDepth 20000 in
theorem ggX10_guest_X10_kindOf : GoodIn wsX10_guest wsX10_kindOf := goodIn_r _ [25, 2, 33, 34, 35, 36, 37, 38, 39, 40, 41, 42, 43, 44, 45, 46, 47, 48, 49, 50, 51, 52, 53, 54, 55, 56, 57, 58, 59, 60, 61, 62, 63, 64, 65, 66, 67] rfl (by decide +kernel)
set_option maxRecDepth 20000 in
theorem gX10_guest_X10_kindOf : GoodIn wsX10_guest (wsV RX10 267 RX10 yX10_kindOf wsX10_kindOf) := goodIn_app (goodIn_of _ (by decide +kernel)) ggX10_guest_X10_kindOf
set_option maxRecDepth 20000 in
theorem ggX10_guest_X10_willOf : GoodIn wsX10_guest wsX10_willOf := goodIn_r _ [29, 2, 30, 31, 6, 32, 33, 34, 35, 36, 37, 38, 39, 40, 41, 42, 43, 44, 45, 46, 47, 48, 49, 50, 51, 52, 53, 54, 55, 56, 57, 58, 59, 60, 61, 62, 63, 64, 65, 66, 67] rfl (by decide +kernel)
set_option maxRecDepth 20000 in
theorem gX10_guest_X10_willOf : GoodIn wsX10_guest (wsV RX10 263 RX10 yX10_willOf wsX10_willOf) := goodIn_app (goodIn_of _ (by decide +kernel)) ggX10_guest_X10_willOf
set_option maxRecDepth 20000 in
theorem ggX10_guest_X10_isIn : GoodIn wsX10_guest wsX10_isIn := goodIn_r _ [32] rfl (by decide +kernel)
set_option maxRecDepth 20000 in
theorem gX10_guest_X10_isIn : GoodIn wsX10_guest (va_wsS RX10 248 yX10_isIn wsX10_isIn) := goodIn_app (goodIn_of _ (by decide +kernel)) ggX10_guest_X10_isIn
theorem kX10_guest_26 : Cond.fieldLink RX10 26 "EveningVowModel" "st" "[I" ∈ wsX10_guest := List.mem_of_getElem? (i := 1) rfl
theorem iX10_guest_X10 : ∀ w ∈ u_ws RX10 TX10 35, w ∈ wsX10_guest := fun w h => (List.mem_cons_of_mem _ (List.mem_append_right _ h))
theorem kX10_guest_20 : Cond.fieldLink RX10 20 "EveningVowModel" "\x72" "[I" ∈ wsX10_guest := List.mem_of_getElem? (i := 2) rfl
set_option maxHeartbeats 4000000 in
set_option maxRecDepth 100000 in
theorem mX10_guest (l : Launch) (g : GG) (a_t : Nat) (p_t : Nat → Nat) (n : Nat) (x1 : Int32) (x2 : Int32) (o_t : Nat → Int32) (f_t_15 : Nat → Int32) (f_t_17 : Nat → Int32) (r : Int32) (o_t' : Nat → Int32) (hF : fX10_guest n x1 x2 o_t f_t_15 f_t_17 = some (r, o_t')) : MI l g yX10_guest wsX10_guest ({ frames := 2, cells := 0, slots := 0, locals := 45 } : Room) [.ref a_t, .int x1, .int x2] [oX10 a_t p_t o_t, aI g (p_t 15) 266 f_t_15, aI g (p_t 17) 17 f_t_17] r [oX10 a_t p_t o_t', aI g (p_t 15) 266 f_t_15, aI g (p_t 17) 17 f_t_17] := by
  refine MI.of (cc := cX10_guest) (maxL := 3) (rt := .int) (own := RX10) rfl rfl (by decide) (Nat.le_of_ble_eq_true rfl) ?_
  intro p e s m args below meth c A C0 hP hD hS ls hl
  obtain ⟨hx, hb, hml, hown, hts, hr, hlk, hK, hA, hSW⟩ := id C0
  have hl : lv_has ls 3 [(0, .ref a_t), (1, .int x1), (2, .int x2)] := hl
  rw [fX10_guest] at hF
  refine lv_aload_n hx hb dX10_guest_0 rfl (lv_at hl 0 rfl) ?_
  obtain ⟨u_1, hu_2, hF⟩ := ob1_some hF
  refine call_v (wr := [aI g (p_t 15) 266 f_t_15, aI g (p_t 17) 17 f_t_17]) (As := []) (rest := []) (ci := 10) (q0 := 0) C0 (mX10_good l g a_t p_t n o_t u_1 hu_2) (cwV 0 hts gX10_guest_X10_good rfl rfl rfl (by decide +kernel) ⟨Nat.le_of_ble_eq_true rfl, Nat.le_of_ble_eq_true rfl⟩) hP hD hS [0] [1, 2] rfl rfl rfl rfl rfl (by decide) rfl rfl hl.1 rfl rfl (Nat.le_of_ble_eq_true rfl) ⟨Nat.zero_le _, Nat.zero_le _⟩ dX10_guest_1 ?_
  intro H locs hP hD hS
  refine lv_aload_n hx hb dX10_guest_4 rfl (lv_at hl 0 rfl) ?_
  refine lv_iload_n hx hb dX10_guest_5 rfl (lv_at hl 1 rfl) ?_
  obtain ⟨u_3, hu_4, hF⟩ := ob1_some hF
  refine call_i (wr := [aI g (p_t 17) 17 f_t_17]) (As := [.int x1]) (rest := []) (ci := 10) (q0 := 0) C0 (mX10_isGuest l g a_t p_t n x1 u_1 f_t_15 u_3 hu_4) (cwV 1 hts gX10_guest_X10_isGuest rfl rfl rfl (by decide +kernel) ⟨Nat.le_of_ble_eq_true rfl, Nat.le_of_ble_eq_true rfl⟩) hP hD hS [2, 0] [1] rfl rfl rfl rfl rfl (by decide) rfl rfl hl.1 rfl rfl (Nat.le_of_ble_eq_true rfl) ⟨Nat.zero_le _, Nat.zero_le _⟩ dX10_guest_6 ?_
  intro H locs hP hD hS
  refine lv_if_eq (tgt := 21) hx hb dX10_guest_9 (by decide) (fun c_5 => ?_) (fun c_5 => ?_)
  · have hF := it_p c_5 hF
    refine lv_aload_n hx hb dX10_guest_21 rfl (lv_at hl 0 rfl) ?_
    refine lv_iconst (v := (1 : Int32)) hx hb dX10_guest_22 (by decide) ?_
    obtain ⟨u_6, u_7, hu_8, hF⟩ := ob2_some hF
    refine call_i (wr := [aI g (p_t 17) 17 f_t_17, aI g (p_t 15) 266 f_t_15]) (As := [.int (1 : Int32)]) (rest := []) (ci := 10) (q0 := 0) C0 (mX10_less l g a_t p_t n (1 : Int32) u_1 u_6 u_7 hu_8) (cwV 1 hts gX10_guest_X10_less rfl rfl rfl (by decide +kernel) ⟨Nat.le_of_ble_eq_true rfl, Nat.le_of_ble_eq_true rfl⟩) hP hD hS [1] [0, 2] rfl rfl rfl rfl rfl (by decide) rfl rfl hl.1 rfl rfl (Nat.le_of_ble_eq_true rfl) ⟨Nat.zero_le _, Nat.zero_le _⟩ dX10_guest_23 ?_
    intro H locs hP hD hS
    cases hF
    exact ret_i C0 hP hD hS [2, 1, 0] rfl rfl rfl dX10_guest_26 rfl
  · have hF := it_n c_5 hF
    refine lv_iload_n hx hb dX10_guest_12 rfl (lv_at hl 2 rfl) ?_
    refine lv_iconst (v := (0 : Int32)) hx hb dX10_guest_13 (by decide) ?_
    refine lv_iconst (v := (5 : Int32)) hx hb dX10_guest_14 (by decide) ?_
    obtain ⟨u_9, hu_10, hF⟩ := ob1_some hF
    refine call_si (wr := [aI g (p_t 17) 17 f_t_17, oX10 a_t p_t u_1, aI g (p_t 15) 266 f_t_15]) (As := [.int x2, .int (0 : Int32), .int (5 : Int32)]) (rest := []) C0 (mX10_in l g n x2 (0 : Int32) (5 : Int32) u_9 hu_10) (va_cwS 3 hts gX10_guest_X10_in rfl rfl rfl (by decide +kernel) ⟨Nat.le_of_ble_eq_true rfl, Nat.le_of_ble_eq_true rfl⟩) hP hD hS [] [0, 1, 2] rfl rfl rfl rfl rfl (by decide) hl.1 rfl rfl (Nat.le_of_ble_eq_true rfl) ⟨Nat.zero_le _, Nat.zero_le _⟩ dX10_guest_15 ?_
    intro H locs hP hD hS
    refine lv_if_ne (tgt := 27) hx hb dX10_guest_18 (by decide) (fun c_11 => ?_) (fun c_11 => ?_)
    · have hF := it_n c_11 hF
      refine lv_iload_n hx hb dX10_guest_27 rfl (lv_at hl 2 rfl) ?_
      by_cases c_12 : x2 = (0 : Int32)
      · have hF := it_p c_12 hF
        refine lv_tableIn (off := 36) (tgt := 64) hx hb dX10_guest_28 (by rw [c_12]; decide) (by rw [c_12]; decide) (by rw [c_12]; rfl) (by decide) ?_
        refine lv_aload_n hx hb dX10_guest_64 rfl (lv_at hl 0 rfl) ?_
        refine lv_iload_n hx hb dX10_guest_65 rfl (lv_at hl 1 rfl) ?_
        obtain ⟨u_13, hu_14, hF⟩ := ob1_some hF
        refine call_i (wr := [aI g (p_t 17) 17 f_t_17]) (As := [.int x1]) (rest := []) (ci := 10) (q0 := 0) C0 (mX10_kindOf l g a_t p_t n x1 u_1 f_t_15 u_13 hu_14) (cwV 1 hts gX10_guest_X10_kindOf rfl rfl rfl (by decide +kernel) ⟨Nat.le_of_ble_eq_true rfl, Nat.le_of_ble_eq_true rfl⟩) hP hD hS [1, 2] [0] rfl rfl rfl rfl rfl (by decide) rfl rfl hl.1 rfl rfl (Nat.le_of_ble_eq_true rfl) ⟨Nat.zero_le _, Nat.zero_le _⟩ dX10_guest_66 ?_
        intro H locs hP hD hS
        cases hF
        exact ret_i C0 hP hD hS [1, 2, 0] rfl rfl rfl dX10_guest_69 rfl
      have hF := it_n c_12 hF
      by_cases c_15 : x2 = (1 : Int32)
      · have hF := it_p c_15 hF
        refine lv_tableIn (off := 42) (tgt := 70) hx hb dX10_guest_28 (by rw [c_15]; decide) (by rw [c_15]; decide) (by rw [c_15]; rfl) (by decide) ?_
        refine lv_aload_n hx hb dX10_guest_70 rfl (lv_at hl 0 rfl) ?_
        refine va_get (D := g.1) (ci := 10) (v := .ref (p_t 17)) (C := RX10) (T := TX10) (N := 35) hx hb hts iX10_guest_X10 hown hK.1 hP 1 rfl rfl 17 (by decide) (hts _ kX10_guest_26) (fun _ h9 => h9) rfl dX10_guest_71 ?_
        refine lv_iload_n hx hb dX10_guest_74 rfl (lv_at hl 1 rfl) ?_
        obtain ⟨h_16, hF⟩ := it_ck hF
        refine va_iald hx hb hK.1 hP 0 0 rfl rfl h_16 dX10_guest_75 ?_
        cases hF
        exact ret_i C0 hP hD hS [1, 2, 0] rfl rfl rfl dX10_guest_76 rfl
      have hF := it_n c_15 hF
      by_cases c_17 : x2 = (2 : Int32)
      · have hF := it_p c_17 hF
        refine lv_tableIn (off := 49) (tgt := 77) hx hb dX10_guest_28 (by rw [c_17]; decide) (by rw [c_17]; decide) (by rw [c_17]; rfl) (by decide) ?_
        refine lv_aload_n hx hb dX10_guest_77 rfl (lv_at hl 0 rfl) ?_
        refine lv_aload_n hx hb dX10_guest_78 rfl (lv_at hl 0 rfl) ?_
        refine va_get (D := g.1) (ci := 10) (v := .ref (p_t 17)) (C := RX10) (T := TX10) (N := 35) hx hb hts iX10_guest_X10 hown hK.1 hP 1 rfl rfl 17 (by decide) (hts _ kX10_guest_26) (fun _ h9 => h9) rfl dX10_guest_79 ?_
        refine lv_iload_n hx hb dX10_guest_82 rfl (lv_at hl 1 rfl) ?_
        obtain ⟨u_18, hu_19, hF⟩ := ob1_some hF
        refine call_i (wr := []) (As := [.ref (p_t 17), .int x1]) (rest := []) (ci := 10) (q0 := 0) C0 (mX10_willOf l g a_t (p_t 17) p_t n x1 u_1 f_t_15 f_t_17 u_18 hu_19) (cwV 2 hts gX10_guest_X10_willOf rfl rfl rfl (by decide +kernel) ⟨Nat.le_of_ble_eq_true rfl, Nat.le_of_ble_eq_true rfl⟩) hP hD hS [1, 2, 0] [] rfl rfl rfl rfl rfl (by decide) rfl rfl hl.1 rfl rfl (Nat.le_of_ble_eq_true rfl) ⟨Nat.zero_le _, Nat.zero_le _⟩ dX10_guest_83 ?_
        intro H locs hP hD hS
        cases hF
        exact ret_i C0 hP hD hS [0, 1, 2] rfl rfl rfl dX10_guest_86 rfl
      have hF := it_n c_17 hF
      by_cases c_20 : x2 = (3 : Int32)
      · have hF := it_p c_20 hF
        refine lv_tableIn (off := 59) (tgt := 87) hx hb dX10_guest_28 (by rw [c_20]; decide) (by rw [c_20]; decide) (by rw [c_20]; rfl) (by decide) ?_
        refine lv_aload_n hx hb dX10_guest_87 rfl (lv_at hl 0 rfl) ?_
        refine va_get (D := g.1) (ci := 10) (v := .ref (p_t 17)) (C := RX10) (T := TX10) (N := 35) hx hb hts iX10_guest_X10 hown hK.1 hP 1 rfl rfl 17 (by decide) (hts _ kX10_guest_26) (fun _ h9 => h9) rfl dX10_guest_88 ?_
        refine lv_iload_n hx hb dX10_guest_91 rfl (lv_at hl 1 rfl) ?_
        obtain ⟨u_21, hu_22, hF⟩ := ob1_some hF
        refine call_si (wr := [oX10 a_t p_t u_1, aI g (p_t 15) 266 f_t_15]) (As := [.ref (p_t 17), .int x1]) (rest := []) C0 (mX10_isIn l g (p_t 17) n x1 f_t_17 u_21 hu_22) (va_cwS 2 hts gX10_guest_X10_isIn rfl rfl rfl (by decide +kernel) ⟨Nat.le_of_ble_eq_true rfl, Nat.le_of_ble_eq_true rfl⟩) hP hD hS [0] [1, 2] rfl rfl rfl rfl rfl (by decide) hl.1 rfl rfl (Nat.le_of_ble_eq_true rfl) ⟨Nat.zero_le _, Nat.zero_le _⟩ dX10_guest_92 ?_
        intro H locs hP hD hS
        refine lv_if_eq (tgt := 102) hx hb dX10_guest_95 (by decide) (fun c_23 => ?_) (fun c_23 => ?_)
        · have hF := it_p c_23 hF
          refine lv_iconst (v := (0 : Int32)) hx hb dX10_guest_102 (by decide) ?_
          cases hF
          exact ret_i C0 hP hD hS [0, 1, 2] rfl rfl rfl dX10_guest_103 rfl
        · have hF := it_n c_23 hF
          refine lv_iconst (v := (1 : Int32)) hx hb dX10_guest_98 (by decide) ?_
          refine lv_goto (tgt := 103) hx hb dX10_guest_99 (by decide) ?_
          cases hF
          exact ret_i C0 hP hD hS [0, 1, 2] rfl rfl rfl dX10_guest_103 rfl
      have hF := it_n c_20 hF
      by_cases c_24 : x2 = (4 : Int32)
      · have hF := it_p c_24 hF
        refine lv_tableIn (off := 76) (tgt := 104) hx hb dX10_guest_28 (by rw [c_24]; decide) (by rw [c_24]; decide) (by rw [c_24]; rfl) (by decide) ?_
        refine lv_aload_n hx hb dX10_guest_104 rfl (lv_at hl 0 rfl) ?_
        refine va_get (D := g.1) (ci := 10) (v := .ref (p_t 17)) (C := RX10) (T := TX10) (N := 35) hx hb hts iX10_guest_X10 hown hK.1 hP 1 rfl rfl 17 (by decide) (hts _ kX10_guest_26) (fun _ h9 => h9) rfl dX10_guest_105 ?_
        refine lv_iload_n hx hb dX10_guest_108 rfl (lv_at hl 1 rfl) ?_
        obtain ⟨u_25, hu_26, hF⟩ := ob1_some hF
        refine call_si (wr := [oX10 a_t p_t u_1, aI g (p_t 15) 266 f_t_15]) (As := [.ref (p_t 17), .int x1]) (rest := []) C0 (mX10_isIn l g (p_t 17) n x1 f_t_17 u_25 hu_26) (va_cwS 2 hts gX10_guest_X10_isIn rfl rfl rfl (by decide +kernel) ⟨Nat.le_of_ble_eq_true rfl, Nat.le_of_ble_eq_true rfl⟩) hP hD hS [0] [1, 2] rfl rfl rfl rfl rfl (by decide) hl.1 rfl rfl (Nat.le_of_ble_eq_true rfl) ⟨Nat.zero_le _, Nat.zero_le _⟩ dX10_guest_109 ?_
        intro H locs hP hD hS
        refine lv_if_eq (tgt := 120) hx hb dX10_guest_112 (by decide) (fun c_27 => ?_) (fun c_27 => ?_)
        · have hF := it_p c_27 hF
          refine lv_aload_n hx hb dX10_guest_120 rfl (lv_at hl 0 rfl) ?_
          refine va_get (D := g.1) (ci := 10) (v := .ref (p_t 17)) (C := RX10) (T := TX10) (N := 35) hx hb hts iX10_guest_X10 hown hK.1 hP 0 rfl rfl 17 (by decide) (hts _ kX10_guest_26) (fun _ h9 => h9) rfl dX10_guest_121 ?_
          refine lv_bipush (v := (7 : Int32)) hx hb dX10_guest_124 (by decide) ?_
          refine lv_iload_n hx hb dX10_guest_126 rfl (lv_at hl 1 rfl) ?_
          refine lv_iadd hx hb dX10_guest_127 ?_
          obtain ⟨h_28, hF⟩ := it_ck hF
          refine va_iald hx hb hK.1 hP 2 0 rfl rfl h_28 dX10_guest_128 ?_
          refine lv_iconst (v := (1 : Int32)) hx hb dX10_guest_129 (by decide) ?_
          refine lv_isub hx hb dX10_guest_130 ?_
          cases hF
          exact ret_i C0 hP hD hS [0, 1, 2] rfl rfl rfl dX10_guest_131 rfl
        · have hF := it_n c_27 hF
          refine lv_bipush (v := (-2 : Int32)) hx hb dX10_guest_115 (by decide) ?_
          refine lv_goto (tgt := 131) hx hb dX10_guest_117 (by decide) ?_
          cases hF
          exact ret_i C0 hP hD hS [0, 1, 2] rfl rfl rfl dX10_guest_131 rfl
      have hF := it_n c_24 hF
      have tc_12 := lv_neT (a := 0) c_12 (by decide)
      have tc_15 := lv_neT (a := 1) c_15 (by decide)
      have tc_17 := lv_neT (a := 2) c_17 (by decide)
      have tc_20 := lv_neT (a := 3) c_20 (by decide)
      have tc_24 := lv_neT (a := 4) c_24 (by decide)
      refine lv_tableOut (tgt := 132) hx hb dX10_guest_28 (by omega) (by decide) ?_
      refine lv_aload_n hx hb dX10_guest_132 rfl (lv_at hl 0 rfl) ?_
      refine va_get (D := g.1) (ci := 10) (v := .ref (p_t 15)) (C := RX10) (T := TX10) (N := 35) hx hb hts iX10_guest_X10 hown hK.1 hP 1 rfl rfl 15 (by decide) (hts _ kX10_guest_20) (fun _ h9 => h9) rfl dX10_guest_133 ?_
      refine lv_bipush (v := (9 : Int32)) hx hb dX10_guest_136 (by decide) ?_
      refine lv_iconst (v := (4 : Int32)) hx hb dX10_guest_138 (by decide) ?_
      refine lv_iload_n hx hb dX10_guest_139 rfl (lv_at hl 1 rfl) ?_
      refine lv_imul hx hb dX10_guest_140 ?_
      refine lv_iadd hx hb dX10_guest_141 ?_
      refine lv_iconst (v := (3 : Int32)) hx hb dX10_guest_142 (by decide) ?_
      refine lv_iadd hx hb dX10_guest_143 ?_
      obtain ⟨h_29, hF⟩ := it_ck hF
      refine va_iald hx hb hK.1 hP 2 0 rfl rfl h_29 dX10_guest_144 ?_
      refine lv_if_ne (tgt := 153) hx hb dX10_guest_145 (by decide) (fun c_30 => ?_) (fun c_30 => ?_)
      · have hF := it_n c_30 hF
        refine lv_aload_n hx hb dX10_guest_153 rfl (lv_at hl 0 rfl) ?_
        refine va_get (D := g.1) (ci := 10) (v := .ref (p_t 15)) (C := RX10) (T := TX10) (N := 35) hx hb hts iX10_guest_X10 hown hK.1 hP 1 rfl rfl 15 (by decide) (hts _ kX10_guest_20) (fun _ h9 => h9) rfl dX10_guest_154 ?_
        refine lv_bipush (v := (9 : Int32)) hx hb dX10_guest_157 (by decide) ?_
        refine lv_iconst (v := (4 : Int32)) hx hb dX10_guest_159 (by decide) ?_
        refine lv_iload_n hx hb dX10_guest_160 rfl (lv_at hl 1 rfl) ?_
        refine lv_imul hx hb dX10_guest_161 ?_
        refine lv_iadd hx hb dX10_guest_162 ?_
        refine lv_iconst (v := (3 : Int32)) hx hb dX10_guest_163 (by decide) ?_
        refine lv_iadd hx hb dX10_guest_164 ?_
        obtain ⟨h_31, hF⟩ := it_ck hF
        refine va_iald hx hb hK.1 hP 2 0 rfl rfl h_31 dX10_guest_165 ?_
        refine lv_iconst (v := (1 : Int32)) hx hb dX10_guest_166 (by decide) ?_
        refine lv_isub hx hb dX10_guest_167 ?_
        cases hF
        exact ret_i C0 hP hD hS [1, 2, 0] rfl rfl rfl dX10_guest_168 rfl
      · have hF := it_p c_30 hF
        refine lv_bipush (v := (-2 : Int32)) hx hb dX10_guest_148 (by decide) ?_
        refine lv_goto (tgt := 168) hx hb dX10_guest_150 (by decide) ?_
        cases hF
        exact ret_i C0 hP hD hS [1, 2, 0] rfl rfl rfl dX10_guest_168 rfl
    · have hF := it_p c_11 hF
      refine lv_aload_n hx hb dX10_guest_21 rfl (lv_at hl 0 rfl) ?_
      refine lv_iconst (v := (1 : Int32)) hx hb dX10_guest_22 (by decide) ?_
      obtain ⟨u_32, u_33, hu_34, hF⟩ := ob2_some hF
      refine call_i (wr := [aI g (p_t 17) 17 f_t_17, aI g (p_t 15) 266 f_t_15]) (As := [.int (1 : Int32)]) (rest := []) (ci := 10) (q0 := 0) C0 (mX10_less l g a_t p_t n (1 : Int32) u_1 u_32 u_33 hu_34) (cwV 1 hts gX10_guest_X10_less rfl rfl rfl (by decide +kernel) ⟨Nat.le_of_ble_eq_true rfl, Nat.le_of_ble_eq_true rfl⟩) hP hD hS [1] [0, 2] rfl rfl rfl rfl rfl (by decide) rfl rfl hl.1 rfl rfl (Nat.le_of_ble_eq_true rfl) ⟨Nat.zero_le _, Nat.zero_le _⟩ dX10_guest_23 ?_
      intro H locs hP hD hS
      cases hF
      exact ret_i C0 hP hD hS [2, 1, 0] rfl rfl rfl dX10_guest_26 rfl

theorem dAX10_drawn : ∀ q ∈ ([(0, (.aload_n 0, 1)), (1, (.invokevirtual 159, 3)), (4, (.aload_n 0, 1)), (5, (.iload_n 1, 1)), (6, (.invokevirtual 300, 3)), (9, (.ifCond .eq 33, 3)), (12, (.aload_n 0, 1)), (13, (.iload_n 2, 1)), (14, (.invokevirtual 300, 3)), (17, (.ifCond .eq 25, 3)), (20, (.iload_n 1, 1)), (21, (.iload_n 2, 1)), (22, (.if_icmp .eq 20, 3)), (25, (.aload_n 0, 1)), (26, (.getfield 20, 3)), (29, (.bipush 37, 2)), (31, (.bipush 7, 2)), (33, (.iload_n 1, 1)), (34, (.imul, 1)), (35, (.iadd, 1)), (36, (.iload_n 2, 1)), (37, (.iadd, 1)), (38, (.iaload, 1)), (39, (.goto 8, 3)), (42, (.aload_n 0, 1)), (43, (.iconst 1, 1)), (44, (.invokevirtual 162, 3)), (47, (.ireturn, 1))] : List (Nat × (Instr × Nat))), decode cX10_drawn q.1 = .ok q.2 := by decide +kernel
theorem dX10_drawn_0 : decode cX10_drawn 0 = .ok (.aload_n 0, 1) := dAX10_drawn (0, (.aload_n 0, 1)) (List.mem_of_getElem? (i := 0) rfl)
theorem dX10_drawn_1 : decode cX10_drawn 1 = .ok (.invokevirtual 159, 3) := dAX10_drawn (1, (.invokevirtual 159, 3)) (List.mem_of_getElem? (i := 1) rfl)
theorem dX10_drawn_4 : decode cX10_drawn 4 = .ok (.aload_n 0, 1) := dAX10_drawn (4, (.aload_n 0, 1)) (List.mem_of_getElem? (i := 2) rfl)
theorem dX10_drawn_5 : decode cX10_drawn 5 = .ok (.iload_n 1, 1) := dAX10_drawn (5, (.iload_n 1, 1)) (List.mem_of_getElem? (i := 3) rfl)
theorem dX10_drawn_6 : decode cX10_drawn 6 = .ok (.invokevirtual 300, 3) := dAX10_drawn (6, (.invokevirtual 300, 3)) (List.mem_of_getElem? (i := 4) rfl)
theorem dX10_drawn_9 : decode cX10_drawn 9 = .ok (.ifCond .eq 33, 3) := dAX10_drawn (9, (.ifCond .eq 33, 3)) (List.mem_of_getElem? (i := 5) rfl)
theorem dX10_drawn_12 : decode cX10_drawn 12 = .ok (.aload_n 0, 1) := dAX10_drawn (12, (.aload_n 0, 1)) (List.mem_of_getElem? (i := 6) rfl)
theorem dX10_drawn_13 : decode cX10_drawn 13 = .ok (.iload_n 2, 1) := dAX10_drawn (13, (.iload_n 2, 1)) (List.mem_of_getElem? (i := 7) rfl)
theorem dX10_drawn_14 : decode cX10_drawn 14 = .ok (.invokevirtual 300, 3) := dAX10_drawn (14, (.invokevirtual 300, 3)) (List.mem_of_getElem? (i := 8) rfl)
theorem dX10_drawn_17 : decode cX10_drawn 17 = .ok (.ifCond .eq 25, 3) := dAX10_drawn (17, (.ifCond .eq 25, 3)) (List.mem_of_getElem? (i := 9) rfl)
theorem dX10_drawn_20 : decode cX10_drawn 20 = .ok (.iload_n 1, 1) := dAX10_drawn (20, (.iload_n 1, 1)) (List.mem_of_getElem? (i := 10) rfl)
theorem dX10_drawn_21 : decode cX10_drawn 21 = .ok (.iload_n 2, 1) := dAX10_drawn (21, (.iload_n 2, 1)) (List.mem_of_getElem? (i := 11) rfl)
theorem dX10_drawn_22 : decode cX10_drawn 22 = .ok (.if_icmp .eq 20, 3) := dAX10_drawn (22, (.if_icmp .eq 20, 3)) (List.mem_of_getElem? (i := 12) rfl)
theorem dX10_drawn_25 : decode cX10_drawn 25 = .ok (.aload_n 0, 1) := dAX10_drawn (25, (.aload_n 0, 1)) (List.mem_of_getElem? (i := 13) rfl)
theorem dX10_drawn_26 : decode cX10_drawn 26 = .ok (.getfield 20, 3) := dAX10_drawn (26, (.getfield 20, 3)) (List.mem_of_getElem? (i := 14) rfl)
theorem dX10_drawn_29 : decode cX10_drawn 29 = .ok (.bipush 37, 2) := dAX10_drawn (29, (.bipush 37, 2)) (List.mem_of_getElem? (i := 15) rfl)
theorem dX10_drawn_31 : decode cX10_drawn 31 = .ok (.bipush 7, 2) := dAX10_drawn (31, (.bipush 7, 2)) (List.mem_of_getElem? (i := 16) rfl)
theorem dX10_drawn_33 : decode cX10_drawn 33 = .ok (.iload_n 1, 1) := dAX10_drawn (33, (.iload_n 1, 1)) (List.mem_of_getElem? (i := 17) rfl)
theorem dX10_drawn_34 : decode cX10_drawn 34 = .ok (.imul, 1) := dAX10_drawn (34, (.imul, 1)) (List.mem_of_getElem? (i := 18) rfl)
theorem dX10_drawn_35 : decode cX10_drawn 35 = .ok (.iadd, 1) := dAX10_drawn (35, (.iadd, 1)) (List.mem_of_getElem? (i := 19) rfl)
theorem dX10_drawn_36 : decode cX10_drawn 36 = .ok (.iload_n 2, 1) := dAX10_drawn (36, (.iload_n 2, 1)) (List.mem_of_getElem? (i := 20) rfl)
theorem dX10_drawn_37 : decode cX10_drawn 37 = .ok (.iadd, 1) := dAX10_drawn (37, (.iadd, 1)) (List.mem_of_getElem? (i := 21) rfl)
theorem dX10_drawn_38 : decode cX10_drawn 38 = .ok (.iaload, 1) := dAX10_drawn (38, (.iaload, 1)) (List.mem_of_getElem? (i := 22) rfl)
theorem dX10_drawn_39 : decode cX10_drawn 39 = .ok (.goto 8, 3) := dAX10_drawn (39, (.goto 8, 3)) (List.mem_of_getElem? (i := 23) rfl)
theorem dX10_drawn_42 : decode cX10_drawn 42 = .ok (.aload_n 0, 1) := dAX10_drawn (42, (.aload_n 0, 1)) (List.mem_of_getElem? (i := 24) rfl)
theorem dX10_drawn_43 : decode cX10_drawn 43 = .ok (.iconst 1, 1) := dAX10_drawn (43, (.iconst 1, 1)) (List.mem_of_getElem? (i := 25) rfl)
theorem dX10_drawn_44 : decode cX10_drawn 44 = .ok (.invokevirtual 162, 3) := dAX10_drawn (44, (.invokevirtual 162, 3)) (List.mem_of_getElem? (i := 26) rfl)
theorem dX10_drawn_47 : decode cX10_drawn 47 = .ok (.ireturn, 1) := dAX10_drawn (47, (.ireturn, 1)) (List.mem_of_getElem? (i := 27) rfl)
set_option maxRecDepth 20000 in
theorem ggX10_drawn_X10_good : GoodIn wsX10_drawn wsX10_good := goodIn_r _ [6, 7, 8, 21, 22, 23, 24, 25, 26, 27, 28, 29, 30, 31, 32, 33, 34, 35, 36, 37, 38, 39, 40, 41, 42, 43, 44, 45, 46, 47, 48, 49, 50, 51, 52, 53, 54, 55] rfl (by decide +kernel)
set_option maxRecDepth 20000 in
theorem gX10_drawn_X10_good : GoodIn wsX10_drawn (wsV RX10 159 RX10 yX10_good wsX10_good) := goodIn_app (goodIn_of _ (by decide +kernel)) ggX10_drawn_X10_good
set_option maxRecDepth 20000 in
theorem ggX10_drawn_X10_isGuest : GoodIn wsX10_drawn wsX10_isGuest := goodIn_r _ [12, 13, 1, 14, 15, 5, 16, 21, 22, 23, 24, 25, 26, 27, 28, 29, 30, 31, 32, 33, 34, 35, 36, 37, 38, 39, 40, 41, 42, 43, 44, 45, 46, 47, 48, 49, 50, 51, 52, 53, 54, 55] rfl (by decide +kernel)
set_option maxRecDepth 20000 in
theorem gX10_drawn_X10_isGuest : GoodIn wsX10_drawn (wsV RX10 300 RX10 yX10_isGuest wsX10_isGuest) := goodIn_app (goodIn_of _ (by decide +kernel)) ggX10_drawn_X10_isGuest
set_option maxRecDepth 20000 in
theorem ggX10_drawn_X10_no : GoodIn wsX10_drawn wsX10_no := goodIn_r _ [20, 8, 21, 22, 23, 24, 25, 26, 27, 28, 29, 30, 31, 32, 33, 34, 35, 36, 37, 38, 39, 40, 41, 42, 43, 44, 45, 46, 47, 48, 49, 50, 51, 52, 53, 54, 55] rfl (by decide +kernel)
set_option maxRecDepth 20000 in
theorem gX10_drawn_X10_no : GoodIn wsX10_drawn (wsV RX10 162 RX10 yX10_no wsX10_no) := goodIn_app (goodIn_of _ (by decide +kernel)) ggX10_drawn_X10_no
theorem kX10_drawn_20 : Cond.fieldLink RX10 20 "EveningVowModel" "\x72" "[I" ∈ wsX10_drawn := List.mem_of_getElem? (i := 1) rfl
theorem iX10_drawn_X10 : ∀ w ∈ u_ws RX10 TX10 35, w ∈ wsX10_drawn := fun w h => (List.mem_cons_of_mem _ (List.mem_append_right _ h))
set_option maxHeartbeats 4000000 in
set_option maxRecDepth 100000 in
theorem mX10_drawn (l : Launch) (g : GG) (a_t : Nat) (p_t : Nat → Nat) (n : Nat) (x1 : Int32) (x2 : Int32) (o_t : Nat → Int32) (f_t_15 : Nat → Int32) (r : Int32) (o_t' : Nat → Int32) (hF : fX10_drawn n x1 x2 o_t f_t_15 = some (r, o_t')) : MI l g yX10_drawn wsX10_drawn ({ frames := 2, cells := 0, slots := 0, locals := 43 } : Room) [.ref a_t, .int x1, .int x2] [oX10 a_t p_t o_t, aI g (p_t 15) 266 f_t_15] r [oX10 a_t p_t o_t', aI g (p_t 15) 266 f_t_15] := by
  refine MI.of (cc := cX10_drawn) (maxL := 3) (rt := .int) (own := RX10) rfl rfl (by decide) (Nat.le_of_ble_eq_true rfl) ?_
  intro p e s m args below meth c A C0 hP hD hS ls hl
  obtain ⟨hx, hb, hml, hown, hts, hr, hlk, hK, hA, hSW⟩ := id C0
  have hl : lv_has ls 3 [(0, .ref a_t), (1, .int x1), (2, .int x2)] := hl
  rw [fX10_drawn] at hF
  refine lv_aload_n hx hb dX10_drawn_0 rfl (lv_at hl 0 rfl) ?_
  obtain ⟨u_1, hu_2, hF⟩ := ob1_some hF
  refine call_v (wr := [aI g (p_t 15) 266 f_t_15]) (As := []) (rest := []) (ci := 10) (q0 := 0) C0 (mX10_good l g a_t p_t n o_t u_1 hu_2) (cwV 0 hts gX10_drawn_X10_good rfl rfl rfl (by decide +kernel) ⟨Nat.le_of_ble_eq_true rfl, Nat.le_of_ble_eq_true rfl⟩) hP hD hS [0] [1] rfl rfl rfl rfl rfl (by decide) rfl rfl hl.1 rfl rfl (Nat.le_of_ble_eq_true rfl) ⟨Nat.zero_le _, Nat.zero_le _⟩ dX10_drawn_1 ?_
  intro H locs hP hD hS
  refine lv_aload_n hx hb dX10_drawn_4 rfl (lv_at hl 0 rfl) ?_
  refine lv_iload_n hx hb dX10_drawn_5 rfl (lv_at hl 1 rfl) ?_
  obtain ⟨u_3, hu_4, hF⟩ := ob1_some hF
  refine call_i (wr := []) (As := [.int x1]) (rest := []) (ci := 10) (q0 := 0) C0 (mX10_isGuest l g a_t p_t n x1 u_1 f_t_15 u_3 hu_4) (cwV 1 hts gX10_drawn_X10_isGuest rfl rfl rfl (by decide +kernel) ⟨Nat.le_of_ble_eq_true rfl, Nat.le_of_ble_eq_true rfl⟩) hP hD hS [1, 0] [] rfl rfl rfl rfl rfl (by decide) rfl rfl hl.1 rfl rfl (Nat.le_of_ble_eq_true rfl) ⟨Nat.zero_le _, Nat.zero_le _⟩ dX10_drawn_6 ?_
  intro H locs hP hD hS
  refine lv_if_eq (tgt := 42) hx hb dX10_drawn_9 (by decide) (fun c_5 => ?_) (fun c_5 => ?_)
  · have hF := it_p c_5 hF
    refine lv_aload_n hx hb dX10_drawn_42 rfl (lv_at hl 0 rfl) ?_
    refine lv_iconst (v := (1 : Int32)) hx hb dX10_drawn_43 (by decide) ?_
    obtain ⟨u_6, u_7, hu_8, hF⟩ := ob2_some hF
    refine call_i (wr := [aI g (p_t 15) 266 f_t_15]) (As := [.int (1 : Int32)]) (rest := []) (ci := 10) (q0 := 0) C0 (mX10_no l g a_t p_t n (1 : Int32) u_1 u_6 u_7 hu_8) (cwV 1 hts gX10_drawn_X10_no rfl rfl rfl (by decide +kernel) ⟨Nat.le_of_ble_eq_true rfl, Nat.le_of_ble_eq_true rfl⟩) hP hD hS [0] [1] rfl rfl rfl rfl rfl (by decide) rfl rfl hl.1 rfl rfl (Nat.le_of_ble_eq_true rfl) ⟨Nat.zero_le _, Nat.zero_le _⟩ dX10_drawn_44 ?_
    intro H locs hP hD hS
    cases hF
    exact ret_i C0 hP hD hS [1, 0] rfl rfl rfl dX10_drawn_47 rfl
  · have hF := it_n c_5 hF
    refine lv_aload_n hx hb dX10_drawn_12 rfl (lv_at hl 0 rfl) ?_
    refine lv_iload_n hx hb dX10_drawn_13 rfl (lv_at hl 2 rfl) ?_
    obtain ⟨u_9, hu_10, hF⟩ := ob1_some hF
    refine call_i (wr := []) (As := [.int x2]) (rest := []) (ci := 10) (q0 := 0) C0 (mX10_isGuest l g a_t p_t n x2 u_1 f_t_15 u_9 hu_10) (cwV 1 hts gX10_drawn_X10_isGuest rfl rfl rfl (by decide +kernel) ⟨Nat.le_of_ble_eq_true rfl, Nat.le_of_ble_eq_true rfl⟩) hP hD hS [0, 1] [] rfl rfl rfl rfl rfl (by decide) rfl rfl hl.1 rfl rfl (Nat.le_of_ble_eq_true rfl) ⟨Nat.zero_le _, Nat.zero_le _⟩ dX10_drawn_14 ?_
    intro H locs hP hD hS
    refine lv_if_eq (tgt := 42) hx hb dX10_drawn_17 (by decide) (fun c_11 => ?_) (fun c_11 => ?_)
    · have hF := it_p c_11 hF
      refine lv_aload_n hx hb dX10_drawn_42 rfl (lv_at hl 0 rfl) ?_
      refine lv_iconst (v := (1 : Int32)) hx hb dX10_drawn_43 (by decide) ?_
      obtain ⟨u_12, u_13, hu_14, hF⟩ := ob2_some hF
      refine call_i (wr := [aI g (p_t 15) 266 f_t_15]) (As := [.int (1 : Int32)]) (rest := []) (ci := 10) (q0 := 0) C0 (mX10_no l g a_t p_t n (1 : Int32) u_1 u_12 u_13 hu_14) (cwV 1 hts gX10_drawn_X10_no rfl rfl rfl (by decide +kernel) ⟨Nat.le_of_ble_eq_true rfl, Nat.le_of_ble_eq_true rfl⟩) hP hD hS [0] [1] rfl rfl rfl rfl rfl (by decide) rfl rfl hl.1 rfl rfl (Nat.le_of_ble_eq_true rfl) ⟨Nat.zero_le _, Nat.zero_le _⟩ dX10_drawn_44 ?_
      intro H locs hP hD hS
      cases hF
      exact ret_i C0 hP hD hS [1, 0] rfl rfl rfl dX10_drawn_47 rfl
    · have hF := it_n c_11 hF
      refine lv_iload_n hx hb dX10_drawn_20 rfl (lv_at hl 1 rfl) ?_
      refine lv_iload_n hx hb dX10_drawn_21 rfl (lv_at hl 2 rfl) ?_
      refine lv_icmp_eq (tgt := 42) hx hb dX10_drawn_22 (by decide) (fun c_15 => ?_) (fun c_15 => ?_)
      · have hF := it_p c_15 hF
        refine lv_aload_n hx hb dX10_drawn_42 rfl (lv_at hl 0 rfl) ?_
        refine lv_iconst (v := (1 : Int32)) hx hb dX10_drawn_43 (by decide) ?_
        obtain ⟨u_16, u_17, hu_18, hF⟩ := ob2_some hF
        refine call_i (wr := [aI g (p_t 15) 266 f_t_15]) (As := [.int (1 : Int32)]) (rest := []) (ci := 10) (q0 := 0) C0 (mX10_no l g a_t p_t n (1 : Int32) u_1 u_16 u_17 hu_18) (cwV 1 hts gX10_drawn_X10_no rfl rfl rfl (by decide +kernel) ⟨Nat.le_of_ble_eq_true rfl, Nat.le_of_ble_eq_true rfl⟩) hP hD hS [0] [1] rfl rfl rfl rfl rfl (by decide) rfl rfl hl.1 rfl rfl (Nat.le_of_ble_eq_true rfl) ⟨Nat.zero_le _, Nat.zero_le _⟩ dX10_drawn_44 ?_
        intro H locs hP hD hS
        cases hF
        exact ret_i C0 hP hD hS [1, 0] rfl rfl rfl dX10_drawn_47 rfl
      · have hF := it_n c_15 hF
        refine lv_aload_n hx hb dX10_drawn_25 rfl (lv_at hl 0 rfl) ?_
        refine va_get (D := g.1) (ci := 10) (v := .ref (p_t 15)) (C := RX10) (T := TX10) (N := 35) hx hb hts iX10_drawn_X10 hown hK.1 hP 0 rfl rfl 15 (by decide) (hts _ kX10_drawn_20) (fun _ h9 => h9) rfl dX10_drawn_26 ?_
        refine lv_bipush (v := (37 : Int32)) hx hb dX10_drawn_29 (by decide) ?_
        refine lv_bipush (v := (7 : Int32)) hx hb dX10_drawn_31 (by decide) ?_
        refine lv_iload_n hx hb dX10_drawn_33 rfl (lv_at hl 1 rfl) ?_
        refine lv_imul hx hb dX10_drawn_34 ?_
        refine lv_iadd hx hb dX10_drawn_35 ?_
        refine lv_iload_n hx hb dX10_drawn_36 rfl (lv_at hl 2 rfl) ?_
        refine lv_iadd hx hb dX10_drawn_37 ?_
        obtain ⟨h_19, hF⟩ := it_ck hF
        refine va_iald hx hb hK.1 hP 1 0 rfl rfl h_19 dX10_drawn_38 ?_
        refine lv_goto (tgt := 47) hx hb dX10_drawn_39 (by decide) ?_
        cases hF
        exact ret_i C0 hP hD hS [0, 1] rfl rfl rfl dX10_drawn_47 rfl

theorem dAX10_there : ∀ q ∈ ([(0, (.aload_n 0, 1)), (1, (.invokevirtual 159, 3)), (4, (.aload_n 0, 1)), (5, (.getfield 176, 3)), (8, (.ifCond .eq 14, 3)), (11, (.aload_n 0, 1)), (12, (.aload_n 0, 1)), (13, (.getfield 26, 3)), (16, (.invokevirtual 259, 3)), (19, (.goto 8, 3)), (22, (.aload_n 0, 1)), (23, (.iconst 1, 1)), (24, (.invokevirtual 162, 3)), (27, (.ireturn, 1))] : List (Nat × (Instr × Nat))), decode cX10_there q.1 = .ok q.2 := by decide +kernel
theorem dX10_there_0 : decode cX10_there 0 = .ok (.aload_n 0, 1) := dAX10_there (0, (.aload_n 0, 1)) (List.mem_of_getElem? (i := 0) rfl)
theorem dX10_there_1 : decode cX10_there 1 = .ok (.invokevirtual 159, 3) := dAX10_there (1, (.invokevirtual 159, 3)) (List.mem_of_getElem? (i := 1) rfl)
theorem dX10_there_4 : decode cX10_there 4 = .ok (.aload_n 0, 1) := dAX10_there (4, (.aload_n 0, 1)) (List.mem_of_getElem? (i := 2) rfl)
theorem dX10_there_5 : decode cX10_there 5 = .ok (.getfield 176, 3) := dAX10_there (5, (.getfield 176, 3)) (List.mem_of_getElem? (i := 3) rfl)
theorem dX10_there_8 : decode cX10_there 8 = .ok (.ifCond .eq 14, 3) := dAX10_there (8, (.ifCond .eq 14, 3)) (List.mem_of_getElem? (i := 4) rfl)
theorem dX10_there_11 : decode cX10_there 11 = .ok (.aload_n 0, 1) := dAX10_there (11, (.aload_n 0, 1)) (List.mem_of_getElem? (i := 5) rfl)
theorem dX10_there_12 : decode cX10_there 12 = .ok (.aload_n 0, 1) := dAX10_there (12, (.aload_n 0, 1)) (List.mem_of_getElem? (i := 6) rfl)
theorem dX10_there_13 : decode cX10_there 13 = .ok (.getfield 26, 3) := dAX10_there (13, (.getfield 26, 3)) (List.mem_of_getElem? (i := 7) rfl)
theorem dX10_there_16 : decode cX10_there 16 = .ok (.invokevirtual 259, 3) := dAX10_there (16, (.invokevirtual 259, 3)) (List.mem_of_getElem? (i := 8) rfl)
theorem dX10_there_19 : decode cX10_there 19 = .ok (.goto 8, 3) := dAX10_there (19, (.goto 8, 3)) (List.mem_of_getElem? (i := 9) rfl)
theorem dX10_there_22 : decode cX10_there 22 = .ok (.aload_n 0, 1) := dAX10_there (22, (.aload_n 0, 1)) (List.mem_of_getElem? (i := 10) rfl)
theorem dX10_there_23 : decode cX10_there 23 = .ok (.iconst 1, 1) := dAX10_there (23, (.iconst 1, 1)) (List.mem_of_getElem? (i := 11) rfl)
theorem dX10_there_24 : decode cX10_there 24 = .ok (.invokevirtual 162, 3) := dAX10_there (24, (.invokevirtual 162, 3)) (List.mem_of_getElem? (i := 12) rfl)
theorem dX10_there_27 : decode cX10_there 27 = .ok (.ireturn, 1) := dAX10_there (27, (.ireturn, 1)) (List.mem_of_getElem? (i := 13) rfl)
set_option maxRecDepth 20000 in
theorem ggX10_there_X10_good : GoodIn wsX10_there wsX10_good := goodIn_r _ [7, 8, 9, 22, 23, 24, 25, 26, 27, 28, 29, 30, 31, 32, 33, 34, 35, 36, 37, 38, 39, 40, 41, 42, 43, 44, 45, 46, 47, 48, 49, 50, 51, 52, 53, 54, 55, 56] rfl (by decide +kernel)
set_option maxRecDepth 20000 in
theorem gX10_there_X10_good : GoodIn wsX10_there (wsV RX10 159 RX10 yX10_good wsX10_good) := goodIn_app (goodIn_of _ (by decide +kernel)) ggX10_there_X10_good
set_option maxRecDepth 20000 in
theorem ggX10_there_X10_thereOf : GoodIn wsX10_there wsX10_thereOf := goodIn_r _ [13, 14, 15, 16, 6, 17, 22, 23, 24, 25, 26, 27, 28, 29, 30, 31, 32, 33, 34, 35, 36, 37, 38, 39, 40, 41, 42, 43, 44, 45, 46, 47, 48, 49, 50, 51, 52, 53, 54, 55, 56] rfl (by decide +kernel)
set_option maxRecDepth 20000 in
theorem gX10_there_X10_thereOf : GoodIn wsX10_there (wsV RX10 259 RX10 yX10_thereOf wsX10_thereOf) := goodIn_app (goodIn_of _ (by decide +kernel)) ggX10_there_X10_thereOf
set_option maxRecDepth 20000 in
theorem ggX10_there_X10_no : GoodIn wsX10_there wsX10_no := goodIn_r _ [21, 9, 22, 23, 24, 25, 26, 27, 28, 29, 30, 31, 32, 33, 34, 35, 36, 37, 38, 39, 40, 41, 42, 43, 44, 45, 46, 47, 48, 49, 50, 51, 52, 53, 54, 55, 56] rfl (by decide +kernel)
set_option maxRecDepth 20000 in
theorem gX10_there_X10_no : GoodIn wsX10_there (wsV RX10 162 RX10 yX10_no wsX10_no) := goodIn_app (goodIn_of _ (by decide +kernel)) ggX10_there_X10_no
theorem kX10_there_176 : Cond.fieldLink RX10 176 "EveningVowModel" "hasEvening" "Z" ∈ wsX10_there := List.mem_of_getElem? (i := 1) rfl
theorem iX10_there_X10 : ∀ w ∈ u_ws RX10 TX10 35, w ∈ wsX10_there := fun w h => (List.mem_cons_of_mem _ (List.mem_append_right _ h))
theorem kX10_there_26 : Cond.fieldLink RX10 26 "EveningVowModel" "st" "[I" ∈ wsX10_there := List.mem_of_getElem? (i := 2) rfl
set_option maxHeartbeats 4000000 in
set_option maxRecDepth 100000 in
theorem mX10_there (l : Launch) (g : GG) (a_t : Nat) (p_t : Nat → Nat) (n : Nat) (o_t : Nat → Int32) (f_t_15 : Nat → Int32) (f_t_17 : Nat → Int32) (r : Int32) (o_t' : Nat → Int32) (hF : fX10_there n o_t f_t_15 f_t_17 = some (r, o_t')) : MI l g yX10_there wsX10_there ({ frames := 2, cells := 0, slots := 0, locals := 44 } : Room) [.ref a_t] [oX10 a_t p_t o_t, aI g (p_t 15) 266 f_t_15, aI g (p_t 17) 17 f_t_17] r [oX10 a_t p_t o_t', aI g (p_t 15) 266 f_t_15, aI g (p_t 17) 17 f_t_17] := by
  refine MI.of (cc := cX10_there) (maxL := 1) (rt := .int) (own := RX10) rfl rfl (by decide) (Nat.le_of_ble_eq_true rfl) ?_
  intro p e s m args below meth c A C0 hP hD hS ls hl
  obtain ⟨hx, hb, hml, hown, hts, hr, hlk, hK, hA, hSW⟩ := id C0
  have hl : lv_has ls 1 [(0, .ref a_t)] := hl
  rw [fX10_there] at hF
  refine lv_aload_n hx hb dX10_there_0 rfl (lv_at hl 0 rfl) ?_
  obtain ⟨u_1, hu_2, hF⟩ := ob1_some hF
  refine call_v (wr := [aI g (p_t 15) 266 f_t_15, aI g (p_t 17) 17 f_t_17]) (As := []) (rest := []) (ci := 10) (q0 := 0) C0 (mX10_good l g a_t p_t n o_t u_1 hu_2) (cwV 0 hts gX10_there_X10_good rfl rfl rfl (by decide +kernel) ⟨Nat.le_of_ble_eq_true rfl, Nat.le_of_ble_eq_true rfl⟩) hP hD hS [0] [1, 2] rfl rfl rfl rfl rfl (by decide) rfl rfl hl.1 rfl rfl (Nat.le_of_ble_eq_true rfl) ⟨Nat.zero_le _, Nat.zero_le _⟩ dX10_there_1 ?_
  intro H locs hP hD hS
  refine lv_aload_n hx hb dX10_there_4 rfl (lv_at hl 0 rfl) ?_
  refine va_get (D := g.1) (ci := 10) (v := .int (u_1 14)) (C := RX10) (T := TX10) (N := 35) hx hb hts iX10_there_X10 hown hK.1 hP 2 rfl rfl 14 (by decide) (hts _ kX10_there_176) (fun _ h9 => h9) rfl dX10_there_5 ?_
  refine lv_if_eq (tgt := 22) hx hb dX10_there_8 (by decide) (fun c_3 => ?_) (fun c_3 => ?_)
  · have hF := it_p c_3 hF
    refine lv_aload_n hx hb dX10_there_22 rfl (lv_at hl 0 rfl) ?_
    refine lv_iconst (v := (1 : Int32)) hx hb dX10_there_23 (by decide) ?_
    obtain ⟨u_4, u_5, hu_6, hF⟩ := ob2_some hF
    refine call_i (wr := [aI g (p_t 15) 266 f_t_15, aI g (p_t 17) 17 f_t_17]) (As := [.int (1 : Int32)]) (rest := []) (ci := 10) (q0 := 0) C0 (mX10_no l g a_t p_t n (1 : Int32) u_1 u_4 u_5 hu_6) (cwV 1 hts gX10_there_X10_no rfl rfl rfl (by decide +kernel) ⟨Nat.le_of_ble_eq_true rfl, Nat.le_of_ble_eq_true rfl⟩) hP hD hS [2] [0, 1] rfl rfl rfl rfl rfl (by decide) rfl rfl hl.1 rfl rfl (Nat.le_of_ble_eq_true rfl) ⟨Nat.zero_le _, Nat.zero_le _⟩ dX10_there_24 ?_
    intro H locs hP hD hS
    cases hF
    exact ret_i C0 hP hD hS [2, 0, 1] rfl rfl rfl dX10_there_27 rfl
  · have hF := it_n c_3 hF
    refine lv_aload_n hx hb dX10_there_11 rfl (lv_at hl 0 rfl) ?_
    refine lv_aload_n hx hb dX10_there_12 rfl (lv_at hl 0 rfl) ?_
    refine va_get (D := g.1) (ci := 10) (v := .ref (p_t 17)) (C := RX10) (T := TX10) (N := 35) hx hb hts iX10_there_X10 hown hK.1 hP 2 rfl rfl 17 (by decide) (hts _ kX10_there_26) (fun _ h9 => h9) rfl dX10_there_13 ?_
    obtain ⟨u_7, hu_8, hF⟩ := ob1_some hF
    refine call_i (wr := []) (As := [.ref (p_t 17)]) (rest := []) (ci := 10) (q0 := 0) C0 (mX10_thereOf l g a_t (p_t 17) p_t n u_1 f_t_15 f_t_17 u_7 hu_8) (cwV 1 hts gX10_there_X10_thereOf rfl rfl rfl (by decide +kernel) ⟨Nat.le_of_ble_eq_true rfl, Nat.le_of_ble_eq_true rfl⟩) hP hD hS [2, 0, 1] [] rfl rfl rfl rfl rfl (by decide) rfl rfl hl.1 rfl rfl (Nat.le_of_ble_eq_true rfl) ⟨Nat.zero_le _, Nat.zero_le _⟩ dX10_there_16 ?_
    intro H locs hP hD hS
    refine lv_goto (tgt := 27) hx hb dX10_there_19 (by decide) ?_
    cases hF
    exact ret_i C0 hP hD hS [0, 1, 2] rfl rfl rfl dX10_there_27 rfl

theorem dAX10_leaving : ∀ q ∈ ([(0, (.aload_n 0, 1)), (1, (.invokevirtual 159, 3)), (4, (.aload_n 0, 1)), (5, (.getfield 176, 3)), (8, (.ifCond .ne 9, 3)), (11, (.aload_n 0, 1)), (12, (.iconst 1, 1)), (13, (.invokevirtual 162, 3)), (16, (.ireturn, 1)), (17, (.aload_n 0, 1)), (18, (.getfield 26, 3)), (21, (.iconst 0, 1)), (22, (.aload_n 0, 1)), (23, (.getfield 35, 3)), (26, (.iconst 0, 1)), (27, (.bipush 17, 2)), (29, (.invokestatic 168, 3)), (32, (.aload_n 0, 1)), (33, (.aload_n 0, 1)), (34, (.getfield 35, 3)), (37, (.invokevirtual 259, 3)), (40, (.ifCond .ne 7, 3)), (43, (.iconst 0, 1)), (44, (.goto 11, 3)), (47, (.aload_n 0, 1)), (48, (.aload_n 0, 1)), (49, (.getfield 35, 3)), (52, (.invokevirtual 293, 3)), (55, (.ireturn, 1))] : List (Nat × (Instr × Nat))), decode cX10_leaving q.1 = .ok q.2 := by decide +kernel
theorem dX10_leaving_0 : decode cX10_leaving 0 = .ok (.aload_n 0, 1) := dAX10_leaving (0, (.aload_n 0, 1)) (List.mem_of_getElem? (i := 0) rfl)
theorem dX10_leaving_1 : decode cX10_leaving 1 = .ok (.invokevirtual 159, 3) := dAX10_leaving (1, (.invokevirtual 159, 3)) (List.mem_of_getElem? (i := 1) rfl)
theorem dX10_leaving_4 : decode cX10_leaving 4 = .ok (.aload_n 0, 1) := dAX10_leaving (4, (.aload_n 0, 1)) (List.mem_of_getElem? (i := 2) rfl)
theorem dX10_leaving_5 : decode cX10_leaving 5 = .ok (.getfield 176, 3) := dAX10_leaving (5, (.getfield 176, 3)) (List.mem_of_getElem? (i := 3) rfl)
theorem dX10_leaving_8 : decode cX10_leaving 8 = .ok (.ifCond .ne 9, 3) := dAX10_leaving (8, (.ifCond .ne 9, 3)) (List.mem_of_getElem? (i := 4) rfl)
theorem dX10_leaving_11 : decode cX10_leaving 11 = .ok (.aload_n 0, 1) := dAX10_leaving (11, (.aload_n 0, 1)) (List.mem_of_getElem? (i := 5) rfl)
theorem dX10_leaving_12 : decode cX10_leaving 12 = .ok (.iconst 1, 1) := dAX10_leaving (12, (.iconst 1, 1)) (List.mem_of_getElem? (i := 6) rfl)
theorem dX10_leaving_13 : decode cX10_leaving 13 = .ok (.invokevirtual 162, 3) := dAX10_leaving (13, (.invokevirtual 162, 3)) (List.mem_of_getElem? (i := 7) rfl)
theorem dX10_leaving_16 : decode cX10_leaving 16 = .ok (.ireturn, 1) := dAX10_leaving (16, (.ireturn, 1)) (List.mem_of_getElem? (i := 8) rfl)
theorem dX10_leaving_17 : decode cX10_leaving 17 = .ok (.aload_n 0, 1) := dAX10_leaving (17, (.aload_n 0, 1)) (List.mem_of_getElem? (i := 9) rfl)
theorem dX10_leaving_18 : decode cX10_leaving 18 = .ok (.getfield 26, 3) := dAX10_leaving (18, (.getfield 26, 3)) (List.mem_of_getElem? (i := 10) rfl)
theorem dX10_leaving_21 : decode cX10_leaving 21 = .ok (.iconst 0, 1) := dAX10_leaving (21, (.iconst 0, 1)) (List.mem_of_getElem? (i := 11) rfl)
theorem dX10_leaving_22 : decode cX10_leaving 22 = .ok (.aload_n 0, 1) := dAX10_leaving (22, (.aload_n 0, 1)) (List.mem_of_getElem? (i := 12) rfl)
theorem dX10_leaving_23 : decode cX10_leaving 23 = .ok (.getfield 35, 3) := dAX10_leaving (23, (.getfield 35, 3)) (List.mem_of_getElem? (i := 13) rfl)
theorem dX10_leaving_26 : decode cX10_leaving 26 = .ok (.iconst 0, 1) := dAX10_leaving (26, (.iconst 0, 1)) (List.mem_of_getElem? (i := 14) rfl)
theorem dX10_leaving_27 : decode cX10_leaving 27 = .ok (.bipush 17, 2) := dAX10_leaving (27, (.bipush 17, 2)) (List.mem_of_getElem? (i := 15) rfl)
theorem dX10_leaving_29 : decode cX10_leaving 29 = .ok (.invokestatic 168, 3) := dAX10_leaving (29, (.invokestatic 168, 3)) (List.mem_of_getElem? (i := 16) rfl)
theorem dX10_leaving_32 : decode cX10_leaving 32 = .ok (.aload_n 0, 1) := dAX10_leaving (32, (.aload_n 0, 1)) (List.mem_of_getElem? (i := 17) rfl)
theorem dX10_leaving_33 : decode cX10_leaving 33 = .ok (.aload_n 0, 1) := dAX10_leaving (33, (.aload_n 0, 1)) (List.mem_of_getElem? (i := 18) rfl)
theorem dX10_leaving_34 : decode cX10_leaving 34 = .ok (.getfield 35, 3) := dAX10_leaving (34, (.getfield 35, 3)) (List.mem_of_getElem? (i := 19) rfl)
theorem dX10_leaving_37 : decode cX10_leaving 37 = .ok (.invokevirtual 259, 3) := dAX10_leaving (37, (.invokevirtual 259, 3)) (List.mem_of_getElem? (i := 20) rfl)
theorem dX10_leaving_40 : decode cX10_leaving 40 = .ok (.ifCond .ne 7, 3) := dAX10_leaving (40, (.ifCond .ne 7, 3)) (List.mem_of_getElem? (i := 21) rfl)
theorem dX10_leaving_43 : decode cX10_leaving 43 = .ok (.iconst 0, 1) := dAX10_leaving (43, (.iconst 0, 1)) (List.mem_of_getElem? (i := 22) rfl)
theorem dX10_leaving_44 : decode cX10_leaving 44 = .ok (.goto 11, 3) := dAX10_leaving (44, (.goto 11, 3)) (List.mem_of_getElem? (i := 23) rfl)
theorem dX10_leaving_47 : decode cX10_leaving 47 = .ok (.aload_n 0, 1) := dAX10_leaving (47, (.aload_n 0, 1)) (List.mem_of_getElem? (i := 24) rfl)
theorem dX10_leaving_48 : decode cX10_leaving 48 = .ok (.aload_n 0, 1) := dAX10_leaving (48, (.aload_n 0, 1)) (List.mem_of_getElem? (i := 25) rfl)
theorem dX10_leaving_49 : decode cX10_leaving 49 = .ok (.getfield 35, 3) := dAX10_leaving (49, (.getfield 35, 3)) (List.mem_of_getElem? (i := 26) rfl)
theorem dX10_leaving_52 : decode cX10_leaving 52 = .ok (.invokevirtual 293, 3) := dAX10_leaving (52, (.invokevirtual 293, 3)) (List.mem_of_getElem? (i := 27) rfl)
theorem dX10_leaving_55 : decode cX10_leaving 55 = .ok (.ireturn, 1) := dAX10_leaving (55, (.ireturn, 1)) (List.mem_of_getElem? (i := 28) rfl)
set_option maxRecDepth 20000 in
theorem ggX10_leaving_X10_good : GoodIn wsX10_leaving wsX10_good := goodIn_r _ [8, 9, 10, 58, 59, 60, 61, 62, 63, 64, 65, 66, 67, 68, 69, 70, 71, 72, 73, 74, 75, 76, 77, 78, 79, 80, 81, 82, 83, 84, 85, 86, 87, 88, 89, 90, 91, 92] rfl (by decide +kernel)
set_option maxRecDepth 20000 in
theorem gX10_leaving_X10_good : GoodIn wsX10_leaving (wsV RX10 159 RX10 yX10_good wsX10_good) := goodIn_app (goodIn_of _ (by decide +kernel)) ggX10_leaving_X10_good
set_option maxRecDepth 20000 in
theorem ggX10_leaving_X10_no : GoodIn wsX10_leaving wsX10_no := goodIn_r _ [14, 10, 58, 59, 60, 61, 62, 63, 64, 65, 66, 67, 68, 69, 70, 71, 72, 73, 74, 75, 76, 77, 78, 79, 80, 81, 82, 83, 84, 85, 86, 87, 88, 89, 90, 91, 92] rfl (by decide +kernel)
set_option maxRecDepth 20000 in
theorem gX10_leaving_X10_no : GoodIn wsX10_leaving (wsV RX10 162 RX10 yX10_no wsX10_no) := goodIn_app (goodIn_of _ (by decide +kernel)) ggX10_leaving_X10_no
set_option maxRecDepth 20000 in
theorem ggX10_leaving_X10_copy : GoodIn wsX10_leaving wsX10_copy := goodIn_r _ [17] rfl (by decide +kernel)
set_option maxRecDepth 20000 in
theorem gX10_leaving_X10_copy : GoodIn wsX10_leaving (va_wsS RX10 168 yX10_copy wsX10_copy) := goodIn_app (goodIn_of _ (by decide +kernel)) ggX10_leaving_X10_copy
set_option maxRecDepth 20000 in
theorem ggX10_leaving_X10_thereOf : GoodIn wsX10_leaving wsX10_thereOf := goodIn_r _ [21, 22, 23, 24, 7, 25, 58, 59, 60, 61, 62, 63, 64, 65, 66, 67, 68, 69, 70, 71, 72, 73, 74, 75, 76, 77, 78, 79, 80, 81, 82, 83, 84, 85, 86, 87, 88, 89, 90, 91, 92] rfl (by decide +kernel)
set_option maxRecDepth 20000 in
theorem gX10_leaving_X10_thereOf : GoodIn wsX10_leaving (wsV RX10 259 RX10 yX10_thereOf wsX10_thereOf) := goodIn_app (goodIn_of _ (by decide +kernel)) ggX10_leaving_X10_thereOf
set_option maxRecDepth 20000 in
theorem ggX10_leaving_X10_hourOf : GoodIn wsX10_leaving wsX10_hourOf := goodIn_r _ [29, 22, 30, 31, 32, 7, 33, 23, 24, 25, 34, 35, 36, 37, 38, 39, 40, 41, 42, 43, 44, 45, 46, 18, 19, 20, 21, 47, 48, 49, 50, 51, 52, 53, 54, 55, 56, 57, 58, 59, 60, 61, 62, 63, 64, 65, 66, 67, 68, 69, 70, 71, 72, 73, 74, 75, 76, 77, 78, 79, 80, 81, 82, 83, 84, 85, 86, 87, 88, 89, 90, 91, 92] rfl (by decide +kernel)
set_option maxRecDepth 20000 in
theorem gX10_leaving_X10_hourOf : GoodIn wsX10_leaving (wsV RX10 293 RX10 yX10_hourOf wsX10_hourOf) := goodIn_app (goodIn_of _ (by decide +kernel)) ggX10_leaving_X10_hourOf
theorem kX10_leaving_176 : Cond.fieldLink RX10 176 "EveningVowModel" "hasEvening" "Z" ∈ wsX10_leaving := List.mem_of_getElem? (i := 1) rfl
theorem iX10_leaving_X10 : ∀ w ∈ u_ws RX10 TX10 35, w ∈ wsX10_leaving := fun w h => (List.mem_cons_of_mem _ (List.mem_append_right _ h))
theorem kX10_leaving_26 : Cond.fieldLink RX10 26 "EveningVowModel" "st" "[I" ∈ wsX10_leaving := List.mem_of_getElem? (i := 2) rfl
theorem kX10_leaving_35 : Cond.fieldLink RX10 35 "EveningVowModel" "trial" "[I" ∈ wsX10_leaving := List.mem_of_getElem? (i := 3) rfl
set_option maxHeartbeats 4000000 in
set_option maxRecDepth 100000 in
theorem mX10_leaving (l : Launch) (g : GG) (a_t : Nat) (p_t : Nat → Nat) (n : Nat) (o_t : Nat → Int32) (f_t_15 : Nat → Int32) (f_t_17 : Nat → Int32) (f_t_25 : Nat → Int32) (r : Int32) (o_t' : Nat → Int32) (f_t_25' : Nat → Int32) (hF : fX10_leaving n o_t f_t_15 f_t_17 f_t_25 = some (r, o_t', f_t_25')) : MI l g yX10_leaving wsX10_leaving ({ frames := 4, cells := 0, slots := 0, locals := 93 } : Room) [.ref a_t] [oX10 a_t p_t o_t, aI g (p_t 15) 266 f_t_15, aI g (p_t 17) 17 f_t_17, aI g (p_t 25) 17 f_t_25] r [oX10 a_t p_t o_t', aI g (p_t 15) 266 f_t_15, aI g (p_t 17) 17 f_t_17, aI g (p_t 25) 17 f_t_25'] := by
  refine MI.of (cc := cX10_leaving) (maxL := 1) (rt := .int) (own := RX10) rfl rfl (by decide) (Nat.le_of_ble_eq_true rfl) ?_
  intro p e s m args below meth c A C0 hP hD hS ls hl
  obtain ⟨hx, hb, hml, hown, hts, hr, hlk, hK, hA, hSW⟩ := id C0
  have hl : lv_has ls 1 [(0, .ref a_t)] := hl
  rw [fX10_leaving] at hF
  refine lv_aload_n hx hb dX10_leaving_0 rfl (lv_at hl 0 rfl) ?_
  obtain ⟨u_1, hu_2, hF⟩ := ob1_some hF
  refine call_v (wr := [aI g (p_t 15) 266 f_t_15, aI g (p_t 17) 17 f_t_17, aI g (p_t 25) 17 f_t_25]) (As := []) (rest := []) (ci := 10) (q0 := 0) C0 (mX10_good l g a_t p_t n o_t u_1 hu_2) (cwV 0 hts gX10_leaving_X10_good rfl rfl rfl (by decide +kernel) ⟨Nat.le_of_ble_eq_true rfl, Nat.le_of_ble_eq_true rfl⟩) hP hD hS [0] [1, 2, 3] rfl rfl rfl rfl rfl (by decide) rfl rfl hl.1 rfl rfl (Nat.le_of_ble_eq_true rfl) ⟨Nat.zero_le _, Nat.zero_le _⟩ dX10_leaving_1 ?_
  intro H locs hP hD hS
  refine lv_aload_n hx hb dX10_leaving_4 rfl (lv_at hl 0 rfl) ?_
  refine va_get (D := g.1) (ci := 10) (v := .int (u_1 14)) (C := RX10) (T := TX10) (N := 35) hx hb hts iX10_leaving_X10 hown hK.1 hP 3 rfl rfl 14 (by decide) (hts _ kX10_leaving_176) (fun _ h9 => h9) rfl dX10_leaving_5 ?_
  refine lv_if_ne (tgt := 17) hx hb dX10_leaving_8 (by decide) (fun c_3 => ?_) (fun c_3 => ?_)
  · have hF := it_n c_3 hF
    refine lv_aload_n hx hb dX10_leaving_17 rfl (lv_at hl 0 rfl) ?_
    refine va_get (D := g.1) (ci := 10) (v := .ref (p_t 17)) (C := RX10) (T := TX10) (N := 35) hx hb hts iX10_leaving_X10 hown hK.1 hP 3 rfl rfl 17 (by decide) (hts _ kX10_leaving_26) (fun _ h9 => h9) rfl dX10_leaving_18 ?_
    refine lv_iconst (v := (0 : Int32)) hx hb dX10_leaving_21 (by decide) ?_
    refine lv_aload_n hx hb dX10_leaving_22 rfl (lv_at hl 0 rfl) ?_
    refine va_get (D := g.1) (ci := 10) (v := .ref (p_t 25)) (C := RX10) (T := TX10) (N := 35) hx hb hts iX10_leaving_X10 hown hK.1 hP 3 rfl rfl 25 (by decide) (hts _ kX10_leaving_35) (fun _ h9 => h9) rfl dX10_leaving_23 ?_
    refine lv_iconst (v := (0 : Int32)) hx hb dX10_leaving_26 (by decide) ?_
    refine lv_bipush (v := (17 : Int32)) hx hb dX10_leaving_27 (by decide) ?_
    obtain ⟨u_4, hu_5, hF⟩ := ob1_some hF
    refine call_sv (wr := [aI g (p_t 15) 266 f_t_15, oX10 a_t p_t u_1]) (As := [.ref (p_t 17), .int (0 : Int32), .ref (p_t 25), .int (0 : Int32), .int (17 : Int32)]) (rest := []) C0 (mX10_copy l g (p_t 17) (p_t 25) n (0 : Int32) (0 : Int32) (17 : Int32) 17 17 f_t_17 f_t_25 u_4 hu_5) (va_cwS 5 hts gX10_leaving_X10_copy rfl rfl rfl (by decide +kernel) ⟨Nat.le_of_ble_eq_true rfl, Nat.le_of_ble_eq_true rfl⟩) hP hD hS [1, 2] [0, 3] rfl rfl rfl rfl rfl (by decide) hl.1 rfl rfl (Nat.le_of_ble_eq_true rfl) ⟨Nat.zero_le _, Nat.zero_le _⟩ dX10_leaving_29 ?_
    intro H locs hP hD hS
    refine lv_aload_n hx hb dX10_leaving_32 rfl (lv_at hl 0 rfl) ?_
    refine lv_aload_n hx hb dX10_leaving_33 rfl (lv_at hl 0 rfl) ?_
    refine va_get (D := g.1) (ci := 10) (v := .ref (p_t 25)) (C := RX10) (T := TX10) (N := 35) hx hb hts iX10_leaving_X10 hown hK.1 hP 1 rfl rfl 25 (by decide) (hts _ kX10_leaving_35) (fun _ h9 => h9) rfl dX10_leaving_34 ?_
    obtain ⟨u_6, hu_7, hF⟩ := ob1_some hF
    refine call_i (wr := [aI g (p_t 17) 17 f_t_17]) (As := [.ref (p_t 25)]) (rest := []) (ci := 10) (q0 := 0) C0 (mX10_thereOf l g a_t (p_t 25) p_t n u_1 f_t_15 u_4 u_6 hu_7) (cwV 1 hts gX10_leaving_X10_thereOf rfl rfl rfl (by decide +kernel) ⟨Nat.le_of_ble_eq_true rfl, Nat.le_of_ble_eq_true rfl⟩) hP hD hS [1, 0, 3] [2] rfl rfl rfl rfl rfl (by decide) rfl rfl hl.1 rfl rfl (Nat.le_of_ble_eq_true rfl) ⟨Nat.zero_le _, Nat.zero_le _⟩ dX10_leaving_37 ?_
    intro H locs hP hD hS
    refine lv_if_ne (tgt := 47) hx hb dX10_leaving_40 (by decide) (fun c_8 => ?_) (fun c_8 => ?_)
    · have hF := it_n c_8 hF
      refine lv_aload_n hx hb dX10_leaving_47 rfl (lv_at hl 0 rfl) ?_
      refine lv_aload_n hx hb dX10_leaving_48 rfl (lv_at hl 0 rfl) ?_
      refine va_get (D := g.1) (ci := 10) (v := .ref (p_t 25)) (C := RX10) (T := TX10) (N := 35) hx hb hts iX10_leaving_X10 hown hK.1 hP 1 rfl rfl 25 (by decide) (hts _ kX10_leaving_35) (fun _ h9 => h9) rfl dX10_leaving_49 ?_
      obtain ⟨u_9, u_10, u_11, hu_12, hF⟩ := ob3_some hF
      refine call_i (wr := [aI g (p_t 17) 17 f_t_17]) (As := [.ref (p_t 25)]) (rest := []) (ci := 10) (q0 := 0) C0 (mX10_hourOf l g a_t (p_t 25) p_t n u_1 f_t_15 u_4 u_9 u_10 u_11 hu_12) (cwV 1 hts gX10_leaving_X10_hourOf rfl rfl rfl (by decide +kernel) ⟨Nat.le_of_ble_eq_true rfl, Nat.le_of_ble_eq_true rfl⟩) hP hD hS [1, 2, 3] [0] rfl rfl rfl rfl rfl (by decide) rfl rfl hl.1 rfl rfl (Nat.le_of_ble_eq_true rfl) ⟨Nat.zero_le _, Nat.zero_le _⟩ dX10_leaving_52 ?_
      intro H locs hP hD hS
      cases hF
      exact ret_i C0 hP hD hS [1, 2, 0, 3] rfl rfl rfl dX10_leaving_55 rfl
    · have hF := it_p c_8 hF
      refine lv_iconst (v := (0 : Int32)) hx hb dX10_leaving_43 (by decide) ?_
      refine lv_goto (tgt := 55) hx hb dX10_leaving_44 (by decide) ?_
      cases hF
      exact ret_i C0 hP hD hS [1, 2, 0, 3] rfl rfl rfl dX10_leaving_55 rfl
  · have hF := it_p c_3 hF
    refine lv_aload_n hx hb dX10_leaving_11 rfl (lv_at hl 0 rfl) ?_
    refine lv_iconst (v := (1 : Int32)) hx hb dX10_leaving_12 (by decide) ?_
    obtain ⟨u_13, u_14, hu_15, hF⟩ := ob2_some hF
    refine call_i (wr := [aI g (p_t 15) 266 f_t_15, aI g (p_t 17) 17 f_t_17, aI g (p_t 25) 17 f_t_25]) (As := [.int (1 : Int32)]) (rest := []) (ci := 10) (q0 := 0) C0 (mX10_no l g a_t p_t n (1 : Int32) u_1 u_13 u_14 hu_15) (cwV 1 hts gX10_leaving_X10_no rfl rfl rfl (by decide +kernel) ⟨Nat.le_of_ble_eq_true rfl, Nat.le_of_ble_eq_true rfl⟩) hP hD hS [3] [0, 1, 2] rfl rfl rfl rfl rfl (by decide) rfl rfl hl.1 rfl rfl (Nat.le_of_ble_eq_true rfl) ⟨Nat.zero_le _, Nat.zero_le _⟩ dX10_leaving_13 ?_
    intro H locs hP hD hS
    cases hF
    exact ret_i C0 hP hD hS [3, 0, 1, 2] rfl rfl rfl dX10_leaving_16 rfl

theorem dAX10_thereIn : ∀ q ∈ ([(0, (.aload_n 0, 1)), (1, (.invokevirtual 159, 3)), (4, (.aload_n 0, 1)), (5, (.getfield 176, 3)), (8, (.ifCond .ne 9, 3)), (11, (.aload_n 0, 1)), (12, (.iconst 1, 1)), (13, (.invokevirtual 162, 3)), (16, (.ireturn, 1)), (17, (.iload_n 1, 1)), (18, (.iconst 0, 1)), (19, (.bipush 60, 2)), (21, (.invokestatic 144, 3)), (24, (.ifCond .ne 9, 3)), (27, (.aload_n 0, 1)), (28, (.iconst 2, 1)), (29, (.invokevirtual 162, 3)), (32, (.ireturn, 1)), (33, (.aload_n 0, 1)), (34, (.getfield 26, 3)), (37, (.iconst 0, 1)), (38, (.aload_n 0, 1)), (39, (.getfield 35, 3)), (42, (.iconst 0, 1)), (43, (.bipush 17, 2)), (45, (.invokestatic 168, 3)), (48, (.iconst 0, 1)), (49, (.istore_n 2, 1)), (50, (.iload_n 2, 1)), (51, (.iload_n 1, 1)), (52, (.if_icmp .ge 18, 3)), (55, (.aload_n 0, 1)), (56, (.aload_n 0, 1)), (57, (.getfield 35, 3)), (60, (.invokevirtual 293, 3)), (63, (.pop, 1)), (64, (.iinc 2 1, 3)), (67, (.goto (-17), 3)), (70, (.aload_n 0, 1)), (71, (.aload_n 0, 1)), (72, (.getfield 35, 3)), (75, (.invokevirtual 259, 3)), (78, (.ireturn, 1))] : List (Nat × (Instr × Nat))), decode cX10_thereIn q.1 = .ok q.2 := by decide +kernel
theorem dX10_thereIn_0 : decode cX10_thereIn 0 = .ok (.aload_n 0, 1) := dAX10_thereIn (0, (.aload_n 0, 1)) (List.mem_of_getElem? (i := 0) rfl)
theorem dX10_thereIn_1 : decode cX10_thereIn 1 = .ok (.invokevirtual 159, 3) := dAX10_thereIn (1, (.invokevirtual 159, 3)) (List.mem_of_getElem? (i := 1) rfl)
theorem dX10_thereIn_4 : decode cX10_thereIn 4 = .ok (.aload_n 0, 1) := dAX10_thereIn (4, (.aload_n 0, 1)) (List.mem_of_getElem? (i := 2) rfl)
theorem dX10_thereIn_5 : decode cX10_thereIn 5 = .ok (.getfield 176, 3) := dAX10_thereIn (5, (.getfield 176, 3)) (List.mem_of_getElem? (i := 3) rfl)
theorem dX10_thereIn_8 : decode cX10_thereIn 8 = .ok (.ifCond .ne 9, 3) := dAX10_thereIn (8, (.ifCond .ne 9, 3)) (List.mem_of_getElem? (i := 4) rfl)
theorem dX10_thereIn_11 : decode cX10_thereIn 11 = .ok (.aload_n 0, 1) := dAX10_thereIn (11, (.aload_n 0, 1)) (List.mem_of_getElem? (i := 5) rfl)
theorem dX10_thereIn_12 : decode cX10_thereIn 12 = .ok (.iconst 1, 1) := dAX10_thereIn (12, (.iconst 1, 1)) (List.mem_of_getElem? (i := 6) rfl)
theorem dX10_thereIn_13 : decode cX10_thereIn 13 = .ok (.invokevirtual 162, 3) := dAX10_thereIn (13, (.invokevirtual 162, 3)) (List.mem_of_getElem? (i := 7) rfl)
theorem dX10_thereIn_16 : decode cX10_thereIn 16 = .ok (.ireturn, 1) := dAX10_thereIn (16, (.ireturn, 1)) (List.mem_of_getElem? (i := 8) rfl)
theorem dX10_thereIn_17 : decode cX10_thereIn 17 = .ok (.iload_n 1, 1) := dAX10_thereIn (17, (.iload_n 1, 1)) (List.mem_of_getElem? (i := 9) rfl)
theorem dX10_thereIn_18 : decode cX10_thereIn 18 = .ok (.iconst 0, 1) := dAX10_thereIn (18, (.iconst 0, 1)) (List.mem_of_getElem? (i := 10) rfl)
theorem dX10_thereIn_19 : decode cX10_thereIn 19 = .ok (.bipush 60, 2) := dAX10_thereIn (19, (.bipush 60, 2)) (List.mem_of_getElem? (i := 11) rfl)
theorem dX10_thereIn_21 : decode cX10_thereIn 21 = .ok (.invokestatic 144, 3) := dAX10_thereIn (21, (.invokestatic 144, 3)) (List.mem_of_getElem? (i := 12) rfl)
theorem dX10_thereIn_24 : decode cX10_thereIn 24 = .ok (.ifCond .ne 9, 3) := dAX10_thereIn (24, (.ifCond .ne 9, 3)) (List.mem_of_getElem? (i := 13) rfl)
theorem dX10_thereIn_27 : decode cX10_thereIn 27 = .ok (.aload_n 0, 1) := dAX10_thereIn (27, (.aload_n 0, 1)) (List.mem_of_getElem? (i := 14) rfl)
theorem dX10_thereIn_28 : decode cX10_thereIn 28 = .ok (.iconst 2, 1) := dAX10_thereIn (28, (.iconst 2, 1)) (List.mem_of_getElem? (i := 15) rfl)
theorem dX10_thereIn_29 : decode cX10_thereIn 29 = .ok (.invokevirtual 162, 3) := dAX10_thereIn (29, (.invokevirtual 162, 3)) (List.mem_of_getElem? (i := 16) rfl)
theorem dX10_thereIn_32 : decode cX10_thereIn 32 = .ok (.ireturn, 1) := dAX10_thereIn (32, (.ireturn, 1)) (List.mem_of_getElem? (i := 17) rfl)
theorem dX10_thereIn_33 : decode cX10_thereIn 33 = .ok (.aload_n 0, 1) := dAX10_thereIn (33, (.aload_n 0, 1)) (List.mem_of_getElem? (i := 18) rfl)
theorem dX10_thereIn_34 : decode cX10_thereIn 34 = .ok (.getfield 26, 3) := dAX10_thereIn (34, (.getfield 26, 3)) (List.mem_of_getElem? (i := 19) rfl)
theorem dX10_thereIn_37 : decode cX10_thereIn 37 = .ok (.iconst 0, 1) := dAX10_thereIn (37, (.iconst 0, 1)) (List.mem_of_getElem? (i := 20) rfl)
theorem dX10_thereIn_38 : decode cX10_thereIn 38 = .ok (.aload_n 0, 1) := dAX10_thereIn (38, (.aload_n 0, 1)) (List.mem_of_getElem? (i := 21) rfl)
theorem dX10_thereIn_39 : decode cX10_thereIn 39 = .ok (.getfield 35, 3) := dAX10_thereIn (39, (.getfield 35, 3)) (List.mem_of_getElem? (i := 22) rfl)
theorem dX10_thereIn_42 : decode cX10_thereIn 42 = .ok (.iconst 0, 1) := dAX10_thereIn (42, (.iconst 0, 1)) (List.mem_of_getElem? (i := 23) rfl)
theorem dX10_thereIn_43 : decode cX10_thereIn 43 = .ok (.bipush 17, 2) := dAX10_thereIn (43, (.bipush 17, 2)) (List.mem_of_getElem? (i := 24) rfl)
theorem dX10_thereIn_45 : decode cX10_thereIn 45 = .ok (.invokestatic 168, 3) := dAX10_thereIn (45, (.invokestatic 168, 3)) (List.mem_of_getElem? (i := 25) rfl)
theorem dX10_thereIn_48 : decode cX10_thereIn 48 = .ok (.iconst 0, 1) := dAX10_thereIn (48, (.iconst 0, 1)) (List.mem_of_getElem? (i := 26) rfl)
theorem dX10_thereIn_49 : decode cX10_thereIn 49 = .ok (.istore_n 2, 1) := dAX10_thereIn (49, (.istore_n 2, 1)) (List.mem_of_getElem? (i := 27) rfl)
theorem dX10_thereIn_50 : decode cX10_thereIn 50 = .ok (.iload_n 2, 1) := dAX10_thereIn (50, (.iload_n 2, 1)) (List.mem_of_getElem? (i := 28) rfl)
theorem dX10_thereIn_51 : decode cX10_thereIn 51 = .ok (.iload_n 1, 1) := dAX10_thereIn (51, (.iload_n 1, 1)) (List.mem_of_getElem? (i := 29) rfl)
theorem dX10_thereIn_52 : decode cX10_thereIn 52 = .ok (.if_icmp .ge 18, 3) := dAX10_thereIn (52, (.if_icmp .ge 18, 3)) (List.mem_of_getElem? (i := 30) rfl)
theorem dX10_thereIn_55 : decode cX10_thereIn 55 = .ok (.aload_n 0, 1) := dAX10_thereIn (55, (.aload_n 0, 1)) (List.mem_of_getElem? (i := 31) rfl)
theorem dX10_thereIn_56 : decode cX10_thereIn 56 = .ok (.aload_n 0, 1) := dAX10_thereIn (56, (.aload_n 0, 1)) (List.mem_of_getElem? (i := 32) rfl)
theorem dX10_thereIn_57 : decode cX10_thereIn 57 = .ok (.getfield 35, 3) := dAX10_thereIn (57, (.getfield 35, 3)) (List.mem_of_getElem? (i := 33) rfl)
theorem dX10_thereIn_60 : decode cX10_thereIn 60 = .ok (.invokevirtual 293, 3) := dAX10_thereIn (60, (.invokevirtual 293, 3)) (List.mem_of_getElem? (i := 34) rfl)
theorem dX10_thereIn_63 : decode cX10_thereIn 63 = .ok (.pop, 1) := dAX10_thereIn (63, (.pop, 1)) (List.mem_of_getElem? (i := 35) rfl)
theorem dX10_thereIn_64 : decode cX10_thereIn 64 = .ok (.iinc 2 1, 3) := dAX10_thereIn (64, (.iinc 2 1, 3)) (List.mem_of_getElem? (i := 36) rfl)
theorem dX10_thereIn_67 : decode cX10_thereIn 67 = .ok (.goto (-17), 3) := dAX10_thereIn (67, (.goto (-17), 3)) (List.mem_of_getElem? (i := 37) rfl)
theorem dX10_thereIn_70 : decode cX10_thereIn 70 = .ok (.aload_n 0, 1) := dAX10_thereIn (70, (.aload_n 0, 1)) (List.mem_of_getElem? (i := 38) rfl)
theorem dX10_thereIn_71 : decode cX10_thereIn 71 = .ok (.aload_n 0, 1) := dAX10_thereIn (71, (.aload_n 0, 1)) (List.mem_of_getElem? (i := 39) rfl)
theorem dX10_thereIn_72 : decode cX10_thereIn 72 = .ok (.getfield 35, 3) := dAX10_thereIn (72, (.getfield 35, 3)) (List.mem_of_getElem? (i := 40) rfl)
theorem dX10_thereIn_75 : decode cX10_thereIn 75 = .ok (.invokevirtual 259, 3) := dAX10_thereIn (75, (.invokevirtual 259, 3)) (List.mem_of_getElem? (i := 41) rfl)
theorem dX10_thereIn_78 : decode cX10_thereIn 78 = .ok (.ireturn, 1) := dAX10_thereIn (78, (.ireturn, 1)) (List.mem_of_getElem? (i := 42) rfl)
set_option maxRecDepth 20000 in
theorem ggX10_thereIn_X10_good : GoodIn wsX10_thereIn wsX10_good := goodIn_r _ [8, 9, 10, 61, 62, 63, 64, 65, 66, 67, 68, 69, 70, 71, 72, 73, 74, 75, 76, 77, 78, 79, 80, 81, 82, 83, 84, 85, 86, 87, 88, 89, 90, 91, 92, 93, 94, 95] rfl (by decide +kernel)
set_option maxRecDepth 20000 in
theorem gX10_thereIn_X10_good : GoodIn wsX10_thereIn (wsV RX10 159 RX10 yX10_good wsX10_good) := goodIn_app (goodIn_of _ (by decide +kernel)) ggX10_thereIn_X10_good
set_option maxRecDepth 20000 in
theorem ggX10_thereIn_X10_no : GoodIn wsX10_thereIn wsX10_no := goodIn_r _ [14, 10, 61, 62, 63, 64, 65, 66, 67, 68, 69, 70, 71, 72, 73, 74, 75, 76, 77, 78, 79, 80, 81, 82, 83, 84, 85, 86, 87, 88, 89, 90, 91, 92, 93, 94, 95] rfl (by decide +kernel)
set_option maxRecDepth 20000 in
theorem gX10_thereIn_X10_no : GoodIn wsX10_thereIn (wsV RX10 162 RX10 yX10_no wsX10_no) := goodIn_app (goodIn_of _ (by decide +kernel)) ggX10_thereIn_X10_no
set_option maxRecDepth 20000 in
theorem ggX10_thereIn_X10_in : GoodIn wsX10_thereIn wsX10_in := goodIn_r _ [17] rfl (by decide +kernel)
set_option maxRecDepth 20000 in
theorem gX10_thereIn_X10_in : GoodIn wsX10_thereIn (va_wsS RX10 144 yX10_in wsX10_in) := goodIn_app (goodIn_of _ (by decide +kernel)) ggX10_thereIn_X10_in
set_option maxRecDepth 20000 in
theorem ggX10_thereIn_X10_copy : GoodIn wsX10_thereIn wsX10_copy := goodIn_r _ [20] rfl (by decide +kernel)
set_option maxRecDepth 20000 in
theorem gX10_thereIn_X10_copy : GoodIn wsX10_thereIn (va_wsS RX10 168 yX10_copy wsX10_copy) := goodIn_app (goodIn_of _ (by decide +kernel)) ggX10_thereIn_X10_copy
set_option maxRecDepth 20000 in
theorem ggX10_thereIn_X10_hourOf : GoodIn wsX10_thereIn wsX10_hourOf := goodIn_r _ [24, 25, 26, 27, 28, 7, 29, 30, 31, 32, 33, 34, 35, 36, 37, 38, 39, 40, 41, 42, 43, 44, 45, 46, 47, 48, 49, 50, 51, 52, 53, 54, 55, 56, 57, 58, 59, 60, 61, 62, 63, 64, 65, 66, 67, 68, 69, 70, 71, 72, 73, 74, 75, 76, 77, 78, 79, 80, 81, 82, 83, 84, 85, 86, 87, 88, 89, 90, 91, 92, 93, 94, 95] rfl (by decide +kernel)
set_option maxRecDepth 20000 in
theorem gX10_thereIn_X10_hourOf : GoodIn wsX10_thereIn (wsV RX10 293 RX10 yX10_hourOf wsX10_hourOf) := goodIn_app (goodIn_of _ (by decide +kernel)) ggX10_thereIn_X10_hourOf
set_option maxRecDepth 20000 in
theorem ggX10_thereIn_X10_thereOf : GoodIn wsX10_thereIn wsX10_thereOf := goodIn_r _ [49, 25, 30, 31, 7, 32, 61, 62, 63, 64, 65, 66, 67, 68, 69, 70, 71, 72, 73, 74, 75, 76, 77, 78, 79, 80, 81, 82, 83, 84, 85, 86, 87, 88, 89, 90, 91, 92, 93, 94, 95] rfl (by decide +kernel)
set_option maxRecDepth 20000 in
theorem gX10_thereIn_X10_thereOf : GoodIn wsX10_thereIn (wsV RX10 259 RX10 yX10_thereOf wsX10_thereOf) := goodIn_app (goodIn_of _ (by decide +kernel)) ggX10_thereIn_X10_thereOf
theorem kX10_thereIn_176 : Cond.fieldLink RX10 176 "EveningVowModel" "hasEvening" "Z" ∈ wsX10_thereIn := List.mem_of_getElem? (i := 1) rfl
theorem iX10_thereIn_X10 : ∀ w ∈ u_ws RX10 TX10 35, w ∈ wsX10_thereIn := fun w h => (List.mem_cons_of_mem _ (List.mem_append_right _ h))
theorem kX10_thereIn_26 : Cond.fieldLink RX10 26 "EveningVowModel" "st" "[I" ∈ wsX10_thereIn := List.mem_of_getElem? (i := 2) rfl
theorem kX10_thereIn_35 : Cond.fieldLink RX10 35 "EveningVowModel" "trial" "[I" ∈ wsX10_thereIn := List.mem_of_getElem? (i := 3) rfl
set_option maxHeartbeats 4000000 in
set_option maxRecDepth 100000 in
theorem wX10_thereIn_L50 {p : Program} {l : Launch} {e : Env} {s : State} {m : MethodId} {args : Array Value} {below : List Frame} {meth : Method} {c : Code} {g : GG} {A : Nat → Prop} (C0 : Cx p s m args meth c cX10_thereIn 3 (some .int) RX10 wsX10_thereIn g A) (a_t : Nat) (p_t : Nat → Nat) (n : Nat) (x1 : Int32) (f_t_15 : Nat → Int32) (f_t_17 : Nat → Int32) (r : Int32) (o_t' : Nat → Int32) (f_t_25' : Nat → Int32) (K : (Nat → Int32) → (Nat → Int32) → Option (Int32 × (Nat → Int32) × (Nat → Int32))) (hKx : ∀ (o_t : Nat → Int32) (f_t_25 : Nat → Int32) (H : Heap) (locs : List Loc) (ls : Array Slot), K o_t f_t_25 = some (r, o_t', f_t_25') → va_P g.1 vwCl [oX10 a_t p_t o_t, aI g (p_t 15) 266 f_t_15, aI g (p_t 17) 17 f_t_17, aI g (p_t 25) 17 f_t_25] H → va_D A [oX10 a_t p_t o_t, aI g (p_t 15) 266 f_t_15, aI g (p_t 17) 17 f_t_17, aI g (p_t 25) 17 f_t_25] → va_S A s.heap H locs → lv_has ls 3 [(0, .ref a_t)] → W p l e ({ frames := 4, cells := 0, slots := 0, locals := 93 } : Room) s m args below meth c H locs 0 0 (MQ below (EndI g r [oX10 a_t p_t o_t', aI g (p_t 15) 266 f_t_15, aI g (p_t 17) 17 f_t_17, aI g (p_t 25) 17 f_t_25'] A) args s 0 0 A) (F0 m 70 ls [])) : ∀ (k : Nat) (x2 : Int32) (o_t : Nat → Int32) (f_t_25 : Nat → Int32), fX10_thereIn_L50 n x1 f_t_15 K k x2 o_t f_t_25 = some (r, o_t', f_t_25') → ∀ (H : Heap) (locs : List Loc) (ls : Array Slot), va_P g.1 vwCl [oX10 a_t p_t o_t, aI g (p_t 15) 266 f_t_15, aI g (p_t 17) 17 f_t_17, aI g (p_t 25) 17 f_t_25] H → va_D A [oX10 a_t p_t o_t, aI g (p_t 15) 266 f_t_15, aI g (p_t 17) 17 f_t_17, aI g (p_t 25) 17 f_t_25] → va_S A s.heap H locs → lv_has ls 3 [(0, .ref a_t), (1, .int x1), (2, .int x2)] → W p l e ({ frames := 4, cells := 0, slots := 0, locals := 93 } : Room) s m args below meth c H locs 0 0 (MQ below (EndI g r [oX10 a_t p_t o_t', aI g (p_t 15) 266 f_t_15, aI g (p_t 17) 17 f_t_17, aI g (p_t 25) 17 f_t_25'] A) args s 0 0 A) (F0 m 50 ls []) := by
  obtain ⟨hx, hb, hml, hown, hts, hr, hlk, hK, hA, hSW⟩ := id C0
  intro k
  induction k with
  | zero =>
    intro x2 o_t f_t_25 hF
    exact absurd hF (by simp [fX10_thereIn_L50])
  | succ k ih =>
    intro x2 o_t f_t_25 hF H locs ls hP hD hS hl
    rw [fX10_thereIn_L50] at hF
    refine lv_iload_n hx hb dX10_thereIn_50 rfl (lv_at hl 2 rfl) ?_
    refine lv_iload_n hx hb dX10_thereIn_51 rfl (lv_at hl 1 rfl) ?_
    refine lv_icmp_ge (tgt := 70) hx hb dX10_thereIn_52 (by decide) (fun c_9 => ?_) (fun c_9 => ?_)
    · have hF := it_p c_9 hF
      exact hKx o_t f_t_25 _ _ _ hF (hP.sub [0, 1, 2, 3] rfl) (hD.sub [0, 1, 2, 3] rfl rfl) hS (lv_sub hl [0] rfl)
    · have hF := it_n c_9 hF
      refine lv_aload_n hx hb dX10_thereIn_55 rfl (lv_at hl 0 rfl) ?_
      refine lv_aload_n hx hb dX10_thereIn_56 rfl (lv_at hl 0 rfl) ?_
      refine va_get (D := g.1) (ci := 10) (v := .ref (p_t 25)) (C := RX10) (T := TX10) (N := 35) hx hb hts iX10_thereIn_X10 hown hK.1 hP 0 rfl rfl 25 (by decide) (hts _ kX10_thereIn_35) (fun _ h9 => h9) rfl dX10_thereIn_57 ?_
      obtain ⟨u_10, u_11, u_12, hu_13, hF⟩ := ob3_some hF
      refine call_i (wr := [aI g (p_t 17) 17 f_t_17]) (As := [.ref (p_t 25)]) (rest := []) (ci := 10) (q0 := 0) C0 (mX10_hourOf l g a_t (p_t 25) p_t n o_t f_t_15 f_t_25 u_10 u_11 u_12 hu_13) (cwV 1 hts gX10_thereIn_X10_hourOf rfl rfl rfl (by decide +kernel) ⟨Nat.le_of_ble_eq_true rfl, Nat.le_of_ble_eq_true rfl⟩) hP hD hS [0, 1, 3] [2] rfl rfl rfl rfl rfl (by decide) rfl rfl hl.1 rfl rfl (Nat.le_of_ble_eq_true rfl) ⟨Nat.zero_le _, Nat.zero_le _⟩ dX10_thereIn_60 ?_
      intro H locs hP hD hS
      refine lv_pop hx hb dX10_thereIn_63 rfl ?_
      refine lv_iinc (v := (x2 + (1 : Int32))) (lv' := [(2, .int (x2 + (1 : Int32))), (0, .ref a_t), (1, .int x1)]) hx hb dX10_thereIn_64 hl (k := 2) rfl rfl (by decide) rfl (fun ls hl => ?_)
      refine lv_goto (tgt := 50) hx hb dX10_thereIn_67 (by decide) ?_
      exact ih (x2 + (1 : Int32)) u_11 u_12 hF _ _ _ (hP.sub [1, 2, 0, 3] rfl) (hD.sub [1, 2, 0, 3] rfl rfl) hS (lv_sub hl [1, 2, 0] rfl)
set_option maxHeartbeats 4000000 in
set_option maxRecDepth 100000 in
theorem mX10_thereIn (l : Launch) (g : GG) (a_t : Nat) (p_t : Nat → Nat) (n : Nat) (x1 : Int32) (o_t : Nat → Int32) (f_t_15 : Nat → Int32) (f_t_17 : Nat → Int32) (f_t_25 : Nat → Int32) (r : Int32) (o_t' : Nat → Int32) (f_t_25' : Nat → Int32) (hF : fX10_thereIn n x1 o_t f_t_15 f_t_17 f_t_25 = some (r, o_t', f_t_25')) : MI l g yX10_thereIn wsX10_thereIn ({ frames := 4, cells := 0, slots := 0, locals := 93 } : Room) [.ref a_t, .int x1] [oX10 a_t p_t o_t, aI g (p_t 15) 266 f_t_15, aI g (p_t 17) 17 f_t_17, aI g (p_t 25) 17 f_t_25] r [oX10 a_t p_t o_t', aI g (p_t 15) 266 f_t_15, aI g (p_t 17) 17 f_t_17, aI g (p_t 25) 17 f_t_25'] := by
  refine MI.of (cc := cX10_thereIn) (maxL := 3) (rt := .int) (own := RX10) rfl rfl (by decide) (Nat.le_of_ble_eq_true rfl) ?_
  intro p e s m args below meth c A C0 hP hD hS ls hl
  obtain ⟨hx, hb, hml, hown, hts, hr, hlk, hK, hA, hSW⟩ := id C0
  have hl : lv_has ls 3 [(0, .ref a_t), (1, .int x1)] := hl
  rw [fX10_thereIn] at hF
  refine lv_aload_n hx hb dX10_thereIn_0 rfl (lv_at hl 0 rfl) ?_
  obtain ⟨u_1, hu_2, hF⟩ := ob1_some hF
  refine call_v (wr := [aI g (p_t 15) 266 f_t_15, aI g (p_t 17) 17 f_t_17, aI g (p_t 25) 17 f_t_25]) (As := []) (rest := []) (ci := 10) (q0 := 0) C0 (mX10_good l g a_t p_t n o_t u_1 hu_2) (cwV 0 hts gX10_thereIn_X10_good rfl rfl rfl (by decide +kernel) ⟨Nat.le_of_ble_eq_true rfl, Nat.le_of_ble_eq_true rfl⟩) hP hD hS [0] [1, 2, 3] rfl rfl rfl rfl rfl (by decide) rfl rfl hl.1 rfl rfl (Nat.le_of_ble_eq_true rfl) ⟨Nat.zero_le _, Nat.zero_le _⟩ dX10_thereIn_1 ?_
  intro H locs hP hD hS
  refine lv_aload_n hx hb dX10_thereIn_4 rfl (lv_at hl 0 rfl) ?_
  refine va_get (D := g.1) (ci := 10) (v := .int (u_1 14)) (C := RX10) (T := TX10) (N := 35) hx hb hts iX10_thereIn_X10 hown hK.1 hP 3 rfl rfl 14 (by decide) (hts _ kX10_thereIn_176) (fun _ h9 => h9) rfl dX10_thereIn_5 ?_
  refine lv_if_ne (tgt := 17) hx hb dX10_thereIn_8 (by decide) (fun c_3 => ?_) (fun c_3 => ?_)
  · have hF := it_n c_3 hF
    refine lv_iload_n hx hb dX10_thereIn_17 rfl (lv_at hl 1 rfl) ?_
    refine lv_iconst (v := (0 : Int32)) hx hb dX10_thereIn_18 (by decide) ?_
    refine lv_bipush (v := (60 : Int32)) hx hb dX10_thereIn_19 (by decide) ?_
    obtain ⟨u_4, hu_5, hF⟩ := ob1_some hF
    refine call_si (wr := [aI g (p_t 15) 266 f_t_15, aI g (p_t 17) 17 f_t_17, aI g (p_t 25) 17 f_t_25, oX10 a_t p_t u_1]) (As := [.int x1, .int (0 : Int32), .int (60 : Int32)]) (rest := []) C0 (mX10_in l g n x1 (0 : Int32) (60 : Int32) u_4 hu_5) (va_cwS 3 hts gX10_thereIn_X10_in rfl rfl rfl (by decide +kernel) ⟨Nat.le_of_ble_eq_true rfl, Nat.le_of_ble_eq_true rfl⟩) hP hD hS [] [0, 1, 2, 3] rfl rfl rfl rfl rfl (by decide) hl.1 rfl rfl (Nat.le_of_ble_eq_true rfl) ⟨Nat.zero_le _, Nat.zero_le _⟩ dX10_thereIn_21 ?_
    intro H locs hP hD hS
    refine lv_if_ne (tgt := 33) hx hb dX10_thereIn_24 (by decide) (fun c_6 => ?_) (fun c_6 => ?_)
    · have hF := it_n c_6 hF
      refine lv_aload_n hx hb dX10_thereIn_33 rfl (lv_at hl 0 rfl) ?_
      refine va_get (D := g.1) (ci := 10) (v := .ref (p_t 17)) (C := RX10) (T := TX10) (N := 35) hx hb hts iX10_thereIn_X10 hown hK.1 hP 3 rfl rfl 17 (by decide) (hts _ kX10_thereIn_26) (fun _ h9 => h9) rfl dX10_thereIn_34 ?_
      refine lv_iconst (v := (0 : Int32)) hx hb dX10_thereIn_37 (by decide) ?_
      refine lv_aload_n hx hb dX10_thereIn_38 rfl (lv_at hl 0 rfl) ?_
      refine va_get (D := g.1) (ci := 10) (v := .ref (p_t 25)) (C := RX10) (T := TX10) (N := 35) hx hb hts iX10_thereIn_X10 hown hK.1 hP 3 rfl rfl 25 (by decide) (hts _ kX10_thereIn_35) (fun _ h9 => h9) rfl dX10_thereIn_39 ?_
      refine lv_iconst (v := (0 : Int32)) hx hb dX10_thereIn_42 (by decide) ?_
      refine lv_bipush (v := (17 : Int32)) hx hb dX10_thereIn_43 (by decide) ?_
      obtain ⟨u_7, hu_8, hF⟩ := ob1_some hF
      refine call_sv (wr := [aI g (p_t 15) 266 f_t_15, oX10 a_t p_t u_1]) (As := [.ref (p_t 17), .int (0 : Int32), .ref (p_t 25), .int (0 : Int32), .int (17 : Int32)]) (rest := []) C0 (mX10_copy l g (p_t 17) (p_t 25) n (0 : Int32) (0 : Int32) (17 : Int32) 17 17 f_t_17 f_t_25 u_7 hu_8) (va_cwS 5 hts gX10_thereIn_X10_copy rfl rfl rfl (by decide +kernel) ⟨Nat.le_of_ble_eq_true rfl, Nat.le_of_ble_eq_true rfl⟩) hP hD hS [1, 2] [0, 3] rfl rfl rfl rfl rfl (by decide) hl.1 rfl rfl (Nat.le_of_ble_eq_true rfl) ⟨Nat.zero_le _, Nat.zero_le _⟩ dX10_thereIn_45 ?_
      intro H locs hP hD hS
      refine lv_iconst (v := (0 : Int32)) hx hb dX10_thereIn_48 (by decide) ?_
      refine lv_istore_n (lv' := [(2, .int (0 : Int32)), (0, .ref a_t), (1, .int x1)]) hx hb dX10_thereIn_49 rfl hl (by decide) rfl (fun ls hl => ?_)
      refine wX10_thereIn_L50 C0 a_t p_t n x1 f_t_15 f_t_17 r o_t' f_t_25' _ ?_ n (0 : Int32) u_1 u_7 hF _ _ _ (hP.sub [1, 0, 2, 3] rfl) (hD.sub [1, 0, 2, 3] rfl rfl) hS (lv_sub hl [1, 2, 0] rfl)
      · intro o_t_x50 f_t_25_x50 H locs ls hF hP hD hS hl
        refine lv_aload_n hx hb dX10_thereIn_70 rfl (lv_at hl 0 rfl) ?_
        refine lv_aload_n hx hb dX10_thereIn_71 rfl (lv_at hl 0 rfl) ?_
        refine va_get (D := g.1) (ci := 10) (v := .ref (p_t 25)) (C := RX10) (T := TX10) (N := 35) hx hb hts iX10_thereIn_X10 hown hK.1 hP 0 rfl rfl 25 (by decide) (hts _ kX10_thereIn_35) (fun _ h9 => h9) rfl dX10_thereIn_72 ?_
        obtain ⟨u_14, hu_15, hF⟩ := ob1_some hF
        refine call_i (wr := [aI g (p_t 17) 17 f_t_17]) (As := [.ref (p_t 25)]) (rest := []) (ci := 10) (q0 := 0) C0 (mX10_thereOf l g a_t (p_t 25) p_t n o_t_x50 f_t_15 f_t_25_x50 u_14 hu_15) (cwV 1 hts gX10_thereIn_X10_thereOf rfl rfl rfl (by decide +kernel) ⟨Nat.le_of_ble_eq_true rfl, Nat.le_of_ble_eq_true rfl⟩) hP hD hS [0, 1, 3] [2] rfl rfl rfl rfl rfl (by decide) rfl rfl hl.1 rfl rfl (Nat.le_of_ble_eq_true rfl) ⟨Nat.zero_le _, Nat.zero_le _⟩ dX10_thereIn_75 ?_
        intro H locs hP hD hS
        cases hF
        exact ret_i C0 hP hD hS [1, 2, 0, 3] rfl rfl rfl dX10_thereIn_78 rfl
    · have hF := it_p c_6 hF
      refine lv_aload_n hx hb dX10_thereIn_27 rfl (lv_at hl 0 rfl) ?_
      refine lv_iconst (v := (2 : Int32)) hx hb dX10_thereIn_28 (by decide) ?_
      obtain ⟨u_16, u_17, hu_18, hF⟩ := ob2_some hF
      refine call_i (wr := [aI g (p_t 15) 266 f_t_15, aI g (p_t 17) 17 f_t_17, aI g (p_t 25) 17 f_t_25]) (As := [.int (2 : Int32)]) (rest := []) (ci := 10) (q0 := 0) C0 (mX10_no l g a_t p_t n (2 : Int32) u_1 u_16 u_17 hu_18) (cwV 1 hts gX10_thereIn_X10_no rfl rfl rfl (by decide +kernel) ⟨Nat.le_of_ble_eq_true rfl, Nat.le_of_ble_eq_true rfl⟩) hP hD hS [3] [0, 1, 2] rfl rfl rfl rfl rfl (by decide) rfl rfl hl.1 rfl rfl (Nat.le_of_ble_eq_true rfl) ⟨Nat.zero_le _, Nat.zero_le _⟩ dX10_thereIn_29 ?_
      intro H locs hP hD hS
      cases hF
      exact ret_i C0 hP hD hS [3, 0, 1, 2] rfl rfl rfl dX10_thereIn_32 rfl
  · have hF := it_p c_3 hF
    refine lv_aload_n hx hb dX10_thereIn_11 rfl (lv_at hl 0 rfl) ?_
    refine lv_iconst (v := (1 : Int32)) hx hb dX10_thereIn_12 (by decide) ?_
    obtain ⟨u_19, u_20, hu_21, hF⟩ := ob2_some hF
    refine call_i (wr := [aI g (p_t 15) 266 f_t_15, aI g (p_t 17) 17 f_t_17, aI g (p_t 25) 17 f_t_25]) (As := [.int (1 : Int32)]) (rest := []) (ci := 10) (q0 := 0) C0 (mX10_no l g a_t p_t n (1 : Int32) u_1 u_19 u_20 hu_21) (cwV 1 hts gX10_thereIn_X10_no rfl rfl rfl (by decide +kernel) ⟨Nat.le_of_ble_eq_true rfl, Nat.le_of_ble_eq_true rfl⟩) hP hD hS [3] [0, 1, 2] rfl rfl rfl rfl rfl (by decide) rfl rfl hl.1 rfl rfl (Nat.le_of_ble_eq_true rfl) ⟨Nat.zero_le _, Nat.zero_le _⟩ dX10_thereIn_13 ?_
    intro H locs hP hD hS
    cases hF
    exact ret_i C0 hP hD hS [3, 0, 1, 2] rfl rfl rfl dX10_thereIn_16 rfl

theorem dAX10_leavesIn : ∀ q ∈ ([(0, (.aload_n 0, 1)), (1, (.invokevirtual 159, 3)), (4, (.aload_n 0, 1)), (5, (.iload_n 1, 1)), (6, (.invokevirtual 300, 3)), (9, (.ifCond .ne 9, 3)), (12, (.aload_n 0, 1)), (13, (.iconst 1, 1)), (14, (.invokevirtual 162, 3)), (17, (.ireturn, 1)), (18, (.aload_n 0, 1)), (19, (.getfield 26, 3)), (22, (.iconst 0, 1)), (23, (.aload_n 0, 1)), (24, (.getfield 35, 3)), (27, (.iconst 0, 1)), (28, (.bipush 17, 2)), (30, (.invokestatic 168, 3)), (33, (.iconst 0, 1)), (34, (.istore_n 2, 1)), (35, (.iload_n 2, 1)), (36, (.bipush 60, 2)), (38, (.if_icmp .gt 31, 3)), (41, (.aload_n 0, 1)), (42, (.getfield 35, 3)), (45, (.iload_n 1, 1)), (46, (.invokestatic 248, 3)), (49, (.ifCond .ne 5, 3)), (52, (.iload_n 2, 1)), (53, (.ireturn, 1)), (54, (.aload_n 0, 1)), (55, (.aload_n 0, 1)), (56, (.getfield 35, 3)), (59, (.invokevirtual 293, 3)), (62, (.pop, 1)), (63, (.iinc 2 1, 3)), (66, (.goto (-31), 3)), (69, (.bipush (-2), 2)), (71, (.ireturn, 1))] : List (Nat × (Instr × Nat))), decode cX10_leavesIn q.1 = .ok q.2 := by decide +kernel
theorem dX10_leavesIn_0 : decode cX10_leavesIn 0 = .ok (.aload_n 0, 1) := dAX10_leavesIn (0, (.aload_n 0, 1)) (List.mem_of_getElem? (i := 0) rfl)
theorem dX10_leavesIn_1 : decode cX10_leavesIn 1 = .ok (.invokevirtual 159, 3) := dAX10_leavesIn (1, (.invokevirtual 159, 3)) (List.mem_of_getElem? (i := 1) rfl)
theorem dX10_leavesIn_4 : decode cX10_leavesIn 4 = .ok (.aload_n 0, 1) := dAX10_leavesIn (4, (.aload_n 0, 1)) (List.mem_of_getElem? (i := 2) rfl)
theorem dX10_leavesIn_5 : decode cX10_leavesIn 5 = .ok (.iload_n 1, 1) := dAX10_leavesIn (5, (.iload_n 1, 1)) (List.mem_of_getElem? (i := 3) rfl)
theorem dX10_leavesIn_6 : decode cX10_leavesIn 6 = .ok (.invokevirtual 300, 3) := dAX10_leavesIn (6, (.invokevirtual 300, 3)) (List.mem_of_getElem? (i := 4) rfl)
theorem dX10_leavesIn_9 : decode cX10_leavesIn 9 = .ok (.ifCond .ne 9, 3) := dAX10_leavesIn (9, (.ifCond .ne 9, 3)) (List.mem_of_getElem? (i := 5) rfl)
theorem dX10_leavesIn_12 : decode cX10_leavesIn 12 = .ok (.aload_n 0, 1) := dAX10_leavesIn (12, (.aload_n 0, 1)) (List.mem_of_getElem? (i := 6) rfl)
theorem dX10_leavesIn_13 : decode cX10_leavesIn 13 = .ok (.iconst 1, 1) := dAX10_leavesIn (13, (.iconst 1, 1)) (List.mem_of_getElem? (i := 7) rfl)
theorem dX10_leavesIn_14 : decode cX10_leavesIn 14 = .ok (.invokevirtual 162, 3) := dAX10_leavesIn (14, (.invokevirtual 162, 3)) (List.mem_of_getElem? (i := 8) rfl)
theorem dX10_leavesIn_17 : decode cX10_leavesIn 17 = .ok (.ireturn, 1) := dAX10_leavesIn (17, (.ireturn, 1)) (List.mem_of_getElem? (i := 9) rfl)
theorem dX10_leavesIn_18 : decode cX10_leavesIn 18 = .ok (.aload_n 0, 1) := dAX10_leavesIn (18, (.aload_n 0, 1)) (List.mem_of_getElem? (i := 10) rfl)
theorem dX10_leavesIn_19 : decode cX10_leavesIn 19 = .ok (.getfield 26, 3) := dAX10_leavesIn (19, (.getfield 26, 3)) (List.mem_of_getElem? (i := 11) rfl)
theorem dX10_leavesIn_22 : decode cX10_leavesIn 22 = .ok (.iconst 0, 1) := dAX10_leavesIn (22, (.iconst 0, 1)) (List.mem_of_getElem? (i := 12) rfl)
theorem dX10_leavesIn_23 : decode cX10_leavesIn 23 = .ok (.aload_n 0, 1) := dAX10_leavesIn (23, (.aload_n 0, 1)) (List.mem_of_getElem? (i := 13) rfl)
theorem dX10_leavesIn_24 : decode cX10_leavesIn 24 = .ok (.getfield 35, 3) := dAX10_leavesIn (24, (.getfield 35, 3)) (List.mem_of_getElem? (i := 14) rfl)
theorem dX10_leavesIn_27 : decode cX10_leavesIn 27 = .ok (.iconst 0, 1) := dAX10_leavesIn (27, (.iconst 0, 1)) (List.mem_of_getElem? (i := 15) rfl)
theorem dX10_leavesIn_28 : decode cX10_leavesIn 28 = .ok (.bipush 17, 2) := dAX10_leavesIn (28, (.bipush 17, 2)) (List.mem_of_getElem? (i := 16) rfl)
theorem dX10_leavesIn_30 : decode cX10_leavesIn 30 = .ok (.invokestatic 168, 3) := dAX10_leavesIn (30, (.invokestatic 168, 3)) (List.mem_of_getElem? (i := 17) rfl)
theorem dX10_leavesIn_33 : decode cX10_leavesIn 33 = .ok (.iconst 0, 1) := dAX10_leavesIn (33, (.iconst 0, 1)) (List.mem_of_getElem? (i := 18) rfl)
theorem dX10_leavesIn_34 : decode cX10_leavesIn 34 = .ok (.istore_n 2, 1) := dAX10_leavesIn (34, (.istore_n 2, 1)) (List.mem_of_getElem? (i := 19) rfl)
theorem dX10_leavesIn_35 : decode cX10_leavesIn 35 = .ok (.iload_n 2, 1) := dAX10_leavesIn (35, (.iload_n 2, 1)) (List.mem_of_getElem? (i := 20) rfl)
theorem dX10_leavesIn_36 : decode cX10_leavesIn 36 = .ok (.bipush 60, 2) := dAX10_leavesIn (36, (.bipush 60, 2)) (List.mem_of_getElem? (i := 21) rfl)
theorem dX10_leavesIn_38 : decode cX10_leavesIn 38 = .ok (.if_icmp .gt 31, 3) := dAX10_leavesIn (38, (.if_icmp .gt 31, 3)) (List.mem_of_getElem? (i := 22) rfl)
theorem dX10_leavesIn_41 : decode cX10_leavesIn 41 = .ok (.aload_n 0, 1) := dAX10_leavesIn (41, (.aload_n 0, 1)) (List.mem_of_getElem? (i := 23) rfl)
theorem dX10_leavesIn_42 : decode cX10_leavesIn 42 = .ok (.getfield 35, 3) := dAX10_leavesIn (42, (.getfield 35, 3)) (List.mem_of_getElem? (i := 24) rfl)
theorem dX10_leavesIn_45 : decode cX10_leavesIn 45 = .ok (.iload_n 1, 1) := dAX10_leavesIn (45, (.iload_n 1, 1)) (List.mem_of_getElem? (i := 25) rfl)
theorem dX10_leavesIn_46 : decode cX10_leavesIn 46 = .ok (.invokestatic 248, 3) := dAX10_leavesIn (46, (.invokestatic 248, 3)) (List.mem_of_getElem? (i := 26) rfl)
theorem dX10_leavesIn_49 : decode cX10_leavesIn 49 = .ok (.ifCond .ne 5, 3) := dAX10_leavesIn (49, (.ifCond .ne 5, 3)) (List.mem_of_getElem? (i := 27) rfl)
theorem dX10_leavesIn_52 : decode cX10_leavesIn 52 = .ok (.iload_n 2, 1) := dAX10_leavesIn (52, (.iload_n 2, 1)) (List.mem_of_getElem? (i := 28) rfl)
theorem dX10_leavesIn_53 : decode cX10_leavesIn 53 = .ok (.ireturn, 1) := dAX10_leavesIn (53, (.ireturn, 1)) (List.mem_of_getElem? (i := 29) rfl)
theorem dX10_leavesIn_54 : decode cX10_leavesIn 54 = .ok (.aload_n 0, 1) := dAX10_leavesIn (54, (.aload_n 0, 1)) (List.mem_of_getElem? (i := 30) rfl)
theorem dX10_leavesIn_55 : decode cX10_leavesIn 55 = .ok (.aload_n 0, 1) := dAX10_leavesIn (55, (.aload_n 0, 1)) (List.mem_of_getElem? (i := 31) rfl)
theorem dX10_leavesIn_56 : decode cX10_leavesIn 56 = .ok (.getfield 35, 3) := dAX10_leavesIn (56, (.getfield 35, 3)) (List.mem_of_getElem? (i := 32) rfl)
theorem dX10_leavesIn_59 : decode cX10_leavesIn 59 = .ok (.invokevirtual 293, 3) := dAX10_leavesIn (59, (.invokevirtual 293, 3)) (List.mem_of_getElem? (i := 33) rfl)
theorem dX10_leavesIn_62 : decode cX10_leavesIn 62 = .ok (.pop, 1) := dAX10_leavesIn (62, (.pop, 1)) (List.mem_of_getElem? (i := 34) rfl)
theorem dX10_leavesIn_63 : decode cX10_leavesIn 63 = .ok (.iinc 2 1, 3) := dAX10_leavesIn (63, (.iinc 2 1, 3)) (List.mem_of_getElem? (i := 35) rfl)
theorem dX10_leavesIn_66 : decode cX10_leavesIn 66 = .ok (.goto (-31), 3) := dAX10_leavesIn (66, (.goto (-31), 3)) (List.mem_of_getElem? (i := 36) rfl)
theorem dX10_leavesIn_69 : decode cX10_leavesIn 69 = .ok (.bipush (-2), 2) := dAX10_leavesIn (69, (.bipush (-2), 2)) (List.mem_of_getElem? (i := 37) rfl)
theorem dX10_leavesIn_71 : decode cX10_leavesIn 71 = .ok (.ireturn, 1) := dAX10_leavesIn (71, (.ireturn, 1)) (List.mem_of_getElem? (i := 38) rfl)
set_option maxRecDepth 20000 in
theorem ggX10_leavesIn_X10_good : GoodIn wsX10_leavesIn wsX10_good := goodIn_r _ [7, 8, 9, 65, 66, 67, 68, 69, 70, 71, 72, 73, 74, 75, 76, 77, 78, 79, 80, 81, 82, 83, 84, 85, 86, 87, 88, 89, 90, 91, 92, 93, 94, 95, 96, 97, 98, 99] rfl (by decide +kernel)
set_option maxRecDepth 20000 in
theorem gX10_leavesIn_X10_good : GoodIn wsX10_leavesIn (wsV RX10 159 RX10 yX10_good wsX10_good) := goodIn_app (goodIn_of _ (by decide +kernel)) ggX10_leavesIn_X10_good
set_option maxRecDepth 20000 in
theorem ggX10_leavesIn_X10_isGuest : GoodIn wsX10_leavesIn wsX10_isGuest := goodIn_r _ [13, 14, 15, 16, 17, 6, 18, 65, 66, 67, 68, 69, 70, 71, 72, 73, 74, 75, 76, 77, 78, 79, 80, 81, 82, 83, 84, 85, 86, 87, 88, 89, 90, 91, 92, 93, 94, 95, 96, 97, 98, 99] rfl (by decide +kernel)
set_option maxRecDepth 20000 in
theorem gX10_leavesIn_X10_isGuest : GoodIn wsX10_leavesIn (wsV RX10 300 RX10 yX10_isGuest wsX10_isGuest) := goodIn_app (goodIn_of _ (by decide +kernel)) ggX10_leavesIn_X10_isGuest
set_option maxRecDepth 20000 in
theorem ggX10_leavesIn_X10_no : GoodIn wsX10_leavesIn wsX10_no := goodIn_r _ [22, 9, 65, 66, 67, 68, 69, 70, 71, 72, 73, 74, 75, 76, 77, 78, 79, 80, 81, 82, 83, 84, 85, 86, 87, 88, 89, 90, 91, 92, 93, 94, 95, 96, 97, 98, 99] rfl (by decide +kernel)
set_option maxRecDepth 20000 in
theorem gX10_leavesIn_X10_no : GoodIn wsX10_leavesIn (wsV RX10 162 RX10 yX10_no wsX10_no) := goodIn_app (goodIn_of _ (by decide +kernel)) ggX10_leavesIn_X10_no
set_option maxRecDepth 20000 in
theorem ggX10_leavesIn_X10_copy : GoodIn wsX10_leavesIn wsX10_copy := goodIn_r _ [25] rfl (by decide +kernel)
set_option maxRecDepth 20000 in
theorem gX10_leavesIn_X10_copy : GoodIn wsX10_leavesIn (va_wsS RX10 168 yX10_copy wsX10_copy) := goodIn_app (goodIn_of _ (by decide +kernel)) ggX10_leavesIn_X10_copy
set_option maxRecDepth 20000 in
theorem ggX10_leavesIn_X10_isIn : GoodIn wsX10_leavesIn wsX10_isIn := goodIn_r _ [28] rfl (by decide +kernel)
set_option maxRecDepth 20000 in
theorem gX10_leavesIn_X10_isIn : GoodIn wsX10_leavesIn (va_wsS RX10 248 yX10_isIn wsX10_isIn) := goodIn_app (goodIn_of _ (by decide +kernel)) ggX10_leavesIn_X10_isIn
set_option maxRecDepth 20000 in
theorem ggX10_leavesIn_X10_hourOf : GoodIn wsX10_leavesIn wsX10_hourOf := goodIn_r _ [32, 15, 33, 34, 35, 6, 36, 26, 27, 28, 37, 38, 39, 40, 41, 42, 43, 44, 45, 46, 47, 48, 49, 50, 51, 52, 53, 54, 55, 56, 57, 58, 59, 60, 61, 62, 63, 64, 65, 66, 67, 68, 69, 70, 71, 72, 73, 74, 75, 76, 77, 78, 79, 80, 81, 82, 83, 84, 85, 86, 87, 88, 89, 90, 91, 92, 93, 94, 95, 96, 97, 98, 99] rfl (by decide +kernel)
set_option maxRecDepth 20000 in
theorem gX10_leavesIn_X10_hourOf : GoodIn wsX10_leavesIn (wsV RX10 293 RX10 yX10_hourOf wsX10_hourOf) := goodIn_app (goodIn_of _ (by decide +kernel)) ggX10_leavesIn_X10_hourOf
theorem kX10_leavesIn_26 : Cond.fieldLink RX10 26 "EveningVowModel" "st" "[I" ∈ wsX10_leavesIn := List.mem_of_getElem? (i := 1) rfl
theorem iX10_leavesIn_X10 : ∀ w ∈ u_ws RX10 TX10 35, w ∈ wsX10_leavesIn := fun w h => (List.mem_cons_of_mem _ (List.mem_append_right _ h))
theorem kX10_leavesIn_35 : Cond.fieldLink RX10 35 "EveningVowModel" "trial" "[I" ∈ wsX10_leavesIn := List.mem_of_getElem? (i := 2) rfl
set_option maxHeartbeats 4000000 in
set_option maxRecDepth 100000 in
theorem wX10_leavesIn_L35 {p : Program} {l : Launch} {e : Env} {s : State} {m : MethodId} {args : Array Value} {below : List Frame} {meth : Method} {c : Code} {g : GG} {A : Nat → Prop} (C0 : Cx p s m args meth c cX10_leavesIn 3 (some .int) RX10 wsX10_leavesIn g A) (a_t : Nat) (p_t : Nat → Nat) (n : Nat) (x1 : Int32) (f_t_15 : Nat → Int32) (f_t_17 : Nat → Int32) (r : Int32) (o_t' : Nat → Int32) (f_t_25' : Nat → Int32) (K : (Nat → Int32) → (Nat → Int32) → Option (Int32 × (Nat → Int32) × (Nat → Int32))) (hKx : ∀ (o_t : Nat → Int32) (f_t_25 : Nat → Int32) (H : Heap) (locs : List Loc) (ls : Array Slot), K o_t f_t_25 = some (r, o_t', f_t_25') → va_P g.1 vwCl [oX10 a_t p_t o_t, aI g (p_t 15) 266 f_t_15, aI g (p_t 17) 17 f_t_17, aI g (p_t 25) 17 f_t_25] H → va_D A [oX10 a_t p_t o_t, aI g (p_t 15) 266 f_t_15, aI g (p_t 17) 17 f_t_17, aI g (p_t 25) 17 f_t_25] → va_S A s.heap H locs → lv_has ls 3 [] → W p l e ({ frames := 4, cells := 0, slots := 0, locals := 93 } : Room) s m args below meth c H locs 0 0 (MQ below (EndI g r [oX10 a_t p_t o_t', aI g (p_t 15) 266 f_t_15, aI g (p_t 17) 17 f_t_17, aI g (p_t 25) 17 f_t_25'] A) args s 0 0 A) (F0 m 69 ls [])) : ∀ (k : Nat) (x2 : Int32) (o_t : Nat → Int32) (f_t_25 : Nat → Int32), fX10_leavesIn_L35 n x1 f_t_15 K k x2 o_t f_t_25 = some (r, o_t', f_t_25') → ∀ (H : Heap) (locs : List Loc) (ls : Array Slot), va_P g.1 vwCl [oX10 a_t p_t o_t, aI g (p_t 15) 266 f_t_15, aI g (p_t 17) 17 f_t_17, aI g (p_t 25) 17 f_t_25] H → va_D A [oX10 a_t p_t o_t, aI g (p_t 15) 266 f_t_15, aI g (p_t 17) 17 f_t_17, aI g (p_t 25) 17 f_t_25] → va_S A s.heap H locs → lv_has ls 3 [(0, .ref a_t), (1, .int x1), (2, .int x2)] → W p l e ({ frames := 4, cells := 0, slots := 0, locals := 93 } : Room) s m args below meth c H locs 0 0 (MQ below (EndI g r [oX10 a_t p_t o_t', aI g (p_t 15) 266 f_t_15, aI g (p_t 17) 17 f_t_17, aI g (p_t 25) 17 f_t_25'] A) args s 0 0 A) (F0 m 35 ls []) := by
  obtain ⟨hx, hb, hml, hown, hts, hr, hlk, hK, hA, hSW⟩ := id C0
  intro k
  induction k with
  | zero =>
    intro x2 o_t f_t_25 hF
    exact absurd hF (by simp [fX10_leavesIn_L35])
  | succ k ih =>
    intro x2 o_t f_t_25 hF H locs ls hP hD hS hl
    rw [fX10_leavesIn_L35] at hF
    refine lv_iload_n hx hb dX10_leavesIn_35 rfl (lv_at hl 2 rfl) ?_
    refine lv_bipush (v := (60 : Int32)) hx hb dX10_leavesIn_36 (by decide) ?_
    refine lv_icmp_gt (tgt := 69) hx hb dX10_leavesIn_38 (by decide) (fun c_8 => ?_) (fun c_8 => ?_)
    · have hF := it_p c_8 hF
      exact hKx o_t f_t_25 _ _ _ hF (hP.sub [0, 1, 2, 3] rfl) (hD.sub [0, 1, 2, 3] rfl rfl) hS (lv_sub hl [] rfl)
    · have hF := it_n c_8 hF
      refine lv_aload_n hx hb dX10_leavesIn_41 rfl (lv_at hl 0 rfl) ?_
      refine va_get (D := g.1) (ci := 10) (v := .ref (p_t 25)) (C := RX10) (T := TX10) (N := 35) hx hb hts iX10_leavesIn_X10 hown hK.1 hP 0 rfl rfl 25 (by decide) (hts _ kX10_leavesIn_35) (fun _ h9 => h9) rfl dX10_leavesIn_42 ?_
      refine lv_iload_n hx hb dX10_leavesIn_45 rfl (lv_at hl 1 rfl) ?_
      obtain ⟨u_9, hu_10, hF⟩ := ob1_some hF
      refine call_si (wr := [oX10 a_t p_t o_t, aI g (p_t 15) 266 f_t_15, aI g (p_t 17) 17 f_t_17]) (As := [.ref (p_t 25), .int x1]) (rest := []) C0 (mX10_isIn l g (p_t 25) n x1 f_t_25 u_9 hu_10) (va_cwS 2 hts gX10_leavesIn_X10_isIn rfl rfl rfl (by decide +kernel) ⟨Nat.le_of_ble_eq_true rfl, Nat.le_of_ble_eq_true rfl⟩) hP hD hS [3] [0, 1, 2] rfl rfl rfl rfl rfl (by decide) hl.1 rfl rfl (Nat.le_of_ble_eq_true rfl) ⟨Nat.zero_le _, Nat.zero_le _⟩ dX10_leavesIn_46 ?_
      intro H locs hP hD hS
      refine lv_if_ne (tgt := 54) hx hb dX10_leavesIn_49 (by decide) (fun c_11 => ?_) (fun c_11 => ?_)
      · have hF := it_n c_11 hF
        refine lv_aload_n hx hb dX10_leavesIn_54 rfl (lv_at hl 0 rfl) ?_
        refine lv_aload_n hx hb dX10_leavesIn_55 rfl (lv_at hl 0 rfl) ?_
        refine va_get (D := g.1) (ci := 10) (v := .ref (p_t 25)) (C := RX10) (T := TX10) (N := 35) hx hb hts iX10_leavesIn_X10 hown hK.1 hP 0 rfl rfl 25 (by decide) (hts _ kX10_leavesIn_35) (fun _ h9 => h9) rfl dX10_leavesIn_56 ?_
        obtain ⟨u_12, u_13, u_14, hu_15, hF⟩ := ob3_some hF
        refine call_i (wr := [aI g (p_t 17) 17 f_t_17]) (As := [.ref (p_t 25)]) (rest := []) (ci := 10) (q0 := 0) C0 (mX10_hourOf l g a_t (p_t 25) p_t n o_t f_t_15 f_t_25 u_12 u_13 u_14 hu_15) (cwV 1 hts gX10_leavesIn_X10_hourOf rfl rfl rfl (by decide +kernel) ⟨Nat.le_of_ble_eq_true rfl, Nat.le_of_ble_eq_true rfl⟩) hP hD hS [0, 1, 3] [2] rfl rfl rfl rfl rfl (by decide) rfl rfl hl.1 rfl rfl (Nat.le_of_ble_eq_true rfl) ⟨Nat.zero_le _, Nat.zero_le _⟩ dX10_leavesIn_59 ?_
        intro H locs hP hD hS
        refine lv_pop hx hb dX10_leavesIn_62 rfl ?_
        refine lv_iinc (v := (x2 + (1 : Int32))) (lv' := [(2, .int (x2 + (1 : Int32))), (0, .ref a_t), (1, .int x1)]) hx hb dX10_leavesIn_63 hl (k := 2) rfl rfl (by decide) rfl (fun ls hl => ?_)
        refine lv_goto (tgt := 35) hx hb dX10_leavesIn_66 (by decide) ?_
        exact ih (x2 + (1 : Int32)) u_13 u_14 hF _ _ _ (hP.sub [1, 2, 0, 3] rfl) (hD.sub [1, 2, 0, 3] rfl rfl) hS (lv_sub hl [1, 2, 0] rfl)
      · have hF := it_p c_11 hF
        refine lv_iload_n hx hb dX10_leavesIn_52 rfl (lv_at hl 2 rfl) ?_
        cases hF
        exact ret_i C0 hP hD hS [0, 1, 2, 3] rfl rfl rfl dX10_leavesIn_53 rfl
set_option maxHeartbeats 4000000 in
set_option maxRecDepth 100000 in
theorem mX10_leavesIn (l : Launch) (g : GG) (a_t : Nat) (p_t : Nat → Nat) (n : Nat) (x1 : Int32) (o_t : Nat → Int32) (f_t_15 : Nat → Int32) (f_t_17 : Nat → Int32) (f_t_25 : Nat → Int32) (r : Int32) (o_t' : Nat → Int32) (f_t_25' : Nat → Int32) (hF : fX10_leavesIn n x1 o_t f_t_15 f_t_17 f_t_25 = some (r, o_t', f_t_25')) : MI l g yX10_leavesIn wsX10_leavesIn ({ frames := 4, cells := 0, slots := 0, locals := 93 } : Room) [.ref a_t, .int x1] [oX10 a_t p_t o_t, aI g (p_t 15) 266 f_t_15, aI g (p_t 17) 17 f_t_17, aI g (p_t 25) 17 f_t_25] r [oX10 a_t p_t o_t', aI g (p_t 15) 266 f_t_15, aI g (p_t 17) 17 f_t_17, aI g (p_t 25) 17 f_t_25'] := by
  refine MI.of (cc := cX10_leavesIn) (maxL := 3) (rt := .int) (own := RX10) rfl rfl (by decide) (Nat.le_of_ble_eq_true rfl) ?_
  intro p e s m args below meth c A C0 hP hD hS ls hl
  obtain ⟨hx, hb, hml, hown, hts, hr, hlk, hK, hA, hSW⟩ := id C0
  have hl : lv_has ls 3 [(0, .ref a_t), (1, .int x1)] := hl
  rw [fX10_leavesIn] at hF
  refine lv_aload_n hx hb dX10_leavesIn_0 rfl (lv_at hl 0 rfl) ?_
  obtain ⟨u_1, hu_2, hF⟩ := ob1_some hF
  refine call_v (wr := [aI g (p_t 15) 266 f_t_15, aI g (p_t 17) 17 f_t_17, aI g (p_t 25) 17 f_t_25]) (As := []) (rest := []) (ci := 10) (q0 := 0) C0 (mX10_good l g a_t p_t n o_t u_1 hu_2) (cwV 0 hts gX10_leavesIn_X10_good rfl rfl rfl (by decide +kernel) ⟨Nat.le_of_ble_eq_true rfl, Nat.le_of_ble_eq_true rfl⟩) hP hD hS [0] [1, 2, 3] rfl rfl rfl rfl rfl (by decide) rfl rfl hl.1 rfl rfl (Nat.le_of_ble_eq_true rfl) ⟨Nat.zero_le _, Nat.zero_le _⟩ dX10_leavesIn_1 ?_
  intro H locs hP hD hS
  refine lv_aload_n hx hb dX10_leavesIn_4 rfl (lv_at hl 0 rfl) ?_
  refine lv_iload_n hx hb dX10_leavesIn_5 rfl (lv_at hl 1 rfl) ?_
  obtain ⟨u_3, hu_4, hF⟩ := ob1_some hF
  refine call_i (wr := [aI g (p_t 17) 17 f_t_17, aI g (p_t 25) 17 f_t_25]) (As := [.int x1]) (rest := []) (ci := 10) (q0 := 0) C0 (mX10_isGuest l g a_t p_t n x1 u_1 f_t_15 u_3 hu_4) (cwV 1 hts gX10_leavesIn_X10_isGuest rfl rfl rfl (by decide +kernel) ⟨Nat.le_of_ble_eq_true rfl, Nat.le_of_ble_eq_true rfl⟩) hP hD hS [3, 0] [1, 2] rfl rfl rfl rfl rfl (by decide) rfl rfl hl.1 rfl rfl (Nat.le_of_ble_eq_true rfl) ⟨Nat.zero_le _, Nat.zero_le _⟩ dX10_leavesIn_6 ?_
  intro H locs hP hD hS
  refine lv_if_ne (tgt := 18) hx hb dX10_leavesIn_9 (by decide) (fun c_5 => ?_) (fun c_5 => ?_)
  · have hF := it_n c_5 hF
    refine lv_aload_n hx hb dX10_leavesIn_18 rfl (lv_at hl 0 rfl) ?_
    refine va_get (D := g.1) (ci := 10) (v := .ref (p_t 17)) (C := RX10) (T := TX10) (N := 35) hx hb hts iX10_leavesIn_X10 hown hK.1 hP 2 rfl rfl 17 (by decide) (hts _ kX10_leavesIn_26) (fun _ h9 => h9) rfl dX10_leavesIn_19 ?_
    refine lv_iconst (v := (0 : Int32)) hx hb dX10_leavesIn_22 (by decide) ?_
    refine lv_aload_n hx hb dX10_leavesIn_23 rfl (lv_at hl 0 rfl) ?_
    refine va_get (D := g.1) (ci := 10) (v := .ref (p_t 25)) (C := RX10) (T := TX10) (N := 35) hx hb hts iX10_leavesIn_X10 hown hK.1 hP 2 rfl rfl 25 (by decide) (hts _ kX10_leavesIn_35) (fun _ h9 => h9) rfl dX10_leavesIn_24 ?_
    refine lv_iconst (v := (0 : Int32)) hx hb dX10_leavesIn_27 (by decide) ?_
    refine lv_bipush (v := (17 : Int32)) hx hb dX10_leavesIn_28 (by decide) ?_
    obtain ⟨u_6, hu_7, hF⟩ := ob1_some hF
    refine call_sv (wr := [oX10 a_t p_t u_1, aI g (p_t 15) 266 f_t_15]) (As := [.ref (p_t 17), .int (0 : Int32), .ref (p_t 25), .int (0 : Int32), .int (17 : Int32)]) (rest := []) C0 (mX10_copy l g (p_t 17) (p_t 25) n (0 : Int32) (0 : Int32) (17 : Int32) 17 17 f_t_17 f_t_25 u_6 hu_7) (va_cwS 5 hts gX10_leavesIn_X10_copy rfl rfl rfl (by decide +kernel) ⟨Nat.le_of_ble_eq_true rfl, Nat.le_of_ble_eq_true rfl⟩) hP hD hS [0, 1] [2, 3] rfl rfl rfl rfl rfl (by decide) hl.1 rfl rfl (Nat.le_of_ble_eq_true rfl) ⟨Nat.zero_le _, Nat.zero_le _⟩ dX10_leavesIn_30 ?_
    intro H locs hP hD hS
    refine lv_iconst (v := (0 : Int32)) hx hb dX10_leavesIn_33 (by decide) ?_
    refine lv_istore_n (lv' := [(2, .int (0 : Int32)), (0, .ref a_t), (1, .int x1)]) hx hb dX10_leavesIn_34 rfl hl (by decide) rfl (fun ls hl => ?_)
    refine wX10_leavesIn_L35 C0 a_t p_t n x1 f_t_15 f_t_17 r o_t' f_t_25' _ ?_ n (0 : Int32) u_1 u_6 hF _ _ _ (hP.sub [0, 1, 2, 3] rfl) (hD.sub [0, 1, 2, 3] rfl rfl) hS (lv_sub hl [1, 2, 0] rfl)
    · intro o_t_x35 f_t_25_x35 H locs ls hF hP hD hS hl
      refine lv_bipush (v := (-2 : Int32)) hx hb dX10_leavesIn_69 (by decide) ?_
      cases hF
      exact ret_i C0 hP hD hS [0, 1, 2, 3] rfl rfl rfl dX10_leavesIn_71 rfl
  · have hF := it_p c_5 hF
    refine lv_aload_n hx hb dX10_leavesIn_12 rfl (lv_at hl 0 rfl) ?_
    refine lv_iconst (v := (1 : Int32)) hx hb dX10_leavesIn_13 (by decide) ?_
    obtain ⟨u_16, u_17, hu_18, hF⟩ := ob2_some hF
    refine call_i (wr := [aI g (p_t 17) 17 f_t_17, aI g (p_t 25) 17 f_t_25, aI g (p_t 15) 266 f_t_15]) (As := [.int (1 : Int32)]) (rest := []) (ci := 10) (q0 := 0) C0 (mX10_no l g a_t p_t n (1 : Int32) u_1 u_16 u_17 hu_18) (cwV 1 hts gX10_leavesIn_X10_no rfl rfl rfl (by decide +kernel) ⟨Nat.le_of_ble_eq_true rfl, Nat.le_of_ble_eq_true rfl⟩) hP hD hS [2] [0, 1, 3] rfl rfl rfl rfl rfl (by decide) rfl rfl hl.1 rfl rfl (Nat.le_of_ble_eq_true rfl) ⟨Nat.zero_le _, Nat.zero_le _⟩ dX10_leavesIn_14 ?_
    intro H locs hP hD hS
    cases hF
    exact ret_i C0 hP hD hS [3, 2, 0, 1] rfl rfl rfl dX10_leavesIn_17 rfl

theorem dAX10_wantIn : ∀ q ∈ ([(0, (.aload_n 0, 1)), (1, (.invokevirtual 159, 3)), (4, (.aload_n 0, 1)), (5, (.iload_n 1, 1)), (6, (.invokevirtual 300, 3)), (9, (.ifCond .ne 9, 3)), (12, (.aload_n 0, 1)), (13, (.iconst 1, 1)), (14, (.invokevirtual 303, 3)), (17, (.ireturn, 1)), (18, (.iload_n 2, 1)), (19, (.iconst 0, 1)), (20, (.bipush 60, 2)), (22, (.invokestatic 144, 3)), (25, (.ifCond .ne 9, 3)), (28, (.aload_n 0, 1)), (29, (.iconst 2, 1)), (30, (.invokevirtual 303, 3)), (33, (.ireturn, 1)), (34, (.aload_n 0, 1)), (35, (.getfield 26, 3)), (38, (.iconst 0, 1)), (39, (.aload_n 0, 1)), (40, (.getfield 35, 3)), (43, (.iconst 0, 1)), (44, (.bipush 17, 2)), (46, (.invokestatic 168, 3)), (49, (.iconst 0, 1)), (50, (.istore_n 3, 1)), (51, (.iload_n 3, 1)), (52, (.iload_n 2, 1)), (53, (.if_icmp .ge 18, 3)), (56, (.aload_n 0, 1)), (57, (.aload_n 0, 1)), (58, (.getfield 35, 3)), (61, (.invokevirtual 293, 3)), (64, (.pop, 1)), (65, (.iinc 3 1, 3)), (68, (.goto (-17), 3)), (71, (.aload_n 0, 1)), (72, (.getfield 35, 3)), (75, (.iload_n 1, 1)), (76, (.iaload, 1)), (77, (.ireturn, 1))] : List (Nat × (Instr × Nat))), decode cX10_wantIn q.1 = .ok q.2 := by decide +kernel
theorem dX10_wantIn_0 : decode cX10_wantIn 0 = .ok (.aload_n 0, 1) := dAX10_wantIn (0, (.aload_n 0, 1)) (List.mem_of_getElem? (i := 0) rfl)
theorem dX10_wantIn_1 : decode cX10_wantIn 1 = .ok (.invokevirtual 159, 3) := dAX10_wantIn (1, (.invokevirtual 159, 3)) (List.mem_of_getElem? (i := 1) rfl)
theorem dX10_wantIn_4 : decode cX10_wantIn 4 = .ok (.aload_n 0, 1) := dAX10_wantIn (4, (.aload_n 0, 1)) (List.mem_of_getElem? (i := 2) rfl)
theorem dX10_wantIn_5 : decode cX10_wantIn 5 = .ok (.iload_n 1, 1) := dAX10_wantIn (5, (.iload_n 1, 1)) (List.mem_of_getElem? (i := 3) rfl)
theorem dX10_wantIn_6 : decode cX10_wantIn 6 = .ok (.invokevirtual 300, 3) := dAX10_wantIn (6, (.invokevirtual 300, 3)) (List.mem_of_getElem? (i := 4) rfl)
theorem dX10_wantIn_9 : decode cX10_wantIn 9 = .ok (.ifCond .ne 9, 3) := dAX10_wantIn (9, (.ifCond .ne 9, 3)) (List.mem_of_getElem? (i := 5) rfl)
theorem dX10_wantIn_12 : decode cX10_wantIn 12 = .ok (.aload_n 0, 1) := dAX10_wantIn (12, (.aload_n 0, 1)) (List.mem_of_getElem? (i := 6) rfl)
theorem dX10_wantIn_13 : decode cX10_wantIn 13 = .ok (.iconst 1, 1) := dAX10_wantIn (13, (.iconst 1, 1)) (List.mem_of_getElem? (i := 7) rfl)
theorem dX10_wantIn_14 : decode cX10_wantIn 14 = .ok (.invokevirtual 303, 3) := dAX10_wantIn (14, (.invokevirtual 303, 3)) (List.mem_of_getElem? (i := 8) rfl)
theorem dX10_wantIn_17 : decode cX10_wantIn 17 = .ok (.ireturn, 1) := dAX10_wantIn (17, (.ireturn, 1)) (List.mem_of_getElem? (i := 9) rfl)
theorem dX10_wantIn_18 : decode cX10_wantIn 18 = .ok (.iload_n 2, 1) := dAX10_wantIn (18, (.iload_n 2, 1)) (List.mem_of_getElem? (i := 10) rfl)
theorem dX10_wantIn_19 : decode cX10_wantIn 19 = .ok (.iconst 0, 1) := dAX10_wantIn (19, (.iconst 0, 1)) (List.mem_of_getElem? (i := 11) rfl)
theorem dX10_wantIn_20 : decode cX10_wantIn 20 = .ok (.bipush 60, 2) := dAX10_wantIn (20, (.bipush 60, 2)) (List.mem_of_getElem? (i := 12) rfl)
theorem dX10_wantIn_22 : decode cX10_wantIn 22 = .ok (.invokestatic 144, 3) := dAX10_wantIn (22, (.invokestatic 144, 3)) (List.mem_of_getElem? (i := 13) rfl)
theorem dX10_wantIn_25 : decode cX10_wantIn 25 = .ok (.ifCond .ne 9, 3) := dAX10_wantIn (25, (.ifCond .ne 9, 3)) (List.mem_of_getElem? (i := 14) rfl)
theorem dX10_wantIn_28 : decode cX10_wantIn 28 = .ok (.aload_n 0, 1) := dAX10_wantIn (28, (.aload_n 0, 1)) (List.mem_of_getElem? (i := 15) rfl)
theorem dX10_wantIn_29 : decode cX10_wantIn 29 = .ok (.iconst 2, 1) := dAX10_wantIn (29, (.iconst 2, 1)) (List.mem_of_getElem? (i := 16) rfl)
theorem dX10_wantIn_30 : decode cX10_wantIn 30 = .ok (.invokevirtual 303, 3) := dAX10_wantIn (30, (.invokevirtual 303, 3)) (List.mem_of_getElem? (i := 17) rfl)
theorem dX10_wantIn_33 : decode cX10_wantIn 33 = .ok (.ireturn, 1) := dAX10_wantIn (33, (.ireturn, 1)) (List.mem_of_getElem? (i := 18) rfl)
theorem dX10_wantIn_34 : decode cX10_wantIn 34 = .ok (.aload_n 0, 1) := dAX10_wantIn (34, (.aload_n 0, 1)) (List.mem_of_getElem? (i := 19) rfl)
theorem dX10_wantIn_35 : decode cX10_wantIn 35 = .ok (.getfield 26, 3) := dAX10_wantIn (35, (.getfield 26, 3)) (List.mem_of_getElem? (i := 20) rfl)
theorem dX10_wantIn_38 : decode cX10_wantIn 38 = .ok (.iconst 0, 1) := dAX10_wantIn (38, (.iconst 0, 1)) (List.mem_of_getElem? (i := 21) rfl)
theorem dX10_wantIn_39 : decode cX10_wantIn 39 = .ok (.aload_n 0, 1) := dAX10_wantIn (39, (.aload_n 0, 1)) (List.mem_of_getElem? (i := 22) rfl)
theorem dX10_wantIn_40 : decode cX10_wantIn 40 = .ok (.getfield 35, 3) := dAX10_wantIn (40, (.getfield 35, 3)) (List.mem_of_getElem? (i := 23) rfl)
theorem dX10_wantIn_43 : decode cX10_wantIn 43 = .ok (.iconst 0, 1) := dAX10_wantIn (43, (.iconst 0, 1)) (List.mem_of_getElem? (i := 24) rfl)
theorem dX10_wantIn_44 : decode cX10_wantIn 44 = .ok (.bipush 17, 2) := dAX10_wantIn (44, (.bipush 17, 2)) (List.mem_of_getElem? (i := 25) rfl)
theorem dX10_wantIn_46 : decode cX10_wantIn 46 = .ok (.invokestatic 168, 3) := dAX10_wantIn (46, (.invokestatic 168, 3)) (List.mem_of_getElem? (i := 26) rfl)
theorem dX10_wantIn_49 : decode cX10_wantIn 49 = .ok (.iconst 0, 1) := dAX10_wantIn (49, (.iconst 0, 1)) (List.mem_of_getElem? (i := 27) rfl)
theorem dX10_wantIn_50 : decode cX10_wantIn 50 = .ok (.istore_n 3, 1) := dAX10_wantIn (50, (.istore_n 3, 1)) (List.mem_of_getElem? (i := 28) rfl)
theorem dX10_wantIn_51 : decode cX10_wantIn 51 = .ok (.iload_n 3, 1) := dAX10_wantIn (51, (.iload_n 3, 1)) (List.mem_of_getElem? (i := 29) rfl)
theorem dX10_wantIn_52 : decode cX10_wantIn 52 = .ok (.iload_n 2, 1) := dAX10_wantIn (52, (.iload_n 2, 1)) (List.mem_of_getElem? (i := 30) rfl)
theorem dX10_wantIn_53 : decode cX10_wantIn 53 = .ok (.if_icmp .ge 18, 3) := dAX10_wantIn (53, (.if_icmp .ge 18, 3)) (List.mem_of_getElem? (i := 31) rfl)
theorem dX10_wantIn_56 : decode cX10_wantIn 56 = .ok (.aload_n 0, 1) := dAX10_wantIn (56, (.aload_n 0, 1)) (List.mem_of_getElem? (i := 32) rfl)
theorem dX10_wantIn_57 : decode cX10_wantIn 57 = .ok (.aload_n 0, 1) := dAX10_wantIn (57, (.aload_n 0, 1)) (List.mem_of_getElem? (i := 33) rfl)
theorem dX10_wantIn_58 : decode cX10_wantIn 58 = .ok (.getfield 35, 3) := dAX10_wantIn (58, (.getfield 35, 3)) (List.mem_of_getElem? (i := 34) rfl)
theorem dX10_wantIn_61 : decode cX10_wantIn 61 = .ok (.invokevirtual 293, 3) := dAX10_wantIn (61, (.invokevirtual 293, 3)) (List.mem_of_getElem? (i := 35) rfl)
theorem dX10_wantIn_64 : decode cX10_wantIn 64 = .ok (.pop, 1) := dAX10_wantIn (64, (.pop, 1)) (List.mem_of_getElem? (i := 36) rfl)
theorem dX10_wantIn_65 : decode cX10_wantIn 65 = .ok (.iinc 3 1, 3) := dAX10_wantIn (65, (.iinc 3 1, 3)) (List.mem_of_getElem? (i := 37) rfl)
theorem dX10_wantIn_68 : decode cX10_wantIn 68 = .ok (.goto (-17), 3) := dAX10_wantIn (68, (.goto (-17), 3)) (List.mem_of_getElem? (i := 38) rfl)
theorem dX10_wantIn_71 : decode cX10_wantIn 71 = .ok (.aload_n 0, 1) := dAX10_wantIn (71, (.aload_n 0, 1)) (List.mem_of_getElem? (i := 39) rfl)
theorem dX10_wantIn_72 : decode cX10_wantIn 72 = .ok (.getfield 35, 3) := dAX10_wantIn (72, (.getfield 35, 3)) (List.mem_of_getElem? (i := 40) rfl)
theorem dX10_wantIn_75 : decode cX10_wantIn 75 = .ok (.iload_n 1, 1) := dAX10_wantIn (75, (.iload_n 1, 1)) (List.mem_of_getElem? (i := 41) rfl)
theorem dX10_wantIn_76 : decode cX10_wantIn 76 = .ok (.iaload, 1) := dAX10_wantIn (76, (.iaload, 1)) (List.mem_of_getElem? (i := 42) rfl)
theorem dX10_wantIn_77 : decode cX10_wantIn 77 = .ok (.ireturn, 1) := dAX10_wantIn (77, (.ireturn, 1)) (List.mem_of_getElem? (i := 43) rfl)
set_option maxRecDepth 20000 in
theorem ggX10_wantIn_X10_good : GoodIn wsX10_wantIn wsX10_good := goodIn_r _ [7, 8, 9, 65, 66, 67, 68, 69, 70, 71, 72, 73, 74, 75, 76, 77, 78, 79, 80, 81, 82, 83, 84, 85, 86, 87, 88, 89, 90, 91, 92, 93, 94, 95, 96, 97, 98, 99] rfl (by decide +kernel)
set_option maxRecDepth 20000 in
theorem gX10_wantIn_X10_good : GoodIn wsX10_wantIn (wsV RX10 159 RX10 yX10_good wsX10_good) := goodIn_app (goodIn_of _ (by decide +kernel)) ggX10_wantIn_X10_good
set_option maxRecDepth 20000 in
theorem ggX10_wantIn_X10_isGuest : GoodIn wsX10_wantIn wsX10_isGuest := goodIn_r _ [13, 14, 15, 16, 17, 6, 18, 65, 66, 67, 68, 69, 70, 71, 72, 73, 74, 75, 76, 77, 78, 79, 80, 81, 82, 83, 84, 85, 86, 87, 88, 89, 90, 91, 92, 93, 94, 95, 96, 97, 98, 99] rfl (by decide +kernel)
set_option maxRecDepth 20000 in
theorem gX10_wantIn_X10_isGuest : GoodIn wsX10_wantIn (wsV RX10 300 RX10 yX10_isGuest wsX10_isGuest) := goodIn_app (goodIn_of _ (by decide +kernel)) ggX10_wantIn_X10_isGuest
set_option maxRecDepth 20000 in
theorem ggX10_wantIn_X10_less : GoodIn wsX10_wantIn wsX10_less := goodIn_r _ [22, 9, 65, 66, 67, 68, 69, 70, 71, 72, 73, 74, 75, 76, 77, 78, 79, 80, 81, 82, 83, 84, 85, 86, 87, 88, 89, 90, 91, 92, 93, 94, 95, 96, 97, 98, 99] rfl (by decide +kernel)
set_option maxRecDepth 20000 in
theorem gX10_wantIn_X10_less : GoodIn wsX10_wantIn (wsV RX10 303 RX10 yX10_less wsX10_less) := goodIn_app (goodIn_of _ (by decide +kernel)) ggX10_wantIn_X10_less
set_option maxRecDepth 20000 in
theorem ggX10_wantIn_X10_in : GoodIn wsX10_wantIn wsX10_in := goodIn_r _ [18] rfl (by decide +kernel)
set_option maxRecDepth 20000 in
theorem gX10_wantIn_X10_in : GoodIn wsX10_wantIn (va_wsS RX10 144 yX10_in wsX10_in) := goodIn_app (goodIn_of _ (by decide +kernel)) ggX10_wantIn_X10_in
set_option maxRecDepth 20000 in
theorem ggX10_wantIn_X10_copy : GoodIn wsX10_wantIn wsX10_copy := goodIn_r _ [25] rfl (by decide +kernel)
set_option maxRecDepth 20000 in
theorem gX10_wantIn_X10_copy : GoodIn wsX10_wantIn (va_wsS RX10 168 yX10_copy wsX10_copy) := goodIn_app (goodIn_of _ (by decide +kernel)) ggX10_wantIn_X10_copy
set_option maxRecDepth 20000 in
theorem ggX10_wantIn_X10_hourOf : GoodIn wsX10_wantIn wsX10_hourOf := goodIn_r _ [29, 15, 30, 31, 32, 6, 33, 34, 35, 36, 37, 38, 39, 40, 41, 42, 43, 44, 45, 46, 47, 48, 49, 50, 51, 52, 53, 54, 55, 56, 57, 58, 59, 60, 61, 62, 63, 64, 65, 66, 67, 68, 69, 70, 71, 72, 73, 74, 75, 76, 77, 78, 79, 80, 81, 82, 83, 84, 85, 86, 87, 88, 89, 90, 91, 92, 93, 94, 95, 96, 97, 98, 99] rfl (by decide +kernel)
set_option maxRecDepth 20000 in
theorem gX10_wantIn_X10_hourOf : GoodIn wsX10_wantIn (wsV RX10 293 RX10 yX10_hourOf wsX10_hourOf) := goodIn_app (goodIn_of _ (by decide +kernel)) ggX10_wantIn_X10_hourOf
theorem kX10_wantIn_26 : Cond.fieldLink RX10 26 "EveningVowModel" "st" "[I" ∈ wsX10_wantIn := List.mem_of_getElem? (i := 1) rfl
theorem iX10_wantIn_X10 : ∀ w ∈ u_ws RX10 TX10 35, w ∈ wsX10_wantIn := fun w h => (List.mem_cons_of_mem _ (List.mem_append_right _ h))
theorem kX10_wantIn_35 : Cond.fieldLink RX10 35 "EveningVowModel" "trial" "[I" ∈ wsX10_wantIn := List.mem_of_getElem? (i := 2) rfl
set_option maxHeartbeats 4000000 in
set_option maxRecDepth 100000 in
theorem wX10_wantIn_L51 {p : Program} {l : Launch} {e : Env} {s : State} {m : MethodId} {args : Array Value} {below : List Frame} {meth : Method} {c : Code} {g : GG} {A : Nat → Prop} (C0 : Cx p s m args meth c cX10_wantIn 4 (some .int) RX10 wsX10_wantIn g A) (a_t : Nat) (p_t : Nat → Nat) (n : Nat) (x1 : Int32) (x2 : Int32) (f_t_15 : Nat → Int32) (f_t_17 : Nat → Int32) (r : Int32) (o_t' : Nat → Int32) (f_t_25' : Nat → Int32) (K : (Nat → Int32) → (Nat → Int32) → Option (Int32 × (Nat → Int32) × (Nat → Int32))) (hKx : ∀ (o_t : Nat → Int32) (f_t_25 : Nat → Int32) (H : Heap) (locs : List Loc) (ls : Array Slot), K o_t f_t_25 = some (r, o_t', f_t_25') → va_P g.1 vwCl [oX10 a_t p_t o_t, aI g (p_t 15) 266 f_t_15, aI g (p_t 17) 17 f_t_17, aI g (p_t 25) 17 f_t_25] H → va_D A [oX10 a_t p_t o_t, aI g (p_t 15) 266 f_t_15, aI g (p_t 17) 17 f_t_17, aI g (p_t 25) 17 f_t_25] → va_S A s.heap H locs → lv_has ls 4 [(0, .ref a_t), (1, .int x1)] → W p l e ({ frames := 4, cells := 0, slots := 0, locals := 93 } : Room) s m args below meth c H locs 0 0 (MQ below (EndI g r [oX10 a_t p_t o_t', aI g (p_t 15) 266 f_t_15, aI g (p_t 17) 17 f_t_17, aI g (p_t 25) 17 f_t_25'] A) args s 0 0 A) (F0 m 71 ls [])) : ∀ (k : Nat) (x3 : Int32) (o_t : Nat → Int32) (f_t_25 : Nat → Int32), fX10_wantIn_L51 n x1 x2 f_t_15 K k x3 o_t f_t_25 = some (r, o_t', f_t_25') → ∀ (H : Heap) (locs : List Loc) (ls : Array Slot), va_P g.1 vwCl [oX10 a_t p_t o_t, aI g (p_t 15) 266 f_t_15, aI g (p_t 17) 17 f_t_17, aI g (p_t 25) 17 f_t_25] H → va_D A [oX10 a_t p_t o_t, aI g (p_t 15) 266 f_t_15, aI g (p_t 17) 17 f_t_17, aI g (p_t 25) 17 f_t_25] → va_S A s.heap H locs → lv_has ls 4 [(0, .ref a_t), (1, .int x1), (2, .int x2), (3, .int x3)] → W p l e ({ frames := 4, cells := 0, slots := 0, locals := 93 } : Room) s m args below meth c H locs 0 0 (MQ below (EndI g r [oX10 a_t p_t o_t', aI g (p_t 15) 266 f_t_15, aI g (p_t 17) 17 f_t_17, aI g (p_t 25) 17 f_t_25'] A) args s 0 0 A) (F0 m 51 ls []) := by
  obtain ⟨hx, hb, hml, hown, hts, hr, hlk, hK, hA, hSW⟩ := id C0
  intro k
  induction k with
  | zero =>
    intro x3 o_t f_t_25 hF
    exact absurd hF (by simp [fX10_wantIn_L51])
  | succ k ih =>
    intro x3 o_t f_t_25 hF H locs ls hP hD hS hl
    rw [fX10_wantIn_L51] at hF
    refine lv_iload_n hx hb dX10_wantIn_51 rfl (lv_at hl 3 rfl) ?_
    refine lv_iload_n hx hb dX10_wantIn_52 rfl (lv_at hl 2 rfl) ?_
    refine lv_icmp_ge (tgt := 71) hx hb dX10_wantIn_53 (by decide) (fun c_11 => ?_) (fun c_11 => ?_)
    · have hF := it_p c_11 hF
      exact hKx o_t f_t_25 _ _ _ hF (hP.sub [0, 1, 2, 3] rfl) (hD.sub [0, 1, 2, 3] rfl rfl) hS (lv_sub hl [0, 1] rfl)
    · have hF := it_n c_11 hF
      refine lv_aload_n hx hb dX10_wantIn_56 rfl (lv_at hl 0 rfl) ?_
      refine lv_aload_n hx hb dX10_wantIn_57 rfl (lv_at hl 0 rfl) ?_
      refine va_get (D := g.1) (ci := 10) (v := .ref (p_t 25)) (C := RX10) (T := TX10) (N := 35) hx hb hts iX10_wantIn_X10 hown hK.1 hP 0 rfl rfl 25 (by decide) (hts _ kX10_wantIn_35) (fun _ h9 => h9) rfl dX10_wantIn_58 ?_
      obtain ⟨u_12, u_13, u_14, hu_15, hF⟩ := ob3_some hF
      refine call_i (wr := [aI g (p_t 17) 17 f_t_17]) (As := [.ref (p_t 25)]) (rest := []) (ci := 10) (q0 := 0) C0 (mX10_hourOf l g a_t (p_t 25) p_t n o_t f_t_15 f_t_25 u_12 u_13 u_14 hu_15) (cwV 1 hts gX10_wantIn_X10_hourOf rfl rfl rfl (by decide +kernel) ⟨Nat.le_of_ble_eq_true rfl, Nat.le_of_ble_eq_true rfl⟩) hP hD hS [0, 1, 3] [2] rfl rfl rfl rfl rfl (by decide) rfl rfl hl.1 rfl rfl (Nat.le_of_ble_eq_true rfl) ⟨Nat.zero_le _, Nat.zero_le _⟩ dX10_wantIn_61 ?_
      intro H locs hP hD hS
      refine lv_pop hx hb dX10_wantIn_64 rfl ?_
      refine lv_iinc (v := (x3 + (1 : Int32))) (lv' := [(3, .int (x3 + (1 : Int32))), (0, .ref a_t), (1, .int x1), (2, .int x2)]) hx hb dX10_wantIn_65 hl (k := 3) rfl rfl (by decide) rfl (fun ls hl => ?_)
      refine lv_goto (tgt := 51) hx hb dX10_wantIn_68 (by decide) ?_
      exact ih (x3 + (1 : Int32)) u_13 u_14 hF _ _ _ (hP.sub [1, 2, 0, 3] rfl) (hD.sub [1, 2, 0, 3] rfl rfl) hS (lv_sub hl [1, 2, 3, 0] rfl)
set_option maxHeartbeats 4000000 in
set_option maxRecDepth 100000 in
theorem mX10_wantIn (l : Launch) (g : GG) (a_t : Nat) (p_t : Nat → Nat) (n : Nat) (x1 : Int32) (x2 : Int32) (o_t : Nat → Int32) (f_t_15 : Nat → Int32) (f_t_17 : Nat → Int32) (f_t_25 : Nat → Int32) (r : Int32) (o_t' : Nat → Int32) (f_t_25' : Nat → Int32) (hF : fX10_wantIn n x1 x2 o_t f_t_15 f_t_17 f_t_25 = some (r, o_t', f_t_25')) : MI l g yX10_wantIn wsX10_wantIn ({ frames := 4, cells := 0, slots := 0, locals := 93 } : Room) [.ref a_t, .int x1, .int x2] [oX10 a_t p_t o_t, aI g (p_t 15) 266 f_t_15, aI g (p_t 17) 17 f_t_17, aI g (p_t 25) 17 f_t_25] r [oX10 a_t p_t o_t', aI g (p_t 15) 266 f_t_15, aI g (p_t 17) 17 f_t_17, aI g (p_t 25) 17 f_t_25'] := by
  refine MI.of (cc := cX10_wantIn) (maxL := 4) (rt := .int) (own := RX10) rfl rfl (by decide) (Nat.le_of_ble_eq_true rfl) ?_
  intro p e s m args below meth c A C0 hP hD hS ls hl
  obtain ⟨hx, hb, hml, hown, hts, hr, hlk, hK, hA, hSW⟩ := id C0
  have hl : lv_has ls 4 [(0, .ref a_t), (1, .int x1), (2, .int x2)] := hl
  rw [fX10_wantIn] at hF
  refine lv_aload_n hx hb dX10_wantIn_0 rfl (lv_at hl 0 rfl) ?_
  obtain ⟨u_1, hu_2, hF⟩ := ob1_some hF
  refine call_v (wr := [aI g (p_t 15) 266 f_t_15, aI g (p_t 17) 17 f_t_17, aI g (p_t 25) 17 f_t_25]) (As := []) (rest := []) (ci := 10) (q0 := 0) C0 (mX10_good l g a_t p_t n o_t u_1 hu_2) (cwV 0 hts gX10_wantIn_X10_good rfl rfl rfl (by decide +kernel) ⟨Nat.le_of_ble_eq_true rfl, Nat.le_of_ble_eq_true rfl⟩) hP hD hS [0] [1, 2, 3] rfl rfl rfl rfl rfl (by decide) rfl rfl hl.1 rfl rfl (Nat.le_of_ble_eq_true rfl) ⟨Nat.zero_le _, Nat.zero_le _⟩ dX10_wantIn_1 ?_
  intro H locs hP hD hS
  refine lv_aload_n hx hb dX10_wantIn_4 rfl (lv_at hl 0 rfl) ?_
  refine lv_iload_n hx hb dX10_wantIn_5 rfl (lv_at hl 1 rfl) ?_
  obtain ⟨u_3, hu_4, hF⟩ := ob1_some hF
  refine call_i (wr := [aI g (p_t 17) 17 f_t_17, aI g (p_t 25) 17 f_t_25]) (As := [.int x1]) (rest := []) (ci := 10) (q0 := 0) C0 (mX10_isGuest l g a_t p_t n x1 u_1 f_t_15 u_3 hu_4) (cwV 1 hts gX10_wantIn_X10_isGuest rfl rfl rfl (by decide +kernel) ⟨Nat.le_of_ble_eq_true rfl, Nat.le_of_ble_eq_true rfl⟩) hP hD hS [3, 0] [1, 2] rfl rfl rfl rfl rfl (by decide) rfl rfl hl.1 rfl rfl (Nat.le_of_ble_eq_true rfl) ⟨Nat.zero_le _, Nat.zero_le _⟩ dX10_wantIn_6 ?_
  intro H locs hP hD hS
  refine lv_if_ne (tgt := 18) hx hb dX10_wantIn_9 (by decide) (fun c_5 => ?_) (fun c_5 => ?_)
  · have hF := it_n c_5 hF
    refine lv_iload_n hx hb dX10_wantIn_18 rfl (lv_at hl 2 rfl) ?_
    refine lv_iconst (v := (0 : Int32)) hx hb dX10_wantIn_19 (by decide) ?_
    refine lv_bipush (v := (60 : Int32)) hx hb dX10_wantIn_20 (by decide) ?_
    obtain ⟨u_6, hu_7, hF⟩ := ob1_some hF
    refine call_si (wr := [aI g (p_t 17) 17 f_t_17, aI g (p_t 25) 17 f_t_25, oX10 a_t p_t u_1, aI g (p_t 15) 266 f_t_15]) (As := [.int x2, .int (0 : Int32), .int (60 : Int32)]) (rest := []) C0 (mX10_in l g n x2 (0 : Int32) (60 : Int32) u_6 hu_7) (va_cwS 3 hts gX10_wantIn_X10_in rfl rfl rfl (by decide +kernel) ⟨Nat.le_of_ble_eq_true rfl, Nat.le_of_ble_eq_true rfl⟩) hP hD hS [] [0, 1, 2, 3] rfl rfl rfl rfl rfl (by decide) hl.1 rfl rfl (Nat.le_of_ble_eq_true rfl) ⟨Nat.zero_le _, Nat.zero_le _⟩ dX10_wantIn_22 ?_
    intro H locs hP hD hS
    refine lv_if_ne (tgt := 34) hx hb dX10_wantIn_25 (by decide) (fun c_8 => ?_) (fun c_8 => ?_)
    · have hF := it_n c_8 hF
      refine lv_aload_n hx hb dX10_wantIn_34 rfl (lv_at hl 0 rfl) ?_
      refine va_get (D := g.1) (ci := 10) (v := .ref (p_t 17)) (C := RX10) (T := TX10) (N := 35) hx hb hts iX10_wantIn_X10 hown hK.1 hP 2 rfl rfl 17 (by decide) (hts _ kX10_wantIn_26) (fun _ h9 => h9) rfl dX10_wantIn_35 ?_
      refine lv_iconst (v := (0 : Int32)) hx hb dX10_wantIn_38 (by decide) ?_
      refine lv_aload_n hx hb dX10_wantIn_39 rfl (lv_at hl 0 rfl) ?_
      refine va_get (D := g.1) (ci := 10) (v := .ref (p_t 25)) (C := RX10) (T := TX10) (N := 35) hx hb hts iX10_wantIn_X10 hown hK.1 hP 2 rfl rfl 25 (by decide) (hts _ kX10_wantIn_35) (fun _ h9 => h9) rfl dX10_wantIn_40 ?_
      refine lv_iconst (v := (0 : Int32)) hx hb dX10_wantIn_43 (by decide) ?_
      refine lv_bipush (v := (17 : Int32)) hx hb dX10_wantIn_44 (by decide) ?_
      obtain ⟨u_9, hu_10, hF⟩ := ob1_some hF
      refine call_sv (wr := [oX10 a_t p_t u_1, aI g (p_t 15) 266 f_t_15]) (As := [.ref (p_t 17), .int (0 : Int32), .ref (p_t 25), .int (0 : Int32), .int (17 : Int32)]) (rest := []) C0 (mX10_copy l g (p_t 17) (p_t 25) n (0 : Int32) (0 : Int32) (17 : Int32) 17 17 f_t_17 f_t_25 u_9 hu_10) (va_cwS 5 hts gX10_wantIn_X10_copy rfl rfl rfl (by decide +kernel) ⟨Nat.le_of_ble_eq_true rfl, Nat.le_of_ble_eq_true rfl⟩) hP hD hS [0, 1] [2, 3] rfl rfl rfl rfl rfl (by decide) hl.1 rfl rfl (Nat.le_of_ble_eq_true rfl) ⟨Nat.zero_le _, Nat.zero_le _⟩ dX10_wantIn_46 ?_
      intro H locs hP hD hS
      refine lv_iconst (v := (0 : Int32)) hx hb dX10_wantIn_49 (by decide) ?_
      refine lv_istore_n (lv' := [(3, .int (0 : Int32)), (0, .ref a_t), (1, .int x1), (2, .int x2)]) hx hb dX10_wantIn_50 rfl hl (by decide) rfl (fun ls hl => ?_)
      refine wX10_wantIn_L51 C0 a_t p_t n x1 x2 f_t_15 f_t_17 r o_t' f_t_25' _ ?_ n (0 : Int32) u_1 u_9 hF _ _ _ (hP.sub [0, 1, 2, 3] rfl) (hD.sub [0, 1, 2, 3] rfl rfl) hS (lv_sub hl [1, 2, 3, 0] rfl)
      · intro o_t_x51 f_t_25_x51 H locs ls hF hP hD hS hl
        refine lv_aload_n hx hb dX10_wantIn_71 rfl (lv_at hl 0 rfl) ?_
        refine va_get (D := g.1) (ci := 10) (v := .ref (p_t 25)) (C := RX10) (T := TX10) (N := 35) hx hb hts iX10_wantIn_X10 hown hK.1 hP 0 rfl rfl 25 (by decide) (hts _ kX10_wantIn_35) (fun _ h9 => h9) rfl dX10_wantIn_72 ?_
        refine lv_iload_n hx hb dX10_wantIn_75 rfl (lv_at hl 1 rfl) ?_
        obtain ⟨h_16, hF⟩ := it_ck hF
        refine va_iald hx hb hK.1 hP 3 0 rfl rfl h_16 dX10_wantIn_76 ?_
        cases hF
        exact ret_i C0 hP hD hS [0, 1, 2, 3] rfl rfl rfl dX10_wantIn_77 rfl
    · have hF := it_p c_8 hF
      refine lv_aload_n hx hb dX10_wantIn_28 rfl (lv_at hl 0 rfl) ?_
      refine lv_iconst (v := (2 : Int32)) hx hb dX10_wantIn_29 (by decide) ?_
      obtain ⟨u_17, u_18, hu_19, hF⟩ := ob2_some hF
      refine call_i (wr := [aI g (p_t 17) 17 f_t_17, aI g (p_t 25) 17 f_t_25, aI g (p_t 15) 266 f_t_15]) (As := [.int (2 : Int32)]) (rest := []) (ci := 10) (q0 := 0) C0 (mX10_less l g a_t p_t n (2 : Int32) u_1 u_17 u_18 hu_19) (cwV 1 hts gX10_wantIn_X10_less rfl rfl rfl (by decide +kernel) ⟨Nat.le_of_ble_eq_true rfl, Nat.le_of_ble_eq_true rfl⟩) hP hD hS [2] [0, 1, 3] rfl rfl rfl rfl rfl (by decide) rfl rfl hl.1 rfl rfl (Nat.le_of_ble_eq_true rfl) ⟨Nat.zero_le _, Nat.zero_le _⟩ dX10_wantIn_30 ?_
      intro H locs hP hD hS
      cases hF
      exact ret_i C0 hP hD hS [3, 2, 0, 1] rfl rfl rfl dX10_wantIn_33 rfl
  · have hF := it_p c_5 hF
    refine lv_aload_n hx hb dX10_wantIn_12 rfl (lv_at hl 0 rfl) ?_
    refine lv_iconst (v := (1 : Int32)) hx hb dX10_wantIn_13 (by decide) ?_
    obtain ⟨u_20, u_21, hu_22, hF⟩ := ob2_some hF
    refine call_i (wr := [aI g (p_t 17) 17 f_t_17, aI g (p_t 25) 17 f_t_25, aI g (p_t 15) 266 f_t_15]) (As := [.int (1 : Int32)]) (rest := []) (ci := 10) (q0 := 0) C0 (mX10_less l g a_t p_t n (1 : Int32) u_1 u_20 u_21 hu_22) (cwV 1 hts gX10_wantIn_X10_less rfl rfl rfl (by decide +kernel) ⟨Nat.le_of_ble_eq_true rfl, Nat.le_of_ble_eq_true rfl⟩) hP hD hS [2] [0, 1, 3] rfl rfl rfl rfl rfl (by decide) rfl rfl hl.1 rfl rfl (Nat.le_of_ble_eq_true rfl) ⟨Nat.zero_le _, Nat.zero_le _⟩ dX10_wantIn_14 ?_
    intro H locs hP hD hS
    cases hF
    exact ret_i C0 hP hD hS [3, 2, 0, 1] rfl rfl rfl dX10_wantIn_17 rfl

theorem dAX10_busiest : ∀ q ∈ ([(0, (.aload_n 0, 1)), (1, (.invokevirtual 159, 3)), (4, (.aload_n 0, 1)), (5, (.getfield 176, 3)), (8, (.ifCond .ne 9, 3)), (11, (.aload_n 0, 1)), (12, (.iconst 1, 1)), (13, (.invokevirtual 162, 3)), (16, (.ireturn, 1)), (17, (.aload_n 0, 1)), (18, (.getfield 26, 3)), (21, (.iconst 0, 1)), (22, (.aload_n 0, 1)), (23, (.getfield 35, 3)), (26, (.iconst 0, 1)), (27, (.bipush 17, 2)), (29, (.invokestatic 168, 3)), (32, (.bipush (-2), 2)), (34, (.istore_n 2, 1)), (35, (.iconst 0, 1)), (36, (.istore_n 3, 1)), (37, (.bipush (-2), 2)), (39, (.istore 4, 2)), (41, (.iconst 1, 1)), (42, (.istore 5, 2)), (44, (.iload 5, 2)), (46, (.bipush 60, 2)), (48, (.if_icmp .gt 50, 3)), (51, (.aload_n 0, 1)), (52, (.aload_n 0, 1)), (53, (.getfield 35, 3)), (56, (.invokevirtual 293, 3)), (59, (.invokestatic 306, 3)), (62, (.istore 6, 2)), (64, (.iload 6, 2)), (66, (.iload_n 3, 1)), (67, (.if_icmp .gt 6, 3)), (70, (.goto 22, 3)), (73, (.iload 5, 2)), (75, (.istore_n 2, 1)), (76, (.iload 6, 2)), (78, (.istore_n 3, 1)), (79, (.aload_n 0, 1)), (80, (.aload_n 0, 1)), (81, (.getfield 35, 3)), (84, (.invokevirtual 259, 3)), (87, (.invokestatic 306, 3)), (90, (.istore 4, 2)), (92, (.iinc 5 1, 3)), (95, (.goto (-51), 3)), (98, (.iload_n 1, 1)), (99, (.ifCond .eq 7, 3)), (102, (.iload_n 2, 1)), (103, (.goto 5, 3)), (106, (.iload 4, 2)), (108, (.ireturn, 1))] : List (Nat × (Instr × Nat))), decode cX10_busiest q.1 = .ok q.2 := by decide +kernel
theorem dX10_busiest_0 : decode cX10_busiest 0 = .ok (.aload_n 0, 1) := dAX10_busiest (0, (.aload_n 0, 1)) (List.mem_of_getElem? (i := 0) rfl)
theorem dX10_busiest_1 : decode cX10_busiest 1 = .ok (.invokevirtual 159, 3) := dAX10_busiest (1, (.invokevirtual 159, 3)) (List.mem_of_getElem? (i := 1) rfl)
theorem dX10_busiest_4 : decode cX10_busiest 4 = .ok (.aload_n 0, 1) := dAX10_busiest (4, (.aload_n 0, 1)) (List.mem_of_getElem? (i := 2) rfl)
theorem dX10_busiest_5 : decode cX10_busiest 5 = .ok (.getfield 176, 3) := dAX10_busiest (5, (.getfield 176, 3)) (List.mem_of_getElem? (i := 3) rfl)
theorem dX10_busiest_8 : decode cX10_busiest 8 = .ok (.ifCond .ne 9, 3) := dAX10_busiest (8, (.ifCond .ne 9, 3)) (List.mem_of_getElem? (i := 4) rfl)
theorem dX10_busiest_11 : decode cX10_busiest 11 = .ok (.aload_n 0, 1) := dAX10_busiest (11, (.aload_n 0, 1)) (List.mem_of_getElem? (i := 5) rfl)
theorem dX10_busiest_12 : decode cX10_busiest 12 = .ok (.iconst 1, 1) := dAX10_busiest (12, (.iconst 1, 1)) (List.mem_of_getElem? (i := 6) rfl)
theorem dX10_busiest_13 : decode cX10_busiest 13 = .ok (.invokevirtual 162, 3) := dAX10_busiest (13, (.invokevirtual 162, 3)) (List.mem_of_getElem? (i := 7) rfl)
theorem dX10_busiest_16 : decode cX10_busiest 16 = .ok (.ireturn, 1) := dAX10_busiest (16, (.ireturn, 1)) (List.mem_of_getElem? (i := 8) rfl)
theorem dX10_busiest_17 : decode cX10_busiest 17 = .ok (.aload_n 0, 1) := dAX10_busiest (17, (.aload_n 0, 1)) (List.mem_of_getElem? (i := 9) rfl)
theorem dX10_busiest_18 : decode cX10_busiest 18 = .ok (.getfield 26, 3) := dAX10_busiest (18, (.getfield 26, 3)) (List.mem_of_getElem? (i := 10) rfl)
theorem dX10_busiest_21 : decode cX10_busiest 21 = .ok (.iconst 0, 1) := dAX10_busiest (21, (.iconst 0, 1)) (List.mem_of_getElem? (i := 11) rfl)
theorem dX10_busiest_22 : decode cX10_busiest 22 = .ok (.aload_n 0, 1) := dAX10_busiest (22, (.aload_n 0, 1)) (List.mem_of_getElem? (i := 12) rfl)
theorem dX10_busiest_23 : decode cX10_busiest 23 = .ok (.getfield 35, 3) := dAX10_busiest (23, (.getfield 35, 3)) (List.mem_of_getElem? (i := 13) rfl)
theorem dX10_busiest_26 : decode cX10_busiest 26 = .ok (.iconst 0, 1) := dAX10_busiest (26, (.iconst 0, 1)) (List.mem_of_getElem? (i := 14) rfl)
theorem dX10_busiest_27 : decode cX10_busiest 27 = .ok (.bipush 17, 2) := dAX10_busiest (27, (.bipush 17, 2)) (List.mem_of_getElem? (i := 15) rfl)
theorem dX10_busiest_29 : decode cX10_busiest 29 = .ok (.invokestatic 168, 3) := dAX10_busiest (29, (.invokestatic 168, 3)) (List.mem_of_getElem? (i := 16) rfl)
theorem dX10_busiest_32 : decode cX10_busiest 32 = .ok (.bipush (-2), 2) := dAX10_busiest (32, (.bipush (-2), 2)) (List.mem_of_getElem? (i := 17) rfl)
theorem dX10_busiest_34 : decode cX10_busiest 34 = .ok (.istore_n 2, 1) := dAX10_busiest (34, (.istore_n 2, 1)) (List.mem_of_getElem? (i := 18) rfl)
theorem dX10_busiest_35 : decode cX10_busiest 35 = .ok (.iconst 0, 1) := dAX10_busiest (35, (.iconst 0, 1)) (List.mem_of_getElem? (i := 19) rfl)
theorem dX10_busiest_36 : decode cX10_busiest 36 = .ok (.istore_n 3, 1) := dAX10_busiest (36, (.istore_n 3, 1)) (List.mem_of_getElem? (i := 20) rfl)
theorem dX10_busiest_37 : decode cX10_busiest 37 = .ok (.bipush (-2), 2) := dAX10_busiest (37, (.bipush (-2), 2)) (List.mem_of_getElem? (i := 21) rfl)
theorem dX10_busiest_39 : decode cX10_busiest 39 = .ok (.istore 4, 2) := dAX10_busiest (39, (.istore 4, 2)) (List.mem_of_getElem? (i := 22) rfl)
theorem dX10_busiest_41 : decode cX10_busiest 41 = .ok (.iconst 1, 1) := dAX10_busiest (41, (.iconst 1, 1)) (List.mem_of_getElem? (i := 23) rfl)
theorem dX10_busiest_42 : decode cX10_busiest 42 = .ok (.istore 5, 2) := dAX10_busiest (42, (.istore 5, 2)) (List.mem_of_getElem? (i := 24) rfl)
theorem dX10_busiest_44 : decode cX10_busiest 44 = .ok (.iload 5, 2) := dAX10_busiest (44, (.iload 5, 2)) (List.mem_of_getElem? (i := 25) rfl)
theorem dX10_busiest_46 : decode cX10_busiest 46 = .ok (.bipush 60, 2) := dAX10_busiest (46, (.bipush 60, 2)) (List.mem_of_getElem? (i := 26) rfl)
theorem dX10_busiest_48 : decode cX10_busiest 48 = .ok (.if_icmp .gt 50, 3) := dAX10_busiest (48, (.if_icmp .gt 50, 3)) (List.mem_of_getElem? (i := 27) rfl)
theorem dX10_busiest_51 : decode cX10_busiest 51 = .ok (.aload_n 0, 1) := dAX10_busiest (51, (.aload_n 0, 1)) (List.mem_of_getElem? (i := 28) rfl)
theorem dX10_busiest_52 : decode cX10_busiest 52 = .ok (.aload_n 0, 1) := dAX10_busiest (52, (.aload_n 0, 1)) (List.mem_of_getElem? (i := 29) rfl)
theorem dX10_busiest_53 : decode cX10_busiest 53 = .ok (.getfield 35, 3) := dAX10_busiest (53, (.getfield 35, 3)) (List.mem_of_getElem? (i := 30) rfl)
theorem dX10_busiest_56 : decode cX10_busiest 56 = .ok (.invokevirtual 293, 3) := dAX10_busiest (56, (.invokevirtual 293, 3)) (List.mem_of_getElem? (i := 31) rfl)
theorem dX10_busiest_59 : decode cX10_busiest 59 = .ok (.invokestatic 306, 3) := dAX10_busiest (59, (.invokestatic 306, 3)) (List.mem_of_getElem? (i := 32) rfl)
theorem dX10_busiest_62 : decode cX10_busiest 62 = .ok (.istore 6, 2) := dAX10_busiest (62, (.istore 6, 2)) (List.mem_of_getElem? (i := 33) rfl)
theorem dX10_busiest_64 : decode cX10_busiest 64 = .ok (.iload 6, 2) := dAX10_busiest (64, (.iload 6, 2)) (List.mem_of_getElem? (i := 34) rfl)
theorem dX10_busiest_66 : decode cX10_busiest 66 = .ok (.iload_n 3, 1) := dAX10_busiest (66, (.iload_n 3, 1)) (List.mem_of_getElem? (i := 35) rfl)
theorem dX10_busiest_67 : decode cX10_busiest 67 = .ok (.if_icmp .gt 6, 3) := dAX10_busiest (67, (.if_icmp .gt 6, 3)) (List.mem_of_getElem? (i := 36) rfl)
theorem dX10_busiest_70 : decode cX10_busiest 70 = .ok (.goto 22, 3) := dAX10_busiest (70, (.goto 22, 3)) (List.mem_of_getElem? (i := 37) rfl)
theorem dX10_busiest_73 : decode cX10_busiest 73 = .ok (.iload 5, 2) := dAX10_busiest (73, (.iload 5, 2)) (List.mem_of_getElem? (i := 38) rfl)
theorem dX10_busiest_75 : decode cX10_busiest 75 = .ok (.istore_n 2, 1) := dAX10_busiest (75, (.istore_n 2, 1)) (List.mem_of_getElem? (i := 39) rfl)
theorem dX10_busiest_76 : decode cX10_busiest 76 = .ok (.iload 6, 2) := dAX10_busiest (76, (.iload 6, 2)) (List.mem_of_getElem? (i := 40) rfl)
theorem dX10_busiest_78 : decode cX10_busiest 78 = .ok (.istore_n 3, 1) := dAX10_busiest (78, (.istore_n 3, 1)) (List.mem_of_getElem? (i := 41) rfl)
theorem dX10_busiest_79 : decode cX10_busiest 79 = .ok (.aload_n 0, 1) := dAX10_busiest (79, (.aload_n 0, 1)) (List.mem_of_getElem? (i := 42) rfl)
theorem dX10_busiest_80 : decode cX10_busiest 80 = .ok (.aload_n 0, 1) := dAX10_busiest (80, (.aload_n 0, 1)) (List.mem_of_getElem? (i := 43) rfl)
theorem dX10_busiest_81 : decode cX10_busiest 81 = .ok (.getfield 35, 3) := dAX10_busiest (81, (.getfield 35, 3)) (List.mem_of_getElem? (i := 44) rfl)
theorem dX10_busiest_84 : decode cX10_busiest 84 = .ok (.invokevirtual 259, 3) := dAX10_busiest (84, (.invokevirtual 259, 3)) (List.mem_of_getElem? (i := 45) rfl)
theorem dX10_busiest_87 : decode cX10_busiest 87 = .ok (.invokestatic 306, 3) := dAX10_busiest (87, (.invokestatic 306, 3)) (List.mem_of_getElem? (i := 46) rfl)
theorem dX10_busiest_90 : decode cX10_busiest 90 = .ok (.istore 4, 2) := dAX10_busiest (90, (.istore 4, 2)) (List.mem_of_getElem? (i := 47) rfl)
theorem dX10_busiest_92 : decode cX10_busiest 92 = .ok (.iinc 5 1, 3) := dAX10_busiest (92, (.iinc 5 1, 3)) (List.mem_of_getElem? (i := 48) rfl)
theorem dX10_busiest_95 : decode cX10_busiest 95 = .ok (.goto (-51), 3) := dAX10_busiest (95, (.goto (-51), 3)) (List.mem_of_getElem? (i := 49) rfl)
theorem dX10_busiest_98 : decode cX10_busiest 98 = .ok (.iload_n 1, 1) := dAX10_busiest (98, (.iload_n 1, 1)) (List.mem_of_getElem? (i := 50) rfl)
theorem dX10_busiest_99 : decode cX10_busiest 99 = .ok (.ifCond .eq 7, 3) := dAX10_busiest (99, (.ifCond .eq 7, 3)) (List.mem_of_getElem? (i := 51) rfl)
theorem dX10_busiest_102 : decode cX10_busiest 102 = .ok (.iload_n 2, 1) := dAX10_busiest (102, (.iload_n 2, 1)) (List.mem_of_getElem? (i := 52) rfl)
theorem dX10_busiest_103 : decode cX10_busiest 103 = .ok (.goto 5, 3) := dAX10_busiest (103, (.goto 5, 3)) (List.mem_of_getElem? (i := 53) rfl)
theorem dX10_busiest_106 : decode cX10_busiest 106 = .ok (.iload 4, 2) := dAX10_busiest (106, (.iload 4, 2)) (List.mem_of_getElem? (i := 54) rfl)
theorem dX10_busiest_108 : decode cX10_busiest 108 = .ok (.ireturn, 1) := dAX10_busiest (108, (.ireturn, 1)) (List.mem_of_getElem? (i := 55) rfl)
set_option maxRecDepth 20000 in
theorem ggX10_busiest_X10_good : GoodIn wsX10_busiest wsX10_good := goodIn_r _ [8, 9, 10, 61, 62, 63, 64, 65, 66, 67, 68, 69, 70, 71, 72, 73, 74, 75, 76, 77, 78, 79, 80, 81, 82, 83, 84, 85, 86, 87, 88, 89, 90, 91, 92, 93, 94, 95] rfl (by decide +kernel)
set_option maxRecDepth 20000 in
theorem gX10_busiest_X10_good : GoodIn wsX10_busiest (wsV RX10 159 RX10 yX10_good wsX10_good) := goodIn_app (goodIn_of _ (by decide +kernel)) ggX10_busiest_X10_good
set_option maxRecDepth 20000 in
theorem ggX10_busiest_X10_no : GoodIn wsX10_busiest wsX10_no := goodIn_r _ [14, 10, 61, 62, 63, 64, 65, 66, 67, 68, 69, 70, 71, 72, 73, 74, 75, 76, 77, 78, 79, 80, 81, 82, 83, 84, 85, 86, 87, 88, 89, 90, 91, 92, 93, 94, 95] rfl (by decide +kernel)
set_option maxRecDepth 20000 in
theorem gX10_busiest_X10_no : GoodIn wsX10_busiest (wsV RX10 162 RX10 yX10_no wsX10_no) := goodIn_app (goodIn_of _ (by decide +kernel)) ggX10_busiest_X10_no
set_option maxRecDepth 20000 in
theorem ggX10_busiest_X10_copy : GoodIn wsX10_busiest wsX10_copy := goodIn_r _ [17] rfl (by decide +kernel)
set_option maxRecDepth 20000 in
theorem gX10_busiest_X10_copy : GoodIn wsX10_busiest (va_wsS RX10 168 yX10_copy wsX10_copy) := goodIn_app (goodIn_of _ (by decide +kernel)) ggX10_busiest_X10_copy
set_option maxRecDepth 20000 in
theorem ggX10_busiest_X10_hourOf : GoodIn wsX10_busiest wsX10_hourOf := goodIn_r _ [21, 22, 23, 24, 25, 7, 26, 27, 28, 29, 30, 31, 32, 33, 34, 35, 36, 37, 38, 39, 40, 41, 42, 43, 44, 45, 46, 47, 48, 49, 50, 51, 52, 53, 54, 55, 56, 57, 61, 62, 63, 64, 65, 66, 67, 68, 69, 70, 71, 72, 73, 74, 75, 76, 77, 78, 79, 80, 81, 82, 83, 84, 85, 86, 87, 88, 89, 90, 91, 92, 93, 94, 95] rfl (by decide +kernel)
set_option maxRecDepth 20000 in
theorem gX10_busiest_X10_hourOf : GoodIn wsX10_busiest (wsV RX10 293 RX10 yX10_hourOf wsX10_hourOf) := goodIn_app (goodIn_of _ (by decide +kernel)) ggX10_busiest_X10_hourOf
set_option maxRecDepth 20000 in
theorem ggX10_busiest_X10_ones : GoodIn wsX10_busiest wsX10_ones := goodIn_r _ [60] rfl (by decide +kernel)
set_option maxRecDepth 20000 in
theorem gX10_busiest_X10_ones : GoodIn wsX10_busiest (va_wsS RX10 306 yX10_ones wsX10_ones) := goodIn_app (goodIn_of _ (by decide +kernel)) ggX10_busiest_X10_ones
set_option maxRecDepth 20000 in
theorem ggX10_busiest_X10_thereOf : GoodIn wsX10_busiest wsX10_thereOf := goodIn_r _ [46, 22, 27, 28, 7, 29, 61, 62, 63, 64, 65, 66, 67, 68, 69, 70, 71, 72, 73, 74, 75, 76, 77, 78, 79, 80, 81, 82, 83, 84, 85, 86, 87, 88, 89, 90, 91, 92, 93, 94, 95] rfl (by decide +kernel)
set_option maxRecDepth 20000 in
theorem gX10_busiest_X10_thereOf : GoodIn wsX10_busiest (wsV RX10 259 RX10 yX10_thereOf wsX10_thereOf) := goodIn_app (goodIn_of _ (by decide +kernel)) ggX10_busiest_X10_thereOf
theorem kX10_busiest_176 : Cond.fieldLink RX10 176 "EveningVowModel" "hasEvening" "Z" ∈ wsX10_busiest := List.mem_of_getElem? (i := 1) rfl
theorem iX10_busiest_X10 : ∀ w ∈ u_ws RX10 TX10 35, w ∈ wsX10_busiest := fun w h => (List.mem_cons_of_mem _ (List.mem_append_right _ h))
theorem kX10_busiest_26 : Cond.fieldLink RX10 26 "EveningVowModel" "st" "[I" ∈ wsX10_busiest := List.mem_of_getElem? (i := 2) rfl
theorem kX10_busiest_35 : Cond.fieldLink RX10 35 "EveningVowModel" "trial" "[I" ∈ wsX10_busiest := List.mem_of_getElem? (i := 3) rfl
set_option maxHeartbeats 4000000 in
set_option maxRecDepth 100000 in
theorem wX10_busiest_L44 {p : Program} {l : Launch} {e : Env} {s : State} {m : MethodId} {args : Array Value} {below : List Frame} {meth : Method} {c : Code} {g : GG} {A : Nat → Prop} (C0 : Cx p s m args meth c cX10_busiest 7 (some .int) RX10 wsX10_busiest g A) (a_t : Nat) (p_t : Nat → Nat) (n : Nat) (x1 : Int32) (f_t_15 : Nat → Int32) (f_t_17 : Nat → Int32) (r : Int32) (o_t' : Nat → Int32) (f_t_25' : Nat → Int32) (K : Int32 → Int32 → (Nat → Int32) → (Nat → Int32) → Option (Int32 × (Nat → Int32) × (Nat → Int32))) (hKx : ∀ (x2 : Int32) (x4 : Int32) (o_t : Nat → Int32) (f_t_25 : Nat → Int32) (H : Heap) (locs : List Loc) (ls : Array Slot), K x2 x4 o_t f_t_25 = some (r, o_t', f_t_25') → va_P g.1 vwCl [oX10 a_t p_t o_t, aI g (p_t 15) 266 f_t_15, aI g (p_t 17) 17 f_t_17, aI g (p_t 25) 17 f_t_25] H → va_D A [oX10 a_t p_t o_t, aI g (p_t 15) 266 f_t_15, aI g (p_t 17) 17 f_t_17, aI g (p_t 25) 17 f_t_25] → va_S A s.heap H locs → lv_has ls 7 [(1, .int x1), (2, .int x2), (4, .int x4)] → W p l e ({ frames := 4, cells := 0, slots := 0, locals := 93 } : Room) s m args below meth c H locs 0 0 (MQ below (EndI g r [oX10 a_t p_t o_t', aI g (p_t 15) 266 f_t_15, aI g (p_t 17) 17 f_t_17, aI g (p_t 25) 17 f_t_25'] A) args s 0 0 A) (F0 m 98 ls [])) : ∀ (k : Nat) (x2 : Int32) (x3 : Int32) (x4 : Int32) (x5 : Int32) (o_t : Nat → Int32) (f_t_25 : Nat → Int32), fX10_busiest_L44 n x1 f_t_15 K k x2 x3 x4 x5 o_t f_t_25 = some (r, o_t', f_t_25') → ∀ (H : Heap) (locs : List Loc) (ls : Array Slot), va_P g.1 vwCl [oX10 a_t p_t o_t, aI g (p_t 15) 266 f_t_15, aI g (p_t 17) 17 f_t_17, aI g (p_t 25) 17 f_t_25] H → va_D A [oX10 a_t p_t o_t, aI g (p_t 15) 266 f_t_15, aI g (p_t 17) 17 f_t_17, aI g (p_t 25) 17 f_t_25] → va_S A s.heap H locs → lv_has ls 7 [(0, .ref a_t), (1, .int x1), (2, .int x2), (3, .int x3), (4, .int x4), (5, .int x5)] → W p l e ({ frames := 4, cells := 0, slots := 0, locals := 93 } : Room) s m args below meth c H locs 0 0 (MQ below (EndI g r [oX10 a_t p_t o_t', aI g (p_t 15) 266 f_t_15, aI g (p_t 17) 17 f_t_17, aI g (p_t 25) 17 f_t_25'] A) args s 0 0 A) (F0 m 44 ls []) := by
  obtain ⟨hx, hb, hml, hown, hts, hr, hlk, hK, hA, hSW⟩ := id C0
  intro k
  induction k with
  | zero =>
    intro x2 x3 x4 x5 o_t f_t_25 hF
    exact absurd hF (by simp [fX10_busiest_L44])
  | succ k ih =>
    intro x2 x3 x4 x5 o_t f_t_25 hF H locs ls hP hD hS hl
    rw [fX10_busiest_L44] at hF
    refine lv_iload hx hb dX10_busiest_44 (lv_at hl 5 rfl) ?_
    refine lv_bipush (v := (60 : Int32)) hx hb dX10_busiest_46 (by decide) ?_
    refine lv_icmp_gt (tgt := 98) hx hb dX10_busiest_48 (by decide) (fun c_6 => ?_) (fun c_6 => ?_)
    · have hF := it_p c_6 hF
      exact hKx x2 x4 o_t f_t_25 _ _ _ hF (hP.sub [0, 1, 2, 3] rfl) (hD.sub [0, 1, 2, 3] rfl rfl) hS (lv_sub hl [1, 2, 4] rfl)
    · have hF := it_n c_6 hF
      refine lv_aload_n hx hb dX10_busiest_51 rfl (lv_at hl 0 rfl) ?_
      refine lv_aload_n hx hb dX10_busiest_52 rfl (lv_at hl 0 rfl) ?_
      refine va_get (D := g.1) (ci := 10) (v := .ref (p_t 25)) (C := RX10) (T := TX10) (N := 35) hx hb hts iX10_busiest_X10 hown hK.1 hP 0 rfl rfl 25 (by decide) (hts _ kX10_busiest_35) (fun _ h9 => h9) rfl dX10_busiest_53 ?_
      obtain ⟨u_7, u_8, u_9, hu_10, hF⟩ := ob3_some hF
      refine call_i (wr := [aI g (p_t 17) 17 f_t_17]) (As := [.ref (p_t 25)]) (rest := []) (ci := 10) (q0 := 0) C0 (mX10_hourOf l g a_t (p_t 25) p_t n o_t f_t_15 f_t_25 u_7 u_8 u_9 hu_10) (cwV 1 hts gX10_busiest_X10_hourOf rfl rfl rfl (by decide +kernel) ⟨Nat.le_of_ble_eq_true rfl, Nat.le_of_ble_eq_true rfl⟩) hP hD hS [0, 1, 3] [2] rfl rfl rfl rfl rfl (by decide) rfl rfl hl.1 rfl rfl (Nat.le_of_ble_eq_true rfl) ⟨Nat.zero_le _, Nat.zero_le _⟩ dX10_busiest_56 ?_
      intro H locs hP hD hS
      obtain ⟨u_11, hu_12, hF⟩ := ob1_some hF
      refine call_si (wr := [aI g (p_t 17) 17 f_t_17, oX10 a_t p_t u_8, aI g (p_t 15) 266 f_t_15, aI g (p_t 25) 17 u_9]) (As := [.int u_7]) (rest := []) C0 (mX10_ones l g n u_7 u_11 hu_12) (va_cwS 1 hts gX10_busiest_X10_ones rfl rfl rfl (by decide +kernel) ⟨Nat.le_of_ble_eq_true rfl, Nat.le_of_ble_eq_true rfl⟩) hP hD hS [] [0, 1, 2, 3] rfl rfl rfl rfl rfl (by decide) hl.1 rfl rfl (Nat.le_of_ble_eq_true rfl) ⟨Nat.zero_le _, Nat.zero_le _⟩ dX10_busiest_59 ?_
      intro H locs hP hD hS
      refine lv_istore (lv' := [(6, .int u_11), (0, .ref a_t), (1, .int x1), (2, .int x2), (3, .int x3), (4, .int x4), (5, .int x5)]) hx hb dX10_busiest_62 hl (by decide) rfl (fun ls hl => ?_)
      refine lv_iload hx hb dX10_busiest_64 (lv_at hl 0 rfl) ?_
      refine lv_iload_n hx hb dX10_busiest_66 rfl (lv_at hl 4 rfl) ?_
      refine lv_icmp_gt (tgt := 73) hx hb dX10_busiest_67 (by decide) (fun c_13 => ?_) (fun c_13 => ?_)
      · have hF := it_p c_13 hF
        refine lv_iload hx hb dX10_busiest_73 (lv_at hl 6 rfl) ?_
        refine lv_istore_n (lv' := [(2, .int x5), (6, .int u_11), (0, .ref a_t), (1, .int x1), (3, .int x3), (4, .int x4), (5, .int x5)]) hx hb dX10_busiest_75 rfl hl (by decide) rfl (fun ls hl => ?_)
        refine lv_iload hx hb dX10_busiest_76 (lv_at hl 1 rfl) ?_
        refine lv_istore_n (lv' := [(3, .int u_11), (2, .int x5), (6, .int u_11), (0, .ref a_t), (1, .int x1), (4, .int x4), (5, .int x5)]) hx hb dX10_busiest_78 rfl hl (by decide) rfl (fun ls hl => ?_)
        refine lv_aload_n hx hb dX10_busiest_79 rfl (lv_at hl 3 rfl) ?_
        refine lv_aload_n hx hb dX10_busiest_80 rfl (lv_at hl 3 rfl) ?_
        refine va_get (D := g.1) (ci := 10) (v := .ref (p_t 25)) (C := RX10) (T := TX10) (N := 35) hx hb hts iX10_busiest_X10 hown hK.1 hP 1 rfl rfl 25 (by decide) (hts _ kX10_busiest_35) (fun _ h9 => h9) rfl dX10_busiest_81 ?_
        obtain ⟨u_14, hu_15, hF⟩ := ob1_some hF
        refine call_i (wr := [aI g (p_t 17) 17 f_t_17]) (As := [.ref (p_t 25)]) (rest := []) (ci := 10) (q0 := 0) C0 (mX10_thereOf l g a_t (p_t 25) p_t n u_8 f_t_15 u_9 u_14 hu_15) (cwV 1 hts gX10_busiest_X10_thereOf rfl rfl rfl (by decide +kernel) ⟨Nat.le_of_ble_eq_true rfl, Nat.le_of_ble_eq_true rfl⟩) hP hD hS [1, 2, 3] [0] rfl rfl rfl rfl rfl (by decide) rfl rfl hl.1 rfl rfl (Nat.le_of_ble_eq_true rfl) ⟨Nat.zero_le _, Nat.zero_le _⟩ dX10_busiest_84 ?_
        intro H locs hP hD hS
        obtain ⟨u_16, hu_17, hF⟩ := ob1_some hF
        refine call_si (wr := [aI g (p_t 17) 17 f_t_17, oX10 a_t p_t u_8, aI g (p_t 15) 266 f_t_15, aI g (p_t 25) 17 u_9]) (As := [.int u_14]) (rest := []) C0 (mX10_ones l g n u_14 u_16 hu_17) (va_cwS 1 hts gX10_busiest_X10_ones rfl rfl rfl (by decide +kernel) ⟨Nat.le_of_ble_eq_true rfl, Nat.le_of_ble_eq_true rfl⟩) hP hD hS [] [0, 1, 2, 3] rfl rfl rfl rfl rfl (by decide) hl.1 rfl rfl (Nat.le_of_ble_eq_true rfl) ⟨Nat.zero_le _, Nat.zero_le _⟩ dX10_busiest_87 ?_
        intro H locs hP hD hS
        refine lv_istore (lv' := [(4, .int u_16), (3, .int u_11), (2, .int x5), (6, .int u_11), (0, .ref a_t), (1, .int x1), (5, .int x5)]) hx hb dX10_busiest_90 hl (by decide) rfl (fun ls hl => ?_)
        refine lv_iinc (v := (x5 + (1 : Int32))) (lv' := [(5, .int (x5 + (1 : Int32))), (4, .int u_16), (3, .int u_11), (2, .int x5), (6, .int u_11), (0, .ref a_t), (1, .int x1)]) hx hb dX10_busiest_92 hl (k := 6) rfl rfl (by decide) rfl (fun ls hl => ?_)
        refine lv_goto (tgt := 44) hx hb dX10_busiest_95 (by decide) ?_
        exact ih x5 u_11 u_16 (x5 + (1 : Int32)) u_8 u_9 hF _ _ _ (hP.sub [1, 2, 0, 3] rfl) (hD.sub [1, 2, 0, 3] rfl rfl) hS (lv_sub hl [5, 6, 3, 2, 1, 0] rfl)
      · have hF := it_n c_13 hF
        refine lv_goto (tgt := 92) hx hb dX10_busiest_70 (by decide) ?_
        refine lv_iinc (v := (x5 + (1 : Int32))) (lv' := [(5, .int (x5 + (1 : Int32))), (6, .int u_11), (0, .ref a_t), (1, .int x1), (2, .int x2), (3, .int x3), (4, .int x4)]) hx hb dX10_busiest_92 hl (k := 6) rfl rfl (by decide) rfl (fun ls hl => ?_)
        refine lv_goto (tgt := 44) hx hb dX10_busiest_95 (by decide) ?_
        exact ih x2 x3 x4 (x5 + (1 : Int32)) u_8 u_9 hF _ _ _ (hP.sub [1, 2, 0, 3] rfl) (hD.sub [1, 2, 0, 3] rfl rfl) hS (lv_sub hl [2, 3, 4, 5, 6, 0] rfl)
set_option maxHeartbeats 4000000 in
set_option maxRecDepth 100000 in
theorem mX10_busiest (l : Launch) (g : GG) (a_t : Nat) (p_t : Nat → Nat) (n : Nat) (x1 : Int32) (o_t : Nat → Int32) (f_t_15 : Nat → Int32) (f_t_17 : Nat → Int32) (f_t_25 : Nat → Int32) (r : Int32) (o_t' : Nat → Int32) (f_t_25' : Nat → Int32) (hF : fX10_busiest n x1 o_t f_t_15 f_t_17 f_t_25 = some (r, o_t', f_t_25')) : MI l g yX10_busiest wsX10_busiest ({ frames := 4, cells := 0, slots := 0, locals := 93 } : Room) [.ref a_t, .int x1] [oX10 a_t p_t o_t, aI g (p_t 15) 266 f_t_15, aI g (p_t 17) 17 f_t_17, aI g (p_t 25) 17 f_t_25] r [oX10 a_t p_t o_t', aI g (p_t 15) 266 f_t_15, aI g (p_t 17) 17 f_t_17, aI g (p_t 25) 17 f_t_25'] := by
  refine MI.of (cc := cX10_busiest) (maxL := 7) (rt := .int) (own := RX10) rfl rfl (by decide) (Nat.le_of_ble_eq_true rfl) ?_
  intro p e s m args below meth c A C0 hP hD hS ls hl
  obtain ⟨hx, hb, hml, hown, hts, hr, hlk, hK, hA, hSW⟩ := id C0
  have hl : lv_has ls 7 [(0, .ref a_t), (1, .int x1)] := hl
  rw [fX10_busiest] at hF
  refine lv_aload_n hx hb dX10_busiest_0 rfl (lv_at hl 0 rfl) ?_
  obtain ⟨u_1, hu_2, hF⟩ := ob1_some hF
  refine call_v (wr := [aI g (p_t 15) 266 f_t_15, aI g (p_t 17) 17 f_t_17, aI g (p_t 25) 17 f_t_25]) (As := []) (rest := []) (ci := 10) (q0 := 0) C0 (mX10_good l g a_t p_t n o_t u_1 hu_2) (cwV 0 hts gX10_busiest_X10_good rfl rfl rfl (by decide +kernel) ⟨Nat.le_of_ble_eq_true rfl, Nat.le_of_ble_eq_true rfl⟩) hP hD hS [0] [1, 2, 3] rfl rfl rfl rfl rfl (by decide) rfl rfl hl.1 rfl rfl (Nat.le_of_ble_eq_true rfl) ⟨Nat.zero_le _, Nat.zero_le _⟩ dX10_busiest_1 ?_
  intro H locs hP hD hS
  refine lv_aload_n hx hb dX10_busiest_4 rfl (lv_at hl 0 rfl) ?_
  refine va_get (D := g.1) (ci := 10) (v := .int (u_1 14)) (C := RX10) (T := TX10) (N := 35) hx hb hts iX10_busiest_X10 hown hK.1 hP 3 rfl rfl 14 (by decide) (hts _ kX10_busiest_176) (fun _ h9 => h9) rfl dX10_busiest_5 ?_
  refine lv_if_ne (tgt := 17) hx hb dX10_busiest_8 (by decide) (fun c_3 => ?_) (fun c_3 => ?_)
  · have hF := it_n c_3 hF
    refine lv_aload_n hx hb dX10_busiest_17 rfl (lv_at hl 0 rfl) ?_
    refine va_get (D := g.1) (ci := 10) (v := .ref (p_t 17)) (C := RX10) (T := TX10) (N := 35) hx hb hts iX10_busiest_X10 hown hK.1 hP 3 rfl rfl 17 (by decide) (hts _ kX10_busiest_26) (fun _ h9 => h9) rfl dX10_busiest_18 ?_
    refine lv_iconst (v := (0 : Int32)) hx hb dX10_busiest_21 (by decide) ?_
    refine lv_aload_n hx hb dX10_busiest_22 rfl (lv_at hl 0 rfl) ?_
    refine va_get (D := g.1) (ci := 10) (v := .ref (p_t 25)) (C := RX10) (T := TX10) (N := 35) hx hb hts iX10_busiest_X10 hown hK.1 hP 3 rfl rfl 25 (by decide) (hts _ kX10_busiest_35) (fun _ h9 => h9) rfl dX10_busiest_23 ?_
    refine lv_iconst (v := (0 : Int32)) hx hb dX10_busiest_26 (by decide) ?_
    refine lv_bipush (v := (17 : Int32)) hx hb dX10_busiest_27 (by decide) ?_
    obtain ⟨u_4, hu_5, hF⟩ := ob1_some hF
    refine call_sv (wr := [aI g (p_t 15) 266 f_t_15, oX10 a_t p_t u_1]) (As := [.ref (p_t 17), .int (0 : Int32), .ref (p_t 25), .int (0 : Int32), .int (17 : Int32)]) (rest := []) C0 (mX10_copy l g (p_t 17) (p_t 25) n (0 : Int32) (0 : Int32) (17 : Int32) 17 17 f_t_17 f_t_25 u_4 hu_5) (va_cwS 5 hts gX10_busiest_X10_copy rfl rfl rfl (by decide +kernel) ⟨Nat.le_of_ble_eq_true rfl, Nat.le_of_ble_eq_true rfl⟩) hP hD hS [1, 2] [0, 3] rfl rfl rfl rfl rfl (by decide) hl.1 rfl rfl (Nat.le_of_ble_eq_true rfl) ⟨Nat.zero_le _, Nat.zero_le _⟩ dX10_busiest_29 ?_
    intro H locs hP hD hS
    refine lv_bipush (v := (-2 : Int32)) hx hb dX10_busiest_32 (by decide) ?_
    refine lv_istore_n (lv' := [(2, .int (-2 : Int32)), (0, .ref a_t), (1, .int x1)]) hx hb dX10_busiest_34 rfl hl (by decide) rfl (fun ls hl => ?_)
    refine lv_iconst (v := (0 : Int32)) hx hb dX10_busiest_35 (by decide) ?_
    refine lv_istore_n (lv' := [(3, .int (0 : Int32)), (2, .int (-2 : Int32)), (0, .ref a_t), (1, .int x1)]) hx hb dX10_busiest_36 rfl hl (by decide) rfl (fun ls hl => ?_)
    refine lv_bipush (v := (-2 : Int32)) hx hb dX10_busiest_37 (by decide) ?_
    refine lv_istore (lv' := [(4, .int (-2 : Int32)), (3, .int (0 : Int32)), (2, .int (-2 : Int32)), (0, .ref a_t), (1, .int x1)]) hx hb dX10_busiest_39 hl (by decide) rfl (fun ls hl => ?_)
    refine lv_iconst (v := (1 : Int32)) hx hb dX10_busiest_41 (by decide) ?_
    refine lv_istore (lv' := [(5, .int (1 : Int32)), (4, .int (-2 : Int32)), (3, .int (0 : Int32)), (2, .int (-2 : Int32)), (0, .ref a_t), (1, .int x1)]) hx hb dX10_busiest_42 hl (by decide) rfl (fun ls hl => ?_)
    refine wX10_busiest_L44 C0 a_t p_t n x1 f_t_15 f_t_17 r o_t' f_t_25' _ ?_ n (-2 : Int32) (0 : Int32) (-2 : Int32) (1 : Int32) u_1 u_4 hF _ _ _ (hP.sub [1, 0, 2, 3] rfl) (hD.sub [1, 0, 2, 3] rfl rfl) hS (lv_sub hl [4, 5, 3, 2, 1, 0] rfl)
    · intro x2_x44 x4_x44 o_t_x44 f_t_25_x44 H locs ls hF hP hD hS hl
      refine lv_iload_n hx hb dX10_busiest_98 rfl (lv_at hl 0 rfl) ?_
      refine lv_if_eq (tgt := 106) hx hb dX10_busiest_99 (by decide) (fun c_18 => ?_) (fun c_18 => ?_)
      · have hF := it_p c_18 hF
        refine lv_iload hx hb dX10_busiest_106 (lv_at hl 2 rfl) ?_
        cases hF
        exact ret_i C0 hP hD hS [0, 1, 2, 3] rfl rfl rfl dX10_busiest_108 rfl
      · have hF := it_n c_18 hF
        refine lv_iload_n hx hb dX10_busiest_102 rfl (lv_at hl 1 rfl) ?_
        refine lv_goto (tgt := 108) hx hb dX10_busiest_103 (by decide) ?_
        cases hF
        exact ret_i C0 hP hD hS [0, 1, 2, 3] rfl rfl rfl dX10_busiest_108 rfl
  · have hF := it_p c_3 hF
    refine lv_aload_n hx hb dX10_busiest_11 rfl (lv_at hl 0 rfl) ?_
    refine lv_iconst (v := (1 : Int32)) hx hb dX10_busiest_12 (by decide) ?_
    obtain ⟨u_19, u_20, hu_21, hF⟩ := ob2_some hF
    refine call_i (wr := [aI g (p_t 15) 266 f_t_15, aI g (p_t 17) 17 f_t_17, aI g (p_t 25) 17 f_t_25]) (As := [.int (1 : Int32)]) (rest := []) (ci := 10) (q0 := 0) C0 (mX10_no l g a_t p_t n (1 : Int32) u_1 u_19 u_20 hu_21) (cwV 1 hts gX10_busiest_X10_no rfl rfl rfl (by decide +kernel) ⟨Nat.le_of_ble_eq_true rfl, Nat.le_of_ble_eq_true rfl⟩) hP hD hS [3] [0, 1, 2] rfl rfl rfl rfl rfl (by decide) rfl rfl hl.1 rfl rfl (Nat.le_of_ble_eq_true rfl) ⟨Nat.zero_le _, Nat.zero_le _⟩ dX10_busiest_13 ?_
    intro H locs hP hD hS
    cases hF
    exact ret_i C0 hP hD hS [3, 0, 1, 2] rfl rfl rfl dX10_busiest_16 rfl

theorem dAX10_order : ∀ q ∈ ([(0, (.aload_n 0, 1)), (1, (.invokevirtual 159, 3)), (4, (.aload_n 0, 1)), (5, (.getfield 176, 3)), (8, (.ifCond .eq 7, 3)), (11, (.iload_n 1, 1)), (12, (.ifCond .ge 9, 3)), (15, (.aload_n 0, 1)), (16, (.iconst 1, 1)), (17, (.invokevirtual 162, 3)), (20, (.ireturn, 1)), (21, (.aload_n 0, 1)), (22, (.getfield 26, 3)), (25, (.iconst 0, 1)), (26, (.aload_n 0, 1)), (27, (.getfield 35, 3)), (30, (.iconst 0, 1)), (31, (.bipush 17, 2)), (33, (.invokestatic 168, 3)), (36, (.iconst 0, 1)), (37, (.istore_n 2, 1)), (38, (.iconst 0, 1)), (39, (.istore_n 3, 1)), (40, (.iload_n 3, 1)), (41, (.bipush 60, 2)), (43, (.if_icmp .ge 63, 3)), (46, (.aload_n 0, 1)), (47, (.aload_n 0, 1)), (48, (.getfield 35, 3)), (51, (.invokevirtual 293, 3)), (54, (.istore 4, 2)), (56, (.iconst 0, 1)), (57, (.istore 5, 2)), (59, (.iload 5, 2)), (61, (.aload_n 0, 1)), (62, (.getfield 20, 3)), (65, (.iconst 3, 1)), (66, (.iaload, 1)), (67, (.if_icmp .ge 33, 3)), (70, (.iload 4, 2)), (72, (.iload 5, 2)), (74, (.invokestatic 252, 3)), (77, (.ifCond .ne 6, 3)), (80, (.goto 14, 3)), (83, (.iload_n 2, 1)), (84, (.iload_n 1, 1)), (85, (.if_icmp .ne 6, 3)), (88, (.iload 5, 2)), (90, (.ireturn, 1)), (91, (.iinc 2 1, 3)), (94, (.iinc 5 1, 3)), (97, (.goto (-38), 3)), (100, (.iinc 3 1, 3)), (103, (.goto (-63), 3)), (106, (.bipush (-2), 2)), (108, (.ireturn, 1))] : List (Nat × (Instr × Nat))), decode cX10_order q.1 = .ok q.2 := by decide +kernel
theorem dX10_order_0 : decode cX10_order 0 = .ok (.aload_n 0, 1) := dAX10_order (0, (.aload_n 0, 1)) (List.mem_of_getElem? (i := 0) rfl)
theorem dX10_order_1 : decode cX10_order 1 = .ok (.invokevirtual 159, 3) := dAX10_order (1, (.invokevirtual 159, 3)) (List.mem_of_getElem? (i := 1) rfl)
theorem dX10_order_4 : decode cX10_order 4 = .ok (.aload_n 0, 1) := dAX10_order (4, (.aload_n 0, 1)) (List.mem_of_getElem? (i := 2) rfl)
theorem dX10_order_5 : decode cX10_order 5 = .ok (.getfield 176, 3) := dAX10_order (5, (.getfield 176, 3)) (List.mem_of_getElem? (i := 3) rfl)
theorem dX10_order_8 : decode cX10_order 8 = .ok (.ifCond .eq 7, 3) := dAX10_order (8, (.ifCond .eq 7, 3)) (List.mem_of_getElem? (i := 4) rfl)
theorem dX10_order_11 : decode cX10_order 11 = .ok (.iload_n 1, 1) := dAX10_order (11, (.iload_n 1, 1)) (List.mem_of_getElem? (i := 5) rfl)
theorem dX10_order_12 : decode cX10_order 12 = .ok (.ifCond .ge 9, 3) := dAX10_order (12, (.ifCond .ge 9, 3)) (List.mem_of_getElem? (i := 6) rfl)
theorem dX10_order_15 : decode cX10_order 15 = .ok (.aload_n 0, 1) := dAX10_order (15, (.aload_n 0, 1)) (List.mem_of_getElem? (i := 7) rfl)
theorem dX10_order_16 : decode cX10_order 16 = .ok (.iconst 1, 1) := dAX10_order (16, (.iconst 1, 1)) (List.mem_of_getElem? (i := 8) rfl)
theorem dX10_order_17 : decode cX10_order 17 = .ok (.invokevirtual 162, 3) := dAX10_order (17, (.invokevirtual 162, 3)) (List.mem_of_getElem? (i := 9) rfl)
theorem dX10_order_20 : decode cX10_order 20 = .ok (.ireturn, 1) := dAX10_order (20, (.ireturn, 1)) (List.mem_of_getElem? (i := 10) rfl)
theorem dX10_order_21 : decode cX10_order 21 = .ok (.aload_n 0, 1) := dAX10_order (21, (.aload_n 0, 1)) (List.mem_of_getElem? (i := 11) rfl)
theorem dX10_order_22 : decode cX10_order 22 = .ok (.getfield 26, 3) := dAX10_order (22, (.getfield 26, 3)) (List.mem_of_getElem? (i := 12) rfl)
theorem dX10_order_25 : decode cX10_order 25 = .ok (.iconst 0, 1) := dAX10_order (25, (.iconst 0, 1)) (List.mem_of_getElem? (i := 13) rfl)
theorem dX10_order_26 : decode cX10_order 26 = .ok (.aload_n 0, 1) := dAX10_order (26, (.aload_n 0, 1)) (List.mem_of_getElem? (i := 14) rfl)
theorem dX10_order_27 : decode cX10_order 27 = .ok (.getfield 35, 3) := dAX10_order (27, (.getfield 35, 3)) (List.mem_of_getElem? (i := 15) rfl)
theorem dX10_order_30 : decode cX10_order 30 = .ok (.iconst 0, 1) := dAX10_order (30, (.iconst 0, 1)) (List.mem_of_getElem? (i := 16) rfl)
theorem dX10_order_31 : decode cX10_order 31 = .ok (.bipush 17, 2) := dAX10_order (31, (.bipush 17, 2)) (List.mem_of_getElem? (i := 17) rfl)
theorem dX10_order_33 : decode cX10_order 33 = .ok (.invokestatic 168, 3) := dAX10_order (33, (.invokestatic 168, 3)) (List.mem_of_getElem? (i := 18) rfl)
theorem dX10_order_36 : decode cX10_order 36 = .ok (.iconst 0, 1) := dAX10_order (36, (.iconst 0, 1)) (List.mem_of_getElem? (i := 19) rfl)
theorem dX10_order_37 : decode cX10_order 37 = .ok (.istore_n 2, 1) := dAX10_order (37, (.istore_n 2, 1)) (List.mem_of_getElem? (i := 20) rfl)
theorem dX10_order_38 : decode cX10_order 38 = .ok (.iconst 0, 1) := dAX10_order (38, (.iconst 0, 1)) (List.mem_of_getElem? (i := 21) rfl)
theorem dX10_order_39 : decode cX10_order 39 = .ok (.istore_n 3, 1) := dAX10_order (39, (.istore_n 3, 1)) (List.mem_of_getElem? (i := 22) rfl)
theorem dX10_order_40 : decode cX10_order 40 = .ok (.iload_n 3, 1) := dAX10_order (40, (.iload_n 3, 1)) (List.mem_of_getElem? (i := 23) rfl)
theorem dX10_order_41 : decode cX10_order 41 = .ok (.bipush 60, 2) := dAX10_order (41, (.bipush 60, 2)) (List.mem_of_getElem? (i := 24) rfl)
theorem dX10_order_43 : decode cX10_order 43 = .ok (.if_icmp .ge 63, 3) := dAX10_order (43, (.if_icmp .ge 63, 3)) (List.mem_of_getElem? (i := 25) rfl)
theorem dX10_order_46 : decode cX10_order 46 = .ok (.aload_n 0, 1) := dAX10_order (46, (.aload_n 0, 1)) (List.mem_of_getElem? (i := 26) rfl)
theorem dX10_order_47 : decode cX10_order 47 = .ok (.aload_n 0, 1) := dAX10_order (47, (.aload_n 0, 1)) (List.mem_of_getElem? (i := 27) rfl)
theorem dX10_order_48 : decode cX10_order 48 = .ok (.getfield 35, 3) := dAX10_order (48, (.getfield 35, 3)) (List.mem_of_getElem? (i := 28) rfl)
theorem dX10_order_51 : decode cX10_order 51 = .ok (.invokevirtual 293, 3) := dAX10_order (51, (.invokevirtual 293, 3)) (List.mem_of_getElem? (i := 29) rfl)
theorem dX10_order_54 : decode cX10_order 54 = .ok (.istore 4, 2) := dAX10_order (54, (.istore 4, 2)) (List.mem_of_getElem? (i := 30) rfl)
theorem dX10_order_56 : decode cX10_order 56 = .ok (.iconst 0, 1) := dAX10_order (56, (.iconst 0, 1)) (List.mem_of_getElem? (i := 31) rfl)
theorem dX10_order_57 : decode cX10_order 57 = .ok (.istore 5, 2) := dAX10_order (57, (.istore 5, 2)) (List.mem_of_getElem? (i := 32) rfl)
theorem dX10_order_59 : decode cX10_order 59 = .ok (.iload 5, 2) := dAX10_order (59, (.iload 5, 2)) (List.mem_of_getElem? (i := 33) rfl)
theorem dX10_order_61 : decode cX10_order 61 = .ok (.aload_n 0, 1) := dAX10_order (61, (.aload_n 0, 1)) (List.mem_of_getElem? (i := 34) rfl)
theorem dX10_order_62 : decode cX10_order 62 = .ok (.getfield 20, 3) := dAX10_order (62, (.getfield 20, 3)) (List.mem_of_getElem? (i := 35) rfl)
theorem dX10_order_65 : decode cX10_order 65 = .ok (.iconst 3, 1) := dAX10_order (65, (.iconst 3, 1)) (List.mem_of_getElem? (i := 36) rfl)
theorem dX10_order_66 : decode cX10_order 66 = .ok (.iaload, 1) := dAX10_order (66, (.iaload, 1)) (List.mem_of_getElem? (i := 37) rfl)
theorem dX10_order_67 : decode cX10_order 67 = .ok (.if_icmp .ge 33, 3) := dAX10_order (67, (.if_icmp .ge 33, 3)) (List.mem_of_getElem? (i := 38) rfl)
theorem dX10_order_70 : decode cX10_order 70 = .ok (.iload 4, 2) := dAX10_order (70, (.iload 4, 2)) (List.mem_of_getElem? (i := 39) rfl)
theorem dX10_order_72 : decode cX10_order 72 = .ok (.iload 5, 2) := dAX10_order (72, (.iload 5, 2)) (List.mem_of_getElem? (i := 40) rfl)
theorem dX10_order_74 : decode cX10_order 74 = .ok (.invokestatic 252, 3) := dAX10_order (74, (.invokestatic 252, 3)) (List.mem_of_getElem? (i := 41) rfl)
theorem dX10_order_77 : decode cX10_order 77 = .ok (.ifCond .ne 6, 3) := dAX10_order (77, (.ifCond .ne 6, 3)) (List.mem_of_getElem? (i := 42) rfl)
theorem dX10_order_80 : decode cX10_order 80 = .ok (.goto 14, 3) := dAX10_order (80, (.goto 14, 3)) (List.mem_of_getElem? (i := 43) rfl)
theorem dX10_order_83 : decode cX10_order 83 = .ok (.iload_n 2, 1) := dAX10_order (83, (.iload_n 2, 1)) (List.mem_of_getElem? (i := 44) rfl)
theorem dX10_order_84 : decode cX10_order 84 = .ok (.iload_n 1, 1) := dAX10_order (84, (.iload_n 1, 1)) (List.mem_of_getElem? (i := 45) rfl)
theorem dX10_order_85 : decode cX10_order 85 = .ok (.if_icmp .ne 6, 3) := dAX10_order (85, (.if_icmp .ne 6, 3)) (List.mem_of_getElem? (i := 46) rfl)
theorem dX10_order_88 : decode cX10_order 88 = .ok (.iload 5, 2) := dAX10_order (88, (.iload 5, 2)) (List.mem_of_getElem? (i := 47) rfl)
theorem dX10_order_90 : decode cX10_order 90 = .ok (.ireturn, 1) := dAX10_order (90, (.ireturn, 1)) (List.mem_of_getElem? (i := 48) rfl)
theorem dX10_order_91 : decode cX10_order 91 = .ok (.iinc 2 1, 3) := dAX10_order (91, (.iinc 2 1, 3)) (List.mem_of_getElem? (i := 49) rfl)
theorem dX10_order_94 : decode cX10_order 94 = .ok (.iinc 5 1, 3) := dAX10_order (94, (.iinc 5 1, 3)) (List.mem_of_getElem? (i := 50) rfl)
theorem dX10_order_97 : decode cX10_order 97 = .ok (.goto (-38), 3) := dAX10_order (97, (.goto (-38), 3)) (List.mem_of_getElem? (i := 51) rfl)
theorem dX10_order_100 : decode cX10_order 100 = .ok (.iinc 3 1, 3) := dAX10_order (100, (.iinc 3 1, 3)) (List.mem_of_getElem? (i := 52) rfl)
theorem dX10_order_103 : decode cX10_order 103 = .ok (.goto (-63), 3) := dAX10_order (103, (.goto (-63), 3)) (List.mem_of_getElem? (i := 53) rfl)
theorem dX10_order_106 : decode cX10_order 106 = .ok (.bipush (-2), 2) := dAX10_order (106, (.bipush (-2), 2)) (List.mem_of_getElem? (i := 54) rfl)
theorem dX10_order_108 : decode cX10_order 108 = .ok (.ireturn, 1) := dAX10_order (108, (.ireturn, 1)) (List.mem_of_getElem? (i := 55) rfl)
set_option maxRecDepth 20000 in
theorem ggX10_order_X10_good : GoodIn wsX10_order wsX10_good := goodIn_r _ [9, 10, 11, 58, 59, 60, 61, 62, 63, 64, 65, 66, 67, 68, 69, 70, 71, 72, 73, 74, 75, 76, 77, 78, 79, 80, 81, 82, 83, 84, 85, 86, 87, 88, 89, 90, 91, 92] rfl (by decide +kernel)
set_option maxRecDepth 20000 in
theorem gX10_order_X10_good : GoodIn wsX10_order (wsV RX10 159 RX10 yX10_good wsX10_good) := goodIn_app (goodIn_of _ (by decide +kernel)) ggX10_order_X10_good
set_option maxRecDepth 20000 in
theorem ggX10_order_X10_no : GoodIn wsX10_order wsX10_no := goodIn_r _ [15, 11, 58, 59, 60, 61, 62, 63, 64, 65, 66, 67, 68, 69, 70, 71, 72, 73, 74, 75, 76, 77, 78, 79, 80, 81, 82, 83, 84, 85, 86, 87, 88, 89, 90, 91, 92] rfl (by decide +kernel)
set_option maxRecDepth 20000 in
theorem gX10_order_X10_no : GoodIn wsX10_order (wsV RX10 162 RX10 yX10_no wsX10_no) := goodIn_app (goodIn_of _ (by decide +kernel)) ggX10_order_X10_no
set_option maxRecDepth 20000 in
theorem ggX10_order_X10_copy : GoodIn wsX10_order wsX10_copy := goodIn_r _ [18] rfl (by decide +kernel)
set_option maxRecDepth 20000 in
theorem gX10_order_X10_copy : GoodIn wsX10_order (va_wsS RX10 168 yX10_copy wsX10_copy) := goodIn_app (goodIn_of _ (by decide +kernel)) ggX10_order_X10_copy
set_option maxRecDepth 20000 in
theorem ggX10_order_X10_hourOf : GoodIn wsX10_order wsX10_hourOf := goodIn_r _ [22, 4, 23, 24, 25, 8, 26, 27, 28, 29, 30, 31, 32, 33, 34, 35, 36, 37, 38, 39, 40, 41, 42, 43, 44, 45, 46, 47, 48, 49, 50, 51, 52, 53, 54, 55, 56, 57, 58, 59, 60, 61, 62, 63, 64, 65, 66, 67, 68, 69, 70, 71, 72, 73, 74, 75, 76, 77, 78, 79, 80, 81, 82, 83, 84, 85, 86, 87, 88, 89, 90, 91, 92] rfl (by decide +kernel)
set_option maxRecDepth 20000 in
theorem gX10_order_X10_hourOf : GoodIn wsX10_order (wsV RX10 293 RX10 yX10_hourOf wsX10_hourOf) := goodIn_app (goodIn_of _ (by decide +kernel)) ggX10_order_X10_hourOf
set_option maxRecDepth 20000 in
theorem ggX10_order_X10_hasBit : GoodIn wsX10_order wsX10_hasBit := goodIn_r _ [57] rfl (by decide +kernel)
set_option maxRecDepth 20000 in
theorem gX10_order_X10_hasBit : GoodIn wsX10_order (va_wsS RX10 252 yX10_hasBit wsX10_hasBit) := goodIn_app (goodIn_of _ (by decide +kernel)) ggX10_order_X10_hasBit
theorem kX10_order_176 : Cond.fieldLink RX10 176 "EveningVowModel" "hasEvening" "Z" ∈ wsX10_order := List.mem_of_getElem? (i := 1) rfl
theorem iX10_order_X10 : ∀ w ∈ u_ws RX10 TX10 35, w ∈ wsX10_order := fun w h => (List.mem_cons_of_mem _ (List.mem_append_right _ h))
theorem kX10_order_26 : Cond.fieldLink RX10 26 "EveningVowModel" "st" "[I" ∈ wsX10_order := List.mem_of_getElem? (i := 2) rfl
theorem kX10_order_35 : Cond.fieldLink RX10 35 "EveningVowModel" "trial" "[I" ∈ wsX10_order := List.mem_of_getElem? (i := 3) rfl
theorem kX10_order_20 : Cond.fieldLink RX10 20 "EveningVowModel" "\x72" "[I" ∈ wsX10_order := List.mem_of_getElem? (i := 4) rfl
set_option maxHeartbeats 4000000 in
set_option maxRecDepth 100000 in
theorem wX10_order_L59 {p : Program} {l : Launch} {e : Env} {s : State} {m : MethodId} {args : Array Value} {below : List Frame} {meth : Method} {c : Code} {g : GG} {A : Nat → Prop} (C0 : Cx p s m args meth c cX10_order 6 (some .int) RX10 wsX10_order g A) (a_t : Nat) (p_t : Nat → Nat) (n : Nat) (x1 : Int32) (x3 : Int32) (x4 : Int32) (o_t : Nat → Int32) (f_t_15 : Nat → Int32) (f_t_25 : Nat → Int32) (f_t_17 : Nat → Int32) (r : Int32) (o_t' : Nat → Int32) (f_t_25' : Nat → Int32) (K : Int32 → Option (Int32 × (Nat → Int32) × (Nat → Int32))) (hKx : ∀ (x2 : Int32) (H : Heap) (locs : List Loc) (ls : Array Slot), K x2 = some (r, o_t', f_t_25') → va_P g.1 vwCl [oX10 a_t p_t o_t, aI g (p_t 15) 266 f_t_15, aI g (p_t 17) 17 f_t_17, aI g (p_t 25) 17 f_t_25] H → va_D A [oX10 a_t p_t o_t, aI g (p_t 15) 266 f_t_15, aI g (p_t 17) 17 f_t_17, aI g (p_t 25) 17 f_t_25] → va_S A s.heap H locs → lv_has ls 6 [(0, .ref a_t), (1, .int x1), (2, .int x2), (3, .int x3)] → W p l e ({ frames := 4, cells := 0, slots := 0, locals := 93 } : Room) s m args below meth c H locs 0 0 (MQ below (EndI g r [oX10 a_t p_t o_t', aI g (p_t 15) 266 f_t_15, aI g (p_t 17) 17 f_t_17, aI g (p_t 25) 17 f_t_25'] A) args s 0 0 A) (F0 m 100 ls [])) : ∀ (k : Nat) (x2 : Int32) (x5 : Int32), fX10_order_L59 n x1 x3 x4 o_t f_t_15 f_t_25 K k x2 x5 = some (r, o_t', f_t_25') → ∀ (H : Heap) (locs : List Loc) (ls : Array Slot), va_P g.1 vwCl [oX10 a_t p_t o_t, aI g (p_t 15) 266 f_t_15, aI g (p_t 17) 17 f_t_17, aI g (p_t 25) 17 f_t_25] H → va_D A [oX10 a_t p_t o_t, aI g (p_t 15) 266 f_t_15, aI g (p_t 17) 17 f_t_17, aI g (p_t 25) 17 f_t_25] → va_S A s.heap H locs → lv_has ls 6 [(0, .ref a_t), (1, .int x1), (2, .int x2), (3, .int x3), (4, .int x4), (5, .int x5)] → W p l e ({ frames := 4, cells := 0, slots := 0, locals := 93 } : Room) s m args below meth c H locs 0 0 (MQ below (EndI g r [oX10 a_t p_t o_t', aI g (p_t 15) 266 f_t_15, aI g (p_t 17) 17 f_t_17, aI g (p_t 25) 17 f_t_25'] A) args s 0 0 A) (F0 m 59 ls []) := by
  obtain ⟨hx, hb, hml, hown, hts, hr, hlk, hK, hA, hSW⟩ := id C0
  intro k
  induction k with
  | zero =>
    intro x2 x5 hF
    exact absurd hF (by simp [fX10_order_L59])
  | succ k ih =>
    intro x2 x5 hF H locs ls hP hD hS hl
    rw [fX10_order_L59] at hF
    refine lv_iload hx hb dX10_order_59 (lv_at hl 5 rfl) ?_
    refine lv_aload_n hx hb dX10_order_61 rfl (lv_at hl 0 rfl) ?_
    refine va_get (D := g.1) (ci := 10) (v := .ref (p_t 15)) (C := RX10) (T := TX10) (N := 35) hx hb hts iX10_order_X10 hown hK.1 hP 0 rfl rfl 15 (by decide) (hts _ kX10_order_20) (fun _ h9 => h9) rfl dX10_order_62 ?_
    refine lv_iconst (v := (3 : Int32)) hx hb dX10_order_65 (by decide) ?_
    refine va_iald_k (j := 3) hx hb hK.1 hP 1 0 rfl rfl (by unfold vp_in; decide) rfl dX10_order_66 ?_
    refine lv_icmp_ge (tgt := 100) hx hb dX10_order_67 (by decide) (fun c_15 => ?_) (fun c_15 => ?_)
    · have hF := it_p c_15 hF
      exact hKx x2 _ _ _ hF (hP.sub [0, 1, 2, 3] rfl) (hD.sub [0, 1, 2, 3] rfl rfl) hS (lv_sub hl [0, 1, 2, 3] rfl)
    · have hF := it_n c_15 hF
      refine lv_iload hx hb dX10_order_70 (lv_at hl 4 rfl) ?_
      refine lv_iload hx hb dX10_order_72 (lv_at hl 5 rfl) ?_
      obtain ⟨u_16, hu_17, hF⟩ := ob1_some hF
      refine call_si (wr := [oX10 a_t p_t o_t, aI g (p_t 15) 266 f_t_15, aI g (p_t 17) 17 f_t_17, aI g (p_t 25) 17 f_t_25]) (As := [.int x4, .int x5]) (rest := []) C0 (mX10_hasBit l g n x4 x5 u_16 hu_17) (va_cwS 2 hts gX10_order_X10_hasBit rfl rfl rfl (by decide +kernel) ⟨Nat.le_of_ble_eq_true rfl, Nat.le_of_ble_eq_true rfl⟩) hP hD hS [] [0, 1, 2, 3] rfl rfl rfl rfl rfl (by decide) hl.1 rfl rfl (Nat.le_of_ble_eq_true rfl) ⟨Nat.zero_le _, Nat.zero_le _⟩ dX10_order_74 ?_
      intro H locs hP hD hS
      refine lv_if_ne (tgt := 83) hx hb dX10_order_77 (by decide) (fun c_18 => ?_) (fun c_18 => ?_)
      · have hF := it_n c_18 hF
        refine lv_iload_n hx hb dX10_order_83 rfl (lv_at hl 2 rfl) ?_
        refine lv_iload_n hx hb dX10_order_84 rfl (lv_at hl 1 rfl) ?_
        refine lv_icmp_ne (tgt := 91) hx hb dX10_order_85 (by decide) (fun c_19 => ?_) (fun c_19 => ?_)
        · have hF := it_n c_19 hF
          refine lv_iinc (v := (x2 + (1 : Int32))) (lv' := [(2, .int (x2 + (1 : Int32))), (0, .ref a_t), (1, .int x1), (3, .int x3), (4, .int x4), (5, .int x5)]) hx hb dX10_order_91 hl (k := 2) rfl rfl (by decide) rfl (fun ls hl => ?_)
          refine lv_iinc (v := (x5 + (1 : Int32))) (lv' := [(5, .int (x5 + (1 : Int32))), (2, .int (x2 + (1 : Int32))), (0, .ref a_t), (1, .int x1), (3, .int x3), (4, .int x4)]) hx hb dX10_order_94 hl (k := 5) rfl rfl (by decide) rfl (fun ls hl => ?_)
          refine lv_goto (tgt := 59) hx hb dX10_order_97 (by decide) ?_
          exact ih (x2 + (1 : Int32)) (x5 + (1 : Int32)) hF _ _ _ (hP.sub [0, 1, 2, 3] rfl) (hD.sub [0, 1, 2, 3] rfl rfl) hS (lv_sub hl [2, 3, 1, 4, 5, 0] rfl)
        · have hF := it_p c_19 hF
          refine lv_iload hx hb dX10_order_88 (lv_at hl 5 rfl) ?_
          cases hF
          exact ret_i C0 hP hD hS [0, 1, 2, 3] rfl rfl rfl dX10_order_90 rfl
      · have hF := it_p c_18 hF
        refine lv_goto (tgt := 94) hx hb dX10_order_80 (by decide) ?_
        refine lv_iinc (v := (x5 + (1 : Int32))) (lv' := [(5, .int (x5 + (1 : Int32))), (0, .ref a_t), (1, .int x1), (2, .int x2), (3, .int x3), (4, .int x4)]) hx hb dX10_order_94 hl (k := 5) rfl rfl (by decide) rfl (fun ls hl => ?_)
        refine lv_goto (tgt := 59) hx hb dX10_order_97 (by decide) ?_
        exact ih x2 (x5 + (1 : Int32)) hF _ _ _ (hP.sub [0, 1, 2, 3] rfl) (hD.sub [0, 1, 2, 3] rfl rfl) hS (lv_sub hl [1, 2, 3, 4, 5, 0] rfl)
set_option maxHeartbeats 4000000 in
set_option maxRecDepth 100000 in
theorem wX10_order_L40 {p : Program} {l : Launch} {e : Env} {s : State} {m : MethodId} {args : Array Value} {below : List Frame} {meth : Method} {c : Code} {g : GG} {A : Nat → Prop} (C0 : Cx p s m args meth c cX10_order 6 (some .int) RX10 wsX10_order g A) (a_t : Nat) (p_t : Nat → Nat) (n : Nat) (x1 : Int32) (f_t_15 : Nat → Int32) (f_t_17 : Nat → Int32) (r : Int32) (o_t' : Nat → Int32) (f_t_25' : Nat → Int32) (K : (Nat → Int32) → (Nat → Int32) → Option (Int32 × (Nat → Int32) × (Nat → Int32))) (hKx : ∀ (o_t : Nat → Int32) (f_t_25 : Nat → Int32) (H : Heap) (locs : List Loc) (ls : Array Slot), K o_t f_t_25 = some (r, o_t', f_t_25') → va_P g.1 vwCl [oX10 a_t p_t o_t, aI g (p_t 15) 266 f_t_15, aI g (p_t 17) 17 f_t_17, aI g (p_t 25) 17 f_t_25] H → va_D A [oX10 a_t p_t o_t, aI g (p_t 15) 266 f_t_15, aI g (p_t 17) 17 f_t_17, aI g (p_t 25) 17 f_t_25] → va_S A s.heap H locs → lv_has ls 6 [] → W p l e ({ frames := 4, cells := 0, slots := 0, locals := 93 } : Room) s m args below meth c H locs 0 0 (MQ below (EndI g r [oX10 a_t p_t o_t', aI g (p_t 15) 266 f_t_15, aI g (p_t 17) 17 f_t_17, aI g (p_t 25) 17 f_t_25'] A) args s 0 0 A) (F0 m 106 ls [])) : ∀ (k : Nat) (x2 : Int32) (x3 : Int32) (o_t : Nat → Int32) (f_t_25 : Nat → Int32), fX10_order_L40 n x1 f_t_15 K k x2 x3 o_t f_t_25 = some (r, o_t', f_t_25') → ∀ (H : Heap) (locs : List Loc) (ls : Array Slot), va_P g.1 vwCl [oX10 a_t p_t o_t, aI g (p_t 15) 266 f_t_15, aI g (p_t 17) 17 f_t_17, aI g (p_t 25) 17 f_t_25] H → va_D A [oX10 a_t p_t o_t, aI g (p_t 15) 266 f_t_15, aI g (p_t 17) 17 f_t_17, aI g (p_t 25) 17 f_t_25] → va_S A s.heap H locs → lv_has ls 6 [(0, .ref a_t), (1, .int x1), (2, .int x2), (3, .int x3)] → W p l e ({ frames := 4, cells := 0, slots := 0, locals := 93 } : Room) s m args below meth c H locs 0 0 (MQ below (EndI g r [oX10 a_t p_t o_t', aI g (p_t 15) 266 f_t_15, aI g (p_t 17) 17 f_t_17, aI g (p_t 25) 17 f_t_25'] A) args s 0 0 A) (F0 m 40 ls []) := by
  obtain ⟨hx, hb, hml, hown, hts, hr, hlk, hK, hA, hSW⟩ := id C0
  intro k
  induction k with
  | zero =>
    intro x2 x3 o_t f_t_25 hF
    exact absurd hF (by simp [fX10_order_L40])
  | succ k ih =>
    intro x2 x3 o_t f_t_25 hF H locs ls hP hD hS hl
    rw [fX10_order_L40] at hF
    refine lv_iload_n hx hb dX10_order_40 rfl (lv_at hl 3 rfl) ?_
    refine lv_bipush (v := (60 : Int32)) hx hb dX10_order_41 (by decide) ?_
    refine lv_icmp_ge (tgt := 106) hx hb dX10_order_43 (by decide) (fun c_10 => ?_) (fun c_10 => ?_)
    · have hF := it_p c_10 hF
      exact hKx o_t f_t_25 _ _ _ hF (hP.sub [0, 1, 2, 3] rfl) (hD.sub [0, 1, 2, 3] rfl rfl) hS (lv_sub hl [] rfl)
    · have hF := it_n c_10 hF
      refine lv_aload_n hx hb dX10_order_46 rfl (lv_at hl 0 rfl) ?_
      refine lv_aload_n hx hb dX10_order_47 rfl (lv_at hl 0 rfl) ?_
      refine va_get (D := g.1) (ci := 10) (v := .ref (p_t 25)) (C := RX10) (T := TX10) (N := 35) hx hb hts iX10_order_X10 hown hK.1 hP 0 rfl rfl 25 (by decide) (hts _ kX10_order_35) (fun _ h9 => h9) rfl dX10_order_48 ?_
      obtain ⟨u_11, u_12, u_13, hu_14, hF⟩ := ob3_some hF
      refine call_i (wr := [aI g (p_t 17) 17 f_t_17]) (As := [.ref (p_t 25)]) (rest := []) (ci := 10) (q0 := 0) C0 (mX10_hourOf l g a_t (p_t 25) p_t n o_t f_t_15 f_t_25 u_11 u_12 u_13 hu_14) (cwV 1 hts gX10_order_X10_hourOf rfl rfl rfl (by decide +kernel) ⟨Nat.le_of_ble_eq_true rfl, Nat.le_of_ble_eq_true rfl⟩) hP hD hS [0, 1, 3] [2] rfl rfl rfl rfl rfl (by decide) rfl rfl hl.1 rfl rfl (Nat.le_of_ble_eq_true rfl) ⟨Nat.zero_le _, Nat.zero_le _⟩ dX10_order_51 ?_
      intro H locs hP hD hS
      refine lv_istore (lv' := [(4, .int u_11), (0, .ref a_t), (1, .int x1), (2, .int x2), (3, .int x3)]) hx hb dX10_order_54 hl (by decide) rfl (fun ls hl => ?_)
      refine lv_iconst (v := (0 : Int32)) hx hb dX10_order_56 (by decide) ?_
      refine lv_istore (lv' := [(5, .int (0 : Int32)), (4, .int u_11), (0, .ref a_t), (1, .int x1), (2, .int x2), (3, .int x3)]) hx hb dX10_order_57 hl (by decide) rfl (fun ls hl => ?_)
      refine wX10_order_L59 C0 a_t p_t n x1 x3 u_11 u_12 f_t_15 u_13 f_t_17 r o_t' f_t_25' _ ?_ n x2 (0 : Int32) hF _ _ _ (hP.sub [1, 2, 0, 3] rfl) (hD.sub [1, 2, 0, 3] rfl rfl) hS (lv_sub hl [2, 3, 4, 5, 1, 0] rfl)
      · intro x2_x59 H locs ls hF hP hD hS hl
        refine lv_iinc (v := (x3 + (1 : Int32))) (lv' := [(3, .int (x3 + (1 : Int32))), (0, .ref a_t), (1, .int x1), (2, .int x2_x59)]) hx hb dX10_order_100 hl (k := 3) rfl rfl (by decide) rfl (fun ls hl => ?_)
        refine lv_goto (tgt := 40) hx hb dX10_order_103 (by decide) ?_
        exact ih x2_x59 (x3 + (1 : Int32)) u_12 u_13 hF _ _ _ (hP.sub [0, 1, 2, 3] rfl) (hD.sub [0, 1, 2, 3] rfl rfl) hS (lv_sub hl [1, 2, 3, 0] rfl)
set_option maxHeartbeats 4000000 in
set_option maxRecDepth 100000 in
theorem mX10_order (l : Launch) (g : GG) (a_t : Nat) (p_t : Nat → Nat) (n : Nat) (x1 : Int32) (o_t : Nat → Int32) (f_t_15 : Nat → Int32) (f_t_17 : Nat → Int32) (f_t_25 : Nat → Int32) (r : Int32) (o_t' : Nat → Int32) (f_t_25' : Nat → Int32) (hF : fX10_order n x1 o_t f_t_15 f_t_17 f_t_25 = some (r, o_t', f_t_25')) : MI l g yX10_order wsX10_order ({ frames := 4, cells := 0, slots := 0, locals := 93 } : Room) [.ref a_t, .int x1] [oX10 a_t p_t o_t, aI g (p_t 15) 266 f_t_15, aI g (p_t 17) 17 f_t_17, aI g (p_t 25) 17 f_t_25] r [oX10 a_t p_t o_t', aI g (p_t 15) 266 f_t_15, aI g (p_t 17) 17 f_t_17, aI g (p_t 25) 17 f_t_25'] := by
  refine MI.of (cc := cX10_order) (maxL := 6) (rt := .int) (own := RX10) rfl rfl (by decide) (Nat.le_of_ble_eq_true rfl) ?_
  intro p e s m args below meth c A C0 hP hD hS ls hl
  obtain ⟨hx, hb, hml, hown, hts, hr, hlk, hK, hA, hSW⟩ := id C0
  have hl : lv_has ls 6 [(0, .ref a_t), (1, .int x1)] := hl
  rw [fX10_order] at hF
  refine lv_aload_n hx hb dX10_order_0 rfl (lv_at hl 0 rfl) ?_
  obtain ⟨u_1, hu_2, hF⟩ := ob1_some hF
  refine call_v (wr := [aI g (p_t 15) 266 f_t_15, aI g (p_t 17) 17 f_t_17, aI g (p_t 25) 17 f_t_25]) (As := []) (rest := []) (ci := 10) (q0 := 0) C0 (mX10_good l g a_t p_t n o_t u_1 hu_2) (cwV 0 hts gX10_order_X10_good rfl rfl rfl (by decide +kernel) ⟨Nat.le_of_ble_eq_true rfl, Nat.le_of_ble_eq_true rfl⟩) hP hD hS [0] [1, 2, 3] rfl rfl rfl rfl rfl (by decide) rfl rfl hl.1 rfl rfl (Nat.le_of_ble_eq_true rfl) ⟨Nat.zero_le _, Nat.zero_le _⟩ dX10_order_1 ?_
  intro H locs hP hD hS
  refine lv_aload_n hx hb dX10_order_4 rfl (lv_at hl 0 rfl) ?_
  refine va_get (D := g.1) (ci := 10) (v := .int (u_1 14)) (C := RX10) (T := TX10) (N := 35) hx hb hts iX10_order_X10 hown hK.1 hP 3 rfl rfl 14 (by decide) (hts _ kX10_order_176) (fun _ h9 => h9) rfl dX10_order_5 ?_
  refine lv_if_eq (tgt := 15) hx hb dX10_order_8 (by decide) (fun c_3 => ?_) (fun c_3 => ?_)
  · have hF := it_p c_3 hF
    refine lv_aload_n hx hb dX10_order_15 rfl (lv_at hl 0 rfl) ?_
    refine lv_iconst (v := (1 : Int32)) hx hb dX10_order_16 (by decide) ?_
    obtain ⟨u_4, u_5, hu_6, hF⟩ := ob2_some hF
    refine call_i (wr := [aI g (p_t 15) 266 f_t_15, aI g (p_t 17) 17 f_t_17, aI g (p_t 25) 17 f_t_25]) (As := [.int (1 : Int32)]) (rest := []) (ci := 10) (q0 := 0) C0 (mX10_no l g a_t p_t n (1 : Int32) u_1 u_4 u_5 hu_6) (cwV 1 hts gX10_order_X10_no rfl rfl rfl (by decide +kernel) ⟨Nat.le_of_ble_eq_true rfl, Nat.le_of_ble_eq_true rfl⟩) hP hD hS [3] [0, 1, 2] rfl rfl rfl rfl rfl (by decide) rfl rfl hl.1 rfl rfl (Nat.le_of_ble_eq_true rfl) ⟨Nat.zero_le _, Nat.zero_le _⟩ dX10_order_17 ?_
    intro H locs hP hD hS
    cases hF
    exact ret_i C0 hP hD hS [3, 0, 1, 2] rfl rfl rfl dX10_order_20 rfl
  · have hF := it_n c_3 hF
    refine lv_iload_n hx hb dX10_order_11 rfl (lv_at hl 1 rfl) ?_
    refine lv_if_ge (tgt := 21) hx hb dX10_order_12 (by decide) (fun c_7 => ?_) (fun c_7 => ?_)
    · have hF := it_p c_7 hF
      refine lv_aload_n hx hb dX10_order_21 rfl (lv_at hl 0 rfl) ?_
      refine va_get (D := g.1) (ci := 10) (v := .ref (p_t 17)) (C := RX10) (T := TX10) (N := 35) hx hb hts iX10_order_X10 hown hK.1 hP 3 rfl rfl 17 (by decide) (hts _ kX10_order_26) (fun _ h9 => h9) rfl dX10_order_22 ?_
      refine lv_iconst (v := (0 : Int32)) hx hb dX10_order_25 (by decide) ?_
      refine lv_aload_n hx hb dX10_order_26 rfl (lv_at hl 0 rfl) ?_
      refine va_get (D := g.1) (ci := 10) (v := .ref (p_t 25)) (C := RX10) (T := TX10) (N := 35) hx hb hts iX10_order_X10 hown hK.1 hP 3 rfl rfl 25 (by decide) (hts _ kX10_order_35) (fun _ h9 => h9) rfl dX10_order_27 ?_
      refine lv_iconst (v := (0 : Int32)) hx hb dX10_order_30 (by decide) ?_
      refine lv_bipush (v := (17 : Int32)) hx hb dX10_order_31 (by decide) ?_
      obtain ⟨u_8, hu_9, hF⟩ := ob1_some hF
      refine call_sv (wr := [aI g (p_t 15) 266 f_t_15, oX10 a_t p_t u_1]) (As := [.ref (p_t 17), .int (0 : Int32), .ref (p_t 25), .int (0 : Int32), .int (17 : Int32)]) (rest := []) C0 (mX10_copy l g (p_t 17) (p_t 25) n (0 : Int32) (0 : Int32) (17 : Int32) 17 17 f_t_17 f_t_25 u_8 hu_9) (va_cwS 5 hts gX10_order_X10_copy rfl rfl rfl (by decide +kernel) ⟨Nat.le_of_ble_eq_true rfl, Nat.le_of_ble_eq_true rfl⟩) hP hD hS [1, 2] [0, 3] rfl rfl rfl rfl rfl (by decide) hl.1 rfl rfl (Nat.le_of_ble_eq_true rfl) ⟨Nat.zero_le _, Nat.zero_le _⟩ dX10_order_33 ?_
      intro H locs hP hD hS
      refine lv_iconst (v := (0 : Int32)) hx hb dX10_order_36 (by decide) ?_
      refine lv_istore_n (lv' := [(2, .int (0 : Int32)), (0, .ref a_t), (1, .int x1)]) hx hb dX10_order_37 rfl hl (by decide) rfl (fun ls hl => ?_)
      refine lv_iconst (v := (0 : Int32)) hx hb dX10_order_38 (by decide) ?_
      refine lv_istore_n (lv' := [(3, .int (0 : Int32)), (2, .int (0 : Int32)), (0, .ref a_t), (1, .int x1)]) hx hb dX10_order_39 rfl hl (by decide) rfl (fun ls hl => ?_)
      refine wX10_order_L40 C0 a_t p_t n x1 f_t_15 f_t_17 r o_t' f_t_25' _ ?_ n (0 : Int32) (0 : Int32) u_1 u_8 hF _ _ _ (hP.sub [1, 0, 2, 3] rfl) (hD.sub [1, 0, 2, 3] rfl rfl) hS (lv_sub hl [2, 3, 1, 0] rfl)
      · intro o_t_x40 f_t_25_x40 H locs ls hF hP hD hS hl
        refine lv_bipush (v := (-2 : Int32)) hx hb dX10_order_106 (by decide) ?_
        cases hF
        exact ret_i C0 hP hD hS [0, 1, 2, 3] rfl rfl rfl dX10_order_108 rfl
    · have hF := it_n c_7 hF
      refine lv_aload_n hx hb dX10_order_15 rfl (lv_at hl 0 rfl) ?_
      refine lv_iconst (v := (1 : Int32)) hx hb dX10_order_16 (by decide) ?_
      obtain ⟨u_20, u_21, hu_22, hF⟩ := ob2_some hF
      refine call_i (wr := [aI g (p_t 15) 266 f_t_15, aI g (p_t 17) 17 f_t_17, aI g (p_t 25) 17 f_t_25]) (As := [.int (1 : Int32)]) (rest := []) (ci := 10) (q0 := 0) C0 (mX10_no l g a_t p_t n (1 : Int32) u_1 u_20 u_21 hu_22) (cwV 1 hts gX10_order_X10_no rfl rfl rfl (by decide +kernel) ⟨Nat.le_of_ble_eq_true rfl, Nat.le_of_ble_eq_true rfl⟩) hP hD hS [3] [0, 1, 2] rfl rfl rfl rfl rfl (by decide) rfl rfl hl.1 rfl rfl (Nat.le_of_ble_eq_true rfl) ⟨Nat.zero_le _, Nat.zero_le _⟩ dX10_order_17 ?_
      intro H locs hP hD hS
      cases hF
      exact ret_i C0 hP hD hS [3, 0, 1, 2] rfl rfl rfl dX10_order_20 rfl

theorem dAX10_pull : ∀ q ∈ ([(0, (.aload_n 0, 1)), (1, (.invokevirtual 159, 3)), (4, (.aload_n 0, 1)), (5, (.iload_n 1, 1)), (6, (.invokevirtual 300, 3)), (9, (.ifCond .ne 9, 3)), (12, (.aload_n 0, 1)), (13, (.iconst 1, 1)), (14, (.invokevirtual 162, 3)), (17, (.ireturn, 1)), (18, (.iconst 0, 1)), (19, (.istore_n 2, 1)), (20, (.iconst 0, 1)), (21, (.istore_n 3, 1)), (22, (.iload_n 3, 1)), (23, (.aload_n 0, 1)), (24, (.getfield 20, 3)), (27, (.iconst 3, 1)), (28, (.iaload, 1)), (29, (.if_icmp .ge 46, 3)), (32, (.iload_n 2, 1)), (33, (.iload_n 3, 1)), (34, (.iload_n 1, 1)), (35, (.if_icmp .eq 31, 3)), (38, (.aload_n 0, 1)), (39, (.getfield 26, 3)), (42, (.iload_n 3, 1)), (43, (.invokestatic 248, 3)), (46, (.ifCond .eq 20, 3)), (49, (.aload_n 0, 1)), (50, (.getfield 20, 3)), (53, (.bipush 37, 2)), (55, (.bipush 7, 2)), (57, (.iload_n 3, 1)), (58, (.imul, 1)), (59, (.iadd, 1)), (60, (.iload_n 1, 1)), (61, (.iadd, 1)), (62, (.iaload, 1)), (63, (.goto 4, 3)), (66, (.iconst 0, 1)), (67, (.iadd, 1)), (68, (.istore_n 2, 1)), (69, (.iinc 3 1, 3)), (72, (.goto (-50), 3)), (75, (.iload_n 2, 1)), (76, (.ireturn, 1))] : List (Nat × (Instr × Nat))), decode cX10_pull q.1 = .ok q.2 := by decide +kernel
theorem dX10_pull_0 : decode cX10_pull 0 = .ok (.aload_n 0, 1) := dAX10_pull (0, (.aload_n 0, 1)) (List.mem_of_getElem? (i := 0) rfl)
theorem dX10_pull_1 : decode cX10_pull 1 = .ok (.invokevirtual 159, 3) := dAX10_pull (1, (.invokevirtual 159, 3)) (List.mem_of_getElem? (i := 1) rfl)
theorem dX10_pull_4 : decode cX10_pull 4 = .ok (.aload_n 0, 1) := dAX10_pull (4, (.aload_n 0, 1)) (List.mem_of_getElem? (i := 2) rfl)
theorem dX10_pull_5 : decode cX10_pull 5 = .ok (.iload_n 1, 1) := dAX10_pull (5, (.iload_n 1, 1)) (List.mem_of_getElem? (i := 3) rfl)
theorem dX10_pull_6 : decode cX10_pull 6 = .ok (.invokevirtual 300, 3) := dAX10_pull (6, (.invokevirtual 300, 3)) (List.mem_of_getElem? (i := 4) rfl)
theorem dX10_pull_9 : decode cX10_pull 9 = .ok (.ifCond .ne 9, 3) := dAX10_pull (9, (.ifCond .ne 9, 3)) (List.mem_of_getElem? (i := 5) rfl)
theorem dX10_pull_12 : decode cX10_pull 12 = .ok (.aload_n 0, 1) := dAX10_pull (12, (.aload_n 0, 1)) (List.mem_of_getElem? (i := 6) rfl)
theorem dX10_pull_13 : decode cX10_pull 13 = .ok (.iconst 1, 1) := dAX10_pull (13, (.iconst 1, 1)) (List.mem_of_getElem? (i := 7) rfl)
theorem dX10_pull_14 : decode cX10_pull 14 = .ok (.invokevirtual 162, 3) := dAX10_pull (14, (.invokevirtual 162, 3)) (List.mem_of_getElem? (i := 8) rfl)
theorem dX10_pull_17 : decode cX10_pull 17 = .ok (.ireturn, 1) := dAX10_pull (17, (.ireturn, 1)) (List.mem_of_getElem? (i := 9) rfl)
theorem dX10_pull_18 : decode cX10_pull 18 = .ok (.iconst 0, 1) := dAX10_pull (18, (.iconst 0, 1)) (List.mem_of_getElem? (i := 10) rfl)
theorem dX10_pull_19 : decode cX10_pull 19 = .ok (.istore_n 2, 1) := dAX10_pull (19, (.istore_n 2, 1)) (List.mem_of_getElem? (i := 11) rfl)
theorem dX10_pull_20 : decode cX10_pull 20 = .ok (.iconst 0, 1) := dAX10_pull (20, (.iconst 0, 1)) (List.mem_of_getElem? (i := 12) rfl)
theorem dX10_pull_21 : decode cX10_pull 21 = .ok (.istore_n 3, 1) := dAX10_pull (21, (.istore_n 3, 1)) (List.mem_of_getElem? (i := 13) rfl)
theorem dX10_pull_22 : decode cX10_pull 22 = .ok (.iload_n 3, 1) := dAX10_pull (22, (.iload_n 3, 1)) (List.mem_of_getElem? (i := 14) rfl)
theorem dX10_pull_23 : decode cX10_pull 23 = .ok (.aload_n 0, 1) := dAX10_pull (23, (.aload_n 0, 1)) (List.mem_of_getElem? (i := 15) rfl)
theorem dX10_pull_24 : decode cX10_pull 24 = .ok (.getfield 20, 3) := dAX10_pull (24, (.getfield 20, 3)) (List.mem_of_getElem? (i := 16) rfl)
theorem dX10_pull_27 : decode cX10_pull 27 = .ok (.iconst 3, 1) := dAX10_pull (27, (.iconst 3, 1)) (List.mem_of_getElem? (i := 17) rfl)
theorem dX10_pull_28 : decode cX10_pull 28 = .ok (.iaload, 1) := dAX10_pull (28, (.iaload, 1)) (List.mem_of_getElem? (i := 18) rfl)
theorem dX10_pull_29 : decode cX10_pull 29 = .ok (.if_icmp .ge 46, 3) := dAX10_pull (29, (.if_icmp .ge 46, 3)) (List.mem_of_getElem? (i := 19) rfl)
theorem dX10_pull_32 : decode cX10_pull 32 = .ok (.iload_n 2, 1) := dAX10_pull (32, (.iload_n 2, 1)) (List.mem_of_getElem? (i := 20) rfl)
theorem dX10_pull_33 : decode cX10_pull 33 = .ok (.iload_n 3, 1) := dAX10_pull (33, (.iload_n 3, 1)) (List.mem_of_getElem? (i := 21) rfl)
theorem dX10_pull_34 : decode cX10_pull 34 = .ok (.iload_n 1, 1) := dAX10_pull (34, (.iload_n 1, 1)) (List.mem_of_getElem? (i := 22) rfl)
theorem dX10_pull_35 : decode cX10_pull 35 = .ok (.if_icmp .eq 31, 3) := dAX10_pull (35, (.if_icmp .eq 31, 3)) (List.mem_of_getElem? (i := 23) rfl)
theorem dX10_pull_38 : decode cX10_pull 38 = .ok (.aload_n 0, 1) := dAX10_pull (38, (.aload_n 0, 1)) (List.mem_of_getElem? (i := 24) rfl)
theorem dX10_pull_39 : decode cX10_pull 39 = .ok (.getfield 26, 3) := dAX10_pull (39, (.getfield 26, 3)) (List.mem_of_getElem? (i := 25) rfl)
theorem dX10_pull_42 : decode cX10_pull 42 = .ok (.iload_n 3, 1) := dAX10_pull (42, (.iload_n 3, 1)) (List.mem_of_getElem? (i := 26) rfl)
theorem dX10_pull_43 : decode cX10_pull 43 = .ok (.invokestatic 248, 3) := dAX10_pull (43, (.invokestatic 248, 3)) (List.mem_of_getElem? (i := 27) rfl)
theorem dX10_pull_46 : decode cX10_pull 46 = .ok (.ifCond .eq 20, 3) := dAX10_pull (46, (.ifCond .eq 20, 3)) (List.mem_of_getElem? (i := 28) rfl)
theorem dX10_pull_49 : decode cX10_pull 49 = .ok (.aload_n 0, 1) := dAX10_pull (49, (.aload_n 0, 1)) (List.mem_of_getElem? (i := 29) rfl)
theorem dX10_pull_50 : decode cX10_pull 50 = .ok (.getfield 20, 3) := dAX10_pull (50, (.getfield 20, 3)) (List.mem_of_getElem? (i := 30) rfl)
theorem dX10_pull_53 : decode cX10_pull 53 = .ok (.bipush 37, 2) := dAX10_pull (53, (.bipush 37, 2)) (List.mem_of_getElem? (i := 31) rfl)
theorem dX10_pull_55 : decode cX10_pull 55 = .ok (.bipush 7, 2) := dAX10_pull (55, (.bipush 7, 2)) (List.mem_of_getElem? (i := 32) rfl)
theorem dX10_pull_57 : decode cX10_pull 57 = .ok (.iload_n 3, 1) := dAX10_pull (57, (.iload_n 3, 1)) (List.mem_of_getElem? (i := 33) rfl)
theorem dX10_pull_58 : decode cX10_pull 58 = .ok (.imul, 1) := dAX10_pull (58, (.imul, 1)) (List.mem_of_getElem? (i := 34) rfl)
theorem dX10_pull_59 : decode cX10_pull 59 = .ok (.iadd, 1) := dAX10_pull (59, (.iadd, 1)) (List.mem_of_getElem? (i := 35) rfl)
theorem dX10_pull_60 : decode cX10_pull 60 = .ok (.iload_n 1, 1) := dAX10_pull (60, (.iload_n 1, 1)) (List.mem_of_getElem? (i := 36) rfl)
theorem dX10_pull_61 : decode cX10_pull 61 = .ok (.iadd, 1) := dAX10_pull (61, (.iadd, 1)) (List.mem_of_getElem? (i := 37) rfl)
theorem dX10_pull_62 : decode cX10_pull 62 = .ok (.iaload, 1) := dAX10_pull (62, (.iaload, 1)) (List.mem_of_getElem? (i := 38) rfl)
theorem dX10_pull_63 : decode cX10_pull 63 = .ok (.goto 4, 3) := dAX10_pull (63, (.goto 4, 3)) (List.mem_of_getElem? (i := 39) rfl)
theorem dX10_pull_66 : decode cX10_pull 66 = .ok (.iconst 0, 1) := dAX10_pull (66, (.iconst 0, 1)) (List.mem_of_getElem? (i := 40) rfl)
theorem dX10_pull_67 : decode cX10_pull 67 = .ok (.iadd, 1) := dAX10_pull (67, (.iadd, 1)) (List.mem_of_getElem? (i := 41) rfl)
theorem dX10_pull_68 : decode cX10_pull 68 = .ok (.istore_n 2, 1) := dAX10_pull (68, (.istore_n 2, 1)) (List.mem_of_getElem? (i := 42) rfl)
theorem dX10_pull_69 : decode cX10_pull 69 = .ok (.iinc 3 1, 3) := dAX10_pull (69, (.iinc 3 1, 3)) (List.mem_of_getElem? (i := 43) rfl)
theorem dX10_pull_72 : decode cX10_pull 72 = .ok (.goto (-50), 3) := dAX10_pull (72, (.goto (-50), 3)) (List.mem_of_getElem? (i := 44) rfl)
theorem dX10_pull_75 : decode cX10_pull 75 = .ok (.iload_n 2, 1) := dAX10_pull (75, (.iload_n 2, 1)) (List.mem_of_getElem? (i := 45) rfl)
theorem dX10_pull_76 : decode cX10_pull 76 = .ok (.ireturn, 1) := dAX10_pull (76, (.ireturn, 1)) (List.mem_of_getElem? (i := 46) rfl)
set_option maxRecDepth 20000 in
theorem ggX10_pull_X10_good : GoodIn wsX10_pull wsX10_good := goodIn_r _ [7, 8, 9, 25, 26, 27, 28, 29, 30, 31, 32, 33, 34, 35, 36, 37, 38, 39, 40, 41, 42, 43, 44, 45, 46, 47, 48, 49, 50, 51, 52, 53, 54, 55, 56, 57, 58, 59] rfl (by decide +kernel)
set_option maxRecDepth 20000 in
theorem gX10_pull_X10_good : GoodIn wsX10_pull (wsV RX10 159 RX10 yX10_good wsX10_good) := goodIn_app (goodIn_of _ (by decide +kernel)) ggX10_pull_X10_good
set_option maxRecDepth 20000 in
theorem ggX10_pull_X10_isGuest : GoodIn wsX10_pull wsX10_isGuest := goodIn_r _ [13, 14, 1, 15, 16, 6, 17, 25, 26, 27, 28, 29, 30, 31, 32, 33, 34, 35, 36, 37, 38, 39, 40, 41, 42, 43, 44, 45, 46, 47, 48, 49, 50, 51, 52, 53, 54, 55, 56, 57, 58, 59] rfl (by decide +kernel)
set_option maxRecDepth 20000 in
theorem gX10_pull_X10_isGuest : GoodIn wsX10_pull (wsV RX10 300 RX10 yX10_isGuest wsX10_isGuest) := goodIn_app (goodIn_of _ (by decide +kernel)) ggX10_pull_X10_isGuest
set_option maxRecDepth 20000 in
theorem ggX10_pull_X10_no : GoodIn wsX10_pull wsX10_no := goodIn_r _ [21, 9, 25, 26, 27, 28, 29, 30, 31, 32, 33, 34, 35, 36, 37, 38, 39, 40, 41, 42, 43, 44, 45, 46, 47, 48, 49, 50, 51, 52, 53, 54, 55, 56, 57, 58, 59] rfl (by decide +kernel)
set_option maxRecDepth 20000 in
theorem gX10_pull_X10_no : GoodIn wsX10_pull (wsV RX10 162 RX10 yX10_no wsX10_no) := goodIn_app (goodIn_of _ (by decide +kernel)) ggX10_pull_X10_no
set_option maxRecDepth 20000 in
theorem ggX10_pull_X10_isIn : GoodIn wsX10_pull wsX10_isIn := goodIn_r _ [24] rfl (by decide +kernel)
set_option maxRecDepth 20000 in
theorem gX10_pull_X10_isIn : GoodIn wsX10_pull (va_wsS RX10 248 yX10_isIn wsX10_isIn) := goodIn_app (goodIn_of _ (by decide +kernel)) ggX10_pull_X10_isIn
theorem kX10_pull_20 : Cond.fieldLink RX10 20 "EveningVowModel" "\x72" "[I" ∈ wsX10_pull := List.mem_of_getElem? (i := 1) rfl
theorem iX10_pull_X10 : ∀ w ∈ u_ws RX10 TX10 35, w ∈ wsX10_pull := fun w h => (List.mem_cons_of_mem _ (List.mem_append_right _ h))
theorem kX10_pull_26 : Cond.fieldLink RX10 26 "EveningVowModel" "st" "[I" ∈ wsX10_pull := List.mem_of_getElem? (i := 2) rfl
set_option maxHeartbeats 4000000 in
set_option maxRecDepth 100000 in
theorem wX10_pull_L22 {p : Program} {l : Launch} {e : Env} {s : State} {m : MethodId} {args : Array Value} {below : List Frame} {meth : Method} {c : Code} {g : GG} {A : Nat → Prop} (C0 : Cx p s m args meth c cX10_pull 4 (some .int) RX10 wsX10_pull g A) (a_t : Nat) (p_t : Nat → Nat) (n : Nat) (x1 : Int32) (o_t : Nat → Int32) (f_t_15 : Nat → Int32) (f_t_17 : Nat → Int32)  (r : Int32) (o_t' : Nat → Int32) (K : Int32 → Option (Int32 × (Nat → Int32))) (hKx : ∀ (x2 : Int32) (H : Heap) (locs : List Loc) (ls : Array Slot), K x2 = some (r, o_t') → va_P g.1 vwCl [oX10 a_t p_t o_t, aI g (p_t 15) 266 f_t_15, aI g (p_t 17) 17 f_t_17] H → va_D A [oX10 a_t p_t o_t, aI g (p_t 15) 266 f_t_15, aI g (p_t 17) 17 f_t_17] → va_S A s.heap H locs → lv_has ls 4 [(2, .int x2)] → W p l e ({ frames := 2, cells := 0, slots := 0, locals := 43 } : Room) s m args below meth c H locs 0 0 (MQ below (EndI g r [oX10 a_t p_t o_t', aI g (p_t 15) 266 f_t_15, aI g (p_t 17) 17 f_t_17] A) args s 0 0 A) (F0 m 75 ls [])) : ∀ (k : Nat) (x2 : Int32) (x3 : Int32), fX10_pull_L22 n x1 o_t f_t_15 f_t_17 K k x2 x3 = some (r, o_t') → ∀ (H : Heap) (locs : List Loc) (ls : Array Slot), va_P g.1 vwCl [oX10 a_t p_t o_t, aI g (p_t 15) 266 f_t_15, aI g (p_t 17) 17 f_t_17] H → va_D A [oX10 a_t p_t o_t, aI g (p_t 15) 266 f_t_15, aI g (p_t 17) 17 f_t_17] → va_S A s.heap H locs → lv_has ls 4 [(0, .ref a_t), (1, .int x1), (2, .int x2), (3, .int x3)] → W p l e ({ frames := 2, cells := 0, slots := 0, locals := 43 } : Room) s m args below meth c H locs 0 0 (MQ below (EndI g r [oX10 a_t p_t o_t', aI g (p_t 15) 266 f_t_15, aI g (p_t 17) 17 f_t_17] A) args s 0 0 A) (F0 m 22 ls []) := by
  obtain ⟨hx, hb, hml, hown, hts, hr, hlk, hK, hA, hSW⟩ := id C0
  intro k
  induction k with
  | zero =>
    intro x2 x3 hF
    exact absurd hF (by simp [fX10_pull_L22])
  | succ k ih =>
    intro x2 x3 hF H locs ls hP hD hS hl
    rw [fX10_pull_L22] at hF
    refine lv_iload_n hx hb dX10_pull_22 rfl (lv_at hl 3 rfl) ?_
    refine lv_aload_n hx hb dX10_pull_23 rfl (lv_at hl 0 rfl) ?_
    refine va_get (D := g.1) (ci := 10) (v := .ref (p_t 15)) (C := RX10) (T := TX10) (N := 35) hx hb hts iX10_pull_X10 hown hK.1 hP 0 rfl rfl 15 (by decide) (hts _ kX10_pull_20) (fun _ h9 => h9) rfl dX10_pull_24 ?_
    refine lv_iconst (v := (3 : Int32)) hx hb dX10_pull_27 (by decide) ?_
    refine va_iald_k (j := 3) hx hb hK.1 hP 1 0 rfl rfl (by unfold vp_in; decide) rfl dX10_pull_28 ?_
    refine lv_icmp_ge (tgt := 75) hx hb dX10_pull_29 (by decide) (fun c_6 => ?_) (fun c_6 => ?_)
    · have hF := it_p c_6 hF
      exact hKx x2 _ _ _ hF (hP.sub [0, 1, 2] rfl) (hD.sub [0, 1, 2] rfl rfl) hS (lv_sub hl [2] rfl)
    · have hF := it_n c_6 hF
      refine lv_iload_n hx hb dX10_pull_32 rfl (lv_at hl 2 rfl) ?_
      refine lv_iload_n hx hb dX10_pull_33 rfl (lv_at hl 3 rfl) ?_
      refine lv_iload_n hx hb dX10_pull_34 rfl (lv_at hl 1 rfl) ?_
      refine lv_icmp_eq (tgt := 66) hx hb dX10_pull_35 (by decide) (fun c_7 => ?_) (fun c_7 => ?_)
      · have hF := it_p c_7 hF
        refine lv_iconst (v := (0 : Int32)) hx hb dX10_pull_66 (by decide) ?_
        refine lv_iadd hx hb dX10_pull_67 ?_
        refine lv_istore_n (lv' := [(2, .int (x2 + (0 : Int32))), (0, .ref a_t), (1, .int x1), (3, .int x3)]) hx hb dX10_pull_68 rfl hl (by decide) rfl (fun ls hl => ?_)
        refine lv_iinc (v := (x3 + (1 : Int32))) (lv' := [(3, .int (x3 + (1 : Int32))), (2, .int (x2 + (0 : Int32))), (0, .ref a_t), (1, .int x1)]) hx hb dX10_pull_69 hl (k := 3) rfl rfl (by decide) rfl (fun ls hl => ?_)
        refine lv_goto (tgt := 22) hx hb dX10_pull_72 (by decide) ?_
        exact ih (x2 + (0 : Int32)) (x3 + (1 : Int32)) hF _ _ _ (hP.sub [0, 1, 2] rfl) (hD.sub [0, 1, 2] rfl rfl) hS (lv_sub hl [2, 3, 1, 0] rfl)
      · have hF := it_n c_7 hF
        refine lv_aload_n hx hb dX10_pull_38 rfl (lv_at hl 0 rfl) ?_
        refine va_get (D := g.1) (ci := 10) (v := .ref (p_t 17)) (C := RX10) (T := TX10) (N := 35) hx hb hts iX10_pull_X10 hown hK.1 hP 0 rfl rfl 17 (by decide) (hts _ kX10_pull_26) (fun _ h9 => h9) rfl dX10_pull_39 ?_
        refine lv_iload_n hx hb dX10_pull_42 rfl (lv_at hl 3 rfl) ?_
        obtain ⟨u_8, hu_9, hF⟩ := ob1_some hF
        refine call_si (wr := [oX10 a_t p_t o_t, aI g (p_t 15) 266 f_t_15]) (As := [.ref (p_t 17), .int x3]) (rest := [.int x2]) C0 (mX10_isIn l g (p_t 17) n x3 f_t_17 u_8 hu_9) (va_cwS 2 hts gX10_pull_X10_isIn rfl rfl rfl (by decide +kernel) ⟨Nat.le_of_ble_eq_true rfl, Nat.le_of_ble_eq_true rfl⟩) hP hD hS [2] [0, 1] rfl rfl rfl rfl rfl (by decide) hl.1 rfl rfl (Nat.le_of_ble_eq_true rfl) ⟨Nat.zero_le _, Nat.zero_le _⟩ dX10_pull_43 ?_
        intro H locs hP hD hS
        refine lv_if_eq (tgt := 66) hx hb dX10_pull_46 (by decide) (fun c_10 => ?_) (fun c_10 => ?_)
        · have hF := it_p c_10 hF
          refine lv_iconst (v := (0 : Int32)) hx hb dX10_pull_66 (by decide) ?_
          refine lv_iadd hx hb dX10_pull_67 ?_
          refine lv_istore_n (lv' := [(2, .int (x2 + (0 : Int32))), (0, .ref a_t), (1, .int x1), (3, .int x3)]) hx hb dX10_pull_68 rfl hl (by decide) rfl (fun ls hl => ?_)
          refine lv_iinc (v := (x3 + (1 : Int32))) (lv' := [(3, .int (x3 + (1 : Int32))), (2, .int (x2 + (0 : Int32))), (0, .ref a_t), (1, .int x1)]) hx hb dX10_pull_69 hl (k := 3) rfl rfl (by decide) rfl (fun ls hl => ?_)
          refine lv_goto (tgt := 22) hx hb dX10_pull_72 (by decide) ?_
          exact ih (x2 + (0 : Int32)) (x3 + (1 : Int32)) hF _ _ _ (hP.sub [0, 1, 2] rfl) (hD.sub [0, 1, 2] rfl rfl) hS (lv_sub hl [2, 3, 1, 0] rfl)
        · have hF := it_n c_10 hF
          refine lv_aload_n hx hb dX10_pull_49 rfl (lv_at hl 0 rfl) ?_
          refine va_get (D := g.1) (ci := 10) (v := .ref (p_t 15)) (C := RX10) (T := TX10) (N := 35) hx hb hts iX10_pull_X10 hown hK.1 hP 0 rfl rfl 15 (by decide) (hts _ kX10_pull_20) (fun _ h9 => h9) rfl dX10_pull_50 ?_
          refine lv_bipush (v := (37 : Int32)) hx hb dX10_pull_53 (by decide) ?_
          refine lv_bipush (v := (7 : Int32)) hx hb dX10_pull_55 (by decide) ?_
          refine lv_iload_n hx hb dX10_pull_57 rfl (lv_at hl 3 rfl) ?_
          refine lv_imul hx hb dX10_pull_58 ?_
          refine lv_iadd hx hb dX10_pull_59 ?_
          refine lv_iload_n hx hb dX10_pull_60 rfl (lv_at hl 1 rfl) ?_
          refine lv_iadd hx hb dX10_pull_61 ?_
          obtain ⟨h_11, hF⟩ := it_ck hF
          refine va_iald hx hb hK.1 hP 1 0 rfl rfl h_11 dX10_pull_62 ?_
          refine lv_goto (tgt := 67) hx hb dX10_pull_63 (by decide) ?_
          refine lv_iadd hx hb dX10_pull_67 ?_
          refine lv_istore_n (lv' := [(2, .int (x2 + (f_t_15 ((((37 : Int32) + ((7 : Int32) * x3)) + x1)).toNatClampNeg))), (0, .ref a_t), (1, .int x1), (3, .int x3)]) hx hb dX10_pull_68 rfl hl (by decide) rfl (fun ls hl => ?_)
          refine lv_iinc (v := (x3 + (1 : Int32))) (lv' := [(3, .int (x3 + (1 : Int32))), (2, .int (x2 + (f_t_15 ((((37 : Int32) + ((7 : Int32) * x3)) + x1)).toNatClampNeg))), (0, .ref a_t), (1, .int x1)]) hx hb dX10_pull_69 hl (k := 3) rfl rfl (by decide) rfl (fun ls hl => ?_)
          refine lv_goto (tgt := 22) hx hb dX10_pull_72 (by decide) ?_
          exact ih (x2 + (f_t_15 ((((37 : Int32) + ((7 : Int32) * x3)) + x1)).toNatClampNeg)) (x3 + (1 : Int32)) hF _ _ _ (hP.sub [0, 1, 2] rfl) (hD.sub [0, 1, 2] rfl rfl) hS (lv_sub hl [2, 3, 1, 0] rfl)
set_option maxHeartbeats 4000000 in
set_option maxRecDepth 100000 in
theorem mX10_pull (l : Launch) (g : GG) (a_t : Nat) (p_t : Nat → Nat) (n : Nat) (x1 : Int32) (o_t : Nat → Int32) (f_t_15 : Nat → Int32) (f_t_17 : Nat → Int32) (r : Int32) (o_t' : Nat → Int32) (hF : fX10_pull n x1 o_t f_t_15 f_t_17 = some (r, o_t')) : MI l g yX10_pull wsX10_pull ({ frames := 2, cells := 0, slots := 0, locals := 43 } : Room) [.ref a_t, .int x1] [oX10 a_t p_t o_t, aI g (p_t 15) 266 f_t_15, aI g (p_t 17) 17 f_t_17] r [oX10 a_t p_t o_t', aI g (p_t 15) 266 f_t_15, aI g (p_t 17) 17 f_t_17] := by
  refine MI.of (cc := cX10_pull) (maxL := 4) (rt := .int) (own := RX10) rfl rfl (by decide) (Nat.le_of_ble_eq_true rfl) ?_
  intro p e s m args below meth c A C0 hP hD hS ls hl
  obtain ⟨hx, hb, hml, hown, hts, hr, hlk, hK, hA, hSW⟩ := id C0
  have hl : lv_has ls 4 [(0, .ref a_t), (1, .int x1)] := hl
  rw [fX10_pull] at hF
  refine lv_aload_n hx hb dX10_pull_0 rfl (lv_at hl 0 rfl) ?_
  obtain ⟨u_1, hu_2, hF⟩ := ob1_some hF
  refine call_v (wr := [aI g (p_t 15) 266 f_t_15, aI g (p_t 17) 17 f_t_17]) (As := []) (rest := []) (ci := 10) (q0 := 0) C0 (mX10_good l g a_t p_t n o_t u_1 hu_2) (cwV 0 hts gX10_pull_X10_good rfl rfl rfl (by decide +kernel) ⟨Nat.le_of_ble_eq_true rfl, Nat.le_of_ble_eq_true rfl⟩) hP hD hS [0] [1, 2] rfl rfl rfl rfl rfl (by decide) rfl rfl hl.1 rfl rfl (Nat.le_of_ble_eq_true rfl) ⟨Nat.zero_le _, Nat.zero_le _⟩ dX10_pull_1 ?_
  intro H locs hP hD hS
  refine lv_aload_n hx hb dX10_pull_4 rfl (lv_at hl 0 rfl) ?_
  refine lv_iload_n hx hb dX10_pull_5 rfl (lv_at hl 1 rfl) ?_
  obtain ⟨u_3, hu_4, hF⟩ := ob1_some hF
  refine call_i (wr := [aI g (p_t 17) 17 f_t_17]) (As := [.int x1]) (rest := []) (ci := 10) (q0 := 0) C0 (mX10_isGuest l g a_t p_t n x1 u_1 f_t_15 u_3 hu_4) (cwV 1 hts gX10_pull_X10_isGuest rfl rfl rfl (by decide +kernel) ⟨Nat.le_of_ble_eq_true rfl, Nat.le_of_ble_eq_true rfl⟩) hP hD hS [2, 0] [1] rfl rfl rfl rfl rfl (by decide) rfl rfl hl.1 rfl rfl (Nat.le_of_ble_eq_true rfl) ⟨Nat.zero_le _, Nat.zero_le _⟩ dX10_pull_6 ?_
  intro H locs hP hD hS
  refine lv_if_ne (tgt := 18) hx hb dX10_pull_9 (by decide) (fun c_5 => ?_) (fun c_5 => ?_)
  · have hF := it_n c_5 hF
    refine lv_iconst (v := (0 : Int32)) hx hb dX10_pull_18 (by decide) ?_
    refine lv_istore_n (lv' := [(2, .int (0 : Int32)), (0, .ref a_t), (1, .int x1)]) hx hb dX10_pull_19 rfl hl (by decide) rfl (fun ls hl => ?_)
    refine lv_iconst (v := (0 : Int32)) hx hb dX10_pull_20 (by decide) ?_
    refine lv_istore_n (lv' := [(3, .int (0 : Int32)), (2, .int (0 : Int32)), (0, .ref a_t), (1, .int x1)]) hx hb dX10_pull_21 rfl hl (by decide) rfl (fun ls hl => ?_)
    refine wX10_pull_L22 C0 a_t p_t n x1 u_1 f_t_15 f_t_17 r o_t' _ ?_ n (0 : Int32) (0 : Int32) hF _ _ _ (hP.sub [1, 2, 0] rfl) (hD.sub [1, 2, 0] rfl rfl) hS (lv_sub hl [2, 3, 1, 0] rfl)
    · intro x2_x22 H locs ls hF hP hD hS hl
      refine lv_iload_n hx hb dX10_pull_75 rfl (lv_at hl 0 rfl) ?_
      cases hF
      exact ret_i C0 hP hD hS [0, 1, 2] rfl rfl rfl dX10_pull_76 rfl
  · have hF := it_p c_5 hF
    refine lv_aload_n hx hb dX10_pull_12 rfl (lv_at hl 0 rfl) ?_
    refine lv_iconst (v := (1 : Int32)) hx hb dX10_pull_13 (by decide) ?_
    obtain ⟨u_12, u_13, hu_14, hF⟩ := ob2_some hF
    refine call_i (wr := [aI g (p_t 17) 17 f_t_17, aI g (p_t 15) 266 f_t_15]) (As := [.int (1 : Int32)]) (rest := []) (ci := 10) (q0 := 0) C0 (mX10_no l g a_t p_t n (1 : Int32) u_1 u_12 u_13 hu_14) (cwV 1 hts gX10_pull_X10_no rfl rfl rfl (by decide +kernel) ⟨Nat.le_of_ble_eq_true rfl, Nat.le_of_ble_eq_true rfl⟩) hP hD hS [1] [0, 2] rfl rfl rfl rfl rfl (by decide) rfl rfl hl.1 rfl rfl (Nat.le_of_ble_eq_true rfl) ⟨Nat.zero_le _, Nat.zero_le _⟩ dX10_pull_14 ?_
    intro H locs hP hD hS
    cases hF
    exact ret_i C0 hP hD hS [2, 1, 0] rfl rfl rfl dX10_pull_17 rfl

theorem dAX10_ends : ∀ q ∈ ([(0, (.aload_n 0, 1)), (1, (.invokevirtual 159, 3)), (4, (.aload_n 0, 1)), (5, (.getfield 176, 3)), (8, (.ifCond .eq 10, 3)), (11, (.aload_n 0, 1)), (12, (.invokevirtual 309, 3)), (15, (.goto 8, 3)), (18, (.aload_n 0, 1)), (19, (.iconst 1, 1)), (20, (.invokevirtual 162, 3)), (23, (.ireturn, 1))] : List (Nat × (Instr × Nat))), decode cX10_ends q.1 = .ok q.2 := by decide +kernel
theorem dX10_ends_0 : decode cX10_ends 0 = .ok (.aload_n 0, 1) := dAX10_ends (0, (.aload_n 0, 1)) (List.mem_of_getElem? (i := 0) rfl)
theorem dX10_ends_1 : decode cX10_ends 1 = .ok (.invokevirtual 159, 3) := dAX10_ends (1, (.invokevirtual 159, 3)) (List.mem_of_getElem? (i := 1) rfl)
theorem dX10_ends_4 : decode cX10_ends 4 = .ok (.aload_n 0, 1) := dAX10_ends (4, (.aload_n 0, 1)) (List.mem_of_getElem? (i := 2) rfl)
theorem dX10_ends_5 : decode cX10_ends 5 = .ok (.getfield 176, 3) := dAX10_ends (5, (.getfield 176, 3)) (List.mem_of_getElem? (i := 3) rfl)
theorem dX10_ends_8 : decode cX10_ends 8 = .ok (.ifCond .eq 10, 3) := dAX10_ends (8, (.ifCond .eq 10, 3)) (List.mem_of_getElem? (i := 4) rfl)
theorem dX10_ends_11 : decode cX10_ends 11 = .ok (.aload_n 0, 1) := dAX10_ends (11, (.aload_n 0, 1)) (List.mem_of_getElem? (i := 5) rfl)
theorem dX10_ends_12 : decode cX10_ends 12 = .ok (.invokevirtual 309, 3) := dAX10_ends (12, (.invokevirtual 309, 3)) (List.mem_of_getElem? (i := 6) rfl)
theorem dX10_ends_15 : decode cX10_ends 15 = .ok (.goto 8, 3) := dAX10_ends (15, (.goto 8, 3)) (List.mem_of_getElem? (i := 7) rfl)
theorem dX10_ends_18 : decode cX10_ends 18 = .ok (.aload_n 0, 1) := dAX10_ends (18, (.aload_n 0, 1)) (List.mem_of_getElem? (i := 8) rfl)
theorem dX10_ends_19 : decode cX10_ends 19 = .ok (.iconst 1, 1) := dAX10_ends (19, (.iconst 1, 1)) (List.mem_of_getElem? (i := 9) rfl)
theorem dX10_ends_20 : decode cX10_ends 20 = .ok (.invokevirtual 162, 3) := dAX10_ends (20, (.invokevirtual 162, 3)) (List.mem_of_getElem? (i := 10) rfl)
theorem dX10_ends_23 : decode cX10_ends 23 = .ok (.ireturn, 1) := dAX10_ends (23, (.ireturn, 1)) (List.mem_of_getElem? (i := 11) rfl)
set_option maxRecDepth 20000 in
theorem ggX10_ends_X10_good : GoodIn wsX10_ends wsX10_good := goodIn_r _ [6, 7, 8, 73, 74, 75, 76, 77, 78, 79, 80, 81, 82, 83, 84, 85, 86, 87, 88, 89, 90, 91, 92, 93, 94, 95, 96, 97, 98, 99, 100, 101, 102, 103, 104, 105, 106, 107] rfl (by decide +kernel)
set_option maxRecDepth 20000 in
theorem gX10_ends_X10_good : GoodIn wsX10_ends (wsV RX10 159 RX10 yX10_good wsX10_good) := goodIn_app (goodIn_of _ (by decide +kernel)) ggX10_ends_X10_good
set_option maxRecDepth 20000 in
theorem ggX10_ends_X10_endsNow : GoodIn wsX10_ends wsX10_endsNow := goodIn_r _ [12, 13, 14, 15, 16, 5, 17, 18, 19, 20, 21, 22, 23, 24, 25, 26, 27, 28, 29, 30, 31, 32, 33, 34, 35, 36, 37, 38, 39, 40, 41, 42, 43, 44, 45, 46, 47, 48, 49, 50, 51, 52, 53, 54, 55, 56, 57, 58, 59, 60, 61, 62, 63, 64, 65, 66, 67, 68, 73, 74, 75, 76, 77, 78, 79, 80, 81, 82, 83, 84, 85, 86, 87, 88, 89, 90, 91, 92, 93, 94, 95, 96, 97, 98, 99, 100, 101, 102, 103, 104, 105, 106, 107] rfl (by decide +kernel)
set_option maxRecDepth 20000 in
theorem gX10_ends_X10_endsNow : GoodIn wsX10_ends (wsV RX10 309 RX10 yX10_endsNow wsX10_endsNow) := goodIn_app (goodIn_of _ (by decide +kernel)) ggX10_ends_X10_endsNow
set_option maxRecDepth 20000 in
theorem ggX10_ends_X10_no : GoodIn wsX10_ends wsX10_no := goodIn_r _ [72, 8, 73, 74, 75, 76, 77, 78, 79, 80, 81, 82, 83, 84, 85, 86, 87, 88, 89, 90, 91, 92, 93, 94, 95, 96, 97, 98, 99, 100, 101, 102, 103, 104, 105, 106, 107] rfl (by decide +kernel)
set_option maxRecDepth 20000 in
theorem gX10_ends_X10_no : GoodIn wsX10_ends (wsV RX10 162 RX10 yX10_no wsX10_no) := goodIn_app (goodIn_of _ (by decide +kernel)) ggX10_ends_X10_no
theorem kX10_ends_176 : Cond.fieldLink RX10 176 "EveningVowModel" "hasEvening" "Z" ∈ wsX10_ends := List.mem_of_getElem? (i := 1) rfl
theorem iX10_ends_X10 : ∀ w ∈ u_ws RX10 TX10 35, w ∈ wsX10_ends := fun w h => (List.mem_cons_of_mem _ (List.mem_append_right _ h))
set_option maxHeartbeats 4000000 in
set_option maxRecDepth 100000 in
theorem mX10_ends (l : Launch) (g : GG) (a_t : Nat) (p_t : Nat → Nat) (n : Nat) (o_t : Nat → Int32) (f_t_15 : Nat → Int32) (f_t_17 : Nat → Int32) (f_t_25 : Nat → Int32) (r : Int32) (o_t' : Nat → Int32) (f_t_25' : Nat → Int32) (hF : fX10_ends n o_t f_t_15 f_t_17 f_t_25 = some (r, o_t', f_t_25')) : MI l g yX10_ends wsX10_ends ({ frames := 6, cells := 0, slots := 0, locals := 136 } : Room) [.ref a_t] [oX10 a_t p_t o_t, aI g (p_t 15) 266 f_t_15, aI g (p_t 17) 17 f_t_17, aI g (p_t 25) 17 f_t_25] r [oX10 a_t p_t o_t', aI g (p_t 15) 266 f_t_15, aI g (p_t 17) 17 f_t_17, aI g (p_t 25) 17 f_t_25'] := by
  refine MI.of (cc := cX10_ends) (maxL := 1) (rt := .int) (own := RX10) rfl rfl (by decide) (Nat.le_of_ble_eq_true rfl) ?_
  intro p e s m args below meth c A C0 hP hD hS ls hl
  obtain ⟨hx, hb, hml, hown, hts, hr, hlk, hK, hA, hSW⟩ := id C0
  have hl : lv_has ls 1 [(0, .ref a_t)] := hl
  rw [fX10_ends] at hF
  refine lv_aload_n hx hb dX10_ends_0 rfl (lv_at hl 0 rfl) ?_
  obtain ⟨u_1, hu_2, hF⟩ := ob1_some hF
  refine call_v (wr := [aI g (p_t 15) 266 f_t_15, aI g (p_t 17) 17 f_t_17, aI g (p_t 25) 17 f_t_25]) (As := []) (rest := []) (ci := 10) (q0 := 0) C0 (mX10_good l g a_t p_t n o_t u_1 hu_2) (cwV 0 hts gX10_ends_X10_good rfl rfl rfl (by decide +kernel) ⟨Nat.le_of_ble_eq_true rfl, Nat.le_of_ble_eq_true rfl⟩) hP hD hS [0] [1, 2, 3] rfl rfl rfl rfl rfl (by decide) rfl rfl hl.1 rfl rfl (Nat.le_of_ble_eq_true rfl) ⟨Nat.zero_le _, Nat.zero_le _⟩ dX10_ends_1 ?_
  intro H locs hP hD hS
  refine lv_aload_n hx hb dX10_ends_4 rfl (lv_at hl 0 rfl) ?_
  refine va_get (D := g.1) (ci := 10) (v := .int (u_1 14)) (C := RX10) (T := TX10) (N := 35) hx hb hts iX10_ends_X10 hown hK.1 hP 3 rfl rfl 14 (by decide) (hts _ kX10_ends_176) (fun _ h9 => h9) rfl dX10_ends_5 ?_
  refine lv_if_eq (tgt := 18) hx hb dX10_ends_8 (by decide) (fun c_3 => ?_) (fun c_3 => ?_)
  · have hF := it_p c_3 hF
    refine lv_aload_n hx hb dX10_ends_18 rfl (lv_at hl 0 rfl) ?_
    refine lv_iconst (v := (1 : Int32)) hx hb dX10_ends_19 (by decide) ?_
    obtain ⟨u_4, u_5, hu_6, hF⟩ := ob2_some hF
    refine call_i (wr := [aI g (p_t 15) 266 f_t_15, aI g (p_t 17) 17 f_t_17, aI g (p_t 25) 17 f_t_25]) (As := [.int (1 : Int32)]) (rest := []) (ci := 10) (q0 := 0) C0 (mX10_no l g a_t p_t n (1 : Int32) u_1 u_4 u_5 hu_6) (cwV 1 hts gX10_ends_X10_no rfl rfl rfl (by decide +kernel) ⟨Nat.le_of_ble_eq_true rfl, Nat.le_of_ble_eq_true rfl⟩) hP hD hS [3] [0, 1, 2] rfl rfl rfl rfl rfl (by decide) rfl rfl hl.1 rfl rfl (Nat.le_of_ble_eq_true rfl) ⟨Nat.zero_le _, Nat.zero_le _⟩ dX10_ends_20 ?_
    intro H locs hP hD hS
    cases hF
    exact ret_i C0 hP hD hS [3, 0, 1, 2] rfl rfl rfl dX10_ends_23 rfl
  · have hF := it_n c_3 hF
    refine lv_aload_n hx hb dX10_ends_11 rfl (lv_at hl 0 rfl) ?_
    obtain ⟨u_7, u_8, u_9, hu_10, hF⟩ := ob3_some hF
    refine call_i (wr := []) (As := []) (rest := []) (ci := 10) (q0 := 0) C0 (mX10_endsNow l g a_t p_t n u_1 f_t_15 f_t_17 f_t_25 u_7 u_8 u_9 hu_10) (cwV 0 hts gX10_ends_X10_endsNow rfl rfl rfl (by decide +kernel) ⟨Nat.le_of_ble_eq_true rfl, Nat.le_of_ble_eq_true rfl⟩) hP hD hS [3, 0, 1, 2] [] rfl rfl rfl rfl rfl (by decide) rfl rfl hl.1 rfl rfl (Nat.le_of_ble_eq_true rfl) ⟨Nat.zero_le _, Nat.zero_le _⟩ dX10_ends_12 ?_
    intro H locs hP hD hS
    refine lv_goto (tgt := 23) hx hb dX10_ends_15 (by decide) ?_
    cases hF
    exact ret_i C0 hP hD hS [0, 1, 2, 3] rfl rfl rfl dX10_ends_23 rfl

theorem dAX10_last : ∀ q ∈ ([(0, (.aload_n 0, 1)), (1, (.invokevirtual 159, 3)), (4, (.aload_n 0, 1)), (5, (.getfield 176, 3)), (8, (.ifCond .ne 9, 3)), (11, (.aload_n 0, 1)), (12, (.iconst 1, 1)), (13, (.invokevirtual 162, 3)), (16, (.ireturn, 1)), (17, (.aload_n 0, 1)), (18, (.invokevirtual 309, 3)), (21, (.ifCond .ge 8, 3)), (24, (.bipush (-2), 2)), (26, (.goto 7, 3)), (29, (.aload_n 0, 1)), (30, (.getfield 287, 3)), (33, (.ireturn, 1))] : List (Nat × (Instr × Nat))), decode cX10_last q.1 = .ok q.2 := by decide +kernel
theorem dX10_last_0 : decode cX10_last 0 = .ok (.aload_n 0, 1) := dAX10_last (0, (.aload_n 0, 1)) (List.mem_of_getElem? (i := 0) rfl)
theorem dX10_last_1 : decode cX10_last 1 = .ok (.invokevirtual 159, 3) := dAX10_last (1, (.invokevirtual 159, 3)) (List.mem_of_getElem? (i := 1) rfl)
theorem dX10_last_4 : decode cX10_last 4 = .ok (.aload_n 0, 1) := dAX10_last (4, (.aload_n 0, 1)) (List.mem_of_getElem? (i := 2) rfl)
theorem dX10_last_5 : decode cX10_last 5 = .ok (.getfield 176, 3) := dAX10_last (5, (.getfield 176, 3)) (List.mem_of_getElem? (i := 3) rfl)
theorem dX10_last_8 : decode cX10_last 8 = .ok (.ifCond .ne 9, 3) := dAX10_last (8, (.ifCond .ne 9, 3)) (List.mem_of_getElem? (i := 4) rfl)
theorem dX10_last_11 : decode cX10_last 11 = .ok (.aload_n 0, 1) := dAX10_last (11, (.aload_n 0, 1)) (List.mem_of_getElem? (i := 5) rfl)
theorem dX10_last_12 : decode cX10_last 12 = .ok (.iconst 1, 1) := dAX10_last (12, (.iconst 1, 1)) (List.mem_of_getElem? (i := 6) rfl)
theorem dX10_last_13 : decode cX10_last 13 = .ok (.invokevirtual 162, 3) := dAX10_last (13, (.invokevirtual 162, 3)) (List.mem_of_getElem? (i := 7) rfl)
theorem dX10_last_16 : decode cX10_last 16 = .ok (.ireturn, 1) := dAX10_last (16, (.ireturn, 1)) (List.mem_of_getElem? (i := 8) rfl)
theorem dX10_last_17 : decode cX10_last 17 = .ok (.aload_n 0, 1) := dAX10_last (17, (.aload_n 0, 1)) (List.mem_of_getElem? (i := 9) rfl)
theorem dX10_last_18 : decode cX10_last 18 = .ok (.invokevirtual 309, 3) := dAX10_last (18, (.invokevirtual 309, 3)) (List.mem_of_getElem? (i := 10) rfl)
theorem dX10_last_21 : decode cX10_last 21 = .ok (.ifCond .ge 8, 3) := dAX10_last (21, (.ifCond .ge 8, 3)) (List.mem_of_getElem? (i := 11) rfl)
theorem dX10_last_24 : decode cX10_last 24 = .ok (.bipush (-2), 2) := dAX10_last (24, (.bipush (-2), 2)) (List.mem_of_getElem? (i := 12) rfl)
theorem dX10_last_26 : decode cX10_last 26 = .ok (.goto 7, 3) := dAX10_last (26, (.goto 7, 3)) (List.mem_of_getElem? (i := 13) rfl)
theorem dX10_last_29 : decode cX10_last 29 = .ok (.aload_n 0, 1) := dAX10_last (29, (.aload_n 0, 1)) (List.mem_of_getElem? (i := 14) rfl)
theorem dX10_last_30 : decode cX10_last 30 = .ok (.getfield 287, 3) := dAX10_last (30, (.getfield 287, 3)) (List.mem_of_getElem? (i := 15) rfl)
theorem dX10_last_33 : decode cX10_last 33 = .ok (.ireturn, 1) := dAX10_last (33, (.ireturn, 1)) (List.mem_of_getElem? (i := 16) rfl)
set_option maxRecDepth 20000 in
theorem ggX10_last_X10_good : GoodIn wsX10_last wsX10_good := goodIn_r _ [7, 8, 9, 73, 74, 75, 76, 77, 78, 79, 80, 81, 82, 83, 84, 85, 86, 87, 88, 89, 90, 91, 92, 93, 94, 95, 96, 97, 98, 99, 100, 101, 102, 103, 104, 105, 106, 107] rfl (by decide +kernel)
set_option maxRecDepth 20000 in
theorem gX10_last_X10_good : GoodIn wsX10_last (wsV RX10 159 RX10 yX10_good wsX10_good) := goodIn_app (goodIn_of _ (by decide +kernel)) ggX10_last_X10_good
set_option maxRecDepth 20000 in
theorem ggX10_last_X10_no : GoodIn wsX10_last wsX10_no := goodIn_r _ [13, 9, 73, 74, 75, 76, 77, 78, 79, 80, 81, 82, 83, 84, 85, 86, 87, 88, 89, 90, 91, 92, 93, 94, 95, 96, 97, 98, 99, 100, 101, 102, 103, 104, 105, 106, 107] rfl (by decide +kernel)
set_option maxRecDepth 20000 in
theorem gX10_last_X10_no : GoodIn wsX10_last (wsV RX10 162 RX10 yX10_no wsX10_no) := goodIn_app (goodIn_of _ (by decide +kernel)) ggX10_last_X10_no
set_option maxRecDepth 20000 in
theorem ggX10_last_X10_endsNow : GoodIn wsX10_last wsX10_endsNow := goodIn_r _ [17, 18, 19, 20, 21, 6, 22, 23, 24, 25, 26, 2, 27, 28, 29, 30, 31, 32, 33, 34, 35, 36, 37, 38, 39, 40, 41, 42, 43, 44, 45, 46, 47, 48, 49, 50, 51, 52, 53, 54, 55, 56, 57, 58, 59, 60, 61, 62, 63, 64, 65, 66, 67, 68, 69, 70, 71, 72, 73, 74, 75, 76, 77, 78, 79, 80, 81, 82, 83, 84, 85, 86, 87, 88, 89, 90, 91, 92, 93, 94, 95, 96, 97, 98, 99, 100, 101, 102, 103, 104, 105, 106, 107] rfl (by decide +kernel)
set_option maxRecDepth 20000 in
theorem gX10_last_X10_endsNow : GoodIn wsX10_last (wsV RX10 309 RX10 yX10_endsNow wsX10_endsNow) := goodIn_app (goodIn_of _ (by decide +kernel)) ggX10_last_X10_endsNow
theorem kX10_last_176 : Cond.fieldLink RX10 176 "EveningVowModel" "hasEvening" "Z" ∈ wsX10_last := List.mem_of_getElem? (i := 1) rfl
theorem iX10_last_X10 : ∀ w ∈ u_ws RX10 TX10 35, w ∈ wsX10_last := fun w h => (List.mem_cons_of_mem _ (List.mem_append_right _ h))
theorem kX10_last_287 : Cond.fieldLink RX10 287 "EveningVowModel" "lastOnes" "I" ∈ wsX10_last := List.mem_of_getElem? (i := 2) rfl
set_option maxHeartbeats 4000000 in
set_option maxRecDepth 100000 in
theorem mX10_last (l : Launch) (g : GG) (a_t : Nat) (p_t : Nat → Nat) (n : Nat) (o_t : Nat → Int32) (f_t_15 : Nat → Int32) (f_t_17 : Nat → Int32) (f_t_25 : Nat → Int32) (r : Int32) (o_t' : Nat → Int32) (f_t_25' : Nat → Int32) (hF : fX10_last n o_t f_t_15 f_t_17 f_t_25 = some (r, o_t', f_t_25')) : MI l g yX10_last wsX10_last ({ frames := 6, cells := 0, slots := 0, locals := 136 } : Room) [.ref a_t] [oX10 a_t p_t o_t, aI g (p_t 15) 266 f_t_15, aI g (p_t 17) 17 f_t_17, aI g (p_t 25) 17 f_t_25] r [oX10 a_t p_t o_t', aI g (p_t 15) 266 f_t_15, aI g (p_t 17) 17 f_t_17, aI g (p_t 25) 17 f_t_25'] := by
  refine MI.of (cc := cX10_last) (maxL := 1) (rt := .int) (own := RX10) rfl rfl (by decide) (Nat.le_of_ble_eq_true rfl) ?_
  intro p e s m args below meth c A C0 hP hD hS ls hl
  obtain ⟨hx, hb, hml, hown, hts, hr, hlk, hK, hA, hSW⟩ := id C0
  have hl : lv_has ls 1 [(0, .ref a_t)] := hl
  rw [fX10_last] at hF
  refine lv_aload_n hx hb dX10_last_0 rfl (lv_at hl 0 rfl) ?_
  obtain ⟨u_1, hu_2, hF⟩ := ob1_some hF
  refine call_v (wr := [aI g (p_t 15) 266 f_t_15, aI g (p_t 17) 17 f_t_17, aI g (p_t 25) 17 f_t_25]) (As := []) (rest := []) (ci := 10) (q0 := 0) C0 (mX10_good l g a_t p_t n o_t u_1 hu_2) (cwV 0 hts gX10_last_X10_good rfl rfl rfl (by decide +kernel) ⟨Nat.le_of_ble_eq_true rfl, Nat.le_of_ble_eq_true rfl⟩) hP hD hS [0] [1, 2, 3] rfl rfl rfl rfl rfl (by decide) rfl rfl hl.1 rfl rfl (Nat.le_of_ble_eq_true rfl) ⟨Nat.zero_le _, Nat.zero_le _⟩ dX10_last_1 ?_
  intro H locs hP hD hS
  refine lv_aload_n hx hb dX10_last_4 rfl (lv_at hl 0 rfl) ?_
  refine va_get (D := g.1) (ci := 10) (v := .int (u_1 14)) (C := RX10) (T := TX10) (N := 35) hx hb hts iX10_last_X10 hown hK.1 hP 3 rfl rfl 14 (by decide) (hts _ kX10_last_176) (fun _ h9 => h9) rfl dX10_last_5 ?_
  refine lv_if_ne (tgt := 17) hx hb dX10_last_8 (by decide) (fun c_3 => ?_) (fun c_3 => ?_)
  · have hF := it_n c_3 hF
    refine lv_aload_n hx hb dX10_last_17 rfl (lv_at hl 0 rfl) ?_
    obtain ⟨u_4, u_5, u_6, hu_7, hF⟩ := ob3_some hF
    refine call_i (wr := []) (As := []) (rest := []) (ci := 10) (q0 := 0) C0 (mX10_endsNow l g a_t p_t n u_1 f_t_15 f_t_17 f_t_25 u_4 u_5 u_6 hu_7) (cwV 0 hts gX10_last_X10_endsNow rfl rfl rfl (by decide +kernel) ⟨Nat.le_of_ble_eq_true rfl, Nat.le_of_ble_eq_true rfl⟩) hP hD hS [3, 0, 1, 2] [] rfl rfl rfl rfl rfl (by decide) rfl rfl hl.1 rfl rfl (Nat.le_of_ble_eq_true rfl) ⟨Nat.zero_le _, Nat.zero_le _⟩ dX10_last_18 ?_
    intro H locs hP hD hS
    refine lv_if_ge (tgt := 29) hx hb dX10_last_21 (by decide) (fun c_8 => ?_) (fun c_8 => ?_)
    · have hF := it_p c_8 hF
      refine lv_aload_n hx hb dX10_last_29 rfl (lv_at hl 0 rfl) ?_
      refine va_get (D := g.1) (ci := 10) (v := .int (u_5 24)) (C := RX10) (T := TX10) (N := 35) hx hb hts iX10_last_X10 hown hK.1 hP 0 rfl rfl 24 (by decide) (hts _ kX10_last_287) (fun _ h9 => h9) rfl dX10_last_30 ?_
      cases hF
      exact ret_i C0 hP hD hS [0, 1, 2, 3] rfl rfl rfl dX10_last_33 rfl
    · have hF := it_n c_8 hF
      refine lv_bipush (v := (-2 : Int32)) hx hb dX10_last_24 (by decide) ?_
      refine lv_goto (tgt := 33) hx hb dX10_last_26 (by decide) ?_
      cases hF
      exact ret_i C0 hP hD hS [0, 1, 2, 3] rfl rfl rfl dX10_last_33 rfl
  · have hF := it_p c_3 hF
    refine lv_aload_n hx hb dX10_last_11 rfl (lv_at hl 0 rfl) ?_
    refine lv_iconst (v := (1 : Int32)) hx hb dX10_last_12 (by decide) ?_
    obtain ⟨u_9, u_10, hu_11, hF⟩ := ob2_some hF
    refine call_i (wr := [aI g (p_t 15) 266 f_t_15, aI g (p_t 17) 17 f_t_17, aI g (p_t 25) 17 f_t_25]) (As := [.int (1 : Int32)]) (rest := []) (ci := 10) (q0 := 0) C0 (mX10_no l g a_t p_t n (1 : Int32) u_1 u_9 u_10 hu_11) (cwV 1 hts gX10_last_X10_no rfl rfl rfl (by decide +kernel) ⟨Nat.le_of_ble_eq_true rfl, Nat.le_of_ble_eq_true rfl⟩) hP hD hS [3] [0, 1, 2] rfl rfl rfl rfl rfl (by decide) rfl rfl hl.1 rfl rfl (Nat.le_of_ble_eq_true rfl) ⟨Nat.zero_le _, Nat.zero_le _⟩ dX10_last_13 ?_
    intro H locs hP hD hS
    cases hF
    exact ret_i C0 hP hD hS [3, 0, 1, 2] rfl rfl rfl dX10_last_16 rfl

theorem dAX10_sends : ∀ q ∈ ([(0, (.aload_n 0, 1)), (1, (.aload_n 1, 1)), (2, (.iload_n 2, 1)), (3, (.invokevirtual 270, 3)), (6, (.iload_n 2, 1)), (7, (.aload_n 0, 1)), (8, (.aload_n 1, 1)), (9, (.invokevirtual 280, 3)), (12, (.ior, 1)), (13, (.ireturn, 1))] : List (Nat × (Instr × Nat))), decode cX10_sends q.1 = .ok q.2 := by decide +kernel
theorem dX10_sends_0 : decode cX10_sends 0 = .ok (.aload_n 0, 1) := dAX10_sends (0, (.aload_n 0, 1)) (List.mem_of_getElem? (i := 0) rfl)
theorem dX10_sends_1 : decode cX10_sends 1 = .ok (.aload_n 1, 1) := dAX10_sends (1, (.aload_n 1, 1)) (List.mem_of_getElem? (i := 1) rfl)
theorem dX10_sends_2 : decode cX10_sends 2 = .ok (.iload_n 2, 1) := dAX10_sends (2, (.iload_n 2, 1)) (List.mem_of_getElem? (i := 2) rfl)
theorem dX10_sends_3 : decode cX10_sends 3 = .ok (.invokevirtual 270, 3) := dAX10_sends (3, (.invokevirtual 270, 3)) (List.mem_of_getElem? (i := 3) rfl)
theorem dX10_sends_6 : decode cX10_sends 6 = .ok (.iload_n 2, 1) := dAX10_sends (6, (.iload_n 2, 1)) (List.mem_of_getElem? (i := 4) rfl)
theorem dX10_sends_7 : decode cX10_sends 7 = .ok (.aload_n 0, 1) := dAX10_sends (7, (.aload_n 0, 1)) (List.mem_of_getElem? (i := 5) rfl)
theorem dX10_sends_8 : decode cX10_sends 8 = .ok (.aload_n 1, 1) := dAX10_sends (8, (.aload_n 1, 1)) (List.mem_of_getElem? (i := 6) rfl)
theorem dX10_sends_9 : decode cX10_sends 9 = .ok (.invokevirtual 280, 3) := dAX10_sends (9, (.invokevirtual 280, 3)) (List.mem_of_getElem? (i := 7) rfl)
theorem dX10_sends_12 : decode cX10_sends 12 = .ok (.ior, 1) := dAX10_sends (12, (.ior, 1)) (List.mem_of_getElem? (i := 8) rfl)
theorem dX10_sends_13 : decode cX10_sends 13 = .ok (.ireturn, 1) := dAX10_sends (13, (.ireturn, 1)) (List.mem_of_getElem? (i := 9) rfl)
set_option maxRecDepth 20000 in
theorem ggX10_sends_X10_goes : GoodIn wsX10_sends wsX10_goes := goodIn_r _ [5, 6, 7, 8, 4, 9, 10, 11, 12, 30, 31, 32, 33, 34, 35, 36, 37, 38, 39, 40, 41, 42, 43, 44, 45, 46, 47, 48, 49, 50, 51, 52, 53, 54, 55, 56, 57, 58, 59, 60, 61, 62, 63, 64] rfl (by decide +kernel)
set_option maxRecDepth 20000 in
theorem gX10_sends_X10_goes : GoodIn wsX10_sends (wsV RX10 270 RX10 yX10_goes wsX10_goes) := goodIn_app (goodIn_of _ (by decide +kernel)) ggX10_sends_X10_goes
set_option maxRecDepth 20000 in
theorem ggX10_sends_X10_leaves : GoodIn wsX10_sends wsX10_leaves := goodIn_r _ [16, 17, 6, 18, 19, 20, 4, 21, 10, 11, 12, 22, 23, 24, 25, 26, 27, 28, 29, 1, 2, 3, 5, 7, 8, 9, 30, 31, 32, 33, 34, 35, 36, 37, 38, 39, 40, 41, 42, 43, 44, 45, 46, 47, 48, 49, 50, 51, 52, 53, 54, 55, 56, 57, 58, 59, 60, 61, 62, 63, 64] rfl (by decide +kernel)
set_option maxRecDepth 20000 in
theorem gX10_sends_X10_leaves : GoodIn wsX10_sends (wsV RX10 280 RX10 yX10_leaves wsX10_leaves) := goodIn_app (goodIn_of _ (by decide +kernel)) ggX10_sends_X10_leaves
set_option maxHeartbeats 4000000 in
set_option maxRecDepth 100000 in
theorem mX10_sends (l : Launch) (g : GG) (a_t : Nat) (a_r1 : Nat) (p_t : Nat → Nat) (n : Nat) (x2 : Int32) (o_t : Nat → Int32) (f_t_15 : Nat → Int32) (f_r1 : Nat → Int32) (r : Int32) (o_t' : Nat → Int32) (f_r1' : Nat → Int32) (hF : fX10_sends n x2 o_t f_t_15 f_r1 = some (r, o_t', f_r1')) : MI l g yX10_sends wsX10_sends ({ frames := 3, cells := 0, slots := 0, locals := 71 } : Room) [.ref a_t, .ref a_r1, .int x2] [oX10 a_t p_t o_t, aI g (p_t 15) 266 f_t_15, aI g a_r1 17 f_r1] r [oX10 a_t p_t o_t', aI g (p_t 15) 266 f_t_15, aI g a_r1 17 f_r1'] := by
  refine MI.of (cc := cX10_sends) (maxL := 3) (rt := .int) (own := RX10) rfl rfl (by decide) (Nat.le_of_ble_eq_true rfl) ?_
  intro p e s m args below meth c A C0 hP hD hS ls hl
  obtain ⟨hx, hb, hml, hown, hts, hr, hlk, hK, hA, hSW⟩ := id C0
  have hl : lv_has ls 3 [(0, .ref a_t), (1, .ref a_r1), (2, .int x2)] := hl
  rw [fX10_sends] at hF
  refine lv_aload_n hx hb dX10_sends_0 rfl (lv_at hl 0 rfl) ?_
  refine lv_aload_n hx hb dX10_sends_1 rfl (lv_at hl 1 rfl) ?_
  refine lv_iload_n hx hb dX10_sends_2 rfl (lv_at hl 2 rfl) ?_
  obtain ⟨u_1, hu_2, hF⟩ := ob1_some hF
  refine call_v (wr := []) (As := [.ref a_r1, .int x2]) (rest := []) (ci := 10) (q0 := 0) C0 (mX10_goes l g a_t a_r1 p_t n x2 o_t f_t_15 f_r1 u_1 hu_2) (cwV 2 hts gX10_sends_X10_goes rfl rfl rfl (by decide +kernel) ⟨Nat.le_of_ble_eq_true rfl, Nat.le_of_ble_eq_true rfl⟩) hP hD hS [0, 1, 2] [] rfl rfl rfl rfl rfl (by decide) rfl rfl hl.1 rfl rfl (Nat.le_of_ble_eq_true rfl) ⟨Nat.zero_le _, Nat.zero_le _⟩ dX10_sends_3 ?_
  intro H locs hP hD hS
  refine lv_iload_n hx hb dX10_sends_6 rfl (lv_at hl 2 rfl) ?_
  refine lv_aload_n hx hb dX10_sends_7 rfl (lv_at hl 0 rfl) ?_
  refine lv_aload_n hx hb dX10_sends_8 rfl (lv_at hl 1 rfl) ?_
  obtain ⟨u_3, u_4, u_5, hu_6, hF⟩ := ob3_some hF
  refine call_i (wr := []) (As := [.ref a_r1]) (rest := [.int x2]) (ci := 10) (q0 := 0) C0 (mX10_leaves l g a_t a_r1 p_t n o_t f_t_15 u_1 u_3 u_4 u_5 hu_6) (cwV 1 hts gX10_sends_X10_leaves rfl rfl rfl (by decide +kernel) ⟨Nat.le_of_ble_eq_true rfl, Nat.le_of_ble_eq_true rfl⟩) hP hD hS [0, 1, 2] [] rfl rfl rfl rfl rfl (by decide) rfl rfl hl.1 rfl rfl (Nat.le_of_ble_eq_true rfl) ⟨Nat.zero_le _, Nat.zero_le _⟩ dX10_sends_9 ?_
  intro H locs hP hD hS
  refine lv_ior hx hb dX10_sends_12 ?_
  cases hF
  exact ret_i C0 hP hD hS [0, 1, 2] rfl rfl rfl dX10_sends_13 rfl

theorem dAX10_thereWhy : ∀ q ∈ ([(0, (.aload_n 0, 1)), (1, (.iload_n 1, 1)), (2, (.invokevirtual 300, 3)), (5, (.ifCond .ne 7, 3)), (8, (.iconst 1, 1)), (9, (.goto 19, 3)), (12, (.aload_n 0, 1)), (13, (.getfield 26, 3)), (16, (.iload_n 1, 1)), (17, (.invokestatic 248, 3)), (20, (.ifCond .eq 7, 3)), (23, (.iconst 0, 1)), (24, (.goto 4, 3)), (27, (.iconst 5, 1)), (28, (.ireturn, 1))] : List (Nat × (Instr × Nat))), decode cX10_thereWhy q.1 = .ok q.2 := by decide +kernel
theorem dX10_thereWhy_0 : decode cX10_thereWhy 0 = .ok (.aload_n 0, 1) := dAX10_thereWhy (0, (.aload_n 0, 1)) (List.mem_of_getElem? (i := 0) rfl)
theorem dX10_thereWhy_1 : decode cX10_thereWhy 1 = .ok (.iload_n 1, 1) := dAX10_thereWhy (1, (.iload_n 1, 1)) (List.mem_of_getElem? (i := 1) rfl)
theorem dX10_thereWhy_2 : decode cX10_thereWhy 2 = .ok (.invokevirtual 300, 3) := dAX10_thereWhy (2, (.invokevirtual 300, 3)) (List.mem_of_getElem? (i := 2) rfl)
theorem dX10_thereWhy_5 : decode cX10_thereWhy 5 = .ok (.ifCond .ne 7, 3) := dAX10_thereWhy (5, (.ifCond .ne 7, 3)) (List.mem_of_getElem? (i := 3) rfl)
theorem dX10_thereWhy_8 : decode cX10_thereWhy 8 = .ok (.iconst 1, 1) := dAX10_thereWhy (8, (.iconst 1, 1)) (List.mem_of_getElem? (i := 4) rfl)
theorem dX10_thereWhy_9 : decode cX10_thereWhy 9 = .ok (.goto 19, 3) := dAX10_thereWhy (9, (.goto 19, 3)) (List.mem_of_getElem? (i := 5) rfl)
theorem dX10_thereWhy_12 : decode cX10_thereWhy 12 = .ok (.aload_n 0, 1) := dAX10_thereWhy (12, (.aload_n 0, 1)) (List.mem_of_getElem? (i := 6) rfl)
theorem dX10_thereWhy_13 : decode cX10_thereWhy 13 = .ok (.getfield 26, 3) := dAX10_thereWhy (13, (.getfield 26, 3)) (List.mem_of_getElem? (i := 7) rfl)
theorem dX10_thereWhy_16 : decode cX10_thereWhy 16 = .ok (.iload_n 1, 1) := dAX10_thereWhy (16, (.iload_n 1, 1)) (List.mem_of_getElem? (i := 8) rfl)
theorem dX10_thereWhy_17 : decode cX10_thereWhy 17 = .ok (.invokestatic 248, 3) := dAX10_thereWhy (17, (.invokestatic 248, 3)) (List.mem_of_getElem? (i := 9) rfl)
theorem dX10_thereWhy_20 : decode cX10_thereWhy 20 = .ok (.ifCond .eq 7, 3) := dAX10_thereWhy (20, (.ifCond .eq 7, 3)) (List.mem_of_getElem? (i := 10) rfl)
theorem dX10_thereWhy_23 : decode cX10_thereWhy 23 = .ok (.iconst 0, 1) := dAX10_thereWhy (23, (.iconst 0, 1)) (List.mem_of_getElem? (i := 11) rfl)
theorem dX10_thereWhy_24 : decode cX10_thereWhy 24 = .ok (.goto 4, 3) := dAX10_thereWhy (24, (.goto 4, 3)) (List.mem_of_getElem? (i := 12) rfl)
theorem dX10_thereWhy_27 : decode cX10_thereWhy 27 = .ok (.iconst 5, 1) := dAX10_thereWhy (27, (.iconst 5, 1)) (List.mem_of_getElem? (i := 13) rfl)
theorem dX10_thereWhy_28 : decode cX10_thereWhy 28 = .ok (.ireturn, 1) := dAX10_thereWhy (28, (.ireturn, 1)) (List.mem_of_getElem? (i := 14) rfl)
set_option maxRecDepth 20000 in
theorem ggX10_thereWhy_X10_isGuest : GoodIn wsX10_thereWhy wsX10_isGuest := goodIn_r _ [6, 7, 8, 9, 10, 5, 11, 15, 16, 17, 18, 19, 20, 21, 22, 23, 24, 25, 26, 27, 28, 29, 30, 31, 32, 33, 34, 35, 36, 37, 38, 39, 40, 41, 42, 43, 44, 45, 46, 47, 48, 49] rfl (by decide +kernel)
set_option maxRecDepth 20000 in
theorem gX10_thereWhy_X10_isGuest : GoodIn wsX10_thereWhy (wsV RX10 300 RX10 yX10_isGuest wsX10_isGuest) := goodIn_app (goodIn_of _ (by decide +kernel)) ggX10_thereWhy_X10_isGuest
set_option maxRecDepth 20000 in
theorem ggX10_thereWhy_X10_isIn : GoodIn wsX10_thereWhy wsX10_isIn := goodIn_r _ [14] rfl (by decide +kernel)
set_option maxRecDepth 20000 in
theorem gX10_thereWhy_X10_isIn : GoodIn wsX10_thereWhy (va_wsS RX10 248 yX10_isIn wsX10_isIn) := goodIn_app (goodIn_of _ (by decide +kernel)) ggX10_thereWhy_X10_isIn
theorem kX10_thereWhy_26 : Cond.fieldLink RX10 26 "EveningVowModel" "st" "[I" ∈ wsX10_thereWhy := List.mem_of_getElem? (i := 1) rfl
theorem iX10_thereWhy_X10 : ∀ w ∈ u_ws RX10 TX10 35, w ∈ wsX10_thereWhy := fun w h => (List.mem_cons_of_mem _ (List.mem_append_right _ h))
set_option maxHeartbeats 4000000 in
set_option maxRecDepth 100000 in
theorem mX10_thereWhy (l : Launch) (g : GG) (a_t : Nat) (p_t : Nat → Nat) (n : Nat) (x1 : Int32) (o_t : Nat → Int32) (f_t_15 : Nat → Int32) (f_t_17 : Nat → Int32) (r : Int32) (hF : fX10_thereWhy n x1 o_t f_t_15 f_t_17 = some (r)) : MI l g yX10_thereWhy wsX10_thereWhy ({ frames := 2, cells := 0, slots := 0, locals := 43 } : Room) [.ref a_t, .int x1] [oX10 a_t p_t o_t, aI g (p_t 15) 266 f_t_15, aI g (p_t 17) 17 f_t_17] r [oX10 a_t p_t o_t, aI g (p_t 15) 266 f_t_15, aI g (p_t 17) 17 f_t_17] := by
  refine MI.of (cc := cX10_thereWhy) (maxL := 2) (rt := .int) (own := RX10) rfl rfl (by decide) (Nat.le_of_ble_eq_true rfl) ?_
  intro p e s m args below meth c A C0 hP hD hS ls hl
  obtain ⟨hx, hb, hml, hown, hts, hr, hlk, hK, hA, hSW⟩ := id C0
  have hl : lv_has ls 2 [(0, .ref a_t), (1, .int x1)] := hl
  rw [fX10_thereWhy] at hF
  refine lv_aload_n hx hb dX10_thereWhy_0 rfl (lv_at hl 0 rfl) ?_
  refine lv_iload_n hx hb dX10_thereWhy_1 rfl (lv_at hl 1 rfl) ?_
  obtain ⟨u_1, hu_2, hF⟩ := ob1_some hF
  refine call_i (wr := [aI g (p_t 17) 17 f_t_17]) (As := [.int x1]) (rest := []) (ci := 10) (q0 := 0) C0 (mX10_isGuest l g a_t p_t n x1 o_t f_t_15 u_1 hu_2) (cwV 1 hts gX10_thereWhy_X10_isGuest rfl rfl rfl (by decide +kernel) ⟨Nat.le_of_ble_eq_true rfl, Nat.le_of_ble_eq_true rfl⟩) hP hD hS [0, 1] [2] rfl rfl rfl rfl rfl (by decide) rfl rfl hl.1 rfl rfl (Nat.le_of_ble_eq_true rfl) ⟨Nat.zero_le _, Nat.zero_le _⟩ dX10_thereWhy_2 ?_
  intro H locs hP hD hS
  refine lv_if_ne (tgt := 12) hx hb dX10_thereWhy_5 (by decide) (fun c_3 => ?_) (fun c_3 => ?_)
  · have hF := it_n c_3 hF
    refine lv_aload_n hx hb dX10_thereWhy_12 rfl (lv_at hl 0 rfl) ?_
    refine va_get (D := g.1) (ci := 10) (v := .ref (p_t 17)) (C := RX10) (T := TX10) (N := 35) hx hb hts iX10_thereWhy_X10 hown hK.1 hP 1 rfl rfl 17 (by decide) (hts _ kX10_thereWhy_26) (fun _ h9 => h9) rfl dX10_thereWhy_13 ?_
    refine lv_iload_n hx hb dX10_thereWhy_16 rfl (lv_at hl 1 rfl) ?_
    obtain ⟨u_4, hu_5, hF⟩ := ob1_some hF
    refine call_si (wr := [oX10 a_t p_t o_t, aI g (p_t 15) 266 f_t_15]) (As := [.ref (p_t 17), .int x1]) (rest := []) C0 (mX10_isIn l g (p_t 17) n x1 f_t_17 u_4 hu_5) (va_cwS 2 hts gX10_thereWhy_X10_isIn rfl rfl rfl (by decide +kernel) ⟨Nat.le_of_ble_eq_true rfl, Nat.le_of_ble_eq_true rfl⟩) hP hD hS [0] [1, 2] rfl rfl rfl rfl rfl (by decide) hl.1 rfl rfl (Nat.le_of_ble_eq_true rfl) ⟨Nat.zero_le _, Nat.zero_le _⟩ dX10_thereWhy_17 ?_
    intro H locs hP hD hS
    refine lv_if_eq (tgt := 27) hx hb dX10_thereWhy_20 (by decide) (fun c_6 => ?_) (fun c_6 => ?_)
    · have hF := it_p c_6 hF
      refine lv_iconst (v := (5 : Int32)) hx hb dX10_thereWhy_27 (by decide) ?_
      cases hF
      exact ret_i C0 hP hD hS [0, 1, 2] rfl rfl rfl dX10_thereWhy_28 rfl
    · have hF := it_n c_6 hF
      refine lv_iconst (v := (0 : Int32)) hx hb dX10_thereWhy_23 (by decide) ?_
      refine lv_goto (tgt := 28) hx hb dX10_thereWhy_24 (by decide) ?_
      cases hF
      exact ret_i C0 hP hD hS [0, 1, 2] rfl rfl rfl dX10_thereWhy_28 rfl
  · have hF := it_p c_3 hF
    refine lv_iconst (v := (1 : Int32)) hx hb dX10_thereWhy_8 (by decide) ?_
    refine lv_goto (tgt := 28) hx hb dX10_thereWhy_9 (by decide) ?_
    cases hF
    exact ret_i C0 hP hD hS [1, 2, 0] rfl rfl rfl dX10_thereWhy_28 rfl

theorem dAX10_chain : ∀ q ∈ ([(0, (.aload_n 0, 1)), (1, (.invokevirtual 159, 3)), (4, (.aload_n 0, 1)), (5, (.iload_n 1, 1)), (6, (.invokevirtual 312, 3)), (9, (.ifCond .eq 13, 3)), (12, (.aload_n 0, 1)), (13, (.aload_n 0, 1)), (14, (.iload_n 1, 1)), (15, (.invokevirtual 312, 3)), (18, (.invokevirtual 162, 3)), (21, (.ireturn, 1)), (22, (.aload_n 0, 1)), (23, (.getfield 26, 3)), (26, (.iconst 0, 1)), (27, (.aload_n 0, 1)), (28, (.getfield 35, 3)), (31, (.iconst 0, 1)), (32, (.bipush 17, 2)), (34, (.invokestatic 168, 3)), (37, (.aload_n 0, 1)), (38, (.aload_n 0, 1)), (39, (.getfield 35, 3)), (42, (.iconst 1, 1)), (43, (.iload_n 1, 1)), (44, (.ishl, 1)), (45, (.invokevirtual 315, 3)), (48, (.ireturn, 1))] : List (Nat × (Instr × Nat))), decode cX10_chain q.1 = .ok q.2 := by decide +kernel
theorem dX10_chain_0 : decode cX10_chain 0 = .ok (.aload_n 0, 1) := dAX10_chain (0, (.aload_n 0, 1)) (List.mem_of_getElem? (i := 0) rfl)
theorem dX10_chain_1 : decode cX10_chain 1 = .ok (.invokevirtual 159, 3) := dAX10_chain (1, (.invokevirtual 159, 3)) (List.mem_of_getElem? (i := 1) rfl)
theorem dX10_chain_4 : decode cX10_chain 4 = .ok (.aload_n 0, 1) := dAX10_chain (4, (.aload_n 0, 1)) (List.mem_of_getElem? (i := 2) rfl)
theorem dX10_chain_5 : decode cX10_chain 5 = .ok (.iload_n 1, 1) := dAX10_chain (5, (.iload_n 1, 1)) (List.mem_of_getElem? (i := 3) rfl)
theorem dX10_chain_6 : decode cX10_chain 6 = .ok (.invokevirtual 312, 3) := dAX10_chain (6, (.invokevirtual 312, 3)) (List.mem_of_getElem? (i := 4) rfl)
theorem dX10_chain_9 : decode cX10_chain 9 = .ok (.ifCond .eq 13, 3) := dAX10_chain (9, (.ifCond .eq 13, 3)) (List.mem_of_getElem? (i := 5) rfl)
theorem dX10_chain_12 : decode cX10_chain 12 = .ok (.aload_n 0, 1) := dAX10_chain (12, (.aload_n 0, 1)) (List.mem_of_getElem? (i := 6) rfl)
theorem dX10_chain_13 : decode cX10_chain 13 = .ok (.aload_n 0, 1) := dAX10_chain (13, (.aload_n 0, 1)) (List.mem_of_getElem? (i := 7) rfl)
theorem dX10_chain_14 : decode cX10_chain 14 = .ok (.iload_n 1, 1) := dAX10_chain (14, (.iload_n 1, 1)) (List.mem_of_getElem? (i := 8) rfl)
theorem dX10_chain_15 : decode cX10_chain 15 = .ok (.invokevirtual 312, 3) := dAX10_chain (15, (.invokevirtual 312, 3)) (List.mem_of_getElem? (i := 9) rfl)
theorem dX10_chain_18 : decode cX10_chain 18 = .ok (.invokevirtual 162, 3) := dAX10_chain (18, (.invokevirtual 162, 3)) (List.mem_of_getElem? (i := 10) rfl)
theorem dX10_chain_21 : decode cX10_chain 21 = .ok (.ireturn, 1) := dAX10_chain (21, (.ireturn, 1)) (List.mem_of_getElem? (i := 11) rfl)
theorem dX10_chain_22 : decode cX10_chain 22 = .ok (.aload_n 0, 1) := dAX10_chain (22, (.aload_n 0, 1)) (List.mem_of_getElem? (i := 12) rfl)
theorem dX10_chain_23 : decode cX10_chain 23 = .ok (.getfield 26, 3) := dAX10_chain (23, (.getfield 26, 3)) (List.mem_of_getElem? (i := 13) rfl)
theorem dX10_chain_26 : decode cX10_chain 26 = .ok (.iconst 0, 1) := dAX10_chain (26, (.iconst 0, 1)) (List.mem_of_getElem? (i := 14) rfl)
theorem dX10_chain_27 : decode cX10_chain 27 = .ok (.aload_n 0, 1) := dAX10_chain (27, (.aload_n 0, 1)) (List.mem_of_getElem? (i := 15) rfl)
theorem dX10_chain_28 : decode cX10_chain 28 = .ok (.getfield 35, 3) := dAX10_chain (28, (.getfield 35, 3)) (List.mem_of_getElem? (i := 16) rfl)
theorem dX10_chain_31 : decode cX10_chain 31 = .ok (.iconst 0, 1) := dAX10_chain (31, (.iconst 0, 1)) (List.mem_of_getElem? (i := 17) rfl)
theorem dX10_chain_32 : decode cX10_chain 32 = .ok (.bipush 17, 2) := dAX10_chain (32, (.bipush 17, 2)) (List.mem_of_getElem? (i := 18) rfl)
theorem dX10_chain_34 : decode cX10_chain 34 = .ok (.invokestatic 168, 3) := dAX10_chain (34, (.invokestatic 168, 3)) (List.mem_of_getElem? (i := 19) rfl)
theorem dX10_chain_37 : decode cX10_chain 37 = .ok (.aload_n 0, 1) := dAX10_chain (37, (.aload_n 0, 1)) (List.mem_of_getElem? (i := 20) rfl)
theorem dX10_chain_38 : decode cX10_chain 38 = .ok (.aload_n 0, 1) := dAX10_chain (38, (.aload_n 0, 1)) (List.mem_of_getElem? (i := 21) rfl)
theorem dX10_chain_39 : decode cX10_chain 39 = .ok (.getfield 35, 3) := dAX10_chain (39, (.getfield 35, 3)) (List.mem_of_getElem? (i := 22) rfl)
theorem dX10_chain_42 : decode cX10_chain 42 = .ok (.iconst 1, 1) := dAX10_chain (42, (.iconst 1, 1)) (List.mem_of_getElem? (i := 23) rfl)
theorem dX10_chain_43 : decode cX10_chain 43 = .ok (.iload_n 1, 1) := dAX10_chain (43, (.iload_n 1, 1)) (List.mem_of_getElem? (i := 24) rfl)
theorem dX10_chain_44 : decode cX10_chain 44 = .ok (.ishl, 1) := dAX10_chain (44, (.ishl, 1)) (List.mem_of_getElem? (i := 25) rfl)
theorem dX10_chain_45 : decode cX10_chain 45 = .ok (.invokevirtual 315, 3) := dAX10_chain (45, (.invokevirtual 315, 3)) (List.mem_of_getElem? (i := 26) rfl)
theorem dX10_chain_48 : decode cX10_chain 48 = .ok (.ireturn, 1) := dAX10_chain (48, (.ireturn, 1)) (List.mem_of_getElem? (i := 27) rfl)
set_option maxRecDepth 20000 in
theorem ggX10_chain_X10_good : GoodIn wsX10_chain wsX10_good := goodIn_r _ [7, 8, 9, 61, 62, 63, 64, 65, 66, 67, 68, 69, 70, 71, 72, 73, 74, 75, 76, 77, 78, 79, 80, 81, 82, 83, 84, 85, 86, 87, 88, 89, 90, 91, 92, 93, 94, 95] rfl (by decide +kernel)
set_option maxRecDepth 20000 in
theorem gX10_chain_X10_good : GoodIn wsX10_chain (wsV RX10 159 RX10 yX10_good wsX10_good) := goodIn_app (goodIn_of _ (by decide +kernel)) ggX10_chain_X10_good
set_option maxRecDepth 20000 in
theorem ggX10_chain_X10_thereWhy : GoodIn wsX10_chain wsX10_thereWhy := goodIn_r _ [13, 1, 14, 15, 16, 6, 17, 18, 19, 20, 21, 22, 23, 24, 25, 61, 62, 63, 64, 65, 66, 67, 68, 69, 70, 71, 72, 73, 74, 75, 76, 77, 78, 79, 80, 81, 82, 83, 84, 85, 86, 87, 88, 89, 90, 91, 92, 93, 94, 95] rfl (by decide +kernel)
set_option maxRecDepth 20000 in
theorem gX10_chain_X10_thereWhy : GoodIn wsX10_chain (wsV RX10 312 RX10 yX10_thereWhy wsX10_thereWhy) := goodIn_app (goodIn_of _ (by decide +kernel)) ggX10_chain_X10_thereWhy
set_option maxRecDepth 20000 in
theorem ggX10_chain_X10_no : GoodIn wsX10_chain wsX10_no := goodIn_r _ [29, 9, 61, 62, 63, 64, 65, 66, 67, 68, 69, 70, 71, 72, 73, 74, 75, 76, 77, 78, 79, 80, 81, 82, 83, 84, 85, 86, 87, 88, 89, 90, 91, 92, 93, 94, 95] rfl (by decide +kernel)
set_option maxRecDepth 20000 in
theorem gX10_chain_X10_no : GoodIn wsX10_chain (wsV RX10 162 RX10 yX10_no wsX10_no) := goodIn_app (goodIn_of _ (by decide +kernel)) ggX10_chain_X10_no
set_option maxRecDepth 20000 in
theorem ggX10_chain_X10_copy : GoodIn wsX10_chain wsX10_copy := goodIn_r _ [32] rfl (by decide +kernel)
set_option maxRecDepth 20000 in
theorem gX10_chain_X10_copy : GoodIn wsX10_chain (va_wsS RX10 168 yX10_copy wsX10_copy) := goodIn_app (goodIn_of _ (by decide +kernel)) ggX10_chain_X10_copy
set_option maxRecDepth 20000 in
theorem ggX10_chain_X10_sends : GoodIn wsX10_chain wsX10_sends := goodIn_r _ [36, 37, 38, 39, 6, 40, 19, 41, 42, 43, 23, 24, 25, 44, 45, 46, 47, 48, 49, 50, 51, 52, 53, 54, 55, 56, 57, 58, 59, 60, 61, 62, 63, 64, 65, 66, 67, 68, 69, 70, 71, 72, 73, 74, 75, 76, 77, 78, 79, 80, 81, 82, 83, 84, 85, 86, 87, 88, 89, 90, 91, 92, 93, 94, 95] rfl (by decide +kernel)
set_option maxRecDepth 20000 in
theorem gX10_chain_X10_sends : GoodIn wsX10_chain (wsV RX10 315 RX10 yX10_sends wsX10_sends) := goodIn_app (goodIn_of _ (by decide +kernel)) ggX10_chain_X10_sends
theorem kX10_chain_26 : Cond.fieldLink RX10 26 "EveningVowModel" "st" "[I" ∈ wsX10_chain := List.mem_of_getElem? (i := 1) rfl
theorem iX10_chain_X10 : ∀ w ∈ u_ws RX10 TX10 35, w ∈ wsX10_chain := fun w h => (List.mem_cons_of_mem _ (List.mem_append_right _ h))
theorem kX10_chain_35 : Cond.fieldLink RX10 35 "EveningVowModel" "trial" "[I" ∈ wsX10_chain := List.mem_of_getElem? (i := 2) rfl
set_option maxHeartbeats 4000000 in
set_option maxRecDepth 100000 in
theorem mX10_chain (l : Launch) (g : GG) (a_t : Nat) (p_t : Nat → Nat) (n : Nat) (x1 : Int32) (o_t : Nat → Int32) (f_t_15 : Nat → Int32) (f_t_17 : Nat → Int32) (f_t_25 : Nat → Int32) (r : Int32) (o_t' : Nat → Int32) (f_t_25' : Nat → Int32) (hF : fX10_chain n x1 o_t f_t_15 f_t_17 f_t_25 = some (r, o_t', f_t_25')) : MI l g yX10_chain wsX10_chain ({ frames := 4, cells := 0, slots := 0, locals := 93 } : Room) [.ref a_t, .int x1] [oX10 a_t p_t o_t, aI g (p_t 15) 266 f_t_15, aI g (p_t 17) 17 f_t_17, aI g (p_t 25) 17 f_t_25] r [oX10 a_t p_t o_t', aI g (p_t 15) 266 f_t_15, aI g (p_t 17) 17 f_t_17, aI g (p_t 25) 17 f_t_25'] := by
  refine MI.of (cc := cX10_chain) (maxL := 2) (rt := .int) (own := RX10) rfl rfl (by decide) (Nat.le_of_ble_eq_true rfl) ?_
  intro p e s m args below meth c A C0 hP hD hS ls hl
  obtain ⟨hx, hb, hml, hown, hts, hr, hlk, hK, hA, hSW⟩ := id C0
  have hl : lv_has ls 2 [(0, .ref a_t), (1, .int x1)] := hl
  rw [fX10_chain] at hF
  refine lv_aload_n hx hb dX10_chain_0 rfl (lv_at hl 0 rfl) ?_
  obtain ⟨u_1, hu_2, hF⟩ := ob1_some hF
  refine call_v (wr := [aI g (p_t 15) 266 f_t_15, aI g (p_t 17) 17 f_t_17, aI g (p_t 25) 17 f_t_25]) (As := []) (rest := []) (ci := 10) (q0 := 0) C0 (mX10_good l g a_t p_t n o_t u_1 hu_2) (cwV 0 hts gX10_chain_X10_good rfl rfl rfl (by decide +kernel) ⟨Nat.le_of_ble_eq_true rfl, Nat.le_of_ble_eq_true rfl⟩) hP hD hS [0] [1, 2, 3] rfl rfl rfl rfl rfl (by decide) rfl rfl hl.1 rfl rfl (Nat.le_of_ble_eq_true rfl) ⟨Nat.zero_le _, Nat.zero_le _⟩ dX10_chain_1 ?_
  intro H locs hP hD hS
  refine lv_aload_n hx hb dX10_chain_4 rfl (lv_at hl 0 rfl) ?_
  refine lv_iload_n hx hb dX10_chain_5 rfl (lv_at hl 1 rfl) ?_
  obtain ⟨u_3, hu_4, hF⟩ := ob1_some hF
  refine call_i (wr := [aI g (p_t 25) 17 f_t_25]) (As := [.int x1]) (rest := []) (ci := 10) (q0 := 0) C0 (mX10_thereWhy l g a_t p_t n x1 u_1 f_t_15 f_t_17 u_3 hu_4) (cwV 1 hts gX10_chain_X10_thereWhy rfl rfl rfl (by decide +kernel) ⟨Nat.le_of_ble_eq_true rfl, Nat.le_of_ble_eq_true rfl⟩) hP hD hS [3, 0, 1] [2] rfl rfl rfl rfl rfl (by decide) rfl rfl hl.1 rfl rfl (Nat.le_of_ble_eq_true rfl) ⟨Nat.zero_le _, Nat.zero_le _⟩ dX10_chain_6 ?_
  intro H locs hP hD hS
  refine lv_if_eq (tgt := 22) hx hb dX10_chain_9 (by decide) (fun c_5 => ?_) (fun c_5 => ?_)
  · have hF := it_p c_5 hF
    refine lv_aload_n hx hb dX10_chain_22 rfl (lv_at hl 0 rfl) ?_
    refine va_get (D := g.1) (ci := 10) (v := .ref (p_t 17)) (C := RX10) (T := TX10) (N := 35) hx hb hts iX10_chain_X10 hown hK.1 hP 1 rfl rfl 17 (by decide) (hts _ kX10_chain_26) (fun _ h9 => h9) rfl dX10_chain_23 ?_
    refine lv_iconst (v := (0 : Int32)) hx hb dX10_chain_26 (by decide) ?_
    refine lv_aload_n hx hb dX10_chain_27 rfl (lv_at hl 0 rfl) ?_
    refine va_get (D := g.1) (ci := 10) (v := .ref (p_t 25)) (C := RX10) (T := TX10) (N := 35) hx hb hts iX10_chain_X10 hown hK.1 hP 1 rfl rfl 25 (by decide) (hts _ kX10_chain_35) (fun _ h9 => h9) rfl dX10_chain_28 ?_
    refine lv_iconst (v := (0 : Int32)) hx hb dX10_chain_31 (by decide) ?_
    refine lv_bipush (v := (17 : Int32)) hx hb dX10_chain_32 (by decide) ?_
    obtain ⟨u_6, hu_7, hF⟩ := ob1_some hF
    refine call_sv (wr := [oX10 a_t p_t u_1, aI g (p_t 15) 266 f_t_15]) (As := [.ref (p_t 17), .int (0 : Int32), .ref (p_t 25), .int (0 : Int32), .int (17 : Int32)]) (rest := []) C0 (mX10_copy l g (p_t 17) (p_t 25) n (0 : Int32) (0 : Int32) (17 : Int32) 17 17 f_t_17 f_t_25 u_6 hu_7) (va_cwS 5 hts gX10_chain_X10_copy rfl rfl rfl (by decide +kernel) ⟨Nat.le_of_ble_eq_true rfl, Nat.le_of_ble_eq_true rfl⟩) hP hD hS [3, 0] [1, 2] rfl rfl rfl rfl rfl (by decide) hl.1 rfl rfl (Nat.le_of_ble_eq_true rfl) ⟨Nat.zero_le _, Nat.zero_le _⟩ dX10_chain_34 ?_
    intro H locs hP hD hS
    refine lv_aload_n hx hb dX10_chain_37 rfl (lv_at hl 0 rfl) ?_
    refine lv_aload_n hx hb dX10_chain_38 rfl (lv_at hl 0 rfl) ?_
    refine va_get (D := g.1) (ci := 10) (v := .ref (p_t 25)) (C := RX10) (T := TX10) (N := 35) hx hb hts iX10_chain_X10 hown hK.1 hP 0 rfl rfl 25 (by decide) (hts _ kX10_chain_35) (fun _ h9 => h9) rfl dX10_chain_39 ?_
    refine lv_iconst (v := (1 : Int32)) hx hb dX10_chain_42 (by decide) ?_
    refine lv_iload_n hx hb dX10_chain_43 rfl (lv_at hl 1 rfl) ?_
    refine lv_ishl hx hb dX10_chain_44 ?_
    obtain ⟨u_8, u_9, u_10, hu_11, hF⟩ := ob3_some hF
    refine call_i (wr := [aI g (p_t 17) 17 f_t_17]) (As := [.ref (p_t 25), .int ((1 : Int32) <<< (x1 &&& 31))]) (rest := []) (ci := 10) (q0 := 0) C0 (mX10_sends l g a_t (p_t 25) p_t n ((1 : Int32) <<< (x1 &&& 31)) u_1 f_t_15 u_6 u_8 u_9 u_10 hu_11) (cwV 2 hts gX10_chain_X10_sends rfl rfl rfl (by decide +kernel) ⟨Nat.le_of_ble_eq_true rfl, Nat.le_of_ble_eq_true rfl⟩) hP hD hS [0, 1, 3] [2] rfl rfl rfl rfl rfl (by decide) rfl rfl hl.1 rfl rfl (Nat.le_of_ble_eq_true rfl) ⟨Nat.zero_le _, Nat.zero_le _⟩ dX10_chain_45 ?_
    intro H locs hP hD hS
    cases hF
    exact ret_i C0 hP hD hS [1, 2, 0, 3] rfl rfl rfl dX10_chain_48 rfl
  · have hF := it_n c_5 hF
    refine lv_aload_n hx hb dX10_chain_12 rfl (lv_at hl 0 rfl) ?_
    refine lv_aload_n hx hb dX10_chain_13 rfl (lv_at hl 0 rfl) ?_
    refine lv_iload_n hx hb dX10_chain_14 rfl (lv_at hl 1 rfl) ?_
    obtain ⟨u_12, hu_13, hF⟩ := ob1_some hF
    refine call_i (wr := [aI g (p_t 25) 17 f_t_25]) (As := [.int x1]) (rest := [.ref a_t]) (ci := 10) (q0 := 0) C0 (mX10_thereWhy l g a_t p_t n x1 u_1 f_t_15 f_t_17 u_12 hu_13) (cwV 1 hts gX10_chain_X10_thereWhy rfl rfl rfl (by decide +kernel) ⟨Nat.le_of_ble_eq_true rfl, Nat.le_of_ble_eq_true rfl⟩) hP hD hS [1, 2, 3] [0] rfl rfl rfl rfl rfl (by decide) rfl rfl hl.1 rfl rfl (Nat.le_of_ble_eq_true rfl) ⟨Nat.zero_le _, Nat.zero_le _⟩ dX10_chain_15 ?_
    intro H locs hP hD hS
    obtain ⟨u_14, u_15, hu_16, hF⟩ := ob2_some hF
    refine call_i (wr := [aI g (p_t 25) 17 f_t_25, aI g (p_t 15) 266 f_t_15, aI g (p_t 17) 17 f_t_17]) (As := [.int u_12]) (rest := []) (ci := 10) (q0 := 0) C0 (mX10_no l g a_t p_t n u_12 u_1 u_14 u_15 hu_16) (cwV 1 hts gX10_chain_X10_no rfl rfl rfl (by decide +kernel) ⟨Nat.le_of_ble_eq_true rfl, Nat.le_of_ble_eq_true rfl⟩) hP hD hS [1] [0, 2, 3] rfl rfl rfl rfl rfl (by decide) rfl rfl hl.1 rfl rfl (Nat.le_of_ble_eq_true rfl) ⟨Nat.zero_le _, Nat.zero_le _⟩ dX10_chain_18 ?_
    intro H locs hP hD hS
    cases hF
    exact ret_i C0 hP hD hS [3, 1, 2, 0] rfl rfl rfl dX10_chain_21 rfl

theorem dAX10_biggest : ∀ q ∈ ([(0, (.aload_n 0, 1)), (1, (.invokevirtual 159, 3)), (4, (.aload_n 0, 1)), (5, (.getfield 176, 3)), (8, (.ifCond .ne 9, 3)), (11, (.aload_n 0, 1)), (12, (.iconst 1, 1)), (13, (.invokevirtual 162, 3)), (16, (.ireturn, 1)), (17, (.bipush (-2), 2)), (19, (.istore_n 1, 1)), (20, (.iconst 0, 1)), (21, (.istore_n 2, 1)), (22, (.iconst 0, 1)), (23, (.istore_n 3, 1)), (24, (.iload_n 3, 1)), (25, (.aload_n 0, 1)), (26, (.getfield 20, 3)), (29, (.iconst 3, 1)), (30, (.iaload, 1)), (31, (.if_icmp .ge 69, 3)), (34, (.aload_n 0, 1)), (35, (.getfield 26, 3)), (38, (.iconst 0, 1)), (39, (.aload_n 0, 1)), (40, (.getfield 35, 3)), (43, (.iconst 0, 1)), (44, (.bipush 17, 2)), (46, (.invokestatic 168, 3)), (49, (.aload_n 0, 1)), (50, (.getfield 26, 3)), (53, (.iload_n 3, 1)), (54, (.invokestatic 248, 3)), (57, (.ifCond .eq 20, 3)), (60, (.aload_n 0, 1)), (61, (.aload_n 0, 1)), (62, (.getfield 35, 3)), (65, (.iconst 1, 1)), (66, (.iload_n 3, 1)), (67, (.ishl, 1)), (68, (.invokevirtual 315, 3)), (71, (.invokestatic 306, 3)), (74, (.goto 4, 3)), (77, (.iconst 0, 1)), (78, (.istore 4, 2)), (80, (.iload 4, 2)), (82, (.iload_n 2, 1)), (83, (.if_icmp .gt 6, 3)), (86, (.goto 8, 3)), (89, (.iload_n 3, 1)), (90, (.istore_n 1, 1)), (91, (.iload 4, 2)), (93, (.istore_n 2, 1)), (94, (.iinc 3 1, 3)), (97, (.goto (-73), 3)), (100, (.iload_n 1, 1)), (101, (.ireturn, 1))] : List (Nat × (Instr × Nat))), decode cX10_biggest q.1 = .ok q.2 := by decide +kernel
theorem dX10_biggest_0 : decode cX10_biggest 0 = .ok (.aload_n 0, 1) := dAX10_biggest (0, (.aload_n 0, 1)) (List.mem_of_getElem? (i := 0) rfl)
theorem dX10_biggest_1 : decode cX10_biggest 1 = .ok (.invokevirtual 159, 3) := dAX10_biggest (1, (.invokevirtual 159, 3)) (List.mem_of_getElem? (i := 1) rfl)
theorem dX10_biggest_4 : decode cX10_biggest 4 = .ok (.aload_n 0, 1) := dAX10_biggest (4, (.aload_n 0, 1)) (List.mem_of_getElem? (i := 2) rfl)
theorem dX10_biggest_5 : decode cX10_biggest 5 = .ok (.getfield 176, 3) := dAX10_biggest (5, (.getfield 176, 3)) (List.mem_of_getElem? (i := 3) rfl)
theorem dX10_biggest_8 : decode cX10_biggest 8 = .ok (.ifCond .ne 9, 3) := dAX10_biggest (8, (.ifCond .ne 9, 3)) (List.mem_of_getElem? (i := 4) rfl)
theorem dX10_biggest_11 : decode cX10_biggest 11 = .ok (.aload_n 0, 1) := dAX10_biggest (11, (.aload_n 0, 1)) (List.mem_of_getElem? (i := 5) rfl)
theorem dX10_biggest_12 : decode cX10_biggest 12 = .ok (.iconst 1, 1) := dAX10_biggest (12, (.iconst 1, 1)) (List.mem_of_getElem? (i := 6) rfl)
theorem dX10_biggest_13 : decode cX10_biggest 13 = .ok (.invokevirtual 162, 3) := dAX10_biggest (13, (.invokevirtual 162, 3)) (List.mem_of_getElem? (i := 7) rfl)
theorem dX10_biggest_16 : decode cX10_biggest 16 = .ok (.ireturn, 1) := dAX10_biggest (16, (.ireturn, 1)) (List.mem_of_getElem? (i := 8) rfl)
theorem dX10_biggest_17 : decode cX10_biggest 17 = .ok (.bipush (-2), 2) := dAX10_biggest (17, (.bipush (-2), 2)) (List.mem_of_getElem? (i := 9) rfl)
theorem dX10_biggest_19 : decode cX10_biggest 19 = .ok (.istore_n 1, 1) := dAX10_biggest (19, (.istore_n 1, 1)) (List.mem_of_getElem? (i := 10) rfl)
theorem dX10_biggest_20 : decode cX10_biggest 20 = .ok (.iconst 0, 1) := dAX10_biggest (20, (.iconst 0, 1)) (List.mem_of_getElem? (i := 11) rfl)
theorem dX10_biggest_21 : decode cX10_biggest 21 = .ok (.istore_n 2, 1) := dAX10_biggest (21, (.istore_n 2, 1)) (List.mem_of_getElem? (i := 12) rfl)
theorem dX10_biggest_22 : decode cX10_biggest 22 = .ok (.iconst 0, 1) := dAX10_biggest (22, (.iconst 0, 1)) (List.mem_of_getElem? (i := 13) rfl)
theorem dX10_biggest_23 : decode cX10_biggest 23 = .ok (.istore_n 3, 1) := dAX10_biggest (23, (.istore_n 3, 1)) (List.mem_of_getElem? (i := 14) rfl)
theorem dX10_biggest_24 : decode cX10_biggest 24 = .ok (.iload_n 3, 1) := dAX10_biggest (24, (.iload_n 3, 1)) (List.mem_of_getElem? (i := 15) rfl)
theorem dX10_biggest_25 : decode cX10_biggest 25 = .ok (.aload_n 0, 1) := dAX10_biggest (25, (.aload_n 0, 1)) (List.mem_of_getElem? (i := 16) rfl)
theorem dX10_biggest_26 : decode cX10_biggest 26 = .ok (.getfield 20, 3) := dAX10_biggest (26, (.getfield 20, 3)) (List.mem_of_getElem? (i := 17) rfl)
theorem dX10_biggest_29 : decode cX10_biggest 29 = .ok (.iconst 3, 1) := dAX10_biggest (29, (.iconst 3, 1)) (List.mem_of_getElem? (i := 18) rfl)
theorem dX10_biggest_30 : decode cX10_biggest 30 = .ok (.iaload, 1) := dAX10_biggest (30, (.iaload, 1)) (List.mem_of_getElem? (i := 19) rfl)
theorem dX10_biggest_31 : decode cX10_biggest 31 = .ok (.if_icmp .ge 69, 3) := dAX10_biggest (31, (.if_icmp .ge 69, 3)) (List.mem_of_getElem? (i := 20) rfl)
theorem dX10_biggest_34 : decode cX10_biggest 34 = .ok (.aload_n 0, 1) := dAX10_biggest (34, (.aload_n 0, 1)) (List.mem_of_getElem? (i := 21) rfl)
theorem dX10_biggest_35 : decode cX10_biggest 35 = .ok (.getfield 26, 3) := dAX10_biggest (35, (.getfield 26, 3)) (List.mem_of_getElem? (i := 22) rfl)
theorem dX10_biggest_38 : decode cX10_biggest 38 = .ok (.iconst 0, 1) := dAX10_biggest (38, (.iconst 0, 1)) (List.mem_of_getElem? (i := 23) rfl)
theorem dX10_biggest_39 : decode cX10_biggest 39 = .ok (.aload_n 0, 1) := dAX10_biggest (39, (.aload_n 0, 1)) (List.mem_of_getElem? (i := 24) rfl)
theorem dX10_biggest_40 : decode cX10_biggest 40 = .ok (.getfield 35, 3) := dAX10_biggest (40, (.getfield 35, 3)) (List.mem_of_getElem? (i := 25) rfl)
theorem dX10_biggest_43 : decode cX10_biggest 43 = .ok (.iconst 0, 1) := dAX10_biggest (43, (.iconst 0, 1)) (List.mem_of_getElem? (i := 26) rfl)
theorem dX10_biggest_44 : decode cX10_biggest 44 = .ok (.bipush 17, 2) := dAX10_biggest (44, (.bipush 17, 2)) (List.mem_of_getElem? (i := 27) rfl)
theorem dX10_biggest_46 : decode cX10_biggest 46 = .ok (.invokestatic 168, 3) := dAX10_biggest (46, (.invokestatic 168, 3)) (List.mem_of_getElem? (i := 28) rfl)
theorem dX10_biggest_49 : decode cX10_biggest 49 = .ok (.aload_n 0, 1) := dAX10_biggest (49, (.aload_n 0, 1)) (List.mem_of_getElem? (i := 29) rfl)
theorem dX10_biggest_50 : decode cX10_biggest 50 = .ok (.getfield 26, 3) := dAX10_biggest (50, (.getfield 26, 3)) (List.mem_of_getElem? (i := 30) rfl)
theorem dX10_biggest_53 : decode cX10_biggest 53 = .ok (.iload_n 3, 1) := dAX10_biggest (53, (.iload_n 3, 1)) (List.mem_of_getElem? (i := 31) rfl)
theorem dX10_biggest_54 : decode cX10_biggest 54 = .ok (.invokestatic 248, 3) := dAX10_biggest (54, (.invokestatic 248, 3)) (List.mem_of_getElem? (i := 32) rfl)
theorem dX10_biggest_57 : decode cX10_biggest 57 = .ok (.ifCond .eq 20, 3) := dAX10_biggest (57, (.ifCond .eq 20, 3)) (List.mem_of_getElem? (i := 33) rfl)
theorem dX10_biggest_60 : decode cX10_biggest 60 = .ok (.aload_n 0, 1) := dAX10_biggest (60, (.aload_n 0, 1)) (List.mem_of_getElem? (i := 34) rfl)
theorem dX10_biggest_61 : decode cX10_biggest 61 = .ok (.aload_n 0, 1) := dAX10_biggest (61, (.aload_n 0, 1)) (List.mem_of_getElem? (i := 35) rfl)
theorem dX10_biggest_62 : decode cX10_biggest 62 = .ok (.getfield 35, 3) := dAX10_biggest (62, (.getfield 35, 3)) (List.mem_of_getElem? (i := 36) rfl)
theorem dX10_biggest_65 : decode cX10_biggest 65 = .ok (.iconst 1, 1) := dAX10_biggest (65, (.iconst 1, 1)) (List.mem_of_getElem? (i := 37) rfl)
theorem dX10_biggest_66 : decode cX10_biggest 66 = .ok (.iload_n 3, 1) := dAX10_biggest (66, (.iload_n 3, 1)) (List.mem_of_getElem? (i := 38) rfl)
theorem dX10_biggest_67 : decode cX10_biggest 67 = .ok (.ishl, 1) := dAX10_biggest (67, (.ishl, 1)) (List.mem_of_getElem? (i := 39) rfl)
theorem dX10_biggest_68 : decode cX10_biggest 68 = .ok (.invokevirtual 315, 3) := dAX10_biggest (68, (.invokevirtual 315, 3)) (List.mem_of_getElem? (i := 40) rfl)
theorem dX10_biggest_71 : decode cX10_biggest 71 = .ok (.invokestatic 306, 3) := dAX10_biggest (71, (.invokestatic 306, 3)) (List.mem_of_getElem? (i := 41) rfl)
theorem dX10_biggest_74 : decode cX10_biggest 74 = .ok (.goto 4, 3) := dAX10_biggest (74, (.goto 4, 3)) (List.mem_of_getElem? (i := 42) rfl)
theorem dX10_biggest_77 : decode cX10_biggest 77 = .ok (.iconst 0, 1) := dAX10_biggest (77, (.iconst 0, 1)) (List.mem_of_getElem? (i := 43) rfl)
theorem dX10_biggest_78 : decode cX10_biggest 78 = .ok (.istore 4, 2) := dAX10_biggest (78, (.istore 4, 2)) (List.mem_of_getElem? (i := 44) rfl)
theorem dX10_biggest_80 : decode cX10_biggest 80 = .ok (.iload 4, 2) := dAX10_biggest (80, (.iload 4, 2)) (List.mem_of_getElem? (i := 45) rfl)
theorem dX10_biggest_82 : decode cX10_biggest 82 = .ok (.iload_n 2, 1) := dAX10_biggest (82, (.iload_n 2, 1)) (List.mem_of_getElem? (i := 46) rfl)
theorem dX10_biggest_83 : decode cX10_biggest 83 = .ok (.if_icmp .gt 6, 3) := dAX10_biggest (83, (.if_icmp .gt 6, 3)) (List.mem_of_getElem? (i := 47) rfl)
theorem dX10_biggest_86 : decode cX10_biggest 86 = .ok (.goto 8, 3) := dAX10_biggest (86, (.goto 8, 3)) (List.mem_of_getElem? (i := 48) rfl)
theorem dX10_biggest_89 : decode cX10_biggest 89 = .ok (.iload_n 3, 1) := dAX10_biggest (89, (.iload_n 3, 1)) (List.mem_of_getElem? (i := 49) rfl)
theorem dX10_biggest_90 : decode cX10_biggest 90 = .ok (.istore_n 1, 1) := dAX10_biggest (90, (.istore_n 1, 1)) (List.mem_of_getElem? (i := 50) rfl)
theorem dX10_biggest_91 : decode cX10_biggest 91 = .ok (.iload 4, 2) := dAX10_biggest (91, (.iload 4, 2)) (List.mem_of_getElem? (i := 51) rfl)
theorem dX10_biggest_93 : decode cX10_biggest 93 = .ok (.istore_n 2, 1) := dAX10_biggest (93, (.istore_n 2, 1)) (List.mem_of_getElem? (i := 52) rfl)
theorem dX10_biggest_94 : decode cX10_biggest 94 = .ok (.iinc 3 1, 3) := dAX10_biggest (94, (.iinc 3 1, 3)) (List.mem_of_getElem? (i := 53) rfl)
theorem dX10_biggest_97 : decode cX10_biggest 97 = .ok (.goto (-73), 3) := dAX10_biggest (97, (.goto (-73), 3)) (List.mem_of_getElem? (i := 54) rfl)
theorem dX10_biggest_100 : decode cX10_biggest 100 = .ok (.iload_n 1, 1) := dAX10_biggest (100, (.iload_n 1, 1)) (List.mem_of_getElem? (i := 55) rfl)
theorem dX10_biggest_101 : decode cX10_biggest 101 = .ok (.ireturn, 1) := dAX10_biggest (101, (.ireturn, 1)) (List.mem_of_getElem? (i := 56) rfl)
set_option maxRecDepth 20000 in
theorem ggX10_biggest_X10_good : GoodIn wsX10_biggest wsX10_good := goodIn_r _ [9, 10, 11, 53, 54, 55, 56, 57, 58, 59, 60, 61, 62, 63, 64, 65, 66, 67, 68, 69, 70, 71, 72, 73, 74, 75, 76, 77, 78, 79, 80, 81, 82, 83, 84, 85, 86, 87] rfl (by decide +kernel)
set_option maxRecDepth 20000 in
theorem gX10_biggest_X10_good : GoodIn wsX10_biggest (wsV RX10 159 RX10 yX10_good wsX10_good) := goodIn_app (goodIn_of _ (by decide +kernel)) ggX10_biggest_X10_good
set_option maxRecDepth 20000 in
theorem ggX10_biggest_X10_no : GoodIn wsX10_biggest wsX10_no := goodIn_r _ [15, 11, 53, 54, 55, 56, 57, 58, 59, 60, 61, 62, 63, 64, 65, 66, 67, 68, 69, 70, 71, 72, 73, 74, 75, 76, 77, 78, 79, 80, 81, 82, 83, 84, 85, 86, 87] rfl (by decide +kernel)
set_option maxRecDepth 20000 in
theorem gX10_biggest_X10_no : GoodIn wsX10_biggest (wsV RX10 162 RX10 yX10_no wsX10_no) := goodIn_app (goodIn_of _ (by decide +kernel)) ggX10_biggest_X10_no
set_option maxRecDepth 20000 in
theorem ggX10_biggest_X10_copy : GoodIn wsX10_biggest wsX10_copy := goodIn_r _ [18] rfl (by decide +kernel)
set_option maxRecDepth 20000 in
theorem gX10_biggest_X10_copy : GoodIn wsX10_biggest (va_wsS RX10 168 yX10_copy wsX10_copy) := goodIn_app (goodIn_of _ (by decide +kernel)) ggX10_biggest_X10_copy
set_option maxRecDepth 20000 in
theorem ggX10_biggest_X10_isIn : GoodIn wsX10_biggest wsX10_isIn := goodIn_r _ [21] rfl (by decide +kernel)
set_option maxRecDepth 20000 in
theorem gX10_biggest_X10_isIn : GoodIn wsX10_biggest (va_wsS RX10 248 yX10_isIn wsX10_isIn) := goodIn_app (goodIn_of _ (by decide +kernel)) ggX10_biggest_X10_isIn
set_option maxRecDepth 20000 in
theorem ggX10_biggest_X10_sends : GoodIn wsX10_biggest wsX10_sends := goodIn_r _ [25, 26, 27, 28, 8, 29, 2, 30, 31, 32, 19, 20, 21, 33, 34, 35, 36, 37, 38, 39, 40, 41, 42, 43, 44, 45, 46, 47, 48, 49, 53, 54, 55, 56, 57, 58, 59, 60, 61, 62, 63, 64, 65, 66, 67, 68, 69, 70, 71, 72, 73, 74, 75, 76, 77, 78, 79, 80, 81, 82, 83, 84, 85, 86, 87] rfl (by decide +kernel)
set_option maxRecDepth 20000 in
theorem gX10_biggest_X10_sends : GoodIn wsX10_biggest (wsV RX10 315 RX10 yX10_sends wsX10_sends) := goodIn_app (goodIn_of _ (by decide +kernel)) ggX10_biggest_X10_sends
set_option maxRecDepth 20000 in
theorem ggX10_biggest_X10_ones : GoodIn wsX10_biggest wsX10_ones := goodIn_r _ [52] rfl (by decide +kernel)
set_option maxRecDepth 20000 in
theorem gX10_biggest_X10_ones : GoodIn wsX10_biggest (va_wsS RX10 306 yX10_ones wsX10_ones) := goodIn_app (goodIn_of _ (by decide +kernel)) ggX10_biggest_X10_ones
theorem kX10_biggest_176 : Cond.fieldLink RX10 176 "EveningVowModel" "hasEvening" "Z" ∈ wsX10_biggest := List.mem_of_getElem? (i := 1) rfl
theorem iX10_biggest_X10 : ∀ w ∈ u_ws RX10 TX10 35, w ∈ wsX10_biggest := fun w h => (List.mem_cons_of_mem _ (List.mem_append_right _ h))
theorem kX10_biggest_20 : Cond.fieldLink RX10 20 "EveningVowModel" "\x72" "[I" ∈ wsX10_biggest := List.mem_of_getElem? (i := 2) rfl
theorem kX10_biggest_26 : Cond.fieldLink RX10 26 "EveningVowModel" "st" "[I" ∈ wsX10_biggest := List.mem_of_getElem? (i := 3) rfl
theorem kX10_biggest_35 : Cond.fieldLink RX10 35 "EveningVowModel" "trial" "[I" ∈ wsX10_biggest := List.mem_of_getElem? (i := 4) rfl
set_option maxHeartbeats 4000000 in
set_option maxRecDepth 100000 in
theorem wX10_biggest_L24 {p : Program} {l : Launch} {e : Env} {s : State} {m : MethodId} {args : Array Value} {below : List Frame} {meth : Method} {c : Code} {g : GG} {A : Nat → Prop} (C0 : Cx p s m args meth c cX10_biggest 5 (some .int) RX10 wsX10_biggest g A) (a_t : Nat) (p_t : Nat → Nat) (n : Nat) (f_t_15 : Nat → Int32) (f_t_17 : Nat → Int32)  (r : Int32) (o_t' : Nat → Int32) (f_t_25' : Nat → Int32) (K : Int32 → (Nat → Int32) → (Nat → Int32) → Option (Int32 × (Nat → Int32) × (Nat → Int32))) (hKx : ∀ (x1 : Int32) (o_t : Nat → Int32) (f_t_25 : Nat → Int32) (H : Heap) (locs : List Loc) (ls : Array Slot), K x1 o_t f_t_25 = some (r, o_t', f_t_25') → va_P g.1 vwCl [oX10 a_t p_t o_t, aI g (p_t 15) 266 f_t_15, aI g (p_t 17) 17 f_t_17, aI g (p_t 25) 17 f_t_25] H → va_D A [oX10 a_t p_t o_t, aI g (p_t 15) 266 f_t_15, aI g (p_t 17) 17 f_t_17, aI g (p_t 25) 17 f_t_25] → va_S A s.heap H locs → lv_has ls 5 [(1, .int x1)] → W p l e ({ frames := 4, cells := 0, slots := 0, locals := 93 } : Room) s m args below meth c H locs 0 0 (MQ below (EndI g r [oX10 a_t p_t o_t', aI g (p_t 15) 266 f_t_15, aI g (p_t 17) 17 f_t_17, aI g (p_t 25) 17 f_t_25'] A) args s 0 0 A) (F0 m 100 ls [])) : ∀ (k : Nat) (x1 : Int32) (x2 : Int32) (x3 : Int32) (o_t : Nat → Int32) (f_t_25 : Nat → Int32), fX10_biggest_L24 n f_t_15 f_t_17 K k x1 x2 x3 o_t f_t_25 = some (r, o_t', f_t_25') → ∀ (H : Heap) (locs : List Loc) (ls : Array Slot), va_P g.1 vwCl [oX10 a_t p_t o_t, aI g (p_t 15) 266 f_t_15, aI g (p_t 17) 17 f_t_17, aI g (p_t 25) 17 f_t_25] H → va_D A [oX10 a_t p_t o_t, aI g (p_t 15) 266 f_t_15, aI g (p_t 17) 17 f_t_17, aI g (p_t 25) 17 f_t_25] → va_S A s.heap H locs → lv_has ls 5 [(0, .ref a_t), (1, .int x1), (2, .int x2), (3, .int x3)] → W p l e ({ frames := 4, cells := 0, slots := 0, locals := 93 } : Room) s m args below meth c H locs 0 0 (MQ below (EndI g r [oX10 a_t p_t o_t', aI g (p_t 15) 266 f_t_15, aI g (p_t 17) 17 f_t_17, aI g (p_t 25) 17 f_t_25'] A) args s 0 0 A) (F0 m 24 ls []) := by
  obtain ⟨hx, hb, hml, hown, hts, hr, hlk, hK, hA, hSW⟩ := id C0
  intro k
  induction k with
  | zero =>
    intro x1 x2 x3 o_t f_t_25 hF
    exact absurd hF (by simp [fX10_biggest_L24])
  | succ k ih =>
    intro x1 x2 x3 o_t f_t_25 hF H locs ls hP hD hS hl
    rw [fX10_biggest_L24] at hF
    refine lv_iload_n hx hb dX10_biggest_24 rfl (lv_at hl 3 rfl) ?_
    refine lv_aload_n hx hb dX10_biggest_25 rfl (lv_at hl 0 rfl) ?_
    refine va_get (D := g.1) (ci := 10) (v := .ref (p_t 15)) (C := RX10) (T := TX10) (N := 35) hx hb hts iX10_biggest_X10 hown hK.1 hP 0 rfl rfl 15 (by decide) (hts _ kX10_biggest_20) (fun _ h9 => h9) rfl dX10_biggest_26 ?_
    refine lv_iconst (v := (3 : Int32)) hx hb dX10_biggest_29 (by decide) ?_
    refine va_iald_k (j := 3) hx hb hK.1 hP 1 0 rfl rfl (by unfold vp_in; decide) rfl dX10_biggest_30 ?_
    refine lv_icmp_ge (tgt := 100) hx hb dX10_biggest_31 (by decide) (fun c_4 => ?_) (fun c_4 => ?_)
    · have hF := it_p c_4 hF
      exact hKx x1 o_t f_t_25 _ _ _ hF (hP.sub [0, 1, 2, 3] rfl) (hD.sub [0, 1, 2, 3] rfl rfl) hS (lv_sub hl [1] rfl)
    · have hF := it_n c_4 hF
      refine lv_aload_n hx hb dX10_biggest_34 rfl (lv_at hl 0 rfl) ?_
      refine va_get (D := g.1) (ci := 10) (v := .ref (p_t 17)) (C := RX10) (T := TX10) (N := 35) hx hb hts iX10_biggest_X10 hown hK.1 hP 0 rfl rfl 17 (by decide) (hts _ kX10_biggest_26) (fun _ h9 => h9) rfl dX10_biggest_35 ?_
      refine lv_iconst (v := (0 : Int32)) hx hb dX10_biggest_38 (by decide) ?_
      refine lv_aload_n hx hb dX10_biggest_39 rfl (lv_at hl 0 rfl) ?_
      refine va_get (D := g.1) (ci := 10) (v := .ref (p_t 25)) (C := RX10) (T := TX10) (N := 35) hx hb hts iX10_biggest_X10 hown hK.1 hP 0 rfl rfl 25 (by decide) (hts _ kX10_biggest_35) (fun _ h9 => h9) rfl dX10_biggest_40 ?_
      refine lv_iconst (v := (0 : Int32)) hx hb dX10_biggest_43 (by decide) ?_
      refine lv_bipush (v := (17 : Int32)) hx hb dX10_biggest_44 (by decide) ?_
      obtain ⟨u_5, hu_6, hF⟩ := ob1_some hF
      refine call_sv (wr := [oX10 a_t p_t o_t, aI g (p_t 15) 266 f_t_15]) (As := [.ref (p_t 17), .int (0 : Int32), .ref (p_t 25), .int (0 : Int32), .int (17 : Int32)]) (rest := []) C0 (mX10_copy l g (p_t 17) (p_t 25) n (0 : Int32) (0 : Int32) (17 : Int32) 17 17 f_t_17 f_t_25 u_5 hu_6) (va_cwS 5 hts gX10_biggest_X10_copy rfl rfl rfl (by decide +kernel) ⟨Nat.le_of_ble_eq_true rfl, Nat.le_of_ble_eq_true rfl⟩) hP hD hS [2, 3] [0, 1] rfl rfl rfl rfl rfl (by decide) hl.1 rfl rfl (Nat.le_of_ble_eq_true rfl) ⟨Nat.zero_le _, Nat.zero_le _⟩ dX10_biggest_46 ?_
      intro H locs hP hD hS
      refine lv_aload_n hx hb dX10_biggest_49 rfl (lv_at hl 0 rfl) ?_
      refine va_get (D := g.1) (ci := 10) (v := .ref (p_t 17)) (C := RX10) (T := TX10) (N := 35) hx hb hts iX10_biggest_X10 hown hK.1 hP 0 rfl rfl 17 (by decide) (hts _ kX10_biggest_26) (fun _ h9 => h9) rfl dX10_biggest_50 ?_
      refine lv_iload_n hx hb dX10_biggest_53 rfl (lv_at hl 3 rfl) ?_
      obtain ⟨u_7, hu_8, hF⟩ := ob1_some hF
      refine call_si (wr := [oX10 a_t p_t o_t, aI g (p_t 15) 266 f_t_15, aI g (p_t 25) 17 u_5]) (As := [.ref (p_t 17), .int x3]) (rest := []) C0 (mX10_isIn l g (p_t 17) n x3 f_t_17 u_7 hu_8) (va_cwS 2 hts gX10_biggest_X10_isIn rfl rfl rfl (by decide +kernel) ⟨Nat.le_of_ble_eq_true rfl, Nat.le_of_ble_eq_true rfl⟩) hP hD hS [2] [0, 1, 3] rfl rfl rfl rfl rfl (by decide) hl.1 rfl rfl (Nat.le_of_ble_eq_true rfl) ⟨Nat.zero_le _, Nat.zero_le _⟩ dX10_biggest_54 ?_
      intro H locs hP hD hS
      refine lv_if_eq (tgt := 77) hx hb dX10_biggest_57 (by decide) (fun c_9 => ?_) (fun c_9 => ?_)
      · have hF := it_p c_9 hF
        refine lv_iconst (v := (0 : Int32)) hx hb dX10_biggest_77 (by decide) ?_
        refine lv_istore (lv' := [(4, .int (0 : Int32)), (0, .ref a_t), (1, .int x1), (2, .int x2), (3, .int x3)]) hx hb dX10_biggest_78 hl (by decide) rfl (fun ls hl => ?_)
        refine lv_iload hx hb dX10_biggest_80 (lv_at hl 0 rfl) ?_
        refine lv_iload_n hx hb dX10_biggest_82 rfl (lv_at hl 3 rfl) ?_
        refine lv_icmp_gt (tgt := 89) hx hb dX10_biggest_83 (by decide) (fun c_10 => ?_) (fun c_10 => ?_)
        · have hF := it_p c_10 hF
          refine lv_iload_n hx hb dX10_biggest_89 rfl (lv_at hl 4 rfl) ?_
          refine lv_istore_n (lv' := [(1, .int x3), (4, .int (0 : Int32)), (0, .ref a_t), (2, .int x2), (3, .int x3)]) hx hb dX10_biggest_90 rfl hl (by decide) rfl (fun ls hl => ?_)
          refine lv_iload hx hb dX10_biggest_91 (lv_at hl 1 rfl) ?_
          refine lv_istore_n (lv' := [(2, .int (0 : Int32)), (1, .int x3), (4, .int (0 : Int32)), (0, .ref a_t), (3, .int x3)]) hx hb dX10_biggest_93 rfl hl (by decide) rfl (fun ls hl => ?_)
          refine lv_iinc (v := (x3 + (1 : Int32))) (lv' := [(3, .int (x3 + (1 : Int32))), (2, .int (0 : Int32)), (1, .int x3), (4, .int (0 : Int32)), (0, .ref a_t)]) hx hb dX10_biggest_94 hl (k := 4) rfl rfl (by decide) rfl (fun ls hl => ?_)
          refine lv_goto (tgt := 24) hx hb dX10_biggest_97 (by decide) ?_
          exact ih x3 (0 : Int32) (x3 + (1 : Int32)) o_t u_5 hF _ _ _ (hP.sub [0, 1, 3, 2] rfl) (hD.sub [0, 1, 3, 2] rfl rfl) hS (lv_sub hl [4, 2, 1, 0] rfl)
        · have hF := it_n c_10 hF
          refine lv_goto (tgt := 94) hx hb dX10_biggest_86 (by decide) ?_
          refine lv_iinc (v := (x3 + (1 : Int32))) (lv' := [(3, .int (x3 + (1 : Int32))), (4, .int (0 : Int32)), (0, .ref a_t), (1, .int x1), (2, .int x2)]) hx hb dX10_biggest_94 hl (k := 4) rfl rfl (by decide) rfl (fun ls hl => ?_)
          refine lv_goto (tgt := 24) hx hb dX10_biggest_97 (by decide) ?_
          exact ih x1 x2 (x3 + (1 : Int32)) o_t u_5 hF _ _ _ (hP.sub [0, 1, 3, 2] rfl) (hD.sub [0, 1, 3, 2] rfl rfl) hS (lv_sub hl [2, 3, 4, 0] rfl)
      · have hF := it_n c_9 hF
        refine lv_aload_n hx hb dX10_biggest_60 rfl (lv_at hl 0 rfl) ?_
        refine lv_aload_n hx hb dX10_biggest_61 rfl (lv_at hl 0 rfl) ?_
        refine va_get (D := g.1) (ci := 10) (v := .ref (p_t 25)) (C := RX10) (T := TX10) (N := 35) hx hb hts iX10_biggest_X10 hown hK.1 hP 0 rfl rfl 25 (by decide) (hts _ kX10_biggest_35) (fun _ h9 => h9) rfl dX10_biggest_62 ?_
        refine lv_iconst (v := (1 : Int32)) hx hb dX10_biggest_65 (by decide) ?_
        refine lv_iload_n hx hb dX10_biggest_66 rfl (lv_at hl 3 rfl) ?_
        refine lv_ishl hx hb dX10_biggest_67 ?_
        obtain ⟨u_11, u_12, u_13, hu_14, hF⟩ := ob3_some hF
        refine call_i (wr := [aI g (p_t 17) 17 f_t_17]) (As := [.ref (p_t 25), .int ((1 : Int32) <<< (x3 &&& 31))]) (rest := []) (ci := 10) (q0 := 0) C0 (mX10_sends l g a_t (p_t 25) p_t n ((1 : Int32) <<< (x3 &&& 31)) o_t f_t_15 u_5 u_11 u_12 u_13 hu_14) (cwV 2 hts gX10_biggest_X10_sends rfl rfl rfl (by decide +kernel) ⟨Nat.le_of_ble_eq_true rfl, Nat.le_of_ble_eq_true rfl⟩) hP hD hS [0, 1, 2] [3] rfl rfl rfl rfl rfl (by decide) rfl rfl hl.1 rfl rfl (Nat.le_of_ble_eq_true rfl) ⟨Nat.zero_le _, Nat.zero_le _⟩ dX10_biggest_68 ?_
        intro H locs hP hD hS
        obtain ⟨u_15, hu_16, hF⟩ := ob1_some hF
        refine call_si (wr := [aI g (p_t 17) 17 f_t_17, oX10 a_t p_t u_12, aI g (p_t 15) 266 f_t_15, aI g (p_t 25) 17 u_13]) (As := [.int u_11]) (rest := []) C0 (mX10_ones l g n u_11 u_15 hu_16) (va_cwS 1 hts gX10_biggest_X10_ones rfl rfl rfl (by decide +kernel) ⟨Nat.le_of_ble_eq_true rfl, Nat.le_of_ble_eq_true rfl⟩) hP hD hS [] [0, 1, 2, 3] rfl rfl rfl rfl rfl (by decide) hl.1 rfl rfl (Nat.le_of_ble_eq_true rfl) ⟨Nat.zero_le _, Nat.zero_le _⟩ dX10_biggest_71 ?_
        intro H locs hP hD hS
        refine lv_goto (tgt := 78) hx hb dX10_biggest_74 (by decide) ?_
        refine lv_istore (lv' := [(4, .int u_15), (0, .ref a_t), (1, .int x1), (2, .int x2), (3, .int x3)]) hx hb dX10_biggest_78 hl (by decide) rfl (fun ls hl => ?_)
        refine lv_iload hx hb dX10_biggest_80 (lv_at hl 0 rfl) ?_
        refine lv_iload_n hx hb dX10_biggest_82 rfl (lv_at hl 3 rfl) ?_
        refine lv_icmp_gt (tgt := 89) hx hb dX10_biggest_83 (by decide) (fun c_17 => ?_) (fun c_17 => ?_)
        · have hF := it_p c_17 hF
          refine lv_iload_n hx hb dX10_biggest_89 rfl (lv_at hl 4 rfl) ?_
          refine lv_istore_n (lv' := [(1, .int x3), (4, .int u_15), (0, .ref a_t), (2, .int x2), (3, .int x3)]) hx hb dX10_biggest_90 rfl hl (by decide) rfl (fun ls hl => ?_)
          refine lv_iload hx hb dX10_biggest_91 (lv_at hl 1 rfl) ?_
          refine lv_istore_n (lv' := [(2, .int u_15), (1, .int x3), (4, .int u_15), (0, .ref a_t), (3, .int x3)]) hx hb dX10_biggest_93 rfl hl (by decide) rfl (fun ls hl => ?_)
          refine lv_iinc (v := (x3 + (1 : Int32))) (lv' := [(3, .int (x3 + (1 : Int32))), (2, .int u_15), (1, .int x3), (4, .int u_15), (0, .ref a_t)]) hx hb dX10_biggest_94 hl (k := 4) rfl rfl (by decide) rfl (fun ls hl => ?_)
          refine lv_goto (tgt := 24) hx hb dX10_biggest_97 (by decide) ?_
          exact ih x3 u_15 (x3 + (1 : Int32)) u_12 u_13 hF _ _ _ (hP.sub [1, 2, 0, 3] rfl) (hD.sub [1, 2, 0, 3] rfl rfl) hS (lv_sub hl [4, 2, 1, 0] rfl)
        · have hF := it_n c_17 hF
          refine lv_goto (tgt := 94) hx hb dX10_biggest_86 (by decide) ?_
          refine lv_iinc (v := (x3 + (1 : Int32))) (lv' := [(3, .int (x3 + (1 : Int32))), (4, .int u_15), (0, .ref a_t), (1, .int x1), (2, .int x2)]) hx hb dX10_biggest_94 hl (k := 4) rfl rfl (by decide) rfl (fun ls hl => ?_)
          refine lv_goto (tgt := 24) hx hb dX10_biggest_97 (by decide) ?_
          exact ih x1 x2 (x3 + (1 : Int32)) u_12 u_13 hF _ _ _ (hP.sub [1, 2, 0, 3] rfl) (hD.sub [1, 2, 0, 3] rfl rfl) hS (lv_sub hl [2, 3, 4, 0] rfl)
set_option maxHeartbeats 4000000 in
set_option maxRecDepth 100000 in
theorem mX10_biggest (l : Launch) (g : GG) (a_t : Nat) (p_t : Nat → Nat) (n : Nat) (o_t : Nat → Int32) (f_t_15 : Nat → Int32) (f_t_17 : Nat → Int32) (f_t_25 : Nat → Int32) (r : Int32) (o_t' : Nat → Int32) (f_t_25' : Nat → Int32) (hF : fX10_biggest n o_t f_t_15 f_t_17 f_t_25 = some (r, o_t', f_t_25')) : MI l g yX10_biggest wsX10_biggest ({ frames := 4, cells := 0, slots := 0, locals := 93 } : Room) [.ref a_t] [oX10 a_t p_t o_t, aI g (p_t 15) 266 f_t_15, aI g (p_t 17) 17 f_t_17, aI g (p_t 25) 17 f_t_25] r [oX10 a_t p_t o_t', aI g (p_t 15) 266 f_t_15, aI g (p_t 17) 17 f_t_17, aI g (p_t 25) 17 f_t_25'] := by
  refine MI.of (cc := cX10_biggest) (maxL := 5) (rt := .int) (own := RX10) rfl rfl (by decide) (Nat.le_of_ble_eq_true rfl) ?_
  intro p e s m args below meth c A C0 hP hD hS ls hl
  obtain ⟨hx, hb, hml, hown, hts, hr, hlk, hK, hA, hSW⟩ := id C0
  have hl : lv_has ls 5 [(0, .ref a_t)] := hl
  rw [fX10_biggest] at hF
  refine lv_aload_n hx hb dX10_biggest_0 rfl (lv_at hl 0 rfl) ?_
  obtain ⟨u_1, hu_2, hF⟩ := ob1_some hF
  refine call_v (wr := [aI g (p_t 15) 266 f_t_15, aI g (p_t 17) 17 f_t_17, aI g (p_t 25) 17 f_t_25]) (As := []) (rest := []) (ci := 10) (q0 := 0) C0 (mX10_good l g a_t p_t n o_t u_1 hu_2) (cwV 0 hts gX10_biggest_X10_good rfl rfl rfl (by decide +kernel) ⟨Nat.le_of_ble_eq_true rfl, Nat.le_of_ble_eq_true rfl⟩) hP hD hS [0] [1, 2, 3] rfl rfl rfl rfl rfl (by decide) rfl rfl hl.1 rfl rfl (Nat.le_of_ble_eq_true rfl) ⟨Nat.zero_le _, Nat.zero_le _⟩ dX10_biggest_1 ?_
  intro H locs hP hD hS
  refine lv_aload_n hx hb dX10_biggest_4 rfl (lv_at hl 0 rfl) ?_
  refine va_get (D := g.1) (ci := 10) (v := .int (u_1 14)) (C := RX10) (T := TX10) (N := 35) hx hb hts iX10_biggest_X10 hown hK.1 hP 3 rfl rfl 14 (by decide) (hts _ kX10_biggest_176) (fun _ h9 => h9) rfl dX10_biggest_5 ?_
  refine lv_if_ne (tgt := 17) hx hb dX10_biggest_8 (by decide) (fun c_3 => ?_) (fun c_3 => ?_)
  · have hF := it_n c_3 hF
    refine lv_bipush (v := (-2 : Int32)) hx hb dX10_biggest_17 (by decide) ?_
    refine lv_istore_n (lv' := [(1, .int (-2 : Int32)), (0, .ref a_t)]) hx hb dX10_biggest_19 rfl hl (by decide) rfl (fun ls hl => ?_)
    refine lv_iconst (v := (0 : Int32)) hx hb dX10_biggest_20 (by decide) ?_
    refine lv_istore_n (lv' := [(2, .int (0 : Int32)), (1, .int (-2 : Int32)), (0, .ref a_t)]) hx hb dX10_biggest_21 rfl hl (by decide) rfl (fun ls hl => ?_)
    refine lv_iconst (v := (0 : Int32)) hx hb dX10_biggest_22 (by decide) ?_
    refine lv_istore_n (lv' := [(3, .int (0 : Int32)), (2, .int (0 : Int32)), (1, .int (-2 : Int32)), (0, .ref a_t)]) hx hb dX10_biggest_23 rfl hl (by decide) rfl (fun ls hl => ?_)
    refine wX10_biggest_L24 C0 a_t p_t n f_t_15 f_t_17 r o_t' f_t_25' _ ?_ n (-2 : Int32) (0 : Int32) (0 : Int32) u_1 f_t_25 hF _ _ _ (hP.sub [3, 0, 1, 2] rfl) (hD.sub [3, 0, 1, 2] rfl rfl) hS (lv_sub hl [3, 2, 1, 0] rfl)
    · intro x1_x24 o_t_x24 f_t_25_x24 H locs ls hF hP hD hS hl
      refine lv_iload_n hx hb dX10_biggest_100 rfl (lv_at hl 0 rfl) ?_
      cases hF
      exact ret_i C0 hP hD hS [0, 1, 2, 3] rfl rfl rfl dX10_biggest_101 rfl
  · have hF := it_p c_3 hF
    refine lv_aload_n hx hb dX10_biggest_11 rfl (lv_at hl 0 rfl) ?_
    refine lv_iconst (v := (1 : Int32)) hx hb dX10_biggest_12 (by decide) ?_
    obtain ⟨u_18, u_19, hu_20, hF⟩ := ob2_some hF
    refine call_i (wr := [aI g (p_t 15) 266 f_t_15, aI g (p_t 17) 17 f_t_17, aI g (p_t 25) 17 f_t_25]) (As := [.int (1 : Int32)]) (rest := []) (ci := 10) (q0 := 0) C0 (mX10_no l g a_t p_t n (1 : Int32) u_1 u_18 u_19 hu_20) (cwV 1 hts gX10_biggest_X10_no rfl rfl rfl (by decide +kernel) ⟨Nat.le_of_ble_eq_true rfl, Nat.le_of_ble_eq_true rfl⟩) hP hD hS [3] [0, 1, 2] rfl rfl rfl rfl rfl (by decide) rfl rfl hl.1 rfl rfl (Nat.le_of_ble_eq_true rfl) ⟨Nat.zero_le _, Nat.zero_le _⟩ dX10_biggest_13 ?_
    intro H locs hP hD hS
    cases hF
    exact ret_i C0 hP hD hS [3, 0, 1, 2] rfl rfl rfl dX10_biggest_16 rfl

theorem dAX10_undrawn : ∀ q ∈ ([(0, (.aload_n 0, 1)), (1, (.invokevirtual 159, 3)), (4, (.aload_n 0, 1)), (5, (.iload_n 1, 1)), (6, (.invokevirtual 300, 3)), (9, (.ifCond .eq 16, 3)), (12, (.aload_n 0, 1)), (13, (.iload_n 2, 1)), (14, (.invokevirtual 300, 3)), (17, (.ifCond .eq 8, 3)), (20, (.iload_n 1, 1)), (21, (.iload_n 2, 1)), (22, (.if_icmp .ne 9, 3)), (25, (.aload_n 0, 1)), (26, (.iconst 1, 1)), (27, (.invokevirtual 162, 3)), (30, (.ireturn, 1)), (31, (.bipush 37, 2)), (33, (.bipush 7, 2)), (35, (.iload_n 1, 1)), (36, (.imul, 1)), (37, (.iadd, 1)), (38, (.iload_n 2, 1)), (39, (.iadd, 1)), (40, (.istore_n 3, 1)), (41, (.aload_n 0, 1)), (42, (.getfield 20, 3)), (45, (.iload_n 3, 1)), (46, (.iaload, 1)), (47, (.ifCond .ne 9, 3)), (50, (.aload_n 0, 1)), (51, (.iconst 5, 1)), (52, (.invokevirtual 162, 3)), (55, (.ireturn, 1)), (56, (.aload_n 0, 1)), (57, (.getfield 20, 3)), (60, (.iload_n 3, 1)), (61, (.iaload, 1)), (62, (.istore 4, 2)), (64, (.aload_n 0, 1)), (65, (.getfield 20, 3)), (68, (.iload_n 3, 1)), (69, (.iconst 0, 1)), (70, (.iastore, 1)), (71, (.aload_n 0, 1)), (72, (.invokevirtual 309, 3)), (75, (.istore 5, 2)), (77, (.aload_n 0, 1)), (78, (.getfield 20, 3)), (81, (.iload_n 3, 1)), (82, (.iload 4, 2)), (84, (.iastore, 1)), (85, (.iload 5, 2)), (87, (.ireturn, 1))] : List (Nat × (Instr × Nat))), decode cX10_undrawn q.1 = .ok q.2 := by decide +kernel
theorem dX10_undrawn_0 : decode cX10_undrawn 0 = .ok (.aload_n 0, 1) := dAX10_undrawn (0, (.aload_n 0, 1)) (List.mem_of_getElem? (i := 0) rfl)
theorem dX10_undrawn_1 : decode cX10_undrawn 1 = .ok (.invokevirtual 159, 3) := dAX10_undrawn (1, (.invokevirtual 159, 3)) (List.mem_of_getElem? (i := 1) rfl)
theorem dX10_undrawn_4 : decode cX10_undrawn 4 = .ok (.aload_n 0, 1) := dAX10_undrawn (4, (.aload_n 0, 1)) (List.mem_of_getElem? (i := 2) rfl)
theorem dX10_undrawn_5 : decode cX10_undrawn 5 = .ok (.iload_n 1, 1) := dAX10_undrawn (5, (.iload_n 1, 1)) (List.mem_of_getElem? (i := 3) rfl)
theorem dX10_undrawn_6 : decode cX10_undrawn 6 = .ok (.invokevirtual 300, 3) := dAX10_undrawn (6, (.invokevirtual 300, 3)) (List.mem_of_getElem? (i := 4) rfl)
theorem dX10_undrawn_9 : decode cX10_undrawn 9 = .ok (.ifCond .eq 16, 3) := dAX10_undrawn (9, (.ifCond .eq 16, 3)) (List.mem_of_getElem? (i := 5) rfl)
theorem dX10_undrawn_12 : decode cX10_undrawn 12 = .ok (.aload_n 0, 1) := dAX10_undrawn (12, (.aload_n 0, 1)) (List.mem_of_getElem? (i := 6) rfl)
theorem dX10_undrawn_13 : decode cX10_undrawn 13 = .ok (.iload_n 2, 1) := dAX10_undrawn (13, (.iload_n 2, 1)) (List.mem_of_getElem? (i := 7) rfl)
theorem dX10_undrawn_14 : decode cX10_undrawn 14 = .ok (.invokevirtual 300, 3) := dAX10_undrawn (14, (.invokevirtual 300, 3)) (List.mem_of_getElem? (i := 8) rfl)
theorem dX10_undrawn_17 : decode cX10_undrawn 17 = .ok (.ifCond .eq 8, 3) := dAX10_undrawn (17, (.ifCond .eq 8, 3)) (List.mem_of_getElem? (i := 9) rfl)
theorem dX10_undrawn_20 : decode cX10_undrawn 20 = .ok (.iload_n 1, 1) := dAX10_undrawn (20, (.iload_n 1, 1)) (List.mem_of_getElem? (i := 10) rfl)
theorem dX10_undrawn_21 : decode cX10_undrawn 21 = .ok (.iload_n 2, 1) := dAX10_undrawn (21, (.iload_n 2, 1)) (List.mem_of_getElem? (i := 11) rfl)
theorem dX10_undrawn_22 : decode cX10_undrawn 22 = .ok (.if_icmp .ne 9, 3) := dAX10_undrawn (22, (.if_icmp .ne 9, 3)) (List.mem_of_getElem? (i := 12) rfl)
theorem dX10_undrawn_25 : decode cX10_undrawn 25 = .ok (.aload_n 0, 1) := dAX10_undrawn (25, (.aload_n 0, 1)) (List.mem_of_getElem? (i := 13) rfl)
theorem dX10_undrawn_26 : decode cX10_undrawn 26 = .ok (.iconst 1, 1) := dAX10_undrawn (26, (.iconst 1, 1)) (List.mem_of_getElem? (i := 14) rfl)
theorem dX10_undrawn_27 : decode cX10_undrawn 27 = .ok (.invokevirtual 162, 3) := dAX10_undrawn (27, (.invokevirtual 162, 3)) (List.mem_of_getElem? (i := 15) rfl)
theorem dX10_undrawn_30 : decode cX10_undrawn 30 = .ok (.ireturn, 1) := dAX10_undrawn (30, (.ireturn, 1)) (List.mem_of_getElem? (i := 16) rfl)
theorem dX10_undrawn_31 : decode cX10_undrawn 31 = .ok (.bipush 37, 2) := dAX10_undrawn (31, (.bipush 37, 2)) (List.mem_of_getElem? (i := 17) rfl)
theorem dX10_undrawn_33 : decode cX10_undrawn 33 = .ok (.bipush 7, 2) := dAX10_undrawn (33, (.bipush 7, 2)) (List.mem_of_getElem? (i := 18) rfl)
theorem dX10_undrawn_35 : decode cX10_undrawn 35 = .ok (.iload_n 1, 1) := dAX10_undrawn (35, (.iload_n 1, 1)) (List.mem_of_getElem? (i := 19) rfl)
theorem dX10_undrawn_36 : decode cX10_undrawn 36 = .ok (.imul, 1) := dAX10_undrawn (36, (.imul, 1)) (List.mem_of_getElem? (i := 20) rfl)
theorem dX10_undrawn_37 : decode cX10_undrawn 37 = .ok (.iadd, 1) := dAX10_undrawn (37, (.iadd, 1)) (List.mem_of_getElem? (i := 21) rfl)
theorem dX10_undrawn_38 : decode cX10_undrawn 38 = .ok (.iload_n 2, 1) := dAX10_undrawn (38, (.iload_n 2, 1)) (List.mem_of_getElem? (i := 22) rfl)
theorem dX10_undrawn_39 : decode cX10_undrawn 39 = .ok (.iadd, 1) := dAX10_undrawn (39, (.iadd, 1)) (List.mem_of_getElem? (i := 23) rfl)
theorem dX10_undrawn_40 : decode cX10_undrawn 40 = .ok (.istore_n 3, 1) := dAX10_undrawn (40, (.istore_n 3, 1)) (List.mem_of_getElem? (i := 24) rfl)
theorem dX10_undrawn_41 : decode cX10_undrawn 41 = .ok (.aload_n 0, 1) := dAX10_undrawn (41, (.aload_n 0, 1)) (List.mem_of_getElem? (i := 25) rfl)
theorem dX10_undrawn_42 : decode cX10_undrawn 42 = .ok (.getfield 20, 3) := dAX10_undrawn (42, (.getfield 20, 3)) (List.mem_of_getElem? (i := 26) rfl)
theorem dX10_undrawn_45 : decode cX10_undrawn 45 = .ok (.iload_n 3, 1) := dAX10_undrawn (45, (.iload_n 3, 1)) (List.mem_of_getElem? (i := 27) rfl)
theorem dX10_undrawn_46 : decode cX10_undrawn 46 = .ok (.iaload, 1) := dAX10_undrawn (46, (.iaload, 1)) (List.mem_of_getElem? (i := 28) rfl)
theorem dX10_undrawn_47 : decode cX10_undrawn 47 = .ok (.ifCond .ne 9, 3) := dAX10_undrawn (47, (.ifCond .ne 9, 3)) (List.mem_of_getElem? (i := 29) rfl)
theorem dX10_undrawn_50 : decode cX10_undrawn 50 = .ok (.aload_n 0, 1) := dAX10_undrawn (50, (.aload_n 0, 1)) (List.mem_of_getElem? (i := 30) rfl)
theorem dX10_undrawn_51 : decode cX10_undrawn 51 = .ok (.iconst 5, 1) := dAX10_undrawn (51, (.iconst 5, 1)) (List.mem_of_getElem? (i := 31) rfl)
theorem dX10_undrawn_52 : decode cX10_undrawn 52 = .ok (.invokevirtual 162, 3) := dAX10_undrawn (52, (.invokevirtual 162, 3)) (List.mem_of_getElem? (i := 32) rfl)
theorem dX10_undrawn_55 : decode cX10_undrawn 55 = .ok (.ireturn, 1) := dAX10_undrawn (55, (.ireturn, 1)) (List.mem_of_getElem? (i := 33) rfl)
theorem dX10_undrawn_56 : decode cX10_undrawn 56 = .ok (.aload_n 0, 1) := dAX10_undrawn (56, (.aload_n 0, 1)) (List.mem_of_getElem? (i := 34) rfl)
theorem dX10_undrawn_57 : decode cX10_undrawn 57 = .ok (.getfield 20, 3) := dAX10_undrawn (57, (.getfield 20, 3)) (List.mem_of_getElem? (i := 35) rfl)
theorem dX10_undrawn_60 : decode cX10_undrawn 60 = .ok (.iload_n 3, 1) := dAX10_undrawn (60, (.iload_n 3, 1)) (List.mem_of_getElem? (i := 36) rfl)
theorem dX10_undrawn_61 : decode cX10_undrawn 61 = .ok (.iaload, 1) := dAX10_undrawn (61, (.iaload, 1)) (List.mem_of_getElem? (i := 37) rfl)
theorem dX10_undrawn_62 : decode cX10_undrawn 62 = .ok (.istore 4, 2) := dAX10_undrawn (62, (.istore 4, 2)) (List.mem_of_getElem? (i := 38) rfl)
theorem dX10_undrawn_64 : decode cX10_undrawn 64 = .ok (.aload_n 0, 1) := dAX10_undrawn (64, (.aload_n 0, 1)) (List.mem_of_getElem? (i := 39) rfl)
theorem dX10_undrawn_65 : decode cX10_undrawn 65 = .ok (.getfield 20, 3) := dAX10_undrawn (65, (.getfield 20, 3)) (List.mem_of_getElem? (i := 40) rfl)
theorem dX10_undrawn_68 : decode cX10_undrawn 68 = .ok (.iload_n 3, 1) := dAX10_undrawn (68, (.iload_n 3, 1)) (List.mem_of_getElem? (i := 41) rfl)
theorem dX10_undrawn_69 : decode cX10_undrawn 69 = .ok (.iconst 0, 1) := dAX10_undrawn (69, (.iconst 0, 1)) (List.mem_of_getElem? (i := 42) rfl)
theorem dX10_undrawn_70 : decode cX10_undrawn 70 = .ok (.iastore, 1) := dAX10_undrawn (70, (.iastore, 1)) (List.mem_of_getElem? (i := 43) rfl)
theorem dX10_undrawn_71 : decode cX10_undrawn 71 = .ok (.aload_n 0, 1) := dAX10_undrawn (71, (.aload_n 0, 1)) (List.mem_of_getElem? (i := 44) rfl)
theorem dX10_undrawn_72 : decode cX10_undrawn 72 = .ok (.invokevirtual 309, 3) := dAX10_undrawn (72, (.invokevirtual 309, 3)) (List.mem_of_getElem? (i := 45) rfl)
theorem dX10_undrawn_75 : decode cX10_undrawn 75 = .ok (.istore 5, 2) := dAX10_undrawn (75, (.istore 5, 2)) (List.mem_of_getElem? (i := 46) rfl)
theorem dX10_undrawn_77 : decode cX10_undrawn 77 = .ok (.aload_n 0, 1) := dAX10_undrawn (77, (.aload_n 0, 1)) (List.mem_of_getElem? (i := 47) rfl)
theorem dX10_undrawn_78 : decode cX10_undrawn 78 = .ok (.getfield 20, 3) := dAX10_undrawn (78, (.getfield 20, 3)) (List.mem_of_getElem? (i := 48) rfl)
theorem dX10_undrawn_81 : decode cX10_undrawn 81 = .ok (.iload_n 3, 1) := dAX10_undrawn (81, (.iload_n 3, 1)) (List.mem_of_getElem? (i := 49) rfl)
theorem dX10_undrawn_82 : decode cX10_undrawn 82 = .ok (.iload 4, 2) := dAX10_undrawn (82, (.iload 4, 2)) (List.mem_of_getElem? (i := 50) rfl)
theorem dX10_undrawn_84 : decode cX10_undrawn 84 = .ok (.iastore, 1) := dAX10_undrawn (84, (.iastore, 1)) (List.mem_of_getElem? (i := 51) rfl)
theorem dX10_undrawn_85 : decode cX10_undrawn 85 = .ok (.iload 5, 2) := dAX10_undrawn (85, (.iload 5, 2)) (List.mem_of_getElem? (i := 52) rfl)
theorem dX10_undrawn_87 : decode cX10_undrawn 87 = .ok (.ireturn, 1) := dAX10_undrawn (87, (.ireturn, 1)) (List.mem_of_getElem? (i := 53) rfl)
set_option maxRecDepth 20000 in
theorem ggX10_undrawn_X10_good : GoodIn wsX10_undrawn wsX10_good := goodIn_r _ [6, 7, 8, 80, 81, 82, 83, 84, 85, 86, 87, 88, 89, 90, 91, 92, 93, 94, 95, 96, 97, 98, 99, 100, 101, 102, 103, 104, 105, 106, 107, 108, 109, 110, 111, 112, 113, 114] rfl (by decide +kernel)
set_option maxRecDepth 20000 in
theorem gX10_undrawn_X10_good : GoodIn wsX10_undrawn (wsV RX10 159 RX10 yX10_good wsX10_good) := goodIn_app (goodIn_of _ (by decide +kernel)) ggX10_undrawn_X10_good
set_option maxRecDepth 20000 in
theorem ggX10_undrawn_X10_isGuest : GoodIn wsX10_undrawn wsX10_isGuest := goodIn_r _ [12, 13, 1, 14, 15, 5, 16, 80, 81, 82, 83, 84, 85, 86, 87, 88, 89, 90, 91, 92, 93, 94, 95, 96, 97, 98, 99, 100, 101, 102, 103, 104, 105, 106, 107, 108, 109, 110, 111, 112, 113, 114] rfl (by decide +kernel)
set_option maxRecDepth 20000 in
theorem gX10_undrawn_X10_isGuest : GoodIn wsX10_undrawn (wsV RX10 300 RX10 yX10_isGuest wsX10_isGuest) := goodIn_app (goodIn_of _ (by decide +kernel)) ggX10_undrawn_X10_isGuest
set_option maxRecDepth 20000 in
theorem ggX10_undrawn_X10_no : GoodIn wsX10_undrawn wsX10_no := goodIn_r _ [20, 8, 80, 81, 82, 83, 84, 85, 86, 87, 88, 89, 90, 91, 92, 93, 94, 95, 96, 97, 98, 99, 100, 101, 102, 103, 104, 105, 106, 107, 108, 109, 110, 111, 112, 113, 114] rfl (by decide +kernel)
set_option maxRecDepth 20000 in
theorem gX10_undrawn_X10_no : GoodIn wsX10_undrawn (wsV RX10 162 RX10 yX10_no wsX10_no) := goodIn_app (goodIn_of _ (by decide +kernel)) ggX10_undrawn_X10_no
set_option maxRecDepth 20000 in
theorem ggX10_undrawn_X10_endsNow : GoodIn wsX10_undrawn wsX10_endsNow := goodIn_r _ [24, 25, 26, 27, 28, 5, 29, 30, 31, 32, 33, 34, 35, 36, 37, 38, 1, 39, 40, 41, 42, 43, 44, 45, 46, 47, 48, 49, 50, 51, 52, 53, 54, 55, 56, 57, 58, 59, 60, 61, 62, 63, 64, 65, 66, 67, 68, 69, 70, 71, 72, 73, 74, 75, 76, 77, 78, 79, 80, 81, 82, 83, 84, 85, 86, 87, 88, 89, 90, 91, 92, 93, 94, 95, 96, 97, 98, 99, 100, 101, 102, 103, 104, 105, 106, 107, 108, 109, 110, 111, 112, 113, 114] rfl (by decide +kernel)
set_option maxRecDepth 20000 in
theorem gX10_undrawn_X10_endsNow : GoodIn wsX10_undrawn (wsV RX10 309 RX10 yX10_endsNow wsX10_endsNow) := goodIn_app (goodIn_of _ (by decide +kernel)) ggX10_undrawn_X10_endsNow
theorem kX10_undrawn_20 : Cond.fieldLink RX10 20 "EveningVowModel" "\x72" "[I" ∈ wsX10_undrawn := List.mem_of_getElem? (i := 1) rfl
theorem iX10_undrawn_X10 : ∀ w ∈ u_ws RX10 TX10 35, w ∈ wsX10_undrawn := fun w h => (List.mem_cons_of_mem _ (List.mem_append_right _ h))
set_option maxHeartbeats 4000000 in
set_option maxRecDepth 100000 in
theorem mX10_undrawn (l : Launch) (g : GG) (a_t : Nat) (p_t : Nat → Nat) (n : Nat) (x1 : Int32) (x2 : Int32) (o_t : Nat → Int32) (f_t_15 : Nat → Int32) (f_t_17 : Nat → Int32) (f_t_25 : Nat → Int32) (r : Int32) (o_t' : Nat → Int32) (f_t_15' : Nat → Int32) (f_t_25' : Nat → Int32) (hF : fX10_undrawn n x1 x2 o_t f_t_15 f_t_17 f_t_25 = some (r, o_t', f_t_15', f_t_25')) : MI l g yX10_undrawn wsX10_undrawn ({ frames := 6, cells := 0, slots := 0, locals := 136 } : Room) [.ref a_t, .int x1, .int x2] [oX10 a_t p_t o_t, aI g (p_t 15) 266 f_t_15, aI g (p_t 17) 17 f_t_17, aI g (p_t 25) 17 f_t_25] r [oX10 a_t p_t o_t', aI g (p_t 15) 266 f_t_15', aI g (p_t 17) 17 f_t_17, aI g (p_t 25) 17 f_t_25'] := by
  refine MI.of (cc := cX10_undrawn) (maxL := 6) (rt := .int) (own := RX10) rfl rfl (by decide) (Nat.le_of_ble_eq_true rfl) ?_
  intro p e s m args below meth c A C0 hP hD hS ls hl
  obtain ⟨hx, hb, hml, hown, hts, hr, hlk, hK, hA, hSW⟩ := id C0
  have hl : lv_has ls 6 [(0, .ref a_t), (1, .int x1), (2, .int x2)] := hl
  rw [fX10_undrawn] at hF
  refine lv_aload_n hx hb dX10_undrawn_0 rfl (lv_at hl 0 rfl) ?_
  obtain ⟨u_1, hu_2, hF⟩ := ob1_some hF
  refine call_v (wr := [aI g (p_t 15) 266 f_t_15, aI g (p_t 17) 17 f_t_17, aI g (p_t 25) 17 f_t_25]) (As := []) (rest := []) (ci := 10) (q0 := 0) C0 (mX10_good l g a_t p_t n o_t u_1 hu_2) (cwV 0 hts gX10_undrawn_X10_good rfl rfl rfl (by decide +kernel) ⟨Nat.le_of_ble_eq_true rfl, Nat.le_of_ble_eq_true rfl⟩) hP hD hS [0] [1, 2, 3] rfl rfl rfl rfl rfl (by decide) rfl rfl hl.1 rfl rfl (Nat.le_of_ble_eq_true rfl) ⟨Nat.zero_le _, Nat.zero_le _⟩ dX10_undrawn_1 ?_
  intro H locs hP hD hS
  refine lv_aload_n hx hb dX10_undrawn_4 rfl (lv_at hl 0 rfl) ?_
  refine lv_iload_n hx hb dX10_undrawn_5 rfl (lv_at hl 1 rfl) ?_
  obtain ⟨u_3, hu_4, hF⟩ := ob1_some hF
  refine call_i (wr := [aI g (p_t 17) 17 f_t_17, aI g (p_t 25) 17 f_t_25]) (As := [.int x1]) (rest := []) (ci := 10) (q0 := 0) C0 (mX10_isGuest l g a_t p_t n x1 u_1 f_t_15 u_3 hu_4) (cwV 1 hts gX10_undrawn_X10_isGuest rfl rfl rfl (by decide +kernel) ⟨Nat.le_of_ble_eq_true rfl, Nat.le_of_ble_eq_true rfl⟩) hP hD hS [3, 0] [1, 2] rfl rfl rfl rfl rfl (by decide) rfl rfl hl.1 rfl rfl (Nat.le_of_ble_eq_true rfl) ⟨Nat.zero_le _, Nat.zero_le _⟩ dX10_undrawn_6 ?_
  intro H locs hP hD hS
  refine lv_if_eq (tgt := 25) hx hb dX10_undrawn_9 (by decide) (fun c_5 => ?_) (fun c_5 => ?_)
  · have hF := it_p c_5 hF
    refine lv_aload_n hx hb dX10_undrawn_25 rfl (lv_at hl 0 rfl) ?_
    refine lv_iconst (v := (1 : Int32)) hx hb dX10_undrawn_26 (by decide) ?_
    obtain ⟨u_6, u_7, hu_8, hF⟩ := ob2_some hF
    refine call_i (wr := [aI g (p_t 17) 17 f_t_17, aI g (p_t 25) 17 f_t_25, aI g (p_t 15) 266 f_t_15]) (As := [.int (1 : Int32)]) (rest := []) (ci := 10) (q0 := 0) C0 (mX10_no l g a_t p_t n (1 : Int32) u_1 u_6 u_7 hu_8) (cwV 1 hts gX10_undrawn_X10_no rfl rfl rfl (by decide +kernel) ⟨Nat.le_of_ble_eq_true rfl, Nat.le_of_ble_eq_true rfl⟩) hP hD hS [2] [0, 1, 3] rfl rfl rfl rfl rfl (by decide) rfl rfl hl.1 rfl rfl (Nat.le_of_ble_eq_true rfl) ⟨Nat.zero_le _, Nat.zero_le _⟩ dX10_undrawn_27 ?_
    intro H locs hP hD hS
    cases hF
    exact ret_i C0 hP hD hS [3, 2, 0, 1] rfl rfl rfl dX10_undrawn_30 rfl
  · have hF := it_n c_5 hF
    refine lv_aload_n hx hb dX10_undrawn_12 rfl (lv_at hl 0 rfl) ?_
    refine lv_iload_n hx hb dX10_undrawn_13 rfl (lv_at hl 2 rfl) ?_
    obtain ⟨u_9, hu_10, hF⟩ := ob1_some hF
    refine call_i (wr := [aI g (p_t 17) 17 f_t_17, aI g (p_t 25) 17 f_t_25]) (As := [.int x2]) (rest := []) (ci := 10) (q0 := 0) C0 (mX10_isGuest l g a_t p_t n x2 u_1 f_t_15 u_9 hu_10) (cwV 1 hts gX10_undrawn_X10_isGuest rfl rfl rfl (by decide +kernel) ⟨Nat.le_of_ble_eq_true rfl, Nat.le_of_ble_eq_true rfl⟩) hP hD hS [2, 3] [0, 1] rfl rfl rfl rfl rfl (by decide) rfl rfl hl.1 rfl rfl (Nat.le_of_ble_eq_true rfl) ⟨Nat.zero_le _, Nat.zero_le _⟩ dX10_undrawn_14 ?_
    intro H locs hP hD hS
    refine lv_if_eq (tgt := 25) hx hb dX10_undrawn_17 (by decide) (fun c_11 => ?_) (fun c_11 => ?_)
    · have hF := it_p c_11 hF
      refine lv_aload_n hx hb dX10_undrawn_25 rfl (lv_at hl 0 rfl) ?_
      refine lv_iconst (v := (1 : Int32)) hx hb dX10_undrawn_26 (by decide) ?_
      obtain ⟨u_12, u_13, hu_14, hF⟩ := ob2_some hF
      refine call_i (wr := [aI g (p_t 17) 17 f_t_17, aI g (p_t 25) 17 f_t_25, aI g (p_t 15) 266 f_t_15]) (As := [.int (1 : Int32)]) (rest := []) (ci := 10) (q0 := 0) C0 (mX10_no l g a_t p_t n (1 : Int32) u_1 u_12 u_13 hu_14) (cwV 1 hts gX10_undrawn_X10_no rfl rfl rfl (by decide +kernel) ⟨Nat.le_of_ble_eq_true rfl, Nat.le_of_ble_eq_true rfl⟩) hP hD hS [2] [0, 1, 3] rfl rfl rfl rfl rfl (by decide) rfl rfl hl.1 rfl rfl (Nat.le_of_ble_eq_true rfl) ⟨Nat.zero_le _, Nat.zero_le _⟩ dX10_undrawn_27 ?_
      intro H locs hP hD hS
      cases hF
      exact ret_i C0 hP hD hS [3, 2, 0, 1] rfl rfl rfl dX10_undrawn_30 rfl
    · have hF := it_n c_11 hF
      refine lv_iload_n hx hb dX10_undrawn_20 rfl (lv_at hl 1 rfl) ?_
      refine lv_iload_n hx hb dX10_undrawn_21 rfl (lv_at hl 2 rfl) ?_
      refine lv_icmp_ne (tgt := 31) hx hb dX10_undrawn_22 (by decide) (fun c_15 => ?_) (fun c_15 => ?_)
      · have hF := it_n c_15 hF
        refine lv_bipush (v := (37 : Int32)) hx hb dX10_undrawn_31 (by decide) ?_
        refine lv_bipush (v := (7 : Int32)) hx hb dX10_undrawn_33 (by decide) ?_
        refine lv_iload_n hx hb dX10_undrawn_35 rfl (lv_at hl 1 rfl) ?_
        refine lv_imul hx hb dX10_undrawn_36 ?_
        refine lv_iadd hx hb dX10_undrawn_37 ?_
        refine lv_iload_n hx hb dX10_undrawn_38 rfl (lv_at hl 2 rfl) ?_
        refine lv_iadd hx hb dX10_undrawn_39 ?_
        refine lv_istore_n (lv' := [(3, .int (((37 : Int32) + ((7 : Int32) * x1)) + x2)), (0, .ref a_t), (1, .int x1), (2, .int x2)]) hx hb dX10_undrawn_40 rfl hl (by decide) rfl (fun ls hl => ?_)
        refine lv_aload_n hx hb dX10_undrawn_41 rfl (lv_at hl 1 rfl) ?_
        refine va_get (D := g.1) (ci := 10) (v := .ref (p_t 15)) (C := RX10) (T := TX10) (N := 35) hx hb hts iX10_undrawn_X10 hown hK.1 hP 2 rfl rfl 15 (by decide) (hts _ kX10_undrawn_20) (fun _ h9 => h9) rfl dX10_undrawn_42 ?_
        refine lv_iload_n hx hb dX10_undrawn_45 rfl (lv_at hl 0 rfl) ?_
        obtain ⟨h_16, hF⟩ := it_ck hF
        refine va_iald hx hb hK.1 hP 3 0 rfl rfl h_16 dX10_undrawn_46 ?_
        refine lv_if_ne (tgt := 56) hx hb dX10_undrawn_47 (by decide) (fun c_17 => ?_) (fun c_17 => ?_)
        · have hF := it_n c_17 hF
          refine lv_aload_n hx hb dX10_undrawn_56 rfl (lv_at hl 1 rfl) ?_
          refine va_get (D := g.1) (ci := 10) (v := .ref (p_t 15)) (C := RX10) (T := TX10) (N := 35) hx hb hts iX10_undrawn_X10 hown hK.1 hP 2 rfl rfl 15 (by decide) (hts _ kX10_undrawn_20) (fun _ h9 => h9) rfl dX10_undrawn_57 ?_
          refine lv_iload_n hx hb dX10_undrawn_60 rfl (lv_at hl 0 rfl) ?_
          obtain ⟨h_18, hF⟩ := it_ck hF
          refine va_iald hx hb hK.1 hP 3 0 rfl rfl h_18 dX10_undrawn_61 ?_
          refine lv_istore (lv' := [(4, .int (f_t_15 ((((37 : Int32) + ((7 : Int32) * x1)) + x2)).toNatClampNeg)), (3, .int (((37 : Int32) + ((7 : Int32) * x1)) + x2)), (0, .ref a_t), (1, .int x1), (2, .int x2)]) hx hb dX10_undrawn_62 hl (by decide) rfl (fun ls hl => ?_)
          refine lv_aload_n hx hb dX10_undrawn_64 rfl (lv_at hl 2 rfl) ?_
          refine va_get (D := g.1) (ci := 10) (v := .ref (p_t 15)) (C := RX10) (T := TX10) (N := 35) hx hb hts iX10_undrawn_X10 hown hK.1 hP 2 rfl rfl 15 (by decide) (hts _ kX10_undrawn_20) (fun _ h9 => h9) rfl dX10_undrawn_65 ?_
          refine lv_iload_n hx hb dX10_undrawn_68 rfl (lv_at hl 1 rfl) ?_
          refine lv_iconst (v := (0 : Int32)) hx hb dX10_undrawn_69 (by decide) ?_
          obtain ⟨h_19, hF⟩ := it_ck hF
          refine va_iast hx hb hK.1 hP hD hS 3 0 rfl rfl h_19 dX10_undrawn_70 (fun H locs hP hD hS => ?_)
          have hP : va_P g.1 vwCl [aI g (p_t 17) 17 f_t_17, aI g (p_t 25) 17 f_t_25, oX10 a_t p_t u_1, aI g (p_t 15) 266 (upd f_t_15 ((((37 : Int32) + ((7 : Int32) * x1)) + x2)).toNatClampNeg (0 : Int32))] H := hP
          have hD : va_D A [aI g (p_t 17) 17 f_t_17, aI g (p_t 25) 17 f_t_25, oX10 a_t p_t u_1, aI g (p_t 15) 266 (upd f_t_15 ((((37 : Int32) + ((7 : Int32) * x1)) + x2)).toNatClampNeg (0 : Int32))] := hD
          refine lv_aload_n hx hb dX10_undrawn_71 rfl (lv_at hl 2 rfl) ?_
          obtain ⟨u_20, u_21, u_22, hu_23, hF⟩ := ob3_some hF
          refine call_i (wr := []) (As := []) (rest := []) (ci := 10) (q0 := 0) C0 (mX10_endsNow l g a_t p_t n u_1 (upd f_t_15 ((((37 : Int32) + ((7 : Int32) * x1)) + x2)).toNatClampNeg (0 : Int32)) f_t_17 f_t_25 u_20 u_21 u_22 hu_23) (cwV 0 hts gX10_undrawn_X10_endsNow rfl rfl rfl (by decide +kernel) ⟨Nat.le_of_ble_eq_true rfl, Nat.le_of_ble_eq_true rfl⟩) hP hD hS [2, 3, 0, 1] [] rfl rfl rfl rfl rfl (by decide) rfl rfl hl.1 rfl rfl (Nat.le_of_ble_eq_true rfl) ⟨Nat.zero_le _, Nat.zero_le _⟩ dX10_undrawn_72 ?_
          intro H locs hP hD hS
          refine lv_istore (lv' := [(5, .int u_20), (4, .int (f_t_15 ((((37 : Int32) + ((7 : Int32) * x1)) + x2)).toNatClampNeg)), (3, .int (((37 : Int32) + ((7 : Int32) * x1)) + x2)), (0, .ref a_t), (1, .int x1), (2, .int x2)]) hx hb dX10_undrawn_75 hl (by decide) rfl (fun ls hl => ?_)
          refine lv_aload_n hx hb dX10_undrawn_77 rfl (lv_at hl 3 rfl) ?_
          refine va_get (D := g.1) (ci := 10) (v := .ref (p_t 15)) (C := RX10) (T := TX10) (N := 35) hx hb hts iX10_undrawn_X10 hown hK.1 hP 0 rfl rfl 15 (by decide) (hts _ kX10_undrawn_20) (fun _ h9 => h9) rfl dX10_undrawn_78 ?_
          refine lv_iload_n hx hb dX10_undrawn_81 rfl (lv_at hl 2 rfl) ?_
          refine lv_iload hx hb dX10_undrawn_82 (lv_at hl 1 rfl) ?_
          obtain ⟨h_24, hF⟩ := it_ck hF
          refine va_iast hx hb hK.1 hP hD hS 1 0 rfl rfl h_24 dX10_undrawn_84 (fun H locs hP hD hS => ?_)
          have hP : va_P g.1 vwCl [oX10 a_t p_t u_21, aI g (p_t 15) 266 (upd (upd f_t_15 ((((37 : Int32) + ((7 : Int32) * x1)) + x2)).toNatClampNeg (0 : Int32)) ((((37 : Int32) + ((7 : Int32) * x1)) + x2)).toNatClampNeg (f_t_15 ((((37 : Int32) + ((7 : Int32) * x1)) + x2)).toNatClampNeg)), aI g (p_t 17) 17 f_t_17, aI g (p_t 25) 17 u_22] H := hP
          have hD : va_D A [oX10 a_t p_t u_21, aI g (p_t 15) 266 (upd (upd f_t_15 ((((37 : Int32) + ((7 : Int32) * x1)) + x2)).toNatClampNeg (0 : Int32)) ((((37 : Int32) + ((7 : Int32) * x1)) + x2)).toNatClampNeg (f_t_15 ((((37 : Int32) + ((7 : Int32) * x1)) + x2)).toNatClampNeg)), aI g (p_t 17) 17 f_t_17, aI g (p_t 25) 17 u_22] := hD
          refine lv_iload hx hb dX10_undrawn_85 (lv_at hl 0 rfl) ?_
          cases hF
          exact ret_i C0 hP hD hS [0, 1, 2, 3] rfl rfl rfl dX10_undrawn_87 rfl
        · have hF := it_p c_17 hF
          refine lv_aload_n hx hb dX10_undrawn_50 rfl (lv_at hl 1 rfl) ?_
          refine lv_iconst (v := (5 : Int32)) hx hb dX10_undrawn_51 (by decide) ?_
          obtain ⟨u_25, u_26, hu_27, hF⟩ := ob2_some hF
          refine call_i (wr := [aI g (p_t 17) 17 f_t_17, aI g (p_t 25) 17 f_t_25, aI g (p_t 15) 266 f_t_15]) (As := [.int (5 : Int32)]) (rest := []) (ci := 10) (q0 := 0) C0 (mX10_no l g a_t p_t n (5 : Int32) u_1 u_25 u_26 hu_27) (cwV 1 hts gX10_undrawn_X10_no rfl rfl rfl (by decide +kernel) ⟨Nat.le_of_ble_eq_true rfl, Nat.le_of_ble_eq_true rfl⟩) hP hD hS [2] [0, 1, 3] rfl rfl rfl rfl rfl (by decide) rfl rfl hl.1 rfl rfl (Nat.le_of_ble_eq_true rfl) ⟨Nat.zero_le _, Nat.zero_le _⟩ dX10_undrawn_52 ?_
          intro H locs hP hD hS
          cases hF
          exact ret_i C0 hP hD hS [3, 2, 0, 1] rfl rfl rfl dX10_undrawn_55 rfl
      · have hF := it_p c_15 hF
        refine lv_aload_n hx hb dX10_undrawn_25 rfl (lv_at hl 0 rfl) ?_
        refine lv_iconst (v := (1 : Int32)) hx hb dX10_undrawn_26 (by decide) ?_
        obtain ⟨u_28, u_29, hu_30, hF⟩ := ob2_some hF
        refine call_i (wr := [aI g (p_t 17) 17 f_t_17, aI g (p_t 25) 17 f_t_25, aI g (p_t 15) 266 f_t_15]) (As := [.int (1 : Int32)]) (rest := []) (ci := 10) (q0 := 0) C0 (mX10_no l g a_t p_t n (1 : Int32) u_1 u_28 u_29 hu_30) (cwV 1 hts gX10_undrawn_X10_no rfl rfl rfl (by decide +kernel) ⟨Nat.le_of_ble_eq_true rfl, Nat.le_of_ble_eq_true rfl⟩) hP hD hS [2] [0, 1, 3] rfl rfl rfl rfl rfl (by decide) rfl rfl hl.1 rfl rfl (Nat.le_of_ble_eq_true rfl) ⟨Nat.zero_le _, Nat.zero_le _⟩ dX10_undrawn_27 ?_
        intro H locs hP hD hS
        cases hF
        exact ret_i C0 hP hD hS [3, 2, 0, 1] rfl rfl rfl dX10_undrawn_30 rfl

theorem dAX10_apart : ∀ q ∈ ([(0, (.aload_n 0, 1)), (1, (.invokevirtual 159, 3)), (4, (.aload_n 0, 1)), (5, (.iload_n 1, 1)), (6, (.invokevirtual 300, 3)), (9, (.ifCond .ne 9, 3)), (12, (.aload_n 0, 1)), (13, (.iconst 1, 1)), (14, (.invokevirtual 162, 3)), (17, (.ireturn, 1)), (18, (.bipush 9, 2)), (20, (.iconst 4, 1)), (21, (.iload_n 1, 1)), (22, (.imul, 1)), (23, (.iadd, 1)), (24, (.iconst 3, 1)), (25, (.iadd, 1)), (26, (.istore_n 2, 1)), (27, (.aload_n 0, 1)), (28, (.getfield 20, 3)), (31, (.iload_n 2, 1)), (32, (.iaload, 1)), (33, (.istore_n 3, 1)), (34, (.iload_n 3, 1)), (35, (.ifCond .ne 9, 3)), (38, (.aload_n 0, 1)), (39, (.iconst 5, 1)), (40, (.invokevirtual 162, 3)), (43, (.ireturn, 1)), (44, (.aload_n 0, 1)), (45, (.getfield 20, 3)), (48, (.iload_n 2, 1)), (49, (.iconst 0, 1)), (50, (.iastore, 1)), (51, (.aload_n 0, 1)), (52, (.getfield 20, 3)), (55, (.bipush 9, 2)), (57, (.iconst 4, 1)), (58, (.iload_n 3, 1)), (59, (.iconst 1, 1)), (60, (.isub, 1)), (61, (.imul, 1)), (62, (.iadd, 1)), (63, (.iconst 3, 1)), (64, (.iadd, 1)), (65, (.iconst 0, 1)), (66, (.iastore, 1)), (67, (.aload_n 0, 1)), (68, (.invokevirtual 309, 3)), (71, (.istore 4, 2)), (73, (.aload_n 0, 1)), (74, (.getfield 20, 3)), (77, (.iload_n 2, 1)), (78, (.iload_n 3, 1)), (79, (.iastore, 1)), (80, (.aload_n 0, 1)), (81, (.getfield 20, 3)), (84, (.bipush 9, 2)), (86, (.iconst 4, 1)), (87, (.iload_n 3, 1)), (88, (.iconst 1, 1)), (89, (.isub, 1)), (90, (.imul, 1)), (91, (.iadd, 1)), (92, (.iconst 3, 1)), (93, (.iadd, 1)), (94, (.iload_n 1, 1)), (95, (.iconst 1, 1)), (96, (.iadd, 1)), (97, (.iastore, 1)), (98, (.iload 4, 2)), (100, (.ireturn, 1))] : List (Nat × (Instr × Nat))), decode cX10_apart q.1 = .ok q.2 := by decide +kernel
theorem dX10_apart_0 : decode cX10_apart 0 = .ok (.aload_n 0, 1) := dAX10_apart (0, (.aload_n 0, 1)) (List.mem_of_getElem? (i := 0) rfl)
theorem dX10_apart_1 : decode cX10_apart 1 = .ok (.invokevirtual 159, 3) := dAX10_apart (1, (.invokevirtual 159, 3)) (List.mem_of_getElem? (i := 1) rfl)
theorem dX10_apart_4 : decode cX10_apart 4 = .ok (.aload_n 0, 1) := dAX10_apart (4, (.aload_n 0, 1)) (List.mem_of_getElem? (i := 2) rfl)
theorem dX10_apart_5 : decode cX10_apart 5 = .ok (.iload_n 1, 1) := dAX10_apart (5, (.iload_n 1, 1)) (List.mem_of_getElem? (i := 3) rfl)
theorem dX10_apart_6 : decode cX10_apart 6 = .ok (.invokevirtual 300, 3) := dAX10_apart (6, (.invokevirtual 300, 3)) (List.mem_of_getElem? (i := 4) rfl)
theorem dX10_apart_9 : decode cX10_apart 9 = .ok (.ifCond .ne 9, 3) := dAX10_apart (9, (.ifCond .ne 9, 3)) (List.mem_of_getElem? (i := 5) rfl)
theorem dX10_apart_12 : decode cX10_apart 12 = .ok (.aload_n 0, 1) := dAX10_apart (12, (.aload_n 0, 1)) (List.mem_of_getElem? (i := 6) rfl)
theorem dX10_apart_13 : decode cX10_apart 13 = .ok (.iconst 1, 1) := dAX10_apart (13, (.iconst 1, 1)) (List.mem_of_getElem? (i := 7) rfl)
theorem dX10_apart_14 : decode cX10_apart 14 = .ok (.invokevirtual 162, 3) := dAX10_apart (14, (.invokevirtual 162, 3)) (List.mem_of_getElem? (i := 8) rfl)
theorem dX10_apart_17 : decode cX10_apart 17 = .ok (.ireturn, 1) := dAX10_apart (17, (.ireturn, 1)) (List.mem_of_getElem? (i := 9) rfl)
theorem dX10_apart_18 : decode cX10_apart 18 = .ok (.bipush 9, 2) := dAX10_apart (18, (.bipush 9, 2)) (List.mem_of_getElem? (i := 10) rfl)
theorem dX10_apart_20 : decode cX10_apart 20 = .ok (.iconst 4, 1) := dAX10_apart (20, (.iconst 4, 1)) (List.mem_of_getElem? (i := 11) rfl)
theorem dX10_apart_21 : decode cX10_apart 21 = .ok (.iload_n 1, 1) := dAX10_apart (21, (.iload_n 1, 1)) (List.mem_of_getElem? (i := 12) rfl)
theorem dX10_apart_22 : decode cX10_apart 22 = .ok (.imul, 1) := dAX10_apart (22, (.imul, 1)) (List.mem_of_getElem? (i := 13) rfl)
theorem dX10_apart_23 : decode cX10_apart 23 = .ok (.iadd, 1) := dAX10_apart (23, (.iadd, 1)) (List.mem_of_getElem? (i := 14) rfl)
theorem dX10_apart_24 : decode cX10_apart 24 = .ok (.iconst 3, 1) := dAX10_apart (24, (.iconst 3, 1)) (List.mem_of_getElem? (i := 15) rfl)
theorem dX10_apart_25 : decode cX10_apart 25 = .ok (.iadd, 1) := dAX10_apart (25, (.iadd, 1)) (List.mem_of_getElem? (i := 16) rfl)
theorem dX10_apart_26 : decode cX10_apart 26 = .ok (.istore_n 2, 1) := dAX10_apart (26, (.istore_n 2, 1)) (List.mem_of_getElem? (i := 17) rfl)
theorem dX10_apart_27 : decode cX10_apart 27 = .ok (.aload_n 0, 1) := dAX10_apart (27, (.aload_n 0, 1)) (List.mem_of_getElem? (i := 18) rfl)
theorem dX10_apart_28 : decode cX10_apart 28 = .ok (.getfield 20, 3) := dAX10_apart (28, (.getfield 20, 3)) (List.mem_of_getElem? (i := 19) rfl)
theorem dX10_apart_31 : decode cX10_apart 31 = .ok (.iload_n 2, 1) := dAX10_apart (31, (.iload_n 2, 1)) (List.mem_of_getElem? (i := 20) rfl)
theorem dX10_apart_32 : decode cX10_apart 32 = .ok (.iaload, 1) := dAX10_apart (32, (.iaload, 1)) (List.mem_of_getElem? (i := 21) rfl)
theorem dX10_apart_33 : decode cX10_apart 33 = .ok (.istore_n 3, 1) := dAX10_apart (33, (.istore_n 3, 1)) (List.mem_of_getElem? (i := 22) rfl)
theorem dX10_apart_34 : decode cX10_apart 34 = .ok (.iload_n 3, 1) := dAX10_apart (34, (.iload_n 3, 1)) (List.mem_of_getElem? (i := 23) rfl)
theorem dX10_apart_35 : decode cX10_apart 35 = .ok (.ifCond .ne 9, 3) := dAX10_apart (35, (.ifCond .ne 9, 3)) (List.mem_of_getElem? (i := 24) rfl)
theorem dX10_apart_38 : decode cX10_apart 38 = .ok (.aload_n 0, 1) := dAX10_apart (38, (.aload_n 0, 1)) (List.mem_of_getElem? (i := 25) rfl)
theorem dX10_apart_39 : decode cX10_apart 39 = .ok (.iconst 5, 1) := dAX10_apart (39, (.iconst 5, 1)) (List.mem_of_getElem? (i := 26) rfl)
theorem dX10_apart_40 : decode cX10_apart 40 = .ok (.invokevirtual 162, 3) := dAX10_apart (40, (.invokevirtual 162, 3)) (List.mem_of_getElem? (i := 27) rfl)
theorem dX10_apart_43 : decode cX10_apart 43 = .ok (.ireturn, 1) := dAX10_apart (43, (.ireturn, 1)) (List.mem_of_getElem? (i := 28) rfl)
theorem dX10_apart_44 : decode cX10_apart 44 = .ok (.aload_n 0, 1) := dAX10_apart (44, (.aload_n 0, 1)) (List.mem_of_getElem? (i := 29) rfl)
theorem dX10_apart_45 : decode cX10_apart 45 = .ok (.getfield 20, 3) := dAX10_apart (45, (.getfield 20, 3)) (List.mem_of_getElem? (i := 30) rfl)
theorem dX10_apart_48 : decode cX10_apart 48 = .ok (.iload_n 2, 1) := dAX10_apart (48, (.iload_n 2, 1)) (List.mem_of_getElem? (i := 31) rfl)
theorem dX10_apart_49 : decode cX10_apart 49 = .ok (.iconst 0, 1) := dAX10_apart (49, (.iconst 0, 1)) (List.mem_of_getElem? (i := 32) rfl)
theorem dX10_apart_50 : decode cX10_apart 50 = .ok (.iastore, 1) := dAX10_apart (50, (.iastore, 1)) (List.mem_of_getElem? (i := 33) rfl)
theorem dX10_apart_51 : decode cX10_apart 51 = .ok (.aload_n 0, 1) := dAX10_apart (51, (.aload_n 0, 1)) (List.mem_of_getElem? (i := 34) rfl)
theorem dX10_apart_52 : decode cX10_apart 52 = .ok (.getfield 20, 3) := dAX10_apart (52, (.getfield 20, 3)) (List.mem_of_getElem? (i := 35) rfl)
theorem dX10_apart_55 : decode cX10_apart 55 = .ok (.bipush 9, 2) := dAX10_apart (55, (.bipush 9, 2)) (List.mem_of_getElem? (i := 36) rfl)
theorem dX10_apart_57 : decode cX10_apart 57 = .ok (.iconst 4, 1) := dAX10_apart (57, (.iconst 4, 1)) (List.mem_of_getElem? (i := 37) rfl)
theorem dX10_apart_58 : decode cX10_apart 58 = .ok (.iload_n 3, 1) := dAX10_apart (58, (.iload_n 3, 1)) (List.mem_of_getElem? (i := 38) rfl)
theorem dX10_apart_59 : decode cX10_apart 59 = .ok (.iconst 1, 1) := dAX10_apart (59, (.iconst 1, 1)) (List.mem_of_getElem? (i := 39) rfl)
theorem dX10_apart_60 : decode cX10_apart 60 = .ok (.isub, 1) := dAX10_apart (60, (.isub, 1)) (List.mem_of_getElem? (i := 40) rfl)
theorem dX10_apart_61 : decode cX10_apart 61 = .ok (.imul, 1) := dAX10_apart (61, (.imul, 1)) (List.mem_of_getElem? (i := 41) rfl)
theorem dX10_apart_62 : decode cX10_apart 62 = .ok (.iadd, 1) := dAX10_apart (62, (.iadd, 1)) (List.mem_of_getElem? (i := 42) rfl)
theorem dX10_apart_63 : decode cX10_apart 63 = .ok (.iconst 3, 1) := dAX10_apart (63, (.iconst 3, 1)) (List.mem_of_getElem? (i := 43) rfl)
theorem dX10_apart_64 : decode cX10_apart 64 = .ok (.iadd, 1) := dAX10_apart (64, (.iadd, 1)) (List.mem_of_getElem? (i := 44) rfl)
theorem dX10_apart_65 : decode cX10_apart 65 = .ok (.iconst 0, 1) := dAX10_apart (65, (.iconst 0, 1)) (List.mem_of_getElem? (i := 45) rfl)
theorem dX10_apart_66 : decode cX10_apart 66 = .ok (.iastore, 1) := dAX10_apart (66, (.iastore, 1)) (List.mem_of_getElem? (i := 46) rfl)
theorem dX10_apart_67 : decode cX10_apart 67 = .ok (.aload_n 0, 1) := dAX10_apart (67, (.aload_n 0, 1)) (List.mem_of_getElem? (i := 47) rfl)
theorem dX10_apart_68 : decode cX10_apart 68 = .ok (.invokevirtual 309, 3) := dAX10_apart (68, (.invokevirtual 309, 3)) (List.mem_of_getElem? (i := 48) rfl)
theorem dX10_apart_71 : decode cX10_apart 71 = .ok (.istore 4, 2) := dAX10_apart (71, (.istore 4, 2)) (List.mem_of_getElem? (i := 49) rfl)
theorem dX10_apart_73 : decode cX10_apart 73 = .ok (.aload_n 0, 1) := dAX10_apart (73, (.aload_n 0, 1)) (List.mem_of_getElem? (i := 50) rfl)
theorem dX10_apart_74 : decode cX10_apart 74 = .ok (.getfield 20, 3) := dAX10_apart (74, (.getfield 20, 3)) (List.mem_of_getElem? (i := 51) rfl)
theorem dX10_apart_77 : decode cX10_apart 77 = .ok (.iload_n 2, 1) := dAX10_apart (77, (.iload_n 2, 1)) (List.mem_of_getElem? (i := 52) rfl)
theorem dX10_apart_78 : decode cX10_apart 78 = .ok (.iload_n 3, 1) := dAX10_apart (78, (.iload_n 3, 1)) (List.mem_of_getElem? (i := 53) rfl)
theorem dX10_apart_79 : decode cX10_apart 79 = .ok (.iastore, 1) := dAX10_apart (79, (.iastore, 1)) (List.mem_of_getElem? (i := 54) rfl)
theorem dX10_apart_80 : decode cX10_apart 80 = .ok (.aload_n 0, 1) := dAX10_apart (80, (.aload_n 0, 1)) (List.mem_of_getElem? (i := 55) rfl)
theorem dX10_apart_81 : decode cX10_apart 81 = .ok (.getfield 20, 3) := dAX10_apart (81, (.getfield 20, 3)) (List.mem_of_getElem? (i := 56) rfl)
theorem dX10_apart_84 : decode cX10_apart 84 = .ok (.bipush 9, 2) := dAX10_apart (84, (.bipush 9, 2)) (List.mem_of_getElem? (i := 57) rfl)
theorem dX10_apart_86 : decode cX10_apart 86 = .ok (.iconst 4, 1) := dAX10_apart (86, (.iconst 4, 1)) (List.mem_of_getElem? (i := 58) rfl)
theorem dX10_apart_87 : decode cX10_apart 87 = .ok (.iload_n 3, 1) := dAX10_apart (87, (.iload_n 3, 1)) (List.mem_of_getElem? (i := 59) rfl)
theorem dX10_apart_88 : decode cX10_apart 88 = .ok (.iconst 1, 1) := dAX10_apart (88, (.iconst 1, 1)) (List.mem_of_getElem? (i := 60) rfl)
theorem dX10_apart_89 : decode cX10_apart 89 = .ok (.isub, 1) := dAX10_apart (89, (.isub, 1)) (List.mem_of_getElem? (i := 61) rfl)
theorem dX10_apart_90 : decode cX10_apart 90 = .ok (.imul, 1) := dAX10_apart (90, (.imul, 1)) (List.mem_of_getElem? (i := 62) rfl)
theorem dX10_apart_91 : decode cX10_apart 91 = .ok (.iadd, 1) := dAX10_apart (91, (.iadd, 1)) (List.mem_of_getElem? (i := 63) rfl)
theorem dX10_apart_92 : decode cX10_apart 92 = .ok (.iconst 3, 1) := dAX10_apart (92, (.iconst 3, 1)) (List.mem_of_getElem? (i := 64) rfl)
theorem dX10_apart_93 : decode cX10_apart 93 = .ok (.iadd, 1) := dAX10_apart (93, (.iadd, 1)) (List.mem_of_getElem? (i := 65) rfl)
theorem dX10_apart_94 : decode cX10_apart 94 = .ok (.iload_n 1, 1) := dAX10_apart (94, (.iload_n 1, 1)) (List.mem_of_getElem? (i := 66) rfl)
theorem dX10_apart_95 : decode cX10_apart 95 = .ok (.iconst 1, 1) := dAX10_apart (95, (.iconst 1, 1)) (List.mem_of_getElem? (i := 67) rfl)
theorem dX10_apart_96 : decode cX10_apart 96 = .ok (.iadd, 1) := dAX10_apart (96, (.iadd, 1)) (List.mem_of_getElem? (i := 68) rfl)
theorem dX10_apart_97 : decode cX10_apart 97 = .ok (.iastore, 1) := dAX10_apart (97, (.iastore, 1)) (List.mem_of_getElem? (i := 69) rfl)
theorem dX10_apart_98 : decode cX10_apart 98 = .ok (.iload 4, 2) := dAX10_apart (98, (.iload 4, 2)) (List.mem_of_getElem? (i := 70) rfl)
theorem dX10_apart_100 : decode cX10_apart 100 = .ok (.ireturn, 1) := dAX10_apart (100, (.ireturn, 1)) (List.mem_of_getElem? (i := 71) rfl)
set_option maxRecDepth 20000 in
theorem ggX10_apart_X10_good : GoodIn wsX10_apart wsX10_good := goodIn_r _ [6, 7, 8, 80, 81, 82, 83, 84, 85, 86, 87, 88, 89, 90, 91, 92, 93, 94, 95, 96, 97, 98, 99, 100, 101, 102, 103, 104, 105, 106, 107, 108, 109, 110, 111, 112, 113, 114] rfl (by decide +kernel)
set_option maxRecDepth 20000 in
theorem gX10_apart_X10_good : GoodIn wsX10_apart (wsV RX10 159 RX10 yX10_good wsX10_good) := goodIn_app (goodIn_of _ (by decide +kernel)) ggX10_apart_X10_good
set_option maxRecDepth 20000 in
theorem ggX10_apart_X10_isGuest : GoodIn wsX10_apart wsX10_isGuest := goodIn_r _ [12, 13, 1, 14, 15, 5, 16, 80, 81, 82, 83, 84, 85, 86, 87, 88, 89, 90, 91, 92, 93, 94, 95, 96, 97, 98, 99, 100, 101, 102, 103, 104, 105, 106, 107, 108, 109, 110, 111, 112, 113, 114] rfl (by decide +kernel)
set_option maxRecDepth 20000 in
theorem gX10_apart_X10_isGuest : GoodIn wsX10_apart (wsV RX10 300 RX10 yX10_isGuest wsX10_isGuest) := goodIn_app (goodIn_of _ (by decide +kernel)) ggX10_apart_X10_isGuest
set_option maxRecDepth 20000 in
theorem ggX10_apart_X10_no : GoodIn wsX10_apart wsX10_no := goodIn_r _ [20, 8, 80, 81, 82, 83, 84, 85, 86, 87, 88, 89, 90, 91, 92, 93, 94, 95, 96, 97, 98, 99, 100, 101, 102, 103, 104, 105, 106, 107, 108, 109, 110, 111, 112, 113, 114] rfl (by decide +kernel)
set_option maxRecDepth 20000 in
theorem gX10_apart_X10_no : GoodIn wsX10_apart (wsV RX10 162 RX10 yX10_no wsX10_no) := goodIn_app (goodIn_of _ (by decide +kernel)) ggX10_apart_X10_no
set_option maxRecDepth 20000 in
theorem ggX10_apart_X10_endsNow : GoodIn wsX10_apart wsX10_endsNow := goodIn_r _ [24, 25, 26, 27, 28, 5, 29, 30, 31, 32, 33, 34, 35, 36, 37, 38, 1, 39, 40, 41, 42, 43, 44, 45, 46, 47, 48, 49, 50, 51, 52, 53, 54, 55, 56, 57, 58, 59, 60, 61, 62, 63, 64, 65, 66, 67, 68, 69, 70, 71, 72, 73, 74, 75, 76, 77, 78, 79, 80, 81, 82, 83, 84, 85, 86, 87, 88, 89, 90, 91, 92, 93, 94, 95, 96, 97, 98, 99, 100, 101, 102, 103, 104, 105, 106, 107, 108, 109, 110, 111, 112, 113, 114] rfl (by decide +kernel)
set_option maxRecDepth 20000 in
theorem gX10_apart_X10_endsNow : GoodIn wsX10_apart (wsV RX10 309 RX10 yX10_endsNow wsX10_endsNow) := goodIn_app (goodIn_of _ (by decide +kernel)) ggX10_apart_X10_endsNow
theorem kX10_apart_20 : Cond.fieldLink RX10 20 "EveningVowModel" "\x72" "[I" ∈ wsX10_apart := List.mem_of_getElem? (i := 1) rfl
theorem iX10_apart_X10 : ∀ w ∈ u_ws RX10 TX10 35, w ∈ wsX10_apart := fun w h => (List.mem_cons_of_mem _ (List.mem_append_right _ h))
set_option maxHeartbeats 4000000 in
set_option maxRecDepth 100000 in
theorem mX10_apart (l : Launch) (g : GG) (a_t : Nat) (p_t : Nat → Nat) (n : Nat) (x1 : Int32) (o_t : Nat → Int32) (f_t_15 : Nat → Int32) (f_t_17 : Nat → Int32) (f_t_25 : Nat → Int32) (r : Int32) (o_t' : Nat → Int32) (f_t_15' : Nat → Int32) (f_t_25' : Nat → Int32) (hF : fX10_apart n x1 o_t f_t_15 f_t_17 f_t_25 = some (r, o_t', f_t_15', f_t_25')) : MI l g yX10_apart wsX10_apart ({ frames := 6, cells := 0, slots := 0, locals := 136 } : Room) [.ref a_t, .int x1] [oX10 a_t p_t o_t, aI g (p_t 15) 266 f_t_15, aI g (p_t 17) 17 f_t_17, aI g (p_t 25) 17 f_t_25] r [oX10 a_t p_t o_t', aI g (p_t 15) 266 f_t_15', aI g (p_t 17) 17 f_t_17, aI g (p_t 25) 17 f_t_25'] := by
  refine MI.of (cc := cX10_apart) (maxL := 5) (rt := .int) (own := RX10) rfl rfl (by decide) (Nat.le_of_ble_eq_true rfl) ?_
  intro p e s m args below meth c A C0 hP hD hS ls hl
  obtain ⟨hx, hb, hml, hown, hts, hr, hlk, hK, hA, hSW⟩ := id C0
  have hl : lv_has ls 5 [(0, .ref a_t), (1, .int x1)] := hl
  rw [fX10_apart] at hF
  refine lv_aload_n hx hb dX10_apart_0 rfl (lv_at hl 0 rfl) ?_
  obtain ⟨u_1, hu_2, hF⟩ := ob1_some hF
  refine call_v (wr := [aI g (p_t 15) 266 f_t_15, aI g (p_t 17) 17 f_t_17, aI g (p_t 25) 17 f_t_25]) (As := []) (rest := []) (ci := 10) (q0 := 0) C0 (mX10_good l g a_t p_t n o_t u_1 hu_2) (cwV 0 hts gX10_apart_X10_good rfl rfl rfl (by decide +kernel) ⟨Nat.le_of_ble_eq_true rfl, Nat.le_of_ble_eq_true rfl⟩) hP hD hS [0] [1, 2, 3] rfl rfl rfl rfl rfl (by decide) rfl rfl hl.1 rfl rfl (Nat.le_of_ble_eq_true rfl) ⟨Nat.zero_le _, Nat.zero_le _⟩ dX10_apart_1 ?_
  intro H locs hP hD hS
  refine lv_aload_n hx hb dX10_apart_4 rfl (lv_at hl 0 rfl) ?_
  refine lv_iload_n hx hb dX10_apart_5 rfl (lv_at hl 1 rfl) ?_
  obtain ⟨u_3, hu_4, hF⟩ := ob1_some hF
  refine call_i (wr := [aI g (p_t 17) 17 f_t_17, aI g (p_t 25) 17 f_t_25]) (As := [.int x1]) (rest := []) (ci := 10) (q0 := 0) C0 (mX10_isGuest l g a_t p_t n x1 u_1 f_t_15 u_3 hu_4) (cwV 1 hts gX10_apart_X10_isGuest rfl rfl rfl (by decide +kernel) ⟨Nat.le_of_ble_eq_true rfl, Nat.le_of_ble_eq_true rfl⟩) hP hD hS [3, 0] [1, 2] rfl rfl rfl rfl rfl (by decide) rfl rfl hl.1 rfl rfl (Nat.le_of_ble_eq_true rfl) ⟨Nat.zero_le _, Nat.zero_le _⟩ dX10_apart_6 ?_
  intro H locs hP hD hS
  refine lv_if_ne (tgt := 18) hx hb dX10_apart_9 (by decide) (fun c_5 => ?_) (fun c_5 => ?_)
  · have hF := it_n c_5 hF
    refine lv_bipush (v := (9 : Int32)) hx hb dX10_apart_18 (by decide) ?_
    refine lv_iconst (v := (4 : Int32)) hx hb dX10_apart_20 (by decide) ?_
    refine lv_iload_n hx hb dX10_apart_21 rfl (lv_at hl 1 rfl) ?_
    refine lv_imul hx hb dX10_apart_22 ?_
    refine lv_iadd hx hb dX10_apart_23 ?_
    refine lv_iconst (v := (3 : Int32)) hx hb dX10_apart_24 (by decide) ?_
    refine lv_iadd hx hb dX10_apart_25 ?_
    refine lv_istore_n (lv' := [(2, .int (((9 : Int32) + ((4 : Int32) * x1)) + (3 : Int32))), (0, .ref a_t), (1, .int x1)]) hx hb dX10_apart_26 rfl hl (by decide) rfl (fun ls hl => ?_)
    refine lv_aload_n hx hb dX10_apart_27 rfl (lv_at hl 1 rfl) ?_
    refine va_get (D := g.1) (ci := 10) (v := .ref (p_t 15)) (C := RX10) (T := TX10) (N := 35) hx hb hts iX10_apart_X10 hown hK.1 hP 2 rfl rfl 15 (by decide) (hts _ kX10_apart_20) (fun _ h9 => h9) rfl dX10_apart_28 ?_
    refine lv_iload_n hx hb dX10_apart_31 rfl (lv_at hl 0 rfl) ?_
    obtain ⟨h_6, hF⟩ := it_ck hF
    refine va_iald hx hb hK.1 hP 3 0 rfl rfl h_6 dX10_apart_32 ?_
    refine lv_istore_n (lv' := [(3, .int (f_t_15 ((((9 : Int32) + ((4 : Int32) * x1)) + (3 : Int32))).toNatClampNeg)), (2, .int (((9 : Int32) + ((4 : Int32) * x1)) + (3 : Int32))), (0, .ref a_t), (1, .int x1)]) hx hb dX10_apart_33 rfl hl (by decide) rfl (fun ls hl => ?_)
    refine lv_iload_n hx hb dX10_apart_34 rfl (lv_at hl 0 rfl) ?_
    refine lv_if_ne (tgt := 44) hx hb dX10_apart_35 (by decide) (fun c_7 => ?_) (fun c_7 => ?_)
    · have hF := it_n c_7 hF
      refine lv_aload_n hx hb dX10_apart_44 rfl (lv_at hl 2 rfl) ?_
      refine va_get (D := g.1) (ci := 10) (v := .ref (p_t 15)) (C := RX10) (T := TX10) (N := 35) hx hb hts iX10_apart_X10 hown hK.1 hP 2 rfl rfl 15 (by decide) (hts _ kX10_apart_20) (fun _ h9 => h9) rfl dX10_apart_45 ?_
      refine lv_iload_n hx hb dX10_apart_48 rfl (lv_at hl 1 rfl) ?_
      refine lv_iconst (v := (0 : Int32)) hx hb dX10_apart_49 (by decide) ?_
      obtain ⟨h_8, hF⟩ := it_ck hF
      refine va_iast hx hb hK.1 hP hD hS 3 0 rfl rfl h_8 dX10_apart_50 (fun H locs hP hD hS => ?_)
      have hP : va_P g.1 vwCl [aI g (p_t 17) 17 f_t_17, aI g (p_t 25) 17 f_t_25, oX10 a_t p_t u_1, aI g (p_t 15) 266 (upd f_t_15 ((((9 : Int32) + ((4 : Int32) * x1)) + (3 : Int32))).toNatClampNeg (0 : Int32))] H := hP
      have hD : va_D A [aI g (p_t 17) 17 f_t_17, aI g (p_t 25) 17 f_t_25, oX10 a_t p_t u_1, aI g (p_t 15) 266 (upd f_t_15 ((((9 : Int32) + ((4 : Int32) * x1)) + (3 : Int32))).toNatClampNeg (0 : Int32))] := hD
      refine lv_aload_n hx hb dX10_apart_51 rfl (lv_at hl 2 rfl) ?_
      refine va_get (D := g.1) (ci := 10) (v := .ref (p_t 15)) (C := RX10) (T := TX10) (N := 35) hx hb hts iX10_apart_X10 hown hK.1 hP 2 rfl rfl 15 (by decide) (hts _ kX10_apart_20) (fun _ h9 => h9) rfl dX10_apart_52 ?_
      refine lv_bipush (v := (9 : Int32)) hx hb dX10_apart_55 (by decide) ?_
      refine lv_iconst (v := (4 : Int32)) hx hb dX10_apart_57 (by decide) ?_
      refine lv_iload_n hx hb dX10_apart_58 rfl (lv_at hl 0 rfl) ?_
      refine lv_iconst (v := (1 : Int32)) hx hb dX10_apart_59 (by decide) ?_
      refine lv_isub hx hb dX10_apart_60 ?_
      refine lv_imul hx hb dX10_apart_61 ?_
      refine lv_iadd hx hb dX10_apart_62 ?_
      refine lv_iconst (v := (3 : Int32)) hx hb dX10_apart_63 (by decide) ?_
      refine lv_iadd hx hb dX10_apart_64 ?_
      refine lv_iconst (v := (0 : Int32)) hx hb dX10_apart_65 (by decide) ?_
      obtain ⟨h_9, hF⟩ := it_ck hF
      refine va_iast hx hb hK.1 hP hD hS 3 0 rfl rfl h_9 dX10_apart_66 (fun H locs hP hD hS => ?_)
      have hP : va_P g.1 vwCl [aI g (p_t 17) 17 f_t_17, aI g (p_t 25) 17 f_t_25, oX10 a_t p_t u_1, aI g (p_t 15) 266 (upd (upd f_t_15 ((((9 : Int32) + ((4 : Int32) * x1)) + (3 : Int32))).toNatClampNeg (0 : Int32)) ((((9 : Int32) + ((4 : Int32) * ((f_t_15 ((((9 : Int32) + ((4 : Int32) * x1)) + (3 : Int32))).toNatClampNeg) - (1 : Int32)))) + (3 : Int32))).toNatClampNeg (0 : Int32))] H := hP
      have hD : va_D A [aI g (p_t 17) 17 f_t_17, aI g (p_t 25) 17 f_t_25, oX10 a_t p_t u_1, aI g (p_t 15) 266 (upd (upd f_t_15 ((((9 : Int32) + ((4 : Int32) * x1)) + (3 : Int32))).toNatClampNeg (0 : Int32)) ((((9 : Int32) + ((4 : Int32) * ((f_t_15 ((((9 : Int32) + ((4 : Int32) * x1)) + (3 : Int32))).toNatClampNeg) - (1 : Int32)))) + (3 : Int32))).toNatClampNeg (0 : Int32))] := hD
      refine lv_aload_n hx hb dX10_apart_67 rfl (lv_at hl 2 rfl) ?_
      obtain ⟨u_10, u_11, u_12, hu_13, hF⟩ := ob3_some hF
      refine call_i (wr := []) (As := []) (rest := []) (ci := 10) (q0 := 0) C0 (mX10_endsNow l g a_t p_t n u_1 (upd (upd f_t_15 ((((9 : Int32) + ((4 : Int32) * x1)) + (3 : Int32))).toNatClampNeg (0 : Int32)) ((((9 : Int32) + ((4 : Int32) * ((f_t_15 ((((9 : Int32) + ((4 : Int32) * x1)) + (3 : Int32))).toNatClampNeg) - (1 : Int32)))) + (3 : Int32))).toNatClampNeg (0 : Int32)) f_t_17 f_t_25 u_10 u_11 u_12 hu_13) (cwV 0 hts gX10_apart_X10_endsNow rfl rfl rfl (by decide +kernel) ⟨Nat.le_of_ble_eq_true rfl, Nat.le_of_ble_eq_true rfl⟩) hP hD hS [2, 3, 0, 1] [] rfl rfl rfl rfl rfl (by decide) rfl rfl hl.1 rfl rfl (Nat.le_of_ble_eq_true rfl) ⟨Nat.zero_le _, Nat.zero_le _⟩ dX10_apart_68 ?_
      intro H locs hP hD hS
      refine lv_istore (lv' := [(4, .int u_10), (3, .int (f_t_15 ((((9 : Int32) + ((4 : Int32) * x1)) + (3 : Int32))).toNatClampNeg)), (2, .int (((9 : Int32) + ((4 : Int32) * x1)) + (3 : Int32))), (0, .ref a_t), (1, .int x1)]) hx hb dX10_apart_71 hl (by decide) rfl (fun ls hl => ?_)
      refine lv_aload_n hx hb dX10_apart_73 rfl (lv_at hl 3 rfl) ?_
      refine va_get (D := g.1) (ci := 10) (v := .ref (p_t 15)) (C := RX10) (T := TX10) (N := 35) hx hb hts iX10_apart_X10 hown hK.1 hP 0 rfl rfl 15 (by decide) (hts _ kX10_apart_20) (fun _ h9 => h9) rfl dX10_apart_74 ?_
      refine lv_iload_n hx hb dX10_apart_77 rfl (lv_at hl 2 rfl) ?_
      refine lv_iload_n hx hb dX10_apart_78 rfl (lv_at hl 1 rfl) ?_
      obtain ⟨h_14, hF⟩ := it_ck hF
      refine va_iast hx hb hK.1 hP hD hS 1 0 rfl rfl h_14 dX10_apart_79 (fun H locs hP hD hS => ?_)
      have hP : va_P g.1 vwCl [oX10 a_t p_t u_11, aI g (p_t 15) 266 (upd (upd (upd f_t_15 ((((9 : Int32) + ((4 : Int32) * x1)) + (3 : Int32))).toNatClampNeg (0 : Int32)) ((((9 : Int32) + ((4 : Int32) * ((f_t_15 ((((9 : Int32) + ((4 : Int32) * x1)) + (3 : Int32))).toNatClampNeg) - (1 : Int32)))) + (3 : Int32))).toNatClampNeg (0 : Int32)) ((((9 : Int32) + ((4 : Int32) * x1)) + (3 : Int32))).toNatClampNeg (f_t_15 ((((9 : Int32) + ((4 : Int32) * x1)) + (3 : Int32))).toNatClampNeg)), aI g (p_t 17) 17 f_t_17, aI g (p_t 25) 17 u_12] H := hP
      have hD : va_D A [oX10 a_t p_t u_11, aI g (p_t 15) 266 (upd (upd (upd f_t_15 ((((9 : Int32) + ((4 : Int32) * x1)) + (3 : Int32))).toNatClampNeg (0 : Int32)) ((((9 : Int32) + ((4 : Int32) * ((f_t_15 ((((9 : Int32) + ((4 : Int32) * x1)) + (3 : Int32))).toNatClampNeg) - (1 : Int32)))) + (3 : Int32))).toNatClampNeg (0 : Int32)) ((((9 : Int32) + ((4 : Int32) * x1)) + (3 : Int32))).toNatClampNeg (f_t_15 ((((9 : Int32) + ((4 : Int32) * x1)) + (3 : Int32))).toNatClampNeg)), aI g (p_t 17) 17 f_t_17, aI g (p_t 25) 17 u_12] := hD
      refine lv_aload_n hx hb dX10_apart_80 rfl (lv_at hl 3 rfl) ?_
      refine va_get (D := g.1) (ci := 10) (v := .ref (p_t 15)) (C := RX10) (T := TX10) (N := 35) hx hb hts iX10_apart_X10 hown hK.1 hP 0 rfl rfl 15 (by decide) (hts _ kX10_apart_20) (fun _ h9 => h9) rfl dX10_apart_81 ?_
      refine lv_bipush (v := (9 : Int32)) hx hb dX10_apart_84 (by decide) ?_
      refine lv_iconst (v := (4 : Int32)) hx hb dX10_apart_86 (by decide) ?_
      refine lv_iload_n hx hb dX10_apart_87 rfl (lv_at hl 1 rfl) ?_
      refine lv_iconst (v := (1 : Int32)) hx hb dX10_apart_88 (by decide) ?_
      refine lv_isub hx hb dX10_apart_89 ?_
      refine lv_imul hx hb dX10_apart_90 ?_
      refine lv_iadd hx hb dX10_apart_91 ?_
      refine lv_iconst (v := (3 : Int32)) hx hb dX10_apart_92 (by decide) ?_
      refine lv_iadd hx hb dX10_apart_93 ?_
      refine lv_iload_n hx hb dX10_apart_94 rfl (lv_at hl 4 rfl) ?_
      refine lv_iconst (v := (1 : Int32)) hx hb dX10_apart_95 (by decide) ?_
      refine lv_iadd hx hb dX10_apart_96 ?_
      obtain ⟨h_15, hF⟩ := it_ck hF
      refine va_iast hx hb hK.1 hP hD hS 1 0 rfl rfl h_15 dX10_apart_97 (fun H locs hP hD hS => ?_)
      have hP : va_P g.1 vwCl [oX10 a_t p_t u_11, aI g (p_t 15) 266 (upd (upd (upd (upd f_t_15 ((((9 : Int32) + ((4 : Int32) * x1)) + (3 : Int32))).toNatClampNeg (0 : Int32)) ((((9 : Int32) + ((4 : Int32) * ((f_t_15 ((((9 : Int32) + ((4 : Int32) * x1)) + (3 : Int32))).toNatClampNeg) - (1 : Int32)))) + (3 : Int32))).toNatClampNeg (0 : Int32)) ((((9 : Int32) + ((4 : Int32) * x1)) + (3 : Int32))).toNatClampNeg (f_t_15 ((((9 : Int32) + ((4 : Int32) * x1)) + (3 : Int32))).toNatClampNeg)) ((((9 : Int32) + ((4 : Int32) * ((f_t_15 ((((9 : Int32) + ((4 : Int32) * x1)) + (3 : Int32))).toNatClampNeg) - (1 : Int32)))) + (3 : Int32))).toNatClampNeg (x1 + (1 : Int32))), aI g (p_t 17) 17 f_t_17, aI g (p_t 25) 17 u_12] H := hP
      have hD : va_D A [oX10 a_t p_t u_11, aI g (p_t 15) 266 (upd (upd (upd (upd f_t_15 ((((9 : Int32) + ((4 : Int32) * x1)) + (3 : Int32))).toNatClampNeg (0 : Int32)) ((((9 : Int32) + ((4 : Int32) * ((f_t_15 ((((9 : Int32) + ((4 : Int32) * x1)) + (3 : Int32))).toNatClampNeg) - (1 : Int32)))) + (3 : Int32))).toNatClampNeg (0 : Int32)) ((((9 : Int32) + ((4 : Int32) * x1)) + (3 : Int32))).toNatClampNeg (f_t_15 ((((9 : Int32) + ((4 : Int32) * x1)) + (3 : Int32))).toNatClampNeg)) ((((9 : Int32) + ((4 : Int32) * ((f_t_15 ((((9 : Int32) + ((4 : Int32) * x1)) + (3 : Int32))).toNatClampNeg) - (1 : Int32)))) + (3 : Int32))).toNatClampNeg (x1 + (1 : Int32))), aI g (p_t 17) 17 f_t_17, aI g (p_t 25) 17 u_12] := hD
      refine lv_iload hx hb dX10_apart_98 (lv_at hl 0 rfl) ?_
      cases hF
      exact ret_i C0 hP hD hS [0, 1, 2, 3] rfl rfl rfl dX10_apart_100 rfl
    · have hF := it_p c_7 hF
      refine lv_aload_n hx hb dX10_apart_38 rfl (lv_at hl 2 rfl) ?_
      refine lv_iconst (v := (5 : Int32)) hx hb dX10_apart_39 (by decide) ?_
      obtain ⟨u_16, u_17, hu_18, hF⟩ := ob2_some hF
      refine call_i (wr := [aI g (p_t 17) 17 f_t_17, aI g (p_t 25) 17 f_t_25, aI g (p_t 15) 266 f_t_15]) (As := [.int (5 : Int32)]) (rest := []) (ci := 10) (q0 := 0) C0 (mX10_no l g a_t p_t n (5 : Int32) u_1 u_16 u_17 hu_18) (cwV 1 hts gX10_apart_X10_no rfl rfl rfl (by decide +kernel) ⟨Nat.le_of_ble_eq_true rfl, Nat.le_of_ble_eq_true rfl⟩) hP hD hS [2] [0, 1, 3] rfl rfl rfl rfl rfl (by decide) rfl rfl hl.1 rfl rfl (Nat.le_of_ble_eq_true rfl) ⟨Nat.zero_le _, Nat.zero_le _⟩ dX10_apart_40 ?_
      intro H locs hP hD hS
      cases hF
      exact ret_i C0 hP hD hS [3, 2, 0, 1] rfl rfl rfl dX10_apart_43 rfl
  · have hF := it_p c_5 hF
    refine lv_aload_n hx hb dX10_apart_12 rfl (lv_at hl 0 rfl) ?_
    refine lv_iconst (v := (1 : Int32)) hx hb dX10_apart_13 (by decide) ?_
    obtain ⟨u_19, u_20, hu_21, hF⟩ := ob2_some hF
    refine call_i (wr := [aI g (p_t 17) 17 f_t_17, aI g (p_t 25) 17 f_t_25, aI g (p_t 15) 266 f_t_15]) (As := [.int (1 : Int32)]) (rest := []) (ci := 10) (q0 := 0) C0 (mX10_no l g a_t p_t n (1 : Int32) u_1 u_19 u_20 hu_21) (cwV 1 hts gX10_apart_X10_no rfl rfl rfl (by decide +kernel) ⟨Nat.le_of_ble_eq_true rfl, Nat.le_of_ble_eq_true rfl⟩) hP hD hS [2] [0, 1, 3] rfl rfl rfl rfl rfl (by decide) rfl rfl hl.1 rfl rfl (Nat.le_of_ble_eq_true rfl) ⟨Nat.zero_le _, Nat.zero_le _⟩ dX10_apart_14 ?_
    intro H locs hP hD hS
    cases hF
    exact ret_i C0 hP hD hS [3, 2, 0, 1] rfl rfl rfl dX10_apart_17 rfl

theorem dAX10_rounds : ∀ q ∈ ([(0, (.aload_n 0, 1)), (1, (.invokevirtual 159, 3)), (4, (.aload_n 0, 1)), (5, (.getfield 176, 3)), (8, (.ifCond .ne 9, 3)), (11, (.aload_n 0, 1)), (12, (.iconst 1, 1)), (13, (.invokevirtual 162, 3)), (16, (.ireturn, 1)), (17, (.aload_n 0, 1)), (18, (.getfield 26, 3)), (21, (.iconst 0, 1)), (22, (.aload_n 0, 1)), (23, (.getfield 35, 3)), (26, (.iconst 0, 1)), (27, (.bipush 17, 2)), (29, (.invokestatic 168, 3)), (32, (.aload_n 0, 1)), (33, (.aload_n 0, 1)), (34, (.getfield 35, 3)), (37, (.invokevirtual 293, 3)), (40, (.pop, 1)), (41, (.aload_n 0, 1)), (42, (.getfield 256, 3)), (45, (.ireturn, 1))] : List (Nat × (Instr × Nat))), decode cX10_rounds q.1 = .ok q.2 := by decide +kernel
theorem dX10_rounds_0 : decode cX10_rounds 0 = .ok (.aload_n 0, 1) := dAX10_rounds (0, (.aload_n 0, 1)) (List.mem_of_getElem? (i := 0) rfl)
theorem dX10_rounds_1 : decode cX10_rounds 1 = .ok (.invokevirtual 159, 3) := dAX10_rounds (1, (.invokevirtual 159, 3)) (List.mem_of_getElem? (i := 1) rfl)
theorem dX10_rounds_4 : decode cX10_rounds 4 = .ok (.aload_n 0, 1) := dAX10_rounds (4, (.aload_n 0, 1)) (List.mem_of_getElem? (i := 2) rfl)
theorem dX10_rounds_5 : decode cX10_rounds 5 = .ok (.getfield 176, 3) := dAX10_rounds (5, (.getfield 176, 3)) (List.mem_of_getElem? (i := 3) rfl)
theorem dX10_rounds_8 : decode cX10_rounds 8 = .ok (.ifCond .ne 9, 3) := dAX10_rounds (8, (.ifCond .ne 9, 3)) (List.mem_of_getElem? (i := 4) rfl)
theorem dX10_rounds_11 : decode cX10_rounds 11 = .ok (.aload_n 0, 1) := dAX10_rounds (11, (.aload_n 0, 1)) (List.mem_of_getElem? (i := 5) rfl)
theorem dX10_rounds_12 : decode cX10_rounds 12 = .ok (.iconst 1, 1) := dAX10_rounds (12, (.iconst 1, 1)) (List.mem_of_getElem? (i := 6) rfl)
theorem dX10_rounds_13 : decode cX10_rounds 13 = .ok (.invokevirtual 162, 3) := dAX10_rounds (13, (.invokevirtual 162, 3)) (List.mem_of_getElem? (i := 7) rfl)
theorem dX10_rounds_16 : decode cX10_rounds 16 = .ok (.ireturn, 1) := dAX10_rounds (16, (.ireturn, 1)) (List.mem_of_getElem? (i := 8) rfl)
theorem dX10_rounds_17 : decode cX10_rounds 17 = .ok (.aload_n 0, 1) := dAX10_rounds (17, (.aload_n 0, 1)) (List.mem_of_getElem? (i := 9) rfl)
theorem dX10_rounds_18 : decode cX10_rounds 18 = .ok (.getfield 26, 3) := dAX10_rounds (18, (.getfield 26, 3)) (List.mem_of_getElem? (i := 10) rfl)
theorem dX10_rounds_21 : decode cX10_rounds 21 = .ok (.iconst 0, 1) := dAX10_rounds (21, (.iconst 0, 1)) (List.mem_of_getElem? (i := 11) rfl)
theorem dX10_rounds_22 : decode cX10_rounds 22 = .ok (.aload_n 0, 1) := dAX10_rounds (22, (.aload_n 0, 1)) (List.mem_of_getElem? (i := 12) rfl)
theorem dX10_rounds_23 : decode cX10_rounds 23 = .ok (.getfield 35, 3) := dAX10_rounds (23, (.getfield 35, 3)) (List.mem_of_getElem? (i := 13) rfl)
theorem dX10_rounds_26 : decode cX10_rounds 26 = .ok (.iconst 0, 1) := dAX10_rounds (26, (.iconst 0, 1)) (List.mem_of_getElem? (i := 14) rfl)
theorem dX10_rounds_27 : decode cX10_rounds 27 = .ok (.bipush 17, 2) := dAX10_rounds (27, (.bipush 17, 2)) (List.mem_of_getElem? (i := 15) rfl)
theorem dX10_rounds_29 : decode cX10_rounds 29 = .ok (.invokestatic 168, 3) := dAX10_rounds (29, (.invokestatic 168, 3)) (List.mem_of_getElem? (i := 16) rfl)
theorem dX10_rounds_32 : decode cX10_rounds 32 = .ok (.aload_n 0, 1) := dAX10_rounds (32, (.aload_n 0, 1)) (List.mem_of_getElem? (i := 17) rfl)
theorem dX10_rounds_33 : decode cX10_rounds 33 = .ok (.aload_n 0, 1) := dAX10_rounds (33, (.aload_n 0, 1)) (List.mem_of_getElem? (i := 18) rfl)
theorem dX10_rounds_34 : decode cX10_rounds 34 = .ok (.getfield 35, 3) := dAX10_rounds (34, (.getfield 35, 3)) (List.mem_of_getElem? (i := 19) rfl)
theorem dX10_rounds_37 : decode cX10_rounds 37 = .ok (.invokevirtual 293, 3) := dAX10_rounds (37, (.invokevirtual 293, 3)) (List.mem_of_getElem? (i := 20) rfl)
theorem dX10_rounds_40 : decode cX10_rounds 40 = .ok (.pop, 1) := dAX10_rounds (40, (.pop, 1)) (List.mem_of_getElem? (i := 21) rfl)
theorem dX10_rounds_41 : decode cX10_rounds 41 = .ok (.aload_n 0, 1) := dAX10_rounds (41, (.aload_n 0, 1)) (List.mem_of_getElem? (i := 22) rfl)
theorem dX10_rounds_42 : decode cX10_rounds 42 = .ok (.getfield 256, 3) := dAX10_rounds (42, (.getfield 256, 3)) (List.mem_of_getElem? (i := 23) rfl)
theorem dX10_rounds_45 : decode cX10_rounds 45 = .ok (.ireturn, 1) := dAX10_rounds (45, (.ireturn, 1)) (List.mem_of_getElem? (i := 24) rfl)
set_option maxRecDepth 20000 in
theorem ggX10_rounds_X10_good : GoodIn wsX10_rounds wsX10_good := goodIn_r _ [9, 10, 11, 58, 59, 60, 61, 62, 63, 64, 65, 66, 67, 68, 69, 70, 71, 72, 73, 74, 75, 76, 77, 78, 79, 80, 81, 82, 83, 84, 85, 86, 87, 88, 89, 90, 91, 92] rfl (by decide +kernel)
set_option maxRecDepth 20000 in
theorem gX10_rounds_X10_good : GoodIn wsX10_rounds (wsV RX10 159 RX10 yX10_good wsX10_good) := goodIn_app (goodIn_of _ (by decide +kernel)) ggX10_rounds_X10_good
set_option maxRecDepth 20000 in
theorem ggX10_rounds_X10_no : GoodIn wsX10_rounds wsX10_no := goodIn_r _ [15, 11, 58, 59, 60, 61, 62, 63, 64, 65, 66, 67, 68, 69, 70, 71, 72, 73, 74, 75, 76, 77, 78, 79, 80, 81, 82, 83, 84, 85, 86, 87, 88, 89, 90, 91, 92] rfl (by decide +kernel)
set_option maxRecDepth 20000 in
theorem gX10_rounds_X10_no : GoodIn wsX10_rounds (wsV RX10 162 RX10 yX10_no wsX10_no) := goodIn_app (goodIn_of _ (by decide +kernel)) ggX10_rounds_X10_no
set_option maxRecDepth 20000 in
theorem ggX10_rounds_X10_copy : GoodIn wsX10_rounds wsX10_copy := goodIn_r _ [18] rfl (by decide +kernel)
set_option maxRecDepth 20000 in
theorem gX10_rounds_X10_copy : GoodIn wsX10_rounds (va_wsS RX10 168 yX10_copy wsX10_copy) := goodIn_app (goodIn_of _ (by decide +kernel)) ggX10_rounds_X10_copy
set_option maxRecDepth 20000 in
theorem ggX10_rounds_X10_hourOf : GoodIn wsX10_rounds wsX10_hourOf := goodIn_r _ [22, 23, 24, 25, 26, 8, 27, 28, 29, 30, 31, 32, 33, 34, 35, 36, 37, 38, 39, 40, 41, 42, 4, 43, 44, 45, 46, 47, 48, 49, 50, 51, 52, 53, 54, 55, 56, 57, 58, 59, 60, 61, 62, 63, 64, 65, 66, 67, 68, 69, 70, 71, 72, 73, 74, 75, 76, 77, 78, 79, 80, 81, 82, 83, 84, 85, 86, 87, 88, 89, 90, 91, 92] rfl (by decide +kernel)
set_option maxRecDepth 20000 in
theorem gX10_rounds_X10_hourOf : GoodIn wsX10_rounds (wsV RX10 293 RX10 yX10_hourOf wsX10_hourOf) := goodIn_app (goodIn_of _ (by decide +kernel)) ggX10_rounds_X10_hourOf
theorem kX10_rounds_176 : Cond.fieldLink RX10 176 "EveningVowModel" "hasEvening" "Z" ∈ wsX10_rounds := List.mem_of_getElem? (i := 1) rfl
theorem iX10_rounds_X10 : ∀ w ∈ u_ws RX10 TX10 35, w ∈ wsX10_rounds := fun w h => (List.mem_cons_of_mem _ (List.mem_append_right _ h))
theorem kX10_rounds_26 : Cond.fieldLink RX10 26 "EveningVowModel" "st" "[I" ∈ wsX10_rounds := List.mem_of_getElem? (i := 2) rfl
theorem kX10_rounds_35 : Cond.fieldLink RX10 35 "EveningVowModel" "trial" "[I" ∈ wsX10_rounds := List.mem_of_getElem? (i := 3) rfl
theorem kX10_rounds_256 : Cond.fieldLink RX10 256 "EveningVowModel" "roundMany" "I" ∈ wsX10_rounds := List.mem_of_getElem? (i := 4) rfl
set_option maxHeartbeats 4000000 in
set_option maxRecDepth 100000 in
theorem mX10_rounds (l : Launch) (g : GG) (a_t : Nat) (p_t : Nat → Nat) (n : Nat) (o_t : Nat → Int32) (f_t_15 : Nat → Int32) (f_t_17 : Nat → Int32) (f_t_25 : Nat → Int32) (r : Int32) (o_t' : Nat → Int32) (f_t_25' : Nat → Int32) (hF : fX10_rounds n o_t f_t_15 f_t_17 f_t_25 = some (r, o_t', f_t_25')) : MI l g yX10_rounds wsX10_rounds ({ frames := 4, cells := 0, slots := 0, locals := 93 } : Room) [.ref a_t] [oX10 a_t p_t o_t, aI g (p_t 15) 266 f_t_15, aI g (p_t 17) 17 f_t_17, aI g (p_t 25) 17 f_t_25] r [oX10 a_t p_t o_t', aI g (p_t 15) 266 f_t_15, aI g (p_t 17) 17 f_t_17, aI g (p_t 25) 17 f_t_25'] := by
  refine MI.of (cc := cX10_rounds) (maxL := 1) (rt := .int) (own := RX10) rfl rfl (by decide) (Nat.le_of_ble_eq_true rfl) ?_
  intro p e s m args below meth c A C0 hP hD hS ls hl
  obtain ⟨hx, hb, hml, hown, hts, hr, hlk, hK, hA, hSW⟩ := id C0
  have hl : lv_has ls 1 [(0, .ref a_t)] := hl
  rw [fX10_rounds] at hF
  refine lv_aload_n hx hb dX10_rounds_0 rfl (lv_at hl 0 rfl) ?_
  obtain ⟨u_1, hu_2, hF⟩ := ob1_some hF
  refine call_v (wr := [aI g (p_t 15) 266 f_t_15, aI g (p_t 17) 17 f_t_17, aI g (p_t 25) 17 f_t_25]) (As := []) (rest := []) (ci := 10) (q0 := 0) C0 (mX10_good l g a_t p_t n o_t u_1 hu_2) (cwV 0 hts gX10_rounds_X10_good rfl rfl rfl (by decide +kernel) ⟨Nat.le_of_ble_eq_true rfl, Nat.le_of_ble_eq_true rfl⟩) hP hD hS [0] [1, 2, 3] rfl rfl rfl rfl rfl (by decide) rfl rfl hl.1 rfl rfl (Nat.le_of_ble_eq_true rfl) ⟨Nat.zero_le _, Nat.zero_le _⟩ dX10_rounds_1 ?_
  intro H locs hP hD hS
  refine lv_aload_n hx hb dX10_rounds_4 rfl (lv_at hl 0 rfl) ?_
  refine va_get (D := g.1) (ci := 10) (v := .int (u_1 14)) (C := RX10) (T := TX10) (N := 35) hx hb hts iX10_rounds_X10 hown hK.1 hP 3 rfl rfl 14 (by decide) (hts _ kX10_rounds_176) (fun _ h9 => h9) rfl dX10_rounds_5 ?_
  refine lv_if_ne (tgt := 17) hx hb dX10_rounds_8 (by decide) (fun c_3 => ?_) (fun c_3 => ?_)
  · have hF := it_n c_3 hF
    refine lv_aload_n hx hb dX10_rounds_17 rfl (lv_at hl 0 rfl) ?_
    refine va_get (D := g.1) (ci := 10) (v := .ref (p_t 17)) (C := RX10) (T := TX10) (N := 35) hx hb hts iX10_rounds_X10 hown hK.1 hP 3 rfl rfl 17 (by decide) (hts _ kX10_rounds_26) (fun _ h9 => h9) rfl dX10_rounds_18 ?_
    refine lv_iconst (v := (0 : Int32)) hx hb dX10_rounds_21 (by decide) ?_
    refine lv_aload_n hx hb dX10_rounds_22 rfl (lv_at hl 0 rfl) ?_
    refine va_get (D := g.1) (ci := 10) (v := .ref (p_t 25)) (C := RX10) (T := TX10) (N := 35) hx hb hts iX10_rounds_X10 hown hK.1 hP 3 rfl rfl 25 (by decide) (hts _ kX10_rounds_35) (fun _ h9 => h9) rfl dX10_rounds_23 ?_
    refine lv_iconst (v := (0 : Int32)) hx hb dX10_rounds_26 (by decide) ?_
    refine lv_bipush (v := (17 : Int32)) hx hb dX10_rounds_27 (by decide) ?_
    obtain ⟨u_4, hu_5, hF⟩ := ob1_some hF
    refine call_sv (wr := [aI g (p_t 15) 266 f_t_15, oX10 a_t p_t u_1]) (As := [.ref (p_t 17), .int (0 : Int32), .ref (p_t 25), .int (0 : Int32), .int (17 : Int32)]) (rest := []) C0 (mX10_copy l g (p_t 17) (p_t 25) n (0 : Int32) (0 : Int32) (17 : Int32) 17 17 f_t_17 f_t_25 u_4 hu_5) (va_cwS 5 hts gX10_rounds_X10_copy rfl rfl rfl (by decide +kernel) ⟨Nat.le_of_ble_eq_true rfl, Nat.le_of_ble_eq_true rfl⟩) hP hD hS [1, 2] [0, 3] rfl rfl rfl rfl rfl (by decide) hl.1 rfl rfl (Nat.le_of_ble_eq_true rfl) ⟨Nat.zero_le _, Nat.zero_le _⟩ dX10_rounds_29 ?_
    intro H locs hP hD hS
    refine lv_aload_n hx hb dX10_rounds_32 rfl (lv_at hl 0 rfl) ?_
    refine lv_aload_n hx hb dX10_rounds_33 rfl (lv_at hl 0 rfl) ?_
    refine va_get (D := g.1) (ci := 10) (v := .ref (p_t 25)) (C := RX10) (T := TX10) (N := 35) hx hb hts iX10_rounds_X10 hown hK.1 hP 1 rfl rfl 25 (by decide) (hts _ kX10_rounds_35) (fun _ h9 => h9) rfl dX10_rounds_34 ?_
    obtain ⟨u_6, u_7, u_8, hu_9, hF⟩ := ob3_some hF
    refine call_i (wr := [aI g (p_t 17) 17 f_t_17]) (As := [.ref (p_t 25)]) (rest := []) (ci := 10) (q0 := 0) C0 (mX10_hourOf l g a_t (p_t 25) p_t n u_1 f_t_15 u_4 u_6 u_7 u_8 hu_9) (cwV 1 hts gX10_rounds_X10_hourOf rfl rfl rfl (by decide +kernel) ⟨Nat.le_of_ble_eq_true rfl, Nat.le_of_ble_eq_true rfl⟩) hP hD hS [1, 0, 3] [2] rfl rfl rfl rfl rfl (by decide) rfl rfl hl.1 rfl rfl (Nat.le_of_ble_eq_true rfl) ⟨Nat.zero_le _, Nat.zero_le _⟩ dX10_rounds_37 ?_
    intro H locs hP hD hS
    refine lv_pop hx hb dX10_rounds_40 rfl ?_
    refine lv_aload_n hx hb dX10_rounds_41 rfl (lv_at hl 0 rfl) ?_
    refine va_get (D := g.1) (ci := 10) (v := .int (u_7 22)) (C := RX10) (T := TX10) (N := 35) hx hb hts iX10_rounds_X10 hown hK.1 hP 1 rfl rfl 22 (by decide) (hts _ kX10_rounds_256) (fun _ h9 => h9) rfl dX10_rounds_42 ?_
    cases hF
    exact ret_i C0 hP hD hS [1, 2, 0, 3] rfl rfl rfl dX10_rounds_45 rfl
  · have hF := it_p c_3 hF
    refine lv_aload_n hx hb dX10_rounds_11 rfl (lv_at hl 0 rfl) ?_
    refine lv_iconst (v := (1 : Int32)) hx hb dX10_rounds_12 (by decide) ?_
    obtain ⟨u_10, u_11, hu_12, hF⟩ := ob2_some hF
    refine call_i (wr := [aI g (p_t 15) 266 f_t_15, aI g (p_t 17) 17 f_t_17, aI g (p_t 25) 17 f_t_25]) (As := [.int (1 : Int32)]) (rest := []) (ci := 10) (q0 := 0) C0 (mX10_no l g a_t p_t n (1 : Int32) u_1 u_10 u_11 hu_12) (cwV 1 hts gX10_rounds_X10_no rfl rfl rfl (by decide +kernel) ⟨Nat.le_of_ble_eq_true rfl, Nat.le_of_ble_eq_true rfl⟩) hP hD hS [3] [0, 1, 2] rfl rfl rfl rfl rfl (by decide) rfl rfl hl.1 rfl rfl (Nat.le_of_ble_eq_true rfl) ⟨Nat.zero_le _, Nat.zero_le _⟩ dX10_rounds_13 ?_
    intro H locs hP hD hS
    cases hF
    exact ret_i C0 hP hD hS [3, 0, 1, 2] rfl rfl rfl dX10_rounds_16 rfl

theorem dAX10_byGrief : ∀ q ∈ ([(0, (.aload_n 0, 1)), (1, (.invokevirtual 159, 3)), (4, (.aload_n 0, 1)), (5, (.getfield 176, 3)), (8, (.ifCond .ne 9, 3)), (11, (.aload_n 0, 1)), (12, (.iconst 1, 1)), (13, (.invokevirtual 162, 3)), (16, (.ireturn, 1)), (17, (.iload_n 1, 1)), (18, (.iconst 0, 1)), (19, (.bipush 40, 2)), (21, (.invokestatic 144, 3)), (24, (.ifCond .ne 9, 3)), (27, (.aload_n 0, 1)), (28, (.iconst 2, 1)), (29, (.invokevirtual 162, 3)), (32, (.ireturn, 1)), (33, (.aload_n 0, 1)), (34, (.getfield 20, 3)), (37, (.iconst 2, 1)), (38, (.iaload, 1)), (39, (.istore_n 2, 1)), (40, (.aload_n 0, 1)), (41, (.getfield 20, 3)), (44, (.iconst 2, 1)), (45, (.iload_n 1, 1)), (46, (.iastore, 1)), (47, (.aload_n 0, 1)), (48, (.invokevirtual 309, 3)), (51, (.istore_n 3, 1)), (52, (.aload_n 0, 1)), (53, (.getfield 20, 3)), (56, (.iconst 2, 1)), (57, (.iload_n 2, 1)), (58, (.iastore, 1)), (59, (.iload_n 3, 1)), (60, (.ireturn, 1))] : List (Nat × (Instr × Nat))), decode cX10_byGrief q.1 = .ok q.2 := by decide +kernel
theorem dX10_byGrief_0 : decode cX10_byGrief 0 = .ok (.aload_n 0, 1) := dAX10_byGrief (0, (.aload_n 0, 1)) (List.mem_of_getElem? (i := 0) rfl)
theorem dX10_byGrief_1 : decode cX10_byGrief 1 = .ok (.invokevirtual 159, 3) := dAX10_byGrief (1, (.invokevirtual 159, 3)) (List.mem_of_getElem? (i := 1) rfl)
theorem dX10_byGrief_4 : decode cX10_byGrief 4 = .ok (.aload_n 0, 1) := dAX10_byGrief (4, (.aload_n 0, 1)) (List.mem_of_getElem? (i := 2) rfl)
theorem dX10_byGrief_5 : decode cX10_byGrief 5 = .ok (.getfield 176, 3) := dAX10_byGrief (5, (.getfield 176, 3)) (List.mem_of_getElem? (i := 3) rfl)
theorem dX10_byGrief_8 : decode cX10_byGrief 8 = .ok (.ifCond .ne 9, 3) := dAX10_byGrief (8, (.ifCond .ne 9, 3)) (List.mem_of_getElem? (i := 4) rfl)
theorem dX10_byGrief_11 : decode cX10_byGrief 11 = .ok (.aload_n 0, 1) := dAX10_byGrief (11, (.aload_n 0, 1)) (List.mem_of_getElem? (i := 5) rfl)
theorem dX10_byGrief_12 : decode cX10_byGrief 12 = .ok (.iconst 1, 1) := dAX10_byGrief (12, (.iconst 1, 1)) (List.mem_of_getElem? (i := 6) rfl)
theorem dX10_byGrief_13 : decode cX10_byGrief 13 = .ok (.invokevirtual 162, 3) := dAX10_byGrief (13, (.invokevirtual 162, 3)) (List.mem_of_getElem? (i := 7) rfl)
theorem dX10_byGrief_16 : decode cX10_byGrief 16 = .ok (.ireturn, 1) := dAX10_byGrief (16, (.ireturn, 1)) (List.mem_of_getElem? (i := 8) rfl)
theorem dX10_byGrief_17 : decode cX10_byGrief 17 = .ok (.iload_n 1, 1) := dAX10_byGrief (17, (.iload_n 1, 1)) (List.mem_of_getElem? (i := 9) rfl)
theorem dX10_byGrief_18 : decode cX10_byGrief 18 = .ok (.iconst 0, 1) := dAX10_byGrief (18, (.iconst 0, 1)) (List.mem_of_getElem? (i := 10) rfl)
theorem dX10_byGrief_19 : decode cX10_byGrief 19 = .ok (.bipush 40, 2) := dAX10_byGrief (19, (.bipush 40, 2)) (List.mem_of_getElem? (i := 11) rfl)
theorem dX10_byGrief_21 : decode cX10_byGrief 21 = .ok (.invokestatic 144, 3) := dAX10_byGrief (21, (.invokestatic 144, 3)) (List.mem_of_getElem? (i := 12) rfl)
theorem dX10_byGrief_24 : decode cX10_byGrief 24 = .ok (.ifCond .ne 9, 3) := dAX10_byGrief (24, (.ifCond .ne 9, 3)) (List.mem_of_getElem? (i := 13) rfl)
theorem dX10_byGrief_27 : decode cX10_byGrief 27 = .ok (.aload_n 0, 1) := dAX10_byGrief (27, (.aload_n 0, 1)) (List.mem_of_getElem? (i := 14) rfl)
theorem dX10_byGrief_28 : decode cX10_byGrief 28 = .ok (.iconst 2, 1) := dAX10_byGrief (28, (.iconst 2, 1)) (List.mem_of_getElem? (i := 15) rfl)
theorem dX10_byGrief_29 : decode cX10_byGrief 29 = .ok (.invokevirtual 162, 3) := dAX10_byGrief (29, (.invokevirtual 162, 3)) (List.mem_of_getElem? (i := 16) rfl)
theorem dX10_byGrief_32 : decode cX10_byGrief 32 = .ok (.ireturn, 1) := dAX10_byGrief (32, (.ireturn, 1)) (List.mem_of_getElem? (i := 17) rfl)
theorem dX10_byGrief_33 : decode cX10_byGrief 33 = .ok (.aload_n 0, 1) := dAX10_byGrief (33, (.aload_n 0, 1)) (List.mem_of_getElem? (i := 18) rfl)
theorem dX10_byGrief_34 : decode cX10_byGrief 34 = .ok (.getfield 20, 3) := dAX10_byGrief (34, (.getfield 20, 3)) (List.mem_of_getElem? (i := 19) rfl)
theorem dX10_byGrief_37 : decode cX10_byGrief 37 = .ok (.iconst 2, 1) := dAX10_byGrief (37, (.iconst 2, 1)) (List.mem_of_getElem? (i := 20) rfl)
theorem dX10_byGrief_38 : decode cX10_byGrief 38 = .ok (.iaload, 1) := dAX10_byGrief (38, (.iaload, 1)) (List.mem_of_getElem? (i := 21) rfl)
theorem dX10_byGrief_39 : decode cX10_byGrief 39 = .ok (.istore_n 2, 1) := dAX10_byGrief (39, (.istore_n 2, 1)) (List.mem_of_getElem? (i := 22) rfl)
theorem dX10_byGrief_40 : decode cX10_byGrief 40 = .ok (.aload_n 0, 1) := dAX10_byGrief (40, (.aload_n 0, 1)) (List.mem_of_getElem? (i := 23) rfl)
theorem dX10_byGrief_41 : decode cX10_byGrief 41 = .ok (.getfield 20, 3) := dAX10_byGrief (41, (.getfield 20, 3)) (List.mem_of_getElem? (i := 24) rfl)
theorem dX10_byGrief_44 : decode cX10_byGrief 44 = .ok (.iconst 2, 1) := dAX10_byGrief (44, (.iconst 2, 1)) (List.mem_of_getElem? (i := 25) rfl)
theorem dX10_byGrief_45 : decode cX10_byGrief 45 = .ok (.iload_n 1, 1) := dAX10_byGrief (45, (.iload_n 1, 1)) (List.mem_of_getElem? (i := 26) rfl)
theorem dX10_byGrief_46 : decode cX10_byGrief 46 = .ok (.iastore, 1) := dAX10_byGrief (46, (.iastore, 1)) (List.mem_of_getElem? (i := 27) rfl)
theorem dX10_byGrief_47 : decode cX10_byGrief 47 = .ok (.aload_n 0, 1) := dAX10_byGrief (47, (.aload_n 0, 1)) (List.mem_of_getElem? (i := 28) rfl)
theorem dX10_byGrief_48 : decode cX10_byGrief 48 = .ok (.invokevirtual 309, 3) := dAX10_byGrief (48, (.invokevirtual 309, 3)) (List.mem_of_getElem? (i := 29) rfl)
theorem dX10_byGrief_51 : decode cX10_byGrief 51 = .ok (.istore_n 3, 1) := dAX10_byGrief (51, (.istore_n 3, 1)) (List.mem_of_getElem? (i := 30) rfl)
theorem dX10_byGrief_52 : decode cX10_byGrief 52 = .ok (.aload_n 0, 1) := dAX10_byGrief (52, (.aload_n 0, 1)) (List.mem_of_getElem? (i := 31) rfl)
theorem dX10_byGrief_53 : decode cX10_byGrief 53 = .ok (.getfield 20, 3) := dAX10_byGrief (53, (.getfield 20, 3)) (List.mem_of_getElem? (i := 32) rfl)
theorem dX10_byGrief_56 : decode cX10_byGrief 56 = .ok (.iconst 2, 1) := dAX10_byGrief (56, (.iconst 2, 1)) (List.mem_of_getElem? (i := 33) rfl)
theorem dX10_byGrief_57 : decode cX10_byGrief 57 = .ok (.iload_n 2, 1) := dAX10_byGrief (57, (.iload_n 2, 1)) (List.mem_of_getElem? (i := 34) rfl)
theorem dX10_byGrief_58 : decode cX10_byGrief 58 = .ok (.iastore, 1) := dAX10_byGrief (58, (.iastore, 1)) (List.mem_of_getElem? (i := 35) rfl)
theorem dX10_byGrief_59 : decode cX10_byGrief 59 = .ok (.iload_n 3, 1) := dAX10_byGrief (59, (.iload_n 3, 1)) (List.mem_of_getElem? (i := 36) rfl)
theorem dX10_byGrief_60 : decode cX10_byGrief 60 = .ok (.ireturn, 1) := dAX10_byGrief (60, (.ireturn, 1)) (List.mem_of_getElem? (i := 37) rfl)
set_option maxRecDepth 20000 in
theorem ggX10_byGrief_X10_good : GoodIn wsX10_byGrief wsX10_good := goodIn_r _ [7, 8, 9, 76, 77, 78, 79, 80, 81, 82, 83, 84, 85, 86, 87, 88, 89, 90, 91, 92, 93, 94, 95, 96, 97, 98, 99, 100, 101, 102, 103, 104, 105, 106, 107, 108, 109, 110] rfl (by decide +kernel)
set_option maxRecDepth 20000 in
theorem gX10_byGrief_X10_good : GoodIn wsX10_byGrief (wsV RX10 159 RX10 yX10_good wsX10_good) := goodIn_app (goodIn_of _ (by decide +kernel)) ggX10_byGrief_X10_good
set_option maxRecDepth 20000 in
theorem ggX10_byGrief_X10_no : GoodIn wsX10_byGrief wsX10_no := goodIn_r _ [13, 9, 76, 77, 78, 79, 80, 81, 82, 83, 84, 85, 86, 87, 88, 89, 90, 91, 92, 93, 94, 95, 96, 97, 98, 99, 100, 101, 102, 103, 104, 105, 106, 107, 108, 109, 110] rfl (by decide +kernel)
set_option maxRecDepth 20000 in
theorem gX10_byGrief_X10_no : GoodIn wsX10_byGrief (wsV RX10 162 RX10 yX10_no wsX10_no) := goodIn_app (goodIn_of _ (by decide +kernel)) ggX10_byGrief_X10_no
set_option maxRecDepth 20000 in
theorem ggX10_byGrief_X10_in : GoodIn wsX10_byGrief wsX10_in := goodIn_r _ [16] rfl (by decide +kernel)
set_option maxRecDepth 20000 in
theorem gX10_byGrief_X10_in : GoodIn wsX10_byGrief (va_wsS RX10 144 yX10_in wsX10_in) := goodIn_app (goodIn_of _ (by decide +kernel)) ggX10_byGrief_X10_in
set_option maxRecDepth 20000 in
theorem ggX10_byGrief_X10_endsNow : GoodIn wsX10_byGrief wsX10_endsNow := goodIn_r _ [20, 21, 22, 23, 24, 6, 25, 26, 27, 28, 29, 30, 31, 32, 33, 34, 2, 35, 36, 37, 38, 39, 40, 41, 42, 43, 44, 45, 46, 47, 48, 49, 50, 51, 52, 53, 54, 55, 56, 57, 58, 59, 60, 61, 62, 63, 64, 65, 66, 67, 68, 69, 70, 71, 72, 73, 74, 75, 76, 77, 78, 79, 80, 81, 82, 83, 84, 85, 86, 87, 88, 89, 90, 91, 92, 93, 94, 95, 96, 97, 98, 99, 100, 101, 102, 103, 104, 105, 106, 107, 108, 109, 110] rfl (by decide +kernel)
set_option maxRecDepth 20000 in
theorem gX10_byGrief_X10_endsNow : GoodIn wsX10_byGrief (wsV RX10 309 RX10 yX10_endsNow wsX10_endsNow) := goodIn_app (goodIn_of _ (by decide +kernel)) ggX10_byGrief_X10_endsNow
theorem kX10_byGrief_176 : Cond.fieldLink RX10 176 "EveningVowModel" "hasEvening" "Z" ∈ wsX10_byGrief := List.mem_of_getElem? (i := 1) rfl
theorem iX10_byGrief_X10 : ∀ w ∈ u_ws RX10 TX10 35, w ∈ wsX10_byGrief := fun w h => (List.mem_cons_of_mem _ (List.mem_append_right _ h))
theorem kX10_byGrief_20 : Cond.fieldLink RX10 20 "EveningVowModel" "\x72" "[I" ∈ wsX10_byGrief := List.mem_of_getElem? (i := 2) rfl
set_option maxHeartbeats 4000000 in
set_option maxRecDepth 100000 in
theorem mX10_byGrief (l : Launch) (g : GG) (a_t : Nat) (p_t : Nat → Nat) (n : Nat) (x1 : Int32) (o_t : Nat → Int32) (f_t_15 : Nat → Int32) (f_t_17 : Nat → Int32) (f_t_25 : Nat → Int32) (r : Int32) (o_t' : Nat → Int32) (f_t_15' : Nat → Int32) (f_t_25' : Nat → Int32) (hF : fX10_byGrief n x1 o_t f_t_15 f_t_17 f_t_25 = some (r, o_t', f_t_15', f_t_25')) : MI l g yX10_byGrief wsX10_byGrief ({ frames := 6, cells := 0, slots := 0, locals := 136 } : Room) [.ref a_t, .int x1] [oX10 a_t p_t o_t, aI g (p_t 15) 266 f_t_15, aI g (p_t 17) 17 f_t_17, aI g (p_t 25) 17 f_t_25] r [oX10 a_t p_t o_t', aI g (p_t 15) 266 f_t_15', aI g (p_t 17) 17 f_t_17, aI g (p_t 25) 17 f_t_25'] := by
  refine MI.of (cc := cX10_byGrief) (maxL := 4) (rt := .int) (own := RX10) rfl rfl (by decide) (Nat.le_of_ble_eq_true rfl) ?_
  intro p e s m args below meth c A C0 hP hD hS ls hl
  obtain ⟨hx, hb, hml, hown, hts, hr, hlk, hK, hA, hSW⟩ := id C0
  have hl : lv_has ls 4 [(0, .ref a_t), (1, .int x1)] := hl
  rw [fX10_byGrief] at hF
  refine lv_aload_n hx hb dX10_byGrief_0 rfl (lv_at hl 0 rfl) ?_
  obtain ⟨u_1, hu_2, hF⟩ := ob1_some hF
  refine call_v (wr := [aI g (p_t 15) 266 f_t_15, aI g (p_t 17) 17 f_t_17, aI g (p_t 25) 17 f_t_25]) (As := []) (rest := []) (ci := 10) (q0 := 0) C0 (mX10_good l g a_t p_t n o_t u_1 hu_2) (cwV 0 hts gX10_byGrief_X10_good rfl rfl rfl (by decide +kernel) ⟨Nat.le_of_ble_eq_true rfl, Nat.le_of_ble_eq_true rfl⟩) hP hD hS [0] [1, 2, 3] rfl rfl rfl rfl rfl (by decide) rfl rfl hl.1 rfl rfl (Nat.le_of_ble_eq_true rfl) ⟨Nat.zero_le _, Nat.zero_le _⟩ dX10_byGrief_1 ?_
  intro H locs hP hD hS
  refine lv_aload_n hx hb dX10_byGrief_4 rfl (lv_at hl 0 rfl) ?_
  refine va_get (D := g.1) (ci := 10) (v := .int (u_1 14)) (C := RX10) (T := TX10) (N := 35) hx hb hts iX10_byGrief_X10 hown hK.1 hP 3 rfl rfl 14 (by decide) (hts _ kX10_byGrief_176) (fun _ h9 => h9) rfl dX10_byGrief_5 ?_
  refine lv_if_ne (tgt := 17) hx hb dX10_byGrief_8 (by decide) (fun c_3 => ?_) (fun c_3 => ?_)
  · have hF := it_n c_3 hF
    refine lv_iload_n hx hb dX10_byGrief_17 rfl (lv_at hl 1 rfl) ?_
    refine lv_iconst (v := (0 : Int32)) hx hb dX10_byGrief_18 (by decide) ?_
    refine lv_bipush (v := (40 : Int32)) hx hb dX10_byGrief_19 (by decide) ?_
    obtain ⟨u_4, hu_5, hF⟩ := ob1_some hF
    refine call_si (wr := [aI g (p_t 15) 266 f_t_15, aI g (p_t 17) 17 f_t_17, aI g (p_t 25) 17 f_t_25, oX10 a_t p_t u_1]) (As := [.int x1, .int (0 : Int32), .int (40 : Int32)]) (rest := []) C0 (mX10_in l g n x1 (0 : Int32) (40 : Int32) u_4 hu_5) (va_cwS 3 hts gX10_byGrief_X10_in rfl rfl rfl (by decide +kernel) ⟨Nat.le_of_ble_eq_true rfl, Nat.le_of_ble_eq_true rfl⟩) hP hD hS [] [0, 1, 2, 3] rfl rfl rfl rfl rfl (by decide) hl.1 rfl rfl (Nat.le_of_ble_eq_true rfl) ⟨Nat.zero_le _, Nat.zero_le _⟩ dX10_byGrief_21 ?_
    intro H locs hP hD hS
    refine lv_if_ne (tgt := 33) hx hb dX10_byGrief_24 (by decide) (fun c_6 => ?_) (fun c_6 => ?_)
    · have hF := it_n c_6 hF
      refine lv_aload_n hx hb dX10_byGrief_33 rfl (lv_at hl 0 rfl) ?_
      refine va_get (D := g.1) (ci := 10) (v := .ref (p_t 15)) (C := RX10) (T := TX10) (N := 35) hx hb hts iX10_byGrief_X10 hown hK.1 hP 3 rfl rfl 15 (by decide) (hts _ kX10_byGrief_20) (fun _ h9 => h9) rfl dX10_byGrief_34 ?_
      refine lv_iconst (v := (2 : Int32)) hx hb dX10_byGrief_37 (by decide) ?_
      refine va_iald_k (j := 2) hx hb hK.1 hP 0 0 rfl rfl (by unfold vp_in; decide) rfl dX10_byGrief_38 ?_
      refine lv_istore_n (lv' := [(2, .int (f_t_15 2)), (0, .ref a_t), (1, .int x1)]) hx hb dX10_byGrief_39 rfl hl (by decide) rfl (fun ls hl => ?_)
      refine lv_aload_n hx hb dX10_byGrief_40 rfl (lv_at hl 1 rfl) ?_
      refine va_get (D := g.1) (ci := 10) (v := .ref (p_t 15)) (C := RX10) (T := TX10) (N := 35) hx hb hts iX10_byGrief_X10 hown hK.1 hP 3 rfl rfl 15 (by decide) (hts _ kX10_byGrief_20) (fun _ h9 => h9) rfl dX10_byGrief_41 ?_
      refine lv_iconst (v := (2 : Int32)) hx hb dX10_byGrief_44 (by decide) ?_
      refine lv_iload_n hx hb dX10_byGrief_45 rfl (lv_at hl 2 rfl) ?_
      refine va_iast hx hb hK.1 hP hD hS 0 0 rfl rfl (by unfold vp_in; decide) dX10_byGrief_46 (fun H locs hP hD hS => ?_)
      have hP : va_P g.1 vwCl [aI g (p_t 15) 266 (upd f_t_15 2 x1), aI g (p_t 17) 17 f_t_17, aI g (p_t 25) 17 f_t_25, oX10 a_t p_t u_1] H := hP
      have hD : va_D A [aI g (p_t 15) 266 (upd f_t_15 2 x1), aI g (p_t 17) 17 f_t_17, aI g (p_t 25) 17 f_t_25, oX10 a_t p_t u_1] := hD
      refine lv_aload_n hx hb dX10_byGrief_47 rfl (lv_at hl 1 rfl) ?_
      obtain ⟨u_7, u_8, u_9, hu_10, hF⟩ := ob3_some hF
      refine call_i (wr := []) (As := []) (rest := []) (ci := 10) (q0 := 0) C0 (mX10_endsNow l g a_t p_t n u_1 (upd f_t_15 2 x1) f_t_17 f_t_25 u_7 u_8 u_9 hu_10) (cwV 0 hts gX10_byGrief_X10_endsNow rfl rfl rfl (by decide +kernel) ⟨Nat.le_of_ble_eq_true rfl, Nat.le_of_ble_eq_true rfl⟩) hP hD hS [3, 0, 1, 2] [] rfl rfl rfl rfl rfl (by decide) rfl rfl hl.1 rfl rfl (Nat.le_of_ble_eq_true rfl) ⟨Nat.zero_le _, Nat.zero_le _⟩ dX10_byGrief_48 ?_
      intro H locs hP hD hS
      refine lv_istore_n (lv' := [(3, .int u_7), (2, .int (f_t_15 2)), (0, .ref a_t), (1, .int x1)]) hx hb dX10_byGrief_51 rfl hl (by decide) rfl (fun ls hl => ?_)
      refine lv_aload_n hx hb dX10_byGrief_52 rfl (lv_at hl 2 rfl) ?_
      refine va_get (D := g.1) (ci := 10) (v := .ref (p_t 15)) (C := RX10) (T := TX10) (N := 35) hx hb hts iX10_byGrief_X10 hown hK.1 hP 0 rfl rfl 15 (by decide) (hts _ kX10_byGrief_20) (fun _ h9 => h9) rfl dX10_byGrief_53 ?_
      refine lv_iconst (v := (2 : Int32)) hx hb dX10_byGrief_56 (by decide) ?_
      refine lv_iload_n hx hb dX10_byGrief_57 rfl (lv_at hl 1 rfl) ?_
      refine va_iast hx hb hK.1 hP hD hS 1 0 rfl rfl (by unfold vp_in; decide) dX10_byGrief_58 (fun H locs hP hD hS => ?_)
      have hP : va_P g.1 vwCl [oX10 a_t p_t u_8, aI g (p_t 15) 266 (upd (upd f_t_15 2 x1) 2 (f_t_15 2)), aI g (p_t 17) 17 f_t_17, aI g (p_t 25) 17 u_9] H := hP
      have hD : va_D A [oX10 a_t p_t u_8, aI g (p_t 15) 266 (upd (upd f_t_15 2 x1) 2 (f_t_15 2)), aI g (p_t 17) 17 f_t_17, aI g (p_t 25) 17 u_9] := hD
      refine lv_iload_n hx hb dX10_byGrief_59 rfl (lv_at hl 0 rfl) ?_
      cases hF
      exact ret_i C0 hP hD hS [0, 1, 2, 3] rfl rfl rfl dX10_byGrief_60 rfl
    · have hF := it_p c_6 hF
      refine lv_aload_n hx hb dX10_byGrief_27 rfl (lv_at hl 0 rfl) ?_
      refine lv_iconst (v := (2 : Int32)) hx hb dX10_byGrief_28 (by decide) ?_
      obtain ⟨u_11, u_12, hu_13, hF⟩ := ob2_some hF
      refine call_i (wr := [aI g (p_t 15) 266 f_t_15, aI g (p_t 17) 17 f_t_17, aI g (p_t 25) 17 f_t_25]) (As := [.int (2 : Int32)]) (rest := []) (ci := 10) (q0 := 0) C0 (mX10_no l g a_t p_t n (2 : Int32) u_1 u_11 u_12 hu_13) (cwV 1 hts gX10_byGrief_X10_no rfl rfl rfl (by decide +kernel) ⟨Nat.le_of_ble_eq_true rfl, Nat.le_of_ble_eq_true rfl⟩) hP hD hS [3] [0, 1, 2] rfl rfl rfl rfl rfl (by decide) rfl rfl hl.1 rfl rfl (Nat.le_of_ble_eq_true rfl) ⟨Nat.zero_le _, Nat.zero_le _⟩ dX10_byGrief_29 ?_
      intro H locs hP hD hS
      cases hF
      exact ret_i C0 hP hD hS [3, 0, 1, 2] rfl rfl rfl dX10_byGrief_32 rfl
  · have hF := it_p c_3 hF
    refine lv_aload_n hx hb dX10_byGrief_11 rfl (lv_at hl 0 rfl) ?_
    refine lv_iconst (v := (1 : Int32)) hx hb dX10_byGrief_12 (by decide) ?_
    obtain ⟨u_14, u_15, hu_16, hF⟩ := ob2_some hF
    refine call_i (wr := [aI g (p_t 15) 266 f_t_15, aI g (p_t 17) 17 f_t_17, aI g (p_t 25) 17 f_t_25]) (As := [.int (1 : Int32)]) (rest := []) (ci := 10) (q0 := 0) C0 (mX10_no l g a_t p_t n (1 : Int32) u_1 u_14 u_15 hu_16) (cwV 1 hts gX10_byGrief_X10_no rfl rfl rfl (by decide +kernel) ⟨Nat.le_of_ble_eq_true rfl, Nat.le_of_ble_eq_true rfl⟩) hP hD hS [3] [0, 1, 2] rfl rfl rfl rfl rfl (by decide) rfl rfl hl.1 rfl rfl (Nat.le_of_ble_eq_true rfl) ⟨Nat.zero_le _, Nat.zero_le _⟩ dX10_byGrief_13 ?_
    intro H locs hP hD hS
    cases hF
    exact ret_i C0 hP hD hS [3, 0, 1, 2] rfl rfl rfl dX10_byGrief_16 rfl

theorem dAX10_tireFor : ∀ q ∈ ([(0, (.aload_n 0, 1)), (1, (.invokevirtual 159, 3)), (4, (.aload_n 0, 1)), (5, (.getfield 176, 3)), (8, (.ifCond .ne 9, 3)), (11, (.aload_n 0, 1)), (12, (.iconst 1, 1)), (13, (.invokevirtual 162, 3)), (16, (.ireturn, 1)), (17, (.iload_n 1, 1)), (18, (.iconst 0, 1)), (19, (.bipush 60, 2)), (21, (.invokestatic 144, 3)), (24, (.ifCond .ne 9, 3)), (27, (.aload_n 0, 1)), (28, (.iconst 2, 1)), (29, (.invokevirtual 162, 3)), (32, (.ireturn, 1)), (33, (.iconst 0, 1)), (34, (.istore_n 2, 1)), (35, (.iload_n 2, 1)), (36, (.sipush 200, 3)), (39, (.if_icmp .gt 86, 3)), (42, (.aload_n 0, 1)), (43, (.getfield 26, 3)), (46, (.iconst 0, 1)), (47, (.aload_n 0, 1)), (48, (.getfield 35, 3)), (51, (.iconst 0, 1)), (52, (.bipush 17, 2)), (54, (.invokestatic 168, 3)), (57, (.iconst 0, 1)), (58, (.istore_n 3, 1)), (59, (.iload_n 3, 1)), (60, (.aload_n 0, 1)), (61, (.getfield 20, 3)), (64, (.iconst 3, 1)), (65, (.iaload, 1)), (66, (.if_icmp .ge 34, 3)), (69, (.aload_n 0, 1)), (70, (.getfield 35, 3)), (73, (.iload_n 3, 1)), (74, (.dup2, 1)), (75, (.iaload, 1)), (76, (.aload_n 0, 1)), (77, (.getfield 35, 3)), (80, (.iload_n 3, 1)), (81, (.invokestatic 248, 3)), (84, (.ifCond .eq 7, 3)), (87, (.iload_n 2, 1)), (88, (.goto 4, 3)), (91, (.iconst 0, 1)), (92, (.isub, 1)), (93, (.iastore, 1)), (94, (.iinc 3 1, 3)), (97, (.goto (-38), 3)), (100, (.aload_n 0, 1)), (101, (.aload_n 0, 1)), (102, (.getfield 35, 3)), (105, (.iconst 0, 1)), (106, (.invokevirtual 296, 3)), (109, (.iconst 0, 1)), (110, (.iload_n 1, 1)), (111, (.invokestatic 144, 3)), (114, (.ifCond .eq 5, 3)), (117, (.iload_n 2, 1)), (118, (.ireturn, 1)), (119, (.iinc 2 1, 3)), (122, (.goto (-87), 3)), (125, (.bipush (-2), 2)), (127, (.ireturn, 1))] : List (Nat × (Instr × Nat))), decode cX10_tireFor q.1 = .ok q.2 := by decide +kernel
theorem dX10_tireFor_0 : decode cX10_tireFor 0 = .ok (.aload_n 0, 1) := dAX10_tireFor (0, (.aload_n 0, 1)) (List.mem_of_getElem? (i := 0) rfl)
theorem dX10_tireFor_1 : decode cX10_tireFor 1 = .ok (.invokevirtual 159, 3) := dAX10_tireFor (1, (.invokevirtual 159, 3)) (List.mem_of_getElem? (i := 1) rfl)
theorem dX10_tireFor_4 : decode cX10_tireFor 4 = .ok (.aload_n 0, 1) := dAX10_tireFor (4, (.aload_n 0, 1)) (List.mem_of_getElem? (i := 2) rfl)
theorem dX10_tireFor_5 : decode cX10_tireFor 5 = .ok (.getfield 176, 3) := dAX10_tireFor (5, (.getfield 176, 3)) (List.mem_of_getElem? (i := 3) rfl)
theorem dX10_tireFor_8 : decode cX10_tireFor 8 = .ok (.ifCond .ne 9, 3) := dAX10_tireFor (8, (.ifCond .ne 9, 3)) (List.mem_of_getElem? (i := 4) rfl)
theorem dX10_tireFor_11 : decode cX10_tireFor 11 = .ok (.aload_n 0, 1) := dAX10_tireFor (11, (.aload_n 0, 1)) (List.mem_of_getElem? (i := 5) rfl)
theorem dX10_tireFor_12 : decode cX10_tireFor 12 = .ok (.iconst 1, 1) := dAX10_tireFor (12, (.iconst 1, 1)) (List.mem_of_getElem? (i := 6) rfl)
theorem dX10_tireFor_13 : decode cX10_tireFor 13 = .ok (.invokevirtual 162, 3) := dAX10_tireFor (13, (.invokevirtual 162, 3)) (List.mem_of_getElem? (i := 7) rfl)
theorem dX10_tireFor_16 : decode cX10_tireFor 16 = .ok (.ireturn, 1) := dAX10_tireFor (16, (.ireturn, 1)) (List.mem_of_getElem? (i := 8) rfl)
theorem dX10_tireFor_17 : decode cX10_tireFor 17 = .ok (.iload_n 1, 1) := dAX10_tireFor (17, (.iload_n 1, 1)) (List.mem_of_getElem? (i := 9) rfl)
theorem dX10_tireFor_18 : decode cX10_tireFor 18 = .ok (.iconst 0, 1) := dAX10_tireFor (18, (.iconst 0, 1)) (List.mem_of_getElem? (i := 10) rfl)
theorem dX10_tireFor_19 : decode cX10_tireFor 19 = .ok (.bipush 60, 2) := dAX10_tireFor (19, (.bipush 60, 2)) (List.mem_of_getElem? (i := 11) rfl)
theorem dX10_tireFor_21 : decode cX10_tireFor 21 = .ok (.invokestatic 144, 3) := dAX10_tireFor (21, (.invokestatic 144, 3)) (List.mem_of_getElem? (i := 12) rfl)
theorem dX10_tireFor_24 : decode cX10_tireFor 24 = .ok (.ifCond .ne 9, 3) := dAX10_tireFor (24, (.ifCond .ne 9, 3)) (List.mem_of_getElem? (i := 13) rfl)
theorem dX10_tireFor_27 : decode cX10_tireFor 27 = .ok (.aload_n 0, 1) := dAX10_tireFor (27, (.aload_n 0, 1)) (List.mem_of_getElem? (i := 14) rfl)
theorem dX10_tireFor_28 : decode cX10_tireFor 28 = .ok (.iconst 2, 1) := dAX10_tireFor (28, (.iconst 2, 1)) (List.mem_of_getElem? (i := 15) rfl)
theorem dX10_tireFor_29 : decode cX10_tireFor 29 = .ok (.invokevirtual 162, 3) := dAX10_tireFor (29, (.invokevirtual 162, 3)) (List.mem_of_getElem? (i := 16) rfl)
theorem dX10_tireFor_32 : decode cX10_tireFor 32 = .ok (.ireturn, 1) := dAX10_tireFor (32, (.ireturn, 1)) (List.mem_of_getElem? (i := 17) rfl)
theorem dX10_tireFor_33 : decode cX10_tireFor 33 = .ok (.iconst 0, 1) := dAX10_tireFor (33, (.iconst 0, 1)) (List.mem_of_getElem? (i := 18) rfl)
theorem dX10_tireFor_34 : decode cX10_tireFor 34 = .ok (.istore_n 2, 1) := dAX10_tireFor (34, (.istore_n 2, 1)) (List.mem_of_getElem? (i := 19) rfl)
theorem dX10_tireFor_35 : decode cX10_tireFor 35 = .ok (.iload_n 2, 1) := dAX10_tireFor (35, (.iload_n 2, 1)) (List.mem_of_getElem? (i := 20) rfl)
theorem dX10_tireFor_36 : decode cX10_tireFor 36 = .ok (.sipush 200, 3) := dAX10_tireFor (36, (.sipush 200, 3)) (List.mem_of_getElem? (i := 21) rfl)
theorem dX10_tireFor_39 : decode cX10_tireFor 39 = .ok (.if_icmp .gt 86, 3) := dAX10_tireFor (39, (.if_icmp .gt 86, 3)) (List.mem_of_getElem? (i := 22) rfl)
theorem dX10_tireFor_42 : decode cX10_tireFor 42 = .ok (.aload_n 0, 1) := dAX10_tireFor (42, (.aload_n 0, 1)) (List.mem_of_getElem? (i := 23) rfl)
theorem dX10_tireFor_43 : decode cX10_tireFor 43 = .ok (.getfield 26, 3) := dAX10_tireFor (43, (.getfield 26, 3)) (List.mem_of_getElem? (i := 24) rfl)
theorem dX10_tireFor_46 : decode cX10_tireFor 46 = .ok (.iconst 0, 1) := dAX10_tireFor (46, (.iconst 0, 1)) (List.mem_of_getElem? (i := 25) rfl)
theorem dX10_tireFor_47 : decode cX10_tireFor 47 = .ok (.aload_n 0, 1) := dAX10_tireFor (47, (.aload_n 0, 1)) (List.mem_of_getElem? (i := 26) rfl)
theorem dX10_tireFor_48 : decode cX10_tireFor 48 = .ok (.getfield 35, 3) := dAX10_tireFor (48, (.getfield 35, 3)) (List.mem_of_getElem? (i := 27) rfl)
theorem dX10_tireFor_51 : decode cX10_tireFor 51 = .ok (.iconst 0, 1) := dAX10_tireFor (51, (.iconst 0, 1)) (List.mem_of_getElem? (i := 28) rfl)
theorem dX10_tireFor_52 : decode cX10_tireFor 52 = .ok (.bipush 17, 2) := dAX10_tireFor (52, (.bipush 17, 2)) (List.mem_of_getElem? (i := 29) rfl)
theorem dX10_tireFor_54 : decode cX10_tireFor 54 = .ok (.invokestatic 168, 3) := dAX10_tireFor (54, (.invokestatic 168, 3)) (List.mem_of_getElem? (i := 30) rfl)
theorem dX10_tireFor_57 : decode cX10_tireFor 57 = .ok (.iconst 0, 1) := dAX10_tireFor (57, (.iconst 0, 1)) (List.mem_of_getElem? (i := 31) rfl)
theorem dX10_tireFor_58 : decode cX10_tireFor 58 = .ok (.istore_n 3, 1) := dAX10_tireFor (58, (.istore_n 3, 1)) (List.mem_of_getElem? (i := 32) rfl)
theorem dX10_tireFor_59 : decode cX10_tireFor 59 = .ok (.iload_n 3, 1) := dAX10_tireFor (59, (.iload_n 3, 1)) (List.mem_of_getElem? (i := 33) rfl)
theorem dX10_tireFor_60 : decode cX10_tireFor 60 = .ok (.aload_n 0, 1) := dAX10_tireFor (60, (.aload_n 0, 1)) (List.mem_of_getElem? (i := 34) rfl)
theorem dX10_tireFor_61 : decode cX10_tireFor 61 = .ok (.getfield 20, 3) := dAX10_tireFor (61, (.getfield 20, 3)) (List.mem_of_getElem? (i := 35) rfl)
theorem dX10_tireFor_64 : decode cX10_tireFor 64 = .ok (.iconst 3, 1) := dAX10_tireFor (64, (.iconst 3, 1)) (List.mem_of_getElem? (i := 36) rfl)
theorem dX10_tireFor_65 : decode cX10_tireFor 65 = .ok (.iaload, 1) := dAX10_tireFor (65, (.iaload, 1)) (List.mem_of_getElem? (i := 37) rfl)
theorem dX10_tireFor_66 : decode cX10_tireFor 66 = .ok (.if_icmp .ge 34, 3) := dAX10_tireFor (66, (.if_icmp .ge 34, 3)) (List.mem_of_getElem? (i := 38) rfl)
theorem dX10_tireFor_69 : decode cX10_tireFor 69 = .ok (.aload_n 0, 1) := dAX10_tireFor (69, (.aload_n 0, 1)) (List.mem_of_getElem? (i := 39) rfl)
theorem dX10_tireFor_70 : decode cX10_tireFor 70 = .ok (.getfield 35, 3) := dAX10_tireFor (70, (.getfield 35, 3)) (List.mem_of_getElem? (i := 40) rfl)
theorem dX10_tireFor_73 : decode cX10_tireFor 73 = .ok (.iload_n 3, 1) := dAX10_tireFor (73, (.iload_n 3, 1)) (List.mem_of_getElem? (i := 41) rfl)
theorem dX10_tireFor_74 : decode cX10_tireFor 74 = .ok (.dup2, 1) := dAX10_tireFor (74, (.dup2, 1)) (List.mem_of_getElem? (i := 42) rfl)
theorem dX10_tireFor_75 : decode cX10_tireFor 75 = .ok (.iaload, 1) := dAX10_tireFor (75, (.iaload, 1)) (List.mem_of_getElem? (i := 43) rfl)
theorem dX10_tireFor_76 : decode cX10_tireFor 76 = .ok (.aload_n 0, 1) := dAX10_tireFor (76, (.aload_n 0, 1)) (List.mem_of_getElem? (i := 44) rfl)
theorem dX10_tireFor_77 : decode cX10_tireFor 77 = .ok (.getfield 35, 3) := dAX10_tireFor (77, (.getfield 35, 3)) (List.mem_of_getElem? (i := 45) rfl)
theorem dX10_tireFor_80 : decode cX10_tireFor 80 = .ok (.iload_n 3, 1) := dAX10_tireFor (80, (.iload_n 3, 1)) (List.mem_of_getElem? (i := 46) rfl)
theorem dX10_tireFor_81 : decode cX10_tireFor 81 = .ok (.invokestatic 248, 3) := dAX10_tireFor (81, (.invokestatic 248, 3)) (List.mem_of_getElem? (i := 47) rfl)
theorem dX10_tireFor_84 : decode cX10_tireFor 84 = .ok (.ifCond .eq 7, 3) := dAX10_tireFor (84, (.ifCond .eq 7, 3)) (List.mem_of_getElem? (i := 48) rfl)
theorem dX10_tireFor_87 : decode cX10_tireFor 87 = .ok (.iload_n 2, 1) := dAX10_tireFor (87, (.iload_n 2, 1)) (List.mem_of_getElem? (i := 49) rfl)
theorem dX10_tireFor_88 : decode cX10_tireFor 88 = .ok (.goto 4, 3) := dAX10_tireFor (88, (.goto 4, 3)) (List.mem_of_getElem? (i := 50) rfl)
theorem dX10_tireFor_91 : decode cX10_tireFor 91 = .ok (.iconst 0, 1) := dAX10_tireFor (91, (.iconst 0, 1)) (List.mem_of_getElem? (i := 51) rfl)
theorem dX10_tireFor_92 : decode cX10_tireFor 92 = .ok (.isub, 1) := dAX10_tireFor (92, (.isub, 1)) (List.mem_of_getElem? (i := 52) rfl)
theorem dX10_tireFor_93 : decode cX10_tireFor 93 = .ok (.iastore, 1) := dAX10_tireFor (93, (.iastore, 1)) (List.mem_of_getElem? (i := 53) rfl)
theorem dX10_tireFor_94 : decode cX10_tireFor 94 = .ok (.iinc 3 1, 3) := dAX10_tireFor (94, (.iinc 3 1, 3)) (List.mem_of_getElem? (i := 54) rfl)
theorem dX10_tireFor_97 : decode cX10_tireFor 97 = .ok (.goto (-38), 3) := dAX10_tireFor (97, (.goto (-38), 3)) (List.mem_of_getElem? (i := 55) rfl)
theorem dX10_tireFor_100 : decode cX10_tireFor 100 = .ok (.aload_n 0, 1) := dAX10_tireFor (100, (.aload_n 0, 1)) (List.mem_of_getElem? (i := 56) rfl)
theorem dX10_tireFor_101 : decode cX10_tireFor 101 = .ok (.aload_n 0, 1) := dAX10_tireFor (101, (.aload_n 0, 1)) (List.mem_of_getElem? (i := 57) rfl)
theorem dX10_tireFor_102 : decode cX10_tireFor 102 = .ok (.getfield 35, 3) := dAX10_tireFor (102, (.getfield 35, 3)) (List.mem_of_getElem? (i := 58) rfl)
theorem dX10_tireFor_105 : decode cX10_tireFor 105 = .ok (.iconst 0, 1) := dAX10_tireFor (105, (.iconst 0, 1)) (List.mem_of_getElem? (i := 59) rfl)
theorem dX10_tireFor_106 : decode cX10_tireFor 106 = .ok (.invokevirtual 296, 3) := dAX10_tireFor (106, (.invokevirtual 296, 3)) (List.mem_of_getElem? (i := 60) rfl)
theorem dX10_tireFor_109 : decode cX10_tireFor 109 = .ok (.iconst 0, 1) := dAX10_tireFor (109, (.iconst 0, 1)) (List.mem_of_getElem? (i := 61) rfl)
theorem dX10_tireFor_110 : decode cX10_tireFor 110 = .ok (.iload_n 1, 1) := dAX10_tireFor (110, (.iload_n 1, 1)) (List.mem_of_getElem? (i := 62) rfl)
theorem dX10_tireFor_111 : decode cX10_tireFor 111 = .ok (.invokestatic 144, 3) := dAX10_tireFor (111, (.invokestatic 144, 3)) (List.mem_of_getElem? (i := 63) rfl)
theorem dX10_tireFor_114 : decode cX10_tireFor 114 = .ok (.ifCond .eq 5, 3) := dAX10_tireFor (114, (.ifCond .eq 5, 3)) (List.mem_of_getElem? (i := 64) rfl)
theorem dX10_tireFor_117 : decode cX10_tireFor 117 = .ok (.iload_n 2, 1) := dAX10_tireFor (117, (.iload_n 2, 1)) (List.mem_of_getElem? (i := 65) rfl)
theorem dX10_tireFor_118 : decode cX10_tireFor 118 = .ok (.ireturn, 1) := dAX10_tireFor (118, (.ireturn, 1)) (List.mem_of_getElem? (i := 66) rfl)
theorem dX10_tireFor_119 : decode cX10_tireFor 119 = .ok (.iinc 2 1, 3) := dAX10_tireFor (119, (.iinc 2 1, 3)) (List.mem_of_getElem? (i := 67) rfl)
theorem dX10_tireFor_122 : decode cX10_tireFor 122 = .ok (.goto (-87), 3) := dAX10_tireFor (122, (.goto (-87), 3)) (List.mem_of_getElem? (i := 68) rfl)
theorem dX10_tireFor_125 : decode cX10_tireFor 125 = .ok (.bipush (-2), 2) := dAX10_tireFor (125, (.bipush (-2), 2)) (List.mem_of_getElem? (i := 69) rfl)
theorem dX10_tireFor_127 : decode cX10_tireFor 127 = .ok (.ireturn, 1) := dAX10_tireFor (127, (.ireturn, 1)) (List.mem_of_getElem? (i := 70) rfl)
set_option maxRecDepth 20000 in
theorem ggX10_tireFor_X10_good : GoodIn wsX10_tireFor wsX10_good := goodIn_r _ [9, 10, 11, 72, 73, 74, 75, 76, 77, 78, 79, 80, 81, 82, 83, 84, 85, 86, 87, 88, 89, 90, 91, 92, 93, 94, 95, 96, 97, 98, 99, 100, 101, 102, 103, 104, 105, 106] rfl (by decide +kernel)
set_option maxRecDepth 20000 in
theorem gX10_tireFor_X10_good : GoodIn wsX10_tireFor (wsV RX10 159 RX10 yX10_good wsX10_good) := goodIn_app (goodIn_of _ (by decide +kernel)) ggX10_tireFor_X10_good
set_option maxRecDepth 20000 in
theorem ggX10_tireFor_X10_no : GoodIn wsX10_tireFor wsX10_no := goodIn_r _ [15, 11, 72, 73, 74, 75, 76, 77, 78, 79, 80, 81, 82, 83, 84, 85, 86, 87, 88, 89, 90, 91, 92, 93, 94, 95, 96, 97, 98, 99, 100, 101, 102, 103, 104, 105, 106] rfl (by decide +kernel)
set_option maxRecDepth 20000 in
theorem gX10_tireFor_X10_no : GoodIn wsX10_tireFor (wsV RX10 162 RX10 yX10_no wsX10_no) := goodIn_app (goodIn_of _ (by decide +kernel)) ggX10_tireFor_X10_no
set_option maxRecDepth 20000 in
theorem ggX10_tireFor_X10_in : GoodIn wsX10_tireFor wsX10_in := goodIn_r _ [18] rfl (by decide +kernel)
set_option maxRecDepth 20000 in
theorem gX10_tireFor_X10_in : GoodIn wsX10_tireFor (va_wsS RX10 144 yX10_in wsX10_in) := goodIn_app (goodIn_of _ (by decide +kernel)) ggX10_tireFor_X10_in
set_option maxRecDepth 20000 in
theorem ggX10_tireFor_X10_copy : GoodIn wsX10_tireFor wsX10_copy := goodIn_r _ [21] rfl (by decide +kernel)
set_option maxRecDepth 20000 in
theorem gX10_tireFor_X10_copy : GoodIn wsX10_tireFor (va_wsS RX10 168 yX10_copy wsX10_copy) := goodIn_app (goodIn_of _ (by decide +kernel)) ggX10_tireFor_X10_copy
set_option maxRecDepth 20000 in
theorem ggX10_tireFor_X10_isIn : GoodIn wsX10_tireFor wsX10_isIn := goodIn_r _ [24] rfl (by decide +kernel)
set_option maxRecDepth 20000 in
theorem gX10_tireFor_X10_isIn : GoodIn wsX10_tireFor (va_wsS RX10 248 yX10_isIn wsX10_isIn) := goodIn_app (goodIn_of _ (by decide +kernel)) ggX10_tireFor_X10_isIn
set_option maxRecDepth 20000 in
theorem ggX10_tireFor_X10_endsOn : GoodIn wsX10_tireFor wsX10_endsOn := goodIn_r _ [28, 29, 30, 31, 32, 8, 33, 4, 22, 23, 24, 34, 35, 36, 37, 38, 39, 40, 41, 42, 43, 44, 45, 46, 47, 48, 49, 50, 51, 52, 53, 54, 55, 56, 57, 58, 59, 60, 61, 62, 63, 64, 65, 66, 67, 68, 69, 70, 71, 72, 73, 74, 75, 76, 77, 78, 79, 80, 81, 82, 83, 84, 85, 86, 87, 88, 89, 90, 91, 92, 93, 94, 95, 96, 97, 98, 99, 100, 101, 102, 103, 104, 105, 106] rfl (by decide +kernel)
set_option maxRecDepth 20000 in
theorem gX10_tireFor_X10_endsOn : GoodIn wsX10_tireFor (wsV RX10 296 RX10 yX10_endsOn wsX10_endsOn) := goodIn_app (goodIn_of _ (by decide +kernel)) ggX10_tireFor_X10_endsOn
theorem kX10_tireFor_176 : Cond.fieldLink RX10 176 "EveningVowModel" "hasEvening" "Z" ∈ wsX10_tireFor := List.mem_of_getElem? (i := 1) rfl
theorem iX10_tireFor_X10 : ∀ w ∈ u_ws RX10 TX10 35, w ∈ wsX10_tireFor := fun w h => (List.mem_cons_of_mem _ (List.mem_append_right _ h))
theorem kX10_tireFor_26 : Cond.fieldLink RX10 26 "EveningVowModel" "st" "[I" ∈ wsX10_tireFor := List.mem_of_getElem? (i := 2) rfl
theorem kX10_tireFor_35 : Cond.fieldLink RX10 35 "EveningVowModel" "trial" "[I" ∈ wsX10_tireFor := List.mem_of_getElem? (i := 3) rfl
theorem kX10_tireFor_20 : Cond.fieldLink RX10 20 "EveningVowModel" "\x72" "[I" ∈ wsX10_tireFor := List.mem_of_getElem? (i := 4) rfl
set_option maxHeartbeats 4000000 in
set_option maxRecDepth 100000 in
theorem wX10_tireFor_L59 {p : Program} {l : Launch} {e : Env} {s : State} {m : MethodId} {args : Array Value} {below : List Frame} {meth : Method} {c : Code} {g : GG} {A : Nat → Prop} (C0 : Cx p s m args meth c cX10_tireFor 4 (some .int) RX10 wsX10_tireFor g A) (a_t : Nat) (p_t : Nat → Nat) (n : Nat) (x1 : Int32) (x2 : Int32) (o_t : Nat → Int32) (f_t_15 : Nat → Int32) (f_t_17 : Nat → Int32) (r : Int32) (o_t' : Nat → Int32) (f_t_25' : Nat → Int32) (K : (Nat → Int32) → Option (Int32 × (Nat → Int32) × (Nat → Int32))) (hKx : ∀ (f_t_25 : Nat → Int32) (H : Heap) (locs : List Loc) (ls : Array Slot), K f_t_25 = some (r, o_t', f_t_25') → va_P g.1 vwCl [oX10 a_t p_t o_t, aI g (p_t 15) 266 f_t_15, aI g (p_t 17) 17 f_t_17, aI g (p_t 25) 17 f_t_25] H → va_D A [oX10 a_t p_t o_t, aI g (p_t 15) 266 f_t_15, aI g (p_t 17) 17 f_t_17, aI g (p_t 25) 17 f_t_25] → va_S A s.heap H locs → lv_has ls 4 [(0, .ref a_t), (1, .int x1), (2, .int x2)] → W p l e ({ frames := 5, cells := 0, slots := 0, locals := 116 } : Room) s m args below meth c H locs 0 0 (MQ below (EndI g r [oX10 a_t p_t o_t', aI g (p_t 15) 266 f_t_15, aI g (p_t 17) 17 f_t_17, aI g (p_t 25) 17 f_t_25'] A) args s 0 0 A) (F0 m 100 ls [])) : ∀ (k : Nat) (x3 : Int32) (f_t_25 : Nat → Int32), fX10_tireFor_L59 n x1 x2 o_t f_t_15 K k x3 f_t_25 = some (r, o_t', f_t_25') → ∀ (H : Heap) (locs : List Loc) (ls : Array Slot), va_P g.1 vwCl [oX10 a_t p_t o_t, aI g (p_t 15) 266 f_t_15, aI g (p_t 17) 17 f_t_17, aI g (p_t 25) 17 f_t_25] H → va_D A [oX10 a_t p_t o_t, aI g (p_t 15) 266 f_t_15, aI g (p_t 17) 17 f_t_17, aI g (p_t 25) 17 f_t_25] → va_S A s.heap H locs → lv_has ls 4 [(0, .ref a_t), (1, .int x1), (2, .int x2), (3, .int x3)] → W p l e ({ frames := 5, cells := 0, slots := 0, locals := 116 } : Room) s m args below meth c H locs 0 0 (MQ below (EndI g r [oX10 a_t p_t o_t', aI g (p_t 15) 266 f_t_15, aI g (p_t 17) 17 f_t_17, aI g (p_t 25) 17 f_t_25'] A) args s 0 0 A) (F0 m 59 ls []) := by
  obtain ⟨hx, hb, hml, hown, hts, hr, hlk, hK, hA, hSW⟩ := id C0
  intro k
  induction k with
  | zero =>
    intro x3 f_t_25 hF
    exact absurd hF (by simp [fX10_tireFor_L59])
  | succ k ih =>
    intro x3 f_t_25 hF H locs ls hP hD hS hl
    rw [fX10_tireFor_L59] at hF
    refine lv_iload_n hx hb dX10_tireFor_59 rfl (lv_at hl 3 rfl) ?_
    refine lv_aload_n hx hb dX10_tireFor_60 rfl (lv_at hl 0 rfl) ?_
    refine va_get (D := g.1) (ci := 10) (v := .ref (p_t 15)) (C := RX10) (T := TX10) (N := 35) hx hb hts iX10_tireFor_X10 hown hK.1 hP 0 rfl rfl 15 (by decide) (hts _ kX10_tireFor_20) (fun _ h9 => h9) rfl dX10_tireFor_61 ?_
    refine lv_iconst (v := (3 : Int32)) hx hb dX10_tireFor_64 (by decide) ?_
    refine va_iald_k (j := 3) hx hb hK.1 hP 1 0 rfl rfl (by unfold vp_in; decide) rfl dX10_tireFor_65 ?_
    refine lv_icmp_ge (tgt := 100) hx hb dX10_tireFor_66 (by decide) (fun c_10 => ?_) (fun c_10 => ?_)
    · have hF := it_p c_10 hF
      exact hKx f_t_25 _ _ _ hF (hP.sub [0, 1, 2, 3] rfl) (hD.sub [0, 1, 2, 3] rfl rfl) hS (lv_sub hl [0, 1, 2] rfl)
    · have hF := it_n c_10 hF
      refine lv_aload_n hx hb dX10_tireFor_69 rfl (lv_at hl 0 rfl) ?_
      refine va_get (D := g.1) (ci := 10) (v := .ref (p_t 25)) (C := RX10) (T := TX10) (N := 35) hx hb hts iX10_tireFor_X10 hown hK.1 hP 0 rfl rfl 25 (by decide) (hts _ kX10_tireFor_35) (fun _ h9 => h9) rfl dX10_tireFor_70 ?_
      refine lv_iload_n hx hb dX10_tireFor_73 rfl (lv_at hl 3 rfl) ?_
      refine lv_dup2_11 hx hb dX10_tireFor_74 rfl rfl ?_
      obtain ⟨h_11, hF⟩ := it_ck hF
      refine va_iald hx hb hK.1 hP 3 0 rfl rfl h_11 dX10_tireFor_75 ?_
      refine lv_aload_n hx hb dX10_tireFor_76 rfl (lv_at hl 0 rfl) ?_
      refine va_get (D := g.1) (ci := 10) (v := .ref (p_t 25)) (C := RX10) (T := TX10) (N := 35) hx hb hts iX10_tireFor_X10 hown hK.1 hP 0 rfl rfl 25 (by decide) (hts _ kX10_tireFor_35) (fun _ h9 => h9) rfl dX10_tireFor_77 ?_
      refine lv_iload_n hx hb dX10_tireFor_80 rfl (lv_at hl 3 rfl) ?_
      obtain ⟨u_12, hu_13, hF⟩ := ob1_some hF
      refine call_si (wr := [oX10 a_t p_t o_t, aI g (p_t 15) 266 f_t_15, aI g (p_t 17) 17 f_t_17]) (As := [.ref (p_t 25), .int x3]) (rest := [.int (f_t_25 (x3).toNatClampNeg), .int x3, .ref (p_t 25)]) C0 (mX10_isIn l g (p_t 25) n x3 f_t_25 u_12 hu_13) (va_cwS 2 hts gX10_tireFor_X10_isIn rfl rfl rfl (by decide +kernel) ⟨Nat.le_of_ble_eq_true rfl, Nat.le_of_ble_eq_true rfl⟩) hP hD hS [3] [0, 1, 2] rfl rfl rfl rfl rfl (by decide) hl.1 rfl rfl (Nat.le_of_ble_eq_true rfl) ⟨Nat.zero_le _, Nat.zero_le _⟩ dX10_tireFor_81 ?_
      intro H locs hP hD hS
      refine lv_if_eq (tgt := 91) hx hb dX10_tireFor_84 (by decide) (fun c_14 => ?_) (fun c_14 => ?_)
      · have hF := it_p c_14 hF
        refine lv_iconst (v := (0 : Int32)) hx hb dX10_tireFor_91 (by decide) ?_
        refine lv_isub hx hb dX10_tireFor_92 ?_
        obtain ⟨h_15, hF⟩ := it_ck hF
        refine va_iast hx hb hK.1 hP hD hS 3 0 rfl rfl h_15 dX10_tireFor_93 (fun H locs hP hD hS => ?_)
        have hP : va_P g.1 vwCl [oX10 a_t p_t o_t, aI g (p_t 15) 266 f_t_15, aI g (p_t 17) 17 f_t_17, aI g (p_t 25) 17 (upd f_t_25 (x3).toNatClampNeg ((f_t_25 (x3).toNatClampNeg) - (0 : Int32)))] H := hP
        have hD : va_D A [oX10 a_t p_t o_t, aI g (p_t 15) 266 f_t_15, aI g (p_t 17) 17 f_t_17, aI g (p_t 25) 17 (upd f_t_25 (x3).toNatClampNeg ((f_t_25 (x3).toNatClampNeg) - (0 : Int32)))] := hD
        refine lv_iinc (v := (x3 + (1 : Int32))) (lv' := [(3, .int (x3 + (1 : Int32))), (0, .ref a_t), (1, .int x1), (2, .int x2)]) hx hb dX10_tireFor_94 hl (k := 3) rfl rfl (by decide) rfl (fun ls hl => ?_)
        refine lv_goto (tgt := 59) hx hb dX10_tireFor_97 (by decide) ?_
        exact ih (x3 + (1 : Int32)) (upd f_t_25 (x3).toNatClampNeg ((f_t_25 (x3).toNatClampNeg) - (0 : Int32))) hF _ _ _ (hP.sub [0, 1, 2, 3] rfl) (hD.sub [0, 1, 2, 3] rfl rfl) hS (lv_sub hl [1, 2, 3, 0] rfl)
      · have hF := it_n c_14 hF
        refine lv_iload_n hx hb dX10_tireFor_87 rfl (lv_at hl 2 rfl) ?_
        refine lv_goto (tgt := 92) hx hb dX10_tireFor_88 (by decide) ?_
        refine lv_isub hx hb dX10_tireFor_92 ?_
        obtain ⟨h_16, hF⟩ := it_ck hF
        refine va_iast hx hb hK.1 hP hD hS 3 0 rfl rfl h_16 dX10_tireFor_93 (fun H locs hP hD hS => ?_)
        have hP : va_P g.1 vwCl [oX10 a_t p_t o_t, aI g (p_t 15) 266 f_t_15, aI g (p_t 17) 17 f_t_17, aI g (p_t 25) 17 (upd f_t_25 (x3).toNatClampNeg ((f_t_25 (x3).toNatClampNeg) - x2))] H := hP
        have hD : va_D A [oX10 a_t p_t o_t, aI g (p_t 15) 266 f_t_15, aI g (p_t 17) 17 f_t_17, aI g (p_t 25) 17 (upd f_t_25 (x3).toNatClampNeg ((f_t_25 (x3).toNatClampNeg) - x2))] := hD
        refine lv_iinc (v := (x3 + (1 : Int32))) (lv' := [(3, .int (x3 + (1 : Int32))), (0, .ref a_t), (1, .int x1), (2, .int x2)]) hx hb dX10_tireFor_94 hl (k := 3) rfl rfl (by decide) rfl (fun ls hl => ?_)
        refine lv_goto (tgt := 59) hx hb dX10_tireFor_97 (by decide) ?_
        exact ih (x3 + (1 : Int32)) (upd f_t_25 (x3).toNatClampNeg ((f_t_25 (x3).toNatClampNeg) - x2)) hF _ _ _ (hP.sub [0, 1, 2, 3] rfl) (hD.sub [0, 1, 2, 3] rfl rfl) hS (lv_sub hl [1, 2, 3, 0] rfl)
set_option maxHeartbeats 4000000 in
set_option maxRecDepth 100000 in
theorem wX10_tireFor_L35 {p : Program} {l : Launch} {e : Env} {s : State} {m : MethodId} {args : Array Value} {below : List Frame} {meth : Method} {c : Code} {g : GG} {A : Nat → Prop} (C0 : Cx p s m args meth c cX10_tireFor 4 (some .int) RX10 wsX10_tireFor g A) (a_t : Nat) (p_t : Nat → Nat) (n : Nat) (x1 : Int32) (f_t_15 : Nat → Int32) (f_t_17 : Nat → Int32)  (r : Int32) (o_t' : Nat → Int32) (f_t_25' : Nat → Int32) (K : (Nat → Int32) → (Nat → Int32) → Option (Int32 × (Nat → Int32) × (Nat → Int32))) (hKx : ∀ (o_t : Nat → Int32) (f_t_25 : Nat → Int32) (H : Heap) (locs : List Loc) (ls : Array Slot), K o_t f_t_25 = some (r, o_t', f_t_25') → va_P g.1 vwCl [oX10 a_t p_t o_t, aI g (p_t 15) 266 f_t_15, aI g (p_t 17) 17 f_t_17, aI g (p_t 25) 17 f_t_25] H → va_D A [oX10 a_t p_t o_t, aI g (p_t 15) 266 f_t_15, aI g (p_t 17) 17 f_t_17, aI g (p_t 25) 17 f_t_25] → va_S A s.heap H locs → lv_has ls 4 [] → W p l e ({ frames := 5, cells := 0, slots := 0, locals := 116 } : Room) s m args below meth c H locs 0 0 (MQ below (EndI g r [oX10 a_t p_t o_t', aI g (p_t 15) 266 f_t_15, aI g (p_t 17) 17 f_t_17, aI g (p_t 25) 17 f_t_25'] A) args s 0 0 A) (F0 m 125 ls [])) : ∀ (k : Nat) (x2 : Int32) (o_t : Nat → Int32) (f_t_25 : Nat → Int32), fX10_tireFor_L35 n x1 f_t_15 f_t_17 K k x2 o_t f_t_25 = some (r, o_t', f_t_25') → ∀ (H : Heap) (locs : List Loc) (ls : Array Slot), va_P g.1 vwCl [oX10 a_t p_t o_t, aI g (p_t 15) 266 f_t_15, aI g (p_t 17) 17 f_t_17, aI g (p_t 25) 17 f_t_25] H → va_D A [oX10 a_t p_t o_t, aI g (p_t 15) 266 f_t_15, aI g (p_t 17) 17 f_t_17, aI g (p_t 25) 17 f_t_25] → va_S A s.heap H locs → lv_has ls 4 [(0, .ref a_t), (1, .int x1), (2, .int x2)] → W p l e ({ frames := 5, cells := 0, slots := 0, locals := 116 } : Room) s m args below meth c H locs 0 0 (MQ below (EndI g r [oX10 a_t p_t o_t', aI g (p_t 15) 266 f_t_15, aI g (p_t 17) 17 f_t_17, aI g (p_t 25) 17 f_t_25'] A) args s 0 0 A) (F0 m 35 ls []) := by
  obtain ⟨hx, hb, hml, hown, hts, hr, hlk, hK, hA, hSW⟩ := id C0
  intro k
  induction k with
  | zero =>
    intro x2 o_t f_t_25 hF
    exact absurd hF (by simp [fX10_tireFor_L35])
  | succ k ih =>
    intro x2 o_t f_t_25 hF H locs ls hP hD hS hl
    rw [fX10_tireFor_L35] at hF
    refine lv_iload_n hx hb dX10_tireFor_35 rfl (lv_at hl 2 rfl) ?_
    refine lv_sipush (v := (200 : Int32)) hx hb dX10_tireFor_36 (by decide) ?_
    refine lv_icmp_gt (tgt := 125) hx hb dX10_tireFor_39 (by decide) (fun c_7 => ?_) (fun c_7 => ?_)
    · have hF := it_p c_7 hF
      exact hKx o_t f_t_25 _ _ _ hF (hP.sub [0, 1, 2, 3] rfl) (hD.sub [0, 1, 2, 3] rfl rfl) hS (lv_sub hl [] rfl)
    · have hF := it_n c_7 hF
      refine lv_aload_n hx hb dX10_tireFor_42 rfl (lv_at hl 0 rfl) ?_
      refine va_get (D := g.1) (ci := 10) (v := .ref (p_t 17)) (C := RX10) (T := TX10) (N := 35) hx hb hts iX10_tireFor_X10 hown hK.1 hP 0 rfl rfl 17 (by decide) (hts _ kX10_tireFor_26) (fun _ h9 => h9) rfl dX10_tireFor_43 ?_
      refine lv_iconst (v := (0 : Int32)) hx hb dX10_tireFor_46 (by decide) ?_
      refine lv_aload_n hx hb dX10_tireFor_47 rfl (lv_at hl 0 rfl) ?_
      refine va_get (D := g.1) (ci := 10) (v := .ref (p_t 25)) (C := RX10) (T := TX10) (N := 35) hx hb hts iX10_tireFor_X10 hown hK.1 hP 0 rfl rfl 25 (by decide) (hts _ kX10_tireFor_35) (fun _ h9 => h9) rfl dX10_tireFor_48 ?_
      refine lv_iconst (v := (0 : Int32)) hx hb dX10_tireFor_51 (by decide) ?_
      refine lv_bipush (v := (17 : Int32)) hx hb dX10_tireFor_52 (by decide) ?_
      obtain ⟨u_8, hu_9, hF⟩ := ob1_some hF
      refine call_sv (wr := [oX10 a_t p_t o_t, aI g (p_t 15) 266 f_t_15]) (As := [.ref (p_t 17), .int (0 : Int32), .ref (p_t 25), .int (0 : Int32), .int (17 : Int32)]) (rest := []) C0 (mX10_copy l g (p_t 17) (p_t 25) n (0 : Int32) (0 : Int32) (17 : Int32) 17 17 f_t_17 f_t_25 u_8 hu_9) (va_cwS 5 hts gX10_tireFor_X10_copy rfl rfl rfl (by decide +kernel) ⟨Nat.le_of_ble_eq_true rfl, Nat.le_of_ble_eq_true rfl⟩) hP hD hS [2, 3] [0, 1] rfl rfl rfl rfl rfl (by decide) hl.1 rfl rfl (Nat.le_of_ble_eq_true rfl) ⟨Nat.zero_le _, Nat.zero_le _⟩ dX10_tireFor_54 ?_
      intro H locs hP hD hS
      refine lv_iconst (v := (0 : Int32)) hx hb dX10_tireFor_57 (by decide) ?_
      refine lv_istore_n (lv' := [(3, .int (0 : Int32)), (0, .ref a_t), (1, .int x1), (2, .int x2)]) hx hb dX10_tireFor_58 rfl hl (by decide) rfl (fun ls hl => ?_)
      refine wX10_tireFor_L59 C0 a_t p_t n x1 x2 o_t f_t_15 f_t_17 r o_t' f_t_25' _ ?_ n (0 : Int32) u_8 hF _ _ _ (hP.sub [0, 1, 2, 3] rfl) (hD.sub [0, 1, 2, 3] rfl rfl) hS (lv_sub hl [1, 2, 3, 0] rfl)
      · intro f_t_25_x59 H locs ls hF hP hD hS hl
        refine lv_aload_n hx hb dX10_tireFor_100 rfl (lv_at hl 0 rfl) ?_
        refine lv_aload_n hx hb dX10_tireFor_101 rfl (lv_at hl 0 rfl) ?_
        refine va_get (D := g.1) (ci := 10) (v := .ref (p_t 25)) (C := RX10) (T := TX10) (N := 35) hx hb hts iX10_tireFor_X10 hown hK.1 hP 0 rfl rfl 25 (by decide) (hts _ kX10_tireFor_35) (fun _ h9 => h9) rfl dX10_tireFor_102 ?_
        refine lv_iconst (v := (0 : Int32)) hx hb dX10_tireFor_105 (by decide) ?_
        obtain ⟨u_17, u_18, u_19, hu_20, hF⟩ := ob3_some hF
        refine call_i (wr := [aI g (p_t 17) 17 f_t_17]) (As := [.ref (p_t 25), .int (0 : Int32)]) (rest := []) (ci := 10) (q0 := 0) C0 (mX10_endsOn l g a_t (p_t 25) p_t n (0 : Int32) o_t f_t_15 f_t_25_x59 u_17 u_18 u_19 hu_20) (cwV 2 hts gX10_tireFor_X10_endsOn rfl rfl rfl (by decide +kernel) ⟨Nat.le_of_ble_eq_true rfl, Nat.le_of_ble_eq_true rfl⟩) hP hD hS [0, 1, 3] [2] rfl rfl rfl rfl rfl (by decide) rfl rfl hl.1 rfl rfl (Nat.le_of_ble_eq_true rfl) ⟨Nat.zero_le _, Nat.zero_le _⟩ dX10_tireFor_106 ?_
        intro H locs hP hD hS
        refine lv_iconst (v := (0 : Int32)) hx hb dX10_tireFor_109 (by decide) ?_
        refine lv_iload_n hx hb dX10_tireFor_110 rfl (lv_at hl 1 rfl) ?_
        obtain ⟨u_21, hu_22, hF⟩ := ob1_some hF
        refine call_si (wr := [aI g (p_t 17) 17 f_t_17, oX10 a_t p_t u_18, aI g (p_t 15) 266 f_t_15, aI g (p_t 25) 17 u_19]) (As := [.int u_17, .int (0 : Int32), .int x1]) (rest := []) C0 (mX10_in l g n u_17 (0 : Int32) x1 u_21 hu_22) (va_cwS 3 hts gX10_tireFor_X10_in rfl rfl rfl (by decide +kernel) ⟨Nat.le_of_ble_eq_true rfl, Nat.le_of_ble_eq_true rfl⟩) hP hD hS [] [0, 1, 2, 3] rfl rfl rfl rfl rfl (by decide) hl.1 rfl rfl (Nat.le_of_ble_eq_true rfl) ⟨Nat.zero_le _, Nat.zero_le _⟩ dX10_tireFor_111 ?_
        intro H locs hP hD hS
        refine lv_if_eq (tgt := 119) hx hb dX10_tireFor_114 (by decide) (fun c_23 => ?_) (fun c_23 => ?_)
        · have hF := it_p c_23 hF
          refine lv_iinc (v := (x2 + (1 : Int32))) (lv' := [(2, .int (x2 + (1 : Int32))), (0, .ref a_t), (1, .int x1)]) hx hb dX10_tireFor_119 hl (k := 2) rfl rfl (by decide) rfl (fun ls hl => ?_)
          refine lv_goto (tgt := 35) hx hb dX10_tireFor_122 (by decide) ?_
          exact ih (x2 + (1 : Int32)) u_18 u_19 hF _ _ _ (hP.sub [1, 2, 0, 3] rfl) (hD.sub [1, 2, 0, 3] rfl rfl) hS (lv_sub hl [1, 2, 0] rfl)
        · have hF := it_n c_23 hF
          refine lv_iload_n hx hb dX10_tireFor_117 rfl (lv_at hl 2 rfl) ?_
          cases hF
          exact ret_i C0 hP hD hS [1, 2, 0, 3] rfl rfl rfl dX10_tireFor_118 rfl
set_option maxHeartbeats 4000000 in
set_option maxRecDepth 100000 in
theorem mX10_tireFor (l : Launch) (g : GG) (a_t : Nat) (p_t : Nat → Nat) (n : Nat) (x1 : Int32) (o_t : Nat → Int32) (f_t_15 : Nat → Int32) (f_t_17 : Nat → Int32) (f_t_25 : Nat → Int32) (r : Int32) (o_t' : Nat → Int32) (f_t_25' : Nat → Int32) (hF : fX10_tireFor n x1 o_t f_t_15 f_t_17 f_t_25 = some (r, o_t', f_t_25')) : MI l g yX10_tireFor wsX10_tireFor ({ frames := 5, cells := 0, slots := 0, locals := 116 } : Room) [.ref a_t, .int x1] [oX10 a_t p_t o_t, aI g (p_t 15) 266 f_t_15, aI g (p_t 17) 17 f_t_17, aI g (p_t 25) 17 f_t_25] r [oX10 a_t p_t o_t', aI g (p_t 15) 266 f_t_15, aI g (p_t 17) 17 f_t_17, aI g (p_t 25) 17 f_t_25'] := by
  refine MI.of (cc := cX10_tireFor) (maxL := 4) (rt := .int) (own := RX10) rfl rfl (by decide) (Nat.le_of_ble_eq_true rfl) ?_
  intro p e s m args below meth c A C0 hP hD hS ls hl
  obtain ⟨hx, hb, hml, hown, hts, hr, hlk, hK, hA, hSW⟩ := id C0
  have hl : lv_has ls 4 [(0, .ref a_t), (1, .int x1)] := hl
  rw [fX10_tireFor] at hF
  refine lv_aload_n hx hb dX10_tireFor_0 rfl (lv_at hl 0 rfl) ?_
  obtain ⟨u_1, hu_2, hF⟩ := ob1_some hF
  refine call_v (wr := [aI g (p_t 15) 266 f_t_15, aI g (p_t 17) 17 f_t_17, aI g (p_t 25) 17 f_t_25]) (As := []) (rest := []) (ci := 10) (q0 := 0) C0 (mX10_good l g a_t p_t n o_t u_1 hu_2) (cwV 0 hts gX10_tireFor_X10_good rfl rfl rfl (by decide +kernel) ⟨Nat.le_of_ble_eq_true rfl, Nat.le_of_ble_eq_true rfl⟩) hP hD hS [0] [1, 2, 3] rfl rfl rfl rfl rfl (by decide) rfl rfl hl.1 rfl rfl (Nat.le_of_ble_eq_true rfl) ⟨Nat.zero_le _, Nat.zero_le _⟩ dX10_tireFor_1 ?_
  intro H locs hP hD hS
  refine lv_aload_n hx hb dX10_tireFor_4 rfl (lv_at hl 0 rfl) ?_
  refine va_get (D := g.1) (ci := 10) (v := .int (u_1 14)) (C := RX10) (T := TX10) (N := 35) hx hb hts iX10_tireFor_X10 hown hK.1 hP 3 rfl rfl 14 (by decide) (hts _ kX10_tireFor_176) (fun _ h9 => h9) rfl dX10_tireFor_5 ?_
  refine lv_if_ne (tgt := 17) hx hb dX10_tireFor_8 (by decide) (fun c_3 => ?_) (fun c_3 => ?_)
  · have hF := it_n c_3 hF
    refine lv_iload_n hx hb dX10_tireFor_17 rfl (lv_at hl 1 rfl) ?_
    refine lv_iconst (v := (0 : Int32)) hx hb dX10_tireFor_18 (by decide) ?_
    refine lv_bipush (v := (60 : Int32)) hx hb dX10_tireFor_19 (by decide) ?_
    obtain ⟨u_4, hu_5, hF⟩ := ob1_some hF
    refine call_si (wr := [aI g (p_t 15) 266 f_t_15, aI g (p_t 17) 17 f_t_17, aI g (p_t 25) 17 f_t_25, oX10 a_t p_t u_1]) (As := [.int x1, .int (0 : Int32), .int (60 : Int32)]) (rest := []) C0 (mX10_in l g n x1 (0 : Int32) (60 : Int32) u_4 hu_5) (va_cwS 3 hts gX10_tireFor_X10_in rfl rfl rfl (by decide +kernel) ⟨Nat.le_of_ble_eq_true rfl, Nat.le_of_ble_eq_true rfl⟩) hP hD hS [] [0, 1, 2, 3] rfl rfl rfl rfl rfl (by decide) hl.1 rfl rfl (Nat.le_of_ble_eq_true rfl) ⟨Nat.zero_le _, Nat.zero_le _⟩ dX10_tireFor_21 ?_
    intro H locs hP hD hS
    refine lv_if_ne (tgt := 33) hx hb dX10_tireFor_24 (by decide) (fun c_6 => ?_) (fun c_6 => ?_)
    · have hF := it_n c_6 hF
      refine lv_iconst (v := (0 : Int32)) hx hb dX10_tireFor_33 (by decide) ?_
      refine lv_istore_n (lv' := [(2, .int (0 : Int32)), (0, .ref a_t), (1, .int x1)]) hx hb dX10_tireFor_34 rfl hl (by decide) rfl (fun ls hl => ?_)
      refine wX10_tireFor_L35 C0 a_t p_t n x1 f_t_15 f_t_17 r o_t' f_t_25' _ ?_ n (0 : Int32) u_1 f_t_25 hF _ _ _ (hP.sub [3, 0, 1, 2] rfl) (hD.sub [3, 0, 1, 2] rfl rfl) hS (lv_sub hl [1, 2, 0] rfl)
      · intro o_t_x35 f_t_25_x35 H locs ls hF hP hD hS hl
        refine lv_bipush (v := (-2 : Int32)) hx hb dX10_tireFor_125 (by decide) ?_
        cases hF
        exact ret_i C0 hP hD hS [0, 1, 2, 3] rfl rfl rfl dX10_tireFor_127 rfl
    · have hF := it_p c_6 hF
      refine lv_aload_n hx hb dX10_tireFor_27 rfl (lv_at hl 0 rfl) ?_
      refine lv_iconst (v := (2 : Int32)) hx hb dX10_tireFor_28 (by decide) ?_
      obtain ⟨u_24, u_25, hu_26, hF⟩ := ob2_some hF
      refine call_i (wr := [aI g (p_t 15) 266 f_t_15, aI g (p_t 17) 17 f_t_17, aI g (p_t 25) 17 f_t_25]) (As := [.int (2 : Int32)]) (rest := []) (ci := 10) (q0 := 0) C0 (mX10_no l g a_t p_t n (2 : Int32) u_1 u_24 u_25 hu_26) (cwV 1 hts gX10_tireFor_X10_no rfl rfl rfl (by decide +kernel) ⟨Nat.le_of_ble_eq_true rfl, Nat.le_of_ble_eq_true rfl⟩) hP hD hS [3] [0, 1, 2] rfl rfl rfl rfl rfl (by decide) rfl rfl hl.1 rfl rfl (Nat.le_of_ble_eq_true rfl) ⟨Nat.zero_le _, Nat.zero_le _⟩ dX10_tireFor_29 ?_
      intro H locs hP hD hS
      cases hF
      exact ret_i C0 hP hD hS [3, 0, 1, 2] rfl rfl rfl dX10_tireFor_32 rfl
  · have hF := it_p c_3 hF
    refine lv_aload_n hx hb dX10_tireFor_11 rfl (lv_at hl 0 rfl) ?_
    refine lv_iconst (v := (1 : Int32)) hx hb dX10_tireFor_12 (by decide) ?_
    obtain ⟨u_27, u_28, hu_29, hF⟩ := ob2_some hF
    refine call_i (wr := [aI g (p_t 15) 266 f_t_15, aI g (p_t 17) 17 f_t_17, aI g (p_t 25) 17 f_t_25]) (As := [.int (1 : Int32)]) (rest := []) (ci := 10) (q0 := 0) C0 (mX10_no l g a_t p_t n (1 : Int32) u_1 u_27 u_28 hu_29) (cwV 1 hts gX10_tireFor_X10_no rfl rfl rfl (by decide +kernel) ⟨Nat.le_of_ble_eq_true rfl, Nat.le_of_ble_eq_true rfl⟩) hP hD hS [3] [0, 1, 2] rfl rfl rfl rfl rfl (by decide) rfl rfl hl.1 rfl rfl (Nat.le_of_ble_eq_true rfl) ⟨Nat.zero_le _, Nat.zero_le _⟩ dX10_tireFor_13 ?_
    intro H locs hP hD hS
    cases hF
    exact ret_i C0 hP hD hS [3, 0, 1, 2] rfl rfl rfl dX10_tireFor_16 rfl

theorem dAX10_endsIf : ∀ q ∈ ([(0, (.aload_n 0, 1)), (1, (.getfield 26, 3)), (4, (.iconst 0, 1)), (5, (.aload_n 0, 1)), (6, (.getfield 35, 3)), (9, (.iconst 0, 1)), (10, (.bipush 17, 2)), (12, (.invokestatic 168, 3)), (15, (.iload_n 1, 1)), (16, (.ifCond .eq 13, 3)), (19, (.aload_n 0, 1)), (20, (.aload_n 0, 1)), (21, (.getfield 35, 3)), (24, (.iload_n 1, 1)), (25, (.invokevirtual 315, 3)), (28, (.pop, 1)), (29, (.aload_n 0, 1)), (30, (.aload_n 0, 1)), (31, (.getfield 35, 3)), (34, (.iconst 0, 1)), (35, (.invokevirtual 296, 3)), (38, (.ireturn, 1))] : List (Nat × (Instr × Nat))), decode cX10_endsIf q.1 = .ok q.2 := by decide +kernel
theorem dX10_endsIf_0 : decode cX10_endsIf 0 = .ok (.aload_n 0, 1) := dAX10_endsIf (0, (.aload_n 0, 1)) (List.mem_of_getElem? (i := 0) rfl)
theorem dX10_endsIf_1 : decode cX10_endsIf 1 = .ok (.getfield 26, 3) := dAX10_endsIf (1, (.getfield 26, 3)) (List.mem_of_getElem? (i := 1) rfl)
theorem dX10_endsIf_4 : decode cX10_endsIf 4 = .ok (.iconst 0, 1) := dAX10_endsIf (4, (.iconst 0, 1)) (List.mem_of_getElem? (i := 2) rfl)
theorem dX10_endsIf_5 : decode cX10_endsIf 5 = .ok (.aload_n 0, 1) := dAX10_endsIf (5, (.aload_n 0, 1)) (List.mem_of_getElem? (i := 3) rfl)
theorem dX10_endsIf_6 : decode cX10_endsIf 6 = .ok (.getfield 35, 3) := dAX10_endsIf (6, (.getfield 35, 3)) (List.mem_of_getElem? (i := 4) rfl)
theorem dX10_endsIf_9 : decode cX10_endsIf 9 = .ok (.iconst 0, 1) := dAX10_endsIf (9, (.iconst 0, 1)) (List.mem_of_getElem? (i := 5) rfl)
theorem dX10_endsIf_10 : decode cX10_endsIf 10 = .ok (.bipush 17, 2) := dAX10_endsIf (10, (.bipush 17, 2)) (List.mem_of_getElem? (i := 6) rfl)
theorem dX10_endsIf_12 : decode cX10_endsIf 12 = .ok (.invokestatic 168, 3) := dAX10_endsIf (12, (.invokestatic 168, 3)) (List.mem_of_getElem? (i := 7) rfl)
theorem dX10_endsIf_15 : decode cX10_endsIf 15 = .ok (.iload_n 1, 1) := dAX10_endsIf (15, (.iload_n 1, 1)) (List.mem_of_getElem? (i := 8) rfl)
theorem dX10_endsIf_16 : decode cX10_endsIf 16 = .ok (.ifCond .eq 13, 3) := dAX10_endsIf (16, (.ifCond .eq 13, 3)) (List.mem_of_getElem? (i := 9) rfl)
theorem dX10_endsIf_19 : decode cX10_endsIf 19 = .ok (.aload_n 0, 1) := dAX10_endsIf (19, (.aload_n 0, 1)) (List.mem_of_getElem? (i := 10) rfl)
theorem dX10_endsIf_20 : decode cX10_endsIf 20 = .ok (.aload_n 0, 1) := dAX10_endsIf (20, (.aload_n 0, 1)) (List.mem_of_getElem? (i := 11) rfl)
theorem dX10_endsIf_21 : decode cX10_endsIf 21 = .ok (.getfield 35, 3) := dAX10_endsIf (21, (.getfield 35, 3)) (List.mem_of_getElem? (i := 12) rfl)
theorem dX10_endsIf_24 : decode cX10_endsIf 24 = .ok (.iload_n 1, 1) := dAX10_endsIf (24, (.iload_n 1, 1)) (List.mem_of_getElem? (i := 13) rfl)
theorem dX10_endsIf_25 : decode cX10_endsIf 25 = .ok (.invokevirtual 315, 3) := dAX10_endsIf (25, (.invokevirtual 315, 3)) (List.mem_of_getElem? (i := 14) rfl)
theorem dX10_endsIf_28 : decode cX10_endsIf 28 = .ok (.pop, 1) := dAX10_endsIf (28, (.pop, 1)) (List.mem_of_getElem? (i := 15) rfl)
theorem dX10_endsIf_29 : decode cX10_endsIf 29 = .ok (.aload_n 0, 1) := dAX10_endsIf (29, (.aload_n 0, 1)) (List.mem_of_getElem? (i := 16) rfl)
theorem dX10_endsIf_30 : decode cX10_endsIf 30 = .ok (.aload_n 0, 1) := dAX10_endsIf (30, (.aload_n 0, 1)) (List.mem_of_getElem? (i := 17) rfl)
theorem dX10_endsIf_31 : decode cX10_endsIf 31 = .ok (.getfield 35, 3) := dAX10_endsIf (31, (.getfield 35, 3)) (List.mem_of_getElem? (i := 18) rfl)
theorem dX10_endsIf_34 : decode cX10_endsIf 34 = .ok (.iconst 0, 1) := dAX10_endsIf (34, (.iconst 0, 1)) (List.mem_of_getElem? (i := 19) rfl)
theorem dX10_endsIf_35 : decode cX10_endsIf 35 = .ok (.invokevirtual 296, 3) := dAX10_endsIf (35, (.invokevirtual 296, 3)) (List.mem_of_getElem? (i := 20) rfl)
theorem dX10_endsIf_38 : decode cX10_endsIf 38 = .ok (.ireturn, 1) := dAX10_endsIf (38, (.ireturn, 1)) (List.mem_of_getElem? (i := 21) rfl)
set_option maxRecDepth 20000 in
theorem ggX10_endsIf_X10_copy : GoodIn wsX10_endsIf wsX10_copy := goodIn_r _ [6] rfl (by decide +kernel)
set_option maxRecDepth 20000 in
theorem gX10_endsIf_X10_copy : GoodIn wsX10_endsIf (va_wsS RX10 168 yX10_copy wsX10_copy) := goodIn_app (goodIn_of _ (by decide +kernel)) ggX10_endsIf_X10_copy
set_option maxRecDepth 20000 in
theorem ggX10_endsIf_X10_sends : GoodIn wsX10_endsIf wsX10_sends := goodIn_r _ [10, 11, 12, 13, 5, 14, 15, 16, 17, 18, 19, 20, 21, 22, 23, 24, 25, 26, 27, 28, 29, 30, 31, 32, 33, 34, 35, 36, 37, 38, 62, 63, 64, 65, 66, 67, 68, 69, 70, 71, 72, 73, 74, 75, 76, 77, 78, 79, 80, 81, 82, 83, 84, 85, 86, 87, 88, 89, 90, 91, 92, 93, 94, 95, 96] rfl (by decide +kernel)
set_option maxRecDepth 20000 in
theorem gX10_endsIf_X10_sends : GoodIn wsX10_endsIf (wsV RX10 315 RX10 yX10_sends wsX10_sends) := goodIn_app (goodIn_of _ (by decide +kernel)) ggX10_endsIf_X10_sends
set_option maxRecDepth 20000 in
theorem ggX10_endsIf_X10_endsOn : GoodIn wsX10_endsIf wsX10_endsOn := goodIn_r _ [42, 43, 27, 28, 29, 5, 30, 15, 19, 20, 21, 44, 45, 46, 47, 48, 49, 50, 51, 52, 53, 35, 36, 37, 38, 54, 55, 56, 57, 22, 23, 24, 25, 26, 31, 32, 33, 34, 11, 12, 13, 14, 16, 17, 18, 58, 59, 60, 61, 62, 63, 64, 65, 66, 67, 68, 69, 70, 71, 72, 73, 74, 75, 76, 77, 78, 79, 80, 81, 82, 83, 84, 85, 86, 87, 88, 89, 90, 91, 92, 93, 94, 95, 96] rfl (by decide +kernel)
set_option maxRecDepth 20000 in
theorem gX10_endsIf_X10_endsOn : GoodIn wsX10_endsIf (wsV RX10 296 RX10 yX10_endsOn wsX10_endsOn) := goodIn_app (goodIn_of _ (by decide +kernel)) ggX10_endsIf_X10_endsOn
theorem kX10_endsIf_26 : Cond.fieldLink RX10 26 "EveningVowModel" "st" "[I" ∈ wsX10_endsIf := List.mem_of_getElem? (i := 1) rfl
theorem iX10_endsIf_X10 : ∀ w ∈ u_ws RX10 TX10 35, w ∈ wsX10_endsIf := fun w h => (List.mem_cons_of_mem _ (List.mem_append_right _ h))
theorem kX10_endsIf_35 : Cond.fieldLink RX10 35 "EveningVowModel" "trial" "[I" ∈ wsX10_endsIf := List.mem_of_getElem? (i := 2) rfl
set_option maxHeartbeats 4000000 in
set_option maxRecDepth 100000 in
theorem mX10_endsIf (l : Launch) (g : GG) (a_t : Nat) (p_t : Nat → Nat) (n : Nat) (x1 : Int32) (o_t : Nat → Int32) (f_t_15 : Nat → Int32) (f_t_17 : Nat → Int32) (f_t_25 : Nat → Int32) (r : Int32) (o_t' : Nat → Int32) (f_t_25' : Nat → Int32) (hF : fX10_endsIf n x1 o_t f_t_15 f_t_17 f_t_25 = some (r, o_t', f_t_25')) : MI l g yX10_endsIf wsX10_endsIf ({ frames := 5, cells := 0, slots := 0, locals := 116 } : Room) [.ref a_t, .int x1] [oX10 a_t p_t o_t, aI g (p_t 15) 266 f_t_15, aI g (p_t 17) 17 f_t_17, aI g (p_t 25) 17 f_t_25] r [oX10 a_t p_t o_t', aI g (p_t 15) 266 f_t_15, aI g (p_t 17) 17 f_t_17, aI g (p_t 25) 17 f_t_25'] := by
  refine MI.of (cc := cX10_endsIf) (maxL := 2) (rt := .int) (own := RX10) rfl rfl (by decide) (Nat.le_of_ble_eq_true rfl) ?_
  intro p e s m args below meth c A C0 hP hD hS ls hl
  obtain ⟨hx, hb, hml, hown, hts, hr, hlk, hK, hA, hSW⟩ := id C0
  have hl : lv_has ls 2 [(0, .ref a_t), (1, .int x1)] := hl
  rw [fX10_endsIf] at hF
  refine lv_aload_n hx hb dX10_endsIf_0 rfl (lv_at hl 0 rfl) ?_
  refine va_get (D := g.1) (ci := 10) (v := .ref (p_t 17)) (C := RX10) (T := TX10) (N := 35) hx hb hts iX10_endsIf_X10 hown hK.1 hP 0 rfl rfl 17 (by decide) (hts _ kX10_endsIf_26) (fun _ h9 => h9) rfl dX10_endsIf_1 ?_
  refine lv_iconst (v := (0 : Int32)) hx hb dX10_endsIf_4 (by decide) ?_
  refine lv_aload_n hx hb dX10_endsIf_5 rfl (lv_at hl 0 rfl) ?_
  refine va_get (D := g.1) (ci := 10) (v := .ref (p_t 25)) (C := RX10) (T := TX10) (N := 35) hx hb hts iX10_endsIf_X10 hown hK.1 hP 0 rfl rfl 25 (by decide) (hts _ kX10_endsIf_35) (fun _ h9 => h9) rfl dX10_endsIf_6 ?_
  refine lv_iconst (v := (0 : Int32)) hx hb dX10_endsIf_9 (by decide) ?_
  refine lv_bipush (v := (17 : Int32)) hx hb dX10_endsIf_10 (by decide) ?_
  obtain ⟨u_1, hu_2, hF⟩ := ob1_some hF
  refine call_sv (wr := [oX10 a_t p_t o_t, aI g (p_t 15) 266 f_t_15]) (As := [.ref (p_t 17), .int (0 : Int32), .ref (p_t 25), .int (0 : Int32), .int (17 : Int32)]) (rest := []) C0 (mX10_copy l g (p_t 17) (p_t 25) n (0 : Int32) (0 : Int32) (17 : Int32) 17 17 f_t_17 f_t_25 u_1 hu_2) (va_cwS 5 hts gX10_endsIf_X10_copy rfl rfl rfl (by decide +kernel) ⟨Nat.le_of_ble_eq_true rfl, Nat.le_of_ble_eq_true rfl⟩) hP hD hS [2, 3] [0, 1] rfl rfl rfl rfl rfl (by decide) hl.1 rfl rfl (Nat.le_of_ble_eq_true rfl) ⟨Nat.zero_le _, Nat.zero_le _⟩ dX10_endsIf_12 ?_
  intro H locs hP hD hS
  refine lv_iload_n hx hb dX10_endsIf_15 rfl (lv_at hl 1 rfl) ?_
  refine lv_if_eq (tgt := 29) hx hb dX10_endsIf_16 (by decide) (fun c_3 => ?_) (fun c_3 => ?_)
  · have hF := it_p c_3 hF
    refine lv_aload_n hx hb dX10_endsIf_29 rfl (lv_at hl 0 rfl) ?_
    refine lv_aload_n hx hb dX10_endsIf_30 rfl (lv_at hl 0 rfl) ?_
    refine va_get (D := g.1) (ci := 10) (v := .ref (p_t 25)) (C := RX10) (T := TX10) (N := 35) hx hb hts iX10_endsIf_X10 hown hK.1 hP 0 rfl rfl 25 (by decide) (hts _ kX10_endsIf_35) (fun _ h9 => h9) rfl dX10_endsIf_31 ?_
    refine lv_iconst (v := (0 : Int32)) hx hb dX10_endsIf_34 (by decide) ?_
    obtain ⟨u_4, u_5, u_6, hu_7, hF⟩ := ob3_some hF
    refine call_i (wr := [aI g (p_t 17) 17 f_t_17]) (As := [.ref (p_t 25), .int (0 : Int32)]) (rest := []) (ci := 10) (q0 := 0) C0 (mX10_endsOn l g a_t (p_t 25) p_t n (0 : Int32) o_t f_t_15 u_1 u_4 u_5 u_6 hu_7) (cwV 2 hts gX10_endsIf_X10_endsOn rfl rfl rfl (by decide +kernel) ⟨Nat.le_of_ble_eq_true rfl, Nat.le_of_ble_eq_true rfl⟩) hP hD hS [0, 1, 3] [2] rfl rfl rfl rfl rfl (by decide) rfl rfl hl.1 rfl rfl (Nat.le_of_ble_eq_true rfl) ⟨Nat.zero_le _, Nat.zero_le _⟩ dX10_endsIf_35 ?_
    intro H locs hP hD hS
    cases hF
    exact ret_i C0 hP hD hS [1, 2, 0, 3] rfl rfl rfl dX10_endsIf_38 rfl
  · have hF := it_n c_3 hF
    refine lv_aload_n hx hb dX10_endsIf_19 rfl (lv_at hl 0 rfl) ?_
    refine lv_aload_n hx hb dX10_endsIf_20 rfl (lv_at hl 0 rfl) ?_
    refine va_get (D := g.1) (ci := 10) (v := .ref (p_t 25)) (C := RX10) (T := TX10) (N := 35) hx hb hts iX10_endsIf_X10 hown hK.1 hP 0 rfl rfl 25 (by decide) (hts _ kX10_endsIf_35) (fun _ h9 => h9) rfl dX10_endsIf_21 ?_
    refine lv_iload_n hx hb dX10_endsIf_24 rfl (lv_at hl 1 rfl) ?_
    obtain ⟨u_8, u_9, u_10, hu_11, hF⟩ := ob3_some hF
    refine call_i (wr := [aI g (p_t 17) 17 f_t_17]) (As := [.ref (p_t 25), .int x1]) (rest := []) (ci := 10) (q0 := 0) C0 (mX10_sends l g a_t (p_t 25) p_t n x1 o_t f_t_15 u_1 u_8 u_9 u_10 hu_11) (cwV 2 hts gX10_endsIf_X10_sends rfl rfl rfl (by decide +kernel) ⟨Nat.le_of_ble_eq_true rfl, Nat.le_of_ble_eq_true rfl⟩) hP hD hS [0, 1, 3] [2] rfl rfl rfl rfl rfl (by decide) rfl rfl hl.1 rfl rfl (Nat.le_of_ble_eq_true rfl) ⟨Nat.zero_le _, Nat.zero_le _⟩ dX10_endsIf_25 ?_
    intro H locs hP hD hS
    refine lv_pop hx hb dX10_endsIf_28 rfl ?_
    refine lv_aload_n hx hb dX10_endsIf_29 rfl (lv_at hl 0 rfl) ?_
    refine lv_aload_n hx hb dX10_endsIf_30 rfl (lv_at hl 0 rfl) ?_
    refine va_get (D := g.1) (ci := 10) (v := .ref (p_t 25)) (C := RX10) (T := TX10) (N := 35) hx hb hts iX10_endsIf_X10 hown hK.1 hP 1 rfl rfl 25 (by decide) (hts _ kX10_endsIf_35) (fun _ h9 => h9) rfl dX10_endsIf_31 ?_
    refine lv_iconst (v := (0 : Int32)) hx hb dX10_endsIf_34 (by decide) ?_
    obtain ⟨u_12, u_13, u_14, hu_15, hF⟩ := ob3_some hF
    refine call_i (wr := [aI g (p_t 17) 17 f_t_17]) (As := [.ref (p_t 25), .int (0 : Int32)]) (rest := []) (ci := 10) (q0 := 0) C0 (mX10_endsOn l g a_t (p_t 25) p_t n (0 : Int32) u_9 f_t_15 u_10 u_12 u_13 u_14 hu_15) (cwV 2 hts gX10_endsIf_X10_endsOn rfl rfl rfl (by decide +kernel) ⟨Nat.le_of_ble_eq_true rfl, Nat.le_of_ble_eq_true rfl⟩) hP hD hS [1, 2, 3] [0] rfl rfl rfl rfl rfl (by decide) rfl rfl hl.1 rfl rfl (Nat.le_of_ble_eq_true rfl) ⟨Nat.zero_le _, Nat.zero_le _⟩ dX10_endsIf_35 ?_
    intro H locs hP hD hS
    cases hF
    exact ret_i C0 hP hD hS [1, 2, 0, 3] rfl rfl rfl dX10_endsIf_38 rfl

theorem dAX10_endsWithout : ∀ q ∈ ([(0, (.aload_n 0, 1)), (1, (.invokevirtual 159, 3)), (4, (.aload_n 0, 1)), (5, (.iload_n 1, 1)), (6, (.invokevirtual 312, 3)), (9, (.ifCond .eq 15, 3)), (12, (.aload_n 0, 1)), (13, (.aload_n 0, 1)), (14, (.iload_n 1, 1)), (15, (.invokevirtual 312, 3)), (18, (.invokevirtual 162, 3)), (21, (.goto 10, 3)), (24, (.aload_n 0, 1)), (25, (.iconst 1, 1)), (26, (.iload_n 1, 1)), (27, (.ishl, 1)), (28, (.invokevirtual 318, 3)), (31, (.ireturn, 1))] : List (Nat × (Instr × Nat))), decode cX10_endsWithout q.1 = .ok q.2 := by decide +kernel
theorem dX10_endsWithout_0 : decode cX10_endsWithout 0 = .ok (.aload_n 0, 1) := dAX10_endsWithout (0, (.aload_n 0, 1)) (List.mem_of_getElem? (i := 0) rfl)
theorem dX10_endsWithout_1 : decode cX10_endsWithout 1 = .ok (.invokevirtual 159, 3) := dAX10_endsWithout (1, (.invokevirtual 159, 3)) (List.mem_of_getElem? (i := 1) rfl)
theorem dX10_endsWithout_4 : decode cX10_endsWithout 4 = .ok (.aload_n 0, 1) := dAX10_endsWithout (4, (.aload_n 0, 1)) (List.mem_of_getElem? (i := 2) rfl)
theorem dX10_endsWithout_5 : decode cX10_endsWithout 5 = .ok (.iload_n 1, 1) := dAX10_endsWithout (5, (.iload_n 1, 1)) (List.mem_of_getElem? (i := 3) rfl)
theorem dX10_endsWithout_6 : decode cX10_endsWithout 6 = .ok (.invokevirtual 312, 3) := dAX10_endsWithout (6, (.invokevirtual 312, 3)) (List.mem_of_getElem? (i := 4) rfl)
theorem dX10_endsWithout_9 : decode cX10_endsWithout 9 = .ok (.ifCond .eq 15, 3) := dAX10_endsWithout (9, (.ifCond .eq 15, 3)) (List.mem_of_getElem? (i := 5) rfl)
theorem dX10_endsWithout_12 : decode cX10_endsWithout 12 = .ok (.aload_n 0, 1) := dAX10_endsWithout (12, (.aload_n 0, 1)) (List.mem_of_getElem? (i := 6) rfl)
theorem dX10_endsWithout_13 : decode cX10_endsWithout 13 = .ok (.aload_n 0, 1) := dAX10_endsWithout (13, (.aload_n 0, 1)) (List.mem_of_getElem? (i := 7) rfl)
theorem dX10_endsWithout_14 : decode cX10_endsWithout 14 = .ok (.iload_n 1, 1) := dAX10_endsWithout (14, (.iload_n 1, 1)) (List.mem_of_getElem? (i := 8) rfl)
theorem dX10_endsWithout_15 : decode cX10_endsWithout 15 = .ok (.invokevirtual 312, 3) := dAX10_endsWithout (15, (.invokevirtual 312, 3)) (List.mem_of_getElem? (i := 9) rfl)
theorem dX10_endsWithout_18 : decode cX10_endsWithout 18 = .ok (.invokevirtual 162, 3) := dAX10_endsWithout (18, (.invokevirtual 162, 3)) (List.mem_of_getElem? (i := 10) rfl)
theorem dX10_endsWithout_21 : decode cX10_endsWithout 21 = .ok (.goto 10, 3) := dAX10_endsWithout (21, (.goto 10, 3)) (List.mem_of_getElem? (i := 11) rfl)
theorem dX10_endsWithout_24 : decode cX10_endsWithout 24 = .ok (.aload_n 0, 1) := dAX10_endsWithout (24, (.aload_n 0, 1)) (List.mem_of_getElem? (i := 12) rfl)
theorem dX10_endsWithout_25 : decode cX10_endsWithout 25 = .ok (.iconst 1, 1) := dAX10_endsWithout (25, (.iconst 1, 1)) (List.mem_of_getElem? (i := 13) rfl)
theorem dX10_endsWithout_26 : decode cX10_endsWithout 26 = .ok (.iload_n 1, 1) := dAX10_endsWithout (26, (.iload_n 1, 1)) (List.mem_of_getElem? (i := 14) rfl)
theorem dX10_endsWithout_27 : decode cX10_endsWithout 27 = .ok (.ishl, 1) := dAX10_endsWithout (27, (.ishl, 1)) (List.mem_of_getElem? (i := 15) rfl)
theorem dX10_endsWithout_28 : decode cX10_endsWithout 28 = .ok (.invokevirtual 318, 3) := dAX10_endsWithout (28, (.invokevirtual 318, 3)) (List.mem_of_getElem? (i := 16) rfl)
theorem dX10_endsWithout_31 : decode cX10_endsWithout 31 = .ok (.ireturn, 1) := dAX10_endsWithout (31, (.ireturn, 1)) (List.mem_of_getElem? (i := 17) rfl)
set_option maxRecDepth 20000 in
theorem ggX10_endsWithout_X10_good : GoodIn wsX10_endsWithout wsX10_good := goodIn_r _ [5, 6, 7, 88, 89, 90, 91, 92, 93, 94, 95, 96, 97, 98, 99, 100, 101, 102, 103, 104, 105, 106, 107, 108, 109, 110, 111, 112, 113, 114, 115, 116, 117, 118, 119, 120, 121, 122] rfl (by decide +kernel)
set_option maxRecDepth 20000 in
theorem gX10_endsWithout_X10_good : GoodIn wsX10_endsWithout (wsV RX10 159 RX10 yX10_good wsX10_good) := goodIn_app (goodIn_of _ (by decide +kernel)) ggX10_endsWithout_X10_good
set_option maxRecDepth 20000 in
theorem ggX10_endsWithout_X10_thereWhy : GoodIn wsX10_endsWithout wsX10_thereWhy := goodIn_r _ [11, 12, 13, 14, 15, 4, 16, 17, 18, 19, 20, 21, 22, 23, 24, 88, 89, 90, 91, 92, 93, 94, 95, 96, 97, 98, 99, 100, 101, 102, 103, 104, 105, 106, 107, 108, 109, 110, 111, 112, 113, 114, 115, 116, 117, 118, 119, 120, 121, 122] rfl (by decide +kernel)
set_option maxRecDepth 20000 in
theorem gX10_endsWithout_X10_thereWhy : GoodIn wsX10_endsWithout (wsV RX10 312 RX10 yX10_thereWhy wsX10_thereWhy) := goodIn_app (goodIn_of _ (by decide +kernel)) ggX10_endsWithout_X10_thereWhy
set_option maxRecDepth 20000 in
theorem ggX10_endsWithout_X10_no : GoodIn wsX10_endsWithout wsX10_no := goodIn_r _ [28, 7, 88, 89, 90, 91, 92, 93, 94, 95, 96, 97, 98, 99, 100, 101, 102, 103, 104, 105, 106, 107, 108, 109, 110, 111, 112, 113, 114, 115, 116, 117, 118, 119, 120, 121, 122] rfl (by decide +kernel)
set_option maxRecDepth 20000 in
theorem gX10_endsWithout_X10_no : GoodIn wsX10_endsWithout (wsV RX10 162 RX10 yX10_no wsX10_no) := goodIn_app (goodIn_of _ (by decide +kernel)) ggX10_endsWithout_X10_no
set_option maxRecDepth 20000 in
theorem ggX10_endsWithout_X10_endsIf : GoodIn wsX10_endsWithout wsX10_endsIf := goodIn_r _ [32, 12, 33, 34, 35, 4, 36, 37, 38, 39, 40, 41, 42, 43, 44, 18, 45, 46, 47, 22, 23, 24, 48, 49, 50, 51, 52, 53, 54, 55, 56, 57, 58, 59, 60, 61, 62, 63, 64, 65, 66, 67, 68, 69, 70, 71, 72, 73, 74, 75, 76, 77, 78, 79, 80, 81, 82, 83, 84, 85, 86, 87, 88, 89, 90, 91, 92, 93, 94, 95, 96, 97, 98, 99, 100, 101, 102, 103, 104, 105, 106, 107, 108, 109, 110, 111, 112, 113, 114, 115, 116, 117, 118, 119, 120, 121, 122] rfl (by decide +kernel)
set_option maxRecDepth 20000 in
theorem gX10_endsWithout_X10_endsIf : GoodIn wsX10_endsWithout (wsV RX10 318 RX10 yX10_endsIf wsX10_endsIf) := goodIn_app (goodIn_of _ (by decide +kernel)) ggX10_endsWithout_X10_endsIf
set_option maxHeartbeats 4000000 in
set_option maxRecDepth 100000 in
theorem mX10_endsWithout (l : Launch) (g : GG) (a_t : Nat) (p_t : Nat → Nat) (n : Nat) (x1 : Int32) (o_t : Nat → Int32) (f_t_15 : Nat → Int32) (f_t_17 : Nat → Int32) (f_t_25 : Nat → Int32) (r : Int32) (o_t' : Nat → Int32) (f_t_25' : Nat → Int32) (hF : fX10_endsWithout n x1 o_t f_t_15 f_t_17 f_t_25 = some (r, o_t', f_t_25')) : MI l g yX10_endsWithout wsX10_endsWithout ({ frames := 6, cells := 0, slots := 0, locals := 137 } : Room) [.ref a_t, .int x1] [oX10 a_t p_t o_t, aI g (p_t 15) 266 f_t_15, aI g (p_t 17) 17 f_t_17, aI g (p_t 25) 17 f_t_25] r [oX10 a_t p_t o_t', aI g (p_t 15) 266 f_t_15, aI g (p_t 17) 17 f_t_17, aI g (p_t 25) 17 f_t_25'] := by
  refine MI.of (cc := cX10_endsWithout) (maxL := 2) (rt := .int) (own := RX10) rfl rfl (by decide) (Nat.le_of_ble_eq_true rfl) ?_
  intro p e s m args below meth c A C0 hP hD hS ls hl
  obtain ⟨hx, hb, hml, hown, hts, hr, hlk, hK, hA, hSW⟩ := id C0
  have hl : lv_has ls 2 [(0, .ref a_t), (1, .int x1)] := hl
  rw [fX10_endsWithout] at hF
  refine lv_aload_n hx hb dX10_endsWithout_0 rfl (lv_at hl 0 rfl) ?_
  obtain ⟨u_1, hu_2, hF⟩ := ob1_some hF
  refine call_v (wr := [aI g (p_t 15) 266 f_t_15, aI g (p_t 17) 17 f_t_17, aI g (p_t 25) 17 f_t_25]) (As := []) (rest := []) (ci := 10) (q0 := 0) C0 (mX10_good l g a_t p_t n o_t u_1 hu_2) (cwV 0 hts gX10_endsWithout_X10_good rfl rfl rfl (by decide +kernel) ⟨Nat.le_of_ble_eq_true rfl, Nat.le_of_ble_eq_true rfl⟩) hP hD hS [0] [1, 2, 3] rfl rfl rfl rfl rfl (by decide) rfl rfl hl.1 rfl rfl (Nat.le_of_ble_eq_true rfl) ⟨Nat.zero_le _, Nat.zero_le _⟩ dX10_endsWithout_1 ?_
  intro H locs hP hD hS
  refine lv_aload_n hx hb dX10_endsWithout_4 rfl (lv_at hl 0 rfl) ?_
  refine lv_iload_n hx hb dX10_endsWithout_5 rfl (lv_at hl 1 rfl) ?_
  obtain ⟨u_3, hu_4, hF⟩ := ob1_some hF
  refine call_i (wr := [aI g (p_t 25) 17 f_t_25]) (As := [.int x1]) (rest := []) (ci := 10) (q0 := 0) C0 (mX10_thereWhy l g a_t p_t n x1 u_1 f_t_15 f_t_17 u_3 hu_4) (cwV 1 hts gX10_endsWithout_X10_thereWhy rfl rfl rfl (by decide +kernel) ⟨Nat.le_of_ble_eq_true rfl, Nat.le_of_ble_eq_true rfl⟩) hP hD hS [3, 0, 1] [2] rfl rfl rfl rfl rfl (by decide) rfl rfl hl.1 rfl rfl (Nat.le_of_ble_eq_true rfl) ⟨Nat.zero_le _, Nat.zero_le _⟩ dX10_endsWithout_6 ?_
  intro H locs hP hD hS
  refine lv_if_eq (tgt := 24) hx hb dX10_endsWithout_9 (by decide) (fun c_5 => ?_) (fun c_5 => ?_)
  · have hF := it_p c_5 hF
    refine lv_aload_n hx hb dX10_endsWithout_24 rfl (lv_at hl 0 rfl) ?_
    refine lv_iconst (v := (1 : Int32)) hx hb dX10_endsWithout_25 (by decide) ?_
    refine lv_iload_n hx hb dX10_endsWithout_26 rfl (lv_at hl 1 rfl) ?_
    refine lv_ishl hx hb dX10_endsWithout_27 ?_
    obtain ⟨u_6, u_7, u_8, hu_9, hF⟩ := ob3_some hF
    refine call_i (wr := []) (As := [.int ((1 : Int32) <<< (x1 &&& 31))]) (rest := []) (ci := 10) (q0 := 0) C0 (mX10_endsIf l g a_t p_t n ((1 : Int32) <<< (x1 &&& 31)) u_1 f_t_15 f_t_17 f_t_25 u_6 u_7 u_8 hu_9) (cwV 1 hts gX10_endsWithout_X10_endsIf rfl rfl rfl (by decide +kernel) ⟨Nat.le_of_ble_eq_true rfl, Nat.le_of_ble_eq_true rfl⟩) hP hD hS [1, 2, 3, 0] [] rfl rfl rfl rfl rfl (by decide) rfl rfl hl.1 rfl rfl (Nat.le_of_ble_eq_true rfl) ⟨Nat.zero_le _, Nat.zero_le _⟩ dX10_endsWithout_28 ?_
    intro H locs hP hD hS
    cases hF
    exact ret_i C0 hP hD hS [0, 1, 2, 3] rfl rfl rfl dX10_endsWithout_31 rfl
  · have hF := it_n c_5 hF
    refine lv_aload_n hx hb dX10_endsWithout_12 rfl (lv_at hl 0 rfl) ?_
    refine lv_aload_n hx hb dX10_endsWithout_13 rfl (lv_at hl 0 rfl) ?_
    refine lv_iload_n hx hb dX10_endsWithout_14 rfl (lv_at hl 1 rfl) ?_
    obtain ⟨u_10, hu_11, hF⟩ := ob1_some hF
    refine call_i (wr := [aI g (p_t 25) 17 f_t_25]) (As := [.int x1]) (rest := [.ref a_t]) (ci := 10) (q0 := 0) C0 (mX10_thereWhy l g a_t p_t n x1 u_1 f_t_15 f_t_17 u_10 hu_11) (cwV 1 hts gX10_endsWithout_X10_thereWhy rfl rfl rfl (by decide +kernel) ⟨Nat.le_of_ble_eq_true rfl, Nat.le_of_ble_eq_true rfl⟩) hP hD hS [1, 2, 3] [0] rfl rfl rfl rfl rfl (by decide) rfl rfl hl.1 rfl rfl (Nat.le_of_ble_eq_true rfl) ⟨Nat.zero_le _, Nat.zero_le _⟩ dX10_endsWithout_15 ?_
    intro H locs hP hD hS
    obtain ⟨u_12, u_13, hu_14, hF⟩ := ob2_some hF
    refine call_i (wr := [aI g (p_t 25) 17 f_t_25, aI g (p_t 15) 266 f_t_15, aI g (p_t 17) 17 f_t_17]) (As := [.int u_10]) (rest := []) (ci := 10) (q0 := 0) C0 (mX10_no l g a_t p_t n u_10 u_1 u_12 u_13 hu_14) (cwV 1 hts gX10_endsWithout_X10_no rfl rfl rfl (by decide +kernel) ⟨Nat.le_of_ble_eq_true rfl, Nat.le_of_ble_eq_true rfl⟩) hP hD hS [1] [0, 2, 3] rfl rfl rfl rfl rfl (by decide) rfl rfl hl.1 rfl rfl (Nat.le_of_ble_eq_true rfl) ⟨Nat.zero_le _, Nat.zero_le _⟩ dX10_endsWithout_18 ?_
    intro H locs hP hD hS
    refine lv_goto (tgt := 31) hx hb dX10_endsWithout_21 (by decide) ?_
    cases hF
    exact ret_i C0 hP hD hS [3, 1, 2, 0] rfl rfl rfl dX10_endsWithout_31 rfl

theorem dAX10_holder : ∀ q ∈ ([(0, (.aload_n 0, 1)), (1, (.invokevirtual 159, 3)), (4, (.aload_n 0, 1)), (5, (.getfield 176, 3)), (8, (.ifCond .ne 9, 3)), (11, (.aload_n 0, 1)), (12, (.iconst 1, 1)), (13, (.invokevirtual 162, 3)), (16, (.ireturn, 1)), (17, (.bipush (-2), 2)), (19, (.istore_n 1, 1)), (20, (.aload_n 0, 1)), (21, (.invokevirtual 309, 3)), (24, (.ifCond .ge 9, 3)), (27, (.ldc_w 321, 3)), (30, (.goto 7, 3)), (33, (.aload_n 0, 1)), (34, (.invokevirtual 309, 3)), (37, (.istore_n 2, 1)), (38, (.iconst 0, 1)), (39, (.istore_n 3, 1)), (40, (.iload_n 3, 1)), (41, (.aload_n 0, 1)), (42, (.getfield 20, 3)), (45, (.iconst 3, 1)), (46, (.iaload, 1)), (47, (.if_icmp .ge 53, 3)), (50, (.aload_n 0, 1)), (51, (.getfield 26, 3)), (54, (.iload_n 3, 1)), (55, (.invokestatic 248, 3)), (58, (.ifCond .eq 13, 3)), (61, (.aload_n 0, 1)), (62, (.iconst 1, 1)), (63, (.iload_n 3, 1)), (64, (.ishl, 1)), (65, (.invokevirtual 318, 3)), (68, (.goto 5, 3)), (71, (.bipush (-2), 2)), (73, (.istore 4, 2)), (75, (.iload 4, 2)), (77, (.ifCond .lt 17, 3)), (80, (.iload 4, 2)), (82, (.iload_n 2, 1)), (83, (.if_icmp .lt 6, 3)), (86, (.goto 8, 3)), (89, (.iload_n 3, 1)), (90, (.istore_n 1, 1)), (91, (.iload 4, 2)), (93, (.istore_n 2, 1)), (94, (.iinc 3 1, 3)), (97, (.goto (-57), 3)), (100, (.iload_n 1, 1)), (101, (.ireturn, 1))] : List (Nat × (Instr × Nat))), decode cX10_holder q.1 = .ok q.2 := by decide +kernel
theorem dX10_holder_0 : decode cX10_holder 0 = .ok (.aload_n 0, 1) := dAX10_holder (0, (.aload_n 0, 1)) (List.mem_of_getElem? (i := 0) rfl)
theorem dX10_holder_1 : decode cX10_holder 1 = .ok (.invokevirtual 159, 3) := dAX10_holder (1, (.invokevirtual 159, 3)) (List.mem_of_getElem? (i := 1) rfl)
theorem dX10_holder_4 : decode cX10_holder 4 = .ok (.aload_n 0, 1) := dAX10_holder (4, (.aload_n 0, 1)) (List.mem_of_getElem? (i := 2) rfl)
theorem dX10_holder_5 : decode cX10_holder 5 = .ok (.getfield 176, 3) := dAX10_holder (5, (.getfield 176, 3)) (List.mem_of_getElem? (i := 3) rfl)
theorem dX10_holder_8 : decode cX10_holder 8 = .ok (.ifCond .ne 9, 3) := dAX10_holder (8, (.ifCond .ne 9, 3)) (List.mem_of_getElem? (i := 4) rfl)
theorem dX10_holder_11 : decode cX10_holder 11 = .ok (.aload_n 0, 1) := dAX10_holder (11, (.aload_n 0, 1)) (List.mem_of_getElem? (i := 5) rfl)
theorem dX10_holder_12 : decode cX10_holder 12 = .ok (.iconst 1, 1) := dAX10_holder (12, (.iconst 1, 1)) (List.mem_of_getElem? (i := 6) rfl)
theorem dX10_holder_13 : decode cX10_holder 13 = .ok (.invokevirtual 162, 3) := dAX10_holder (13, (.invokevirtual 162, 3)) (List.mem_of_getElem? (i := 7) rfl)
theorem dX10_holder_16 : decode cX10_holder 16 = .ok (.ireturn, 1) := dAX10_holder (16, (.ireturn, 1)) (List.mem_of_getElem? (i := 8) rfl)
theorem dX10_holder_17 : decode cX10_holder 17 = .ok (.bipush (-2), 2) := dAX10_holder (17, (.bipush (-2), 2)) (List.mem_of_getElem? (i := 9) rfl)
theorem dX10_holder_19 : decode cX10_holder 19 = .ok (.istore_n 1, 1) := dAX10_holder (19, (.istore_n 1, 1)) (List.mem_of_getElem? (i := 10) rfl)
theorem dX10_holder_20 : decode cX10_holder 20 = .ok (.aload_n 0, 1) := dAX10_holder (20, (.aload_n 0, 1)) (List.mem_of_getElem? (i := 11) rfl)
theorem dX10_holder_21 : decode cX10_holder 21 = .ok (.invokevirtual 309, 3) := dAX10_holder (21, (.invokevirtual 309, 3)) (List.mem_of_getElem? (i := 12) rfl)
theorem dX10_holder_24 : decode cX10_holder 24 = .ok (.ifCond .ge 9, 3) := dAX10_holder (24, (.ifCond .ge 9, 3)) (List.mem_of_getElem? (i := 13) rfl)
theorem dX10_holder_27 : decode cX10_holder 27 = .ok (.ldc_w 321, 3) := dAX10_holder (27, (.ldc_w 321, 3)) (List.mem_of_getElem? (i := 14) rfl)
theorem dX10_holder_30 : decode cX10_holder 30 = .ok (.goto 7, 3) := dAX10_holder (30, (.goto 7, 3)) (List.mem_of_getElem? (i := 15) rfl)
theorem dX10_holder_33 : decode cX10_holder 33 = .ok (.aload_n 0, 1) := dAX10_holder (33, (.aload_n 0, 1)) (List.mem_of_getElem? (i := 16) rfl)
theorem dX10_holder_34 : decode cX10_holder 34 = .ok (.invokevirtual 309, 3) := dAX10_holder (34, (.invokevirtual 309, 3)) (List.mem_of_getElem? (i := 17) rfl)
theorem dX10_holder_37 : decode cX10_holder 37 = .ok (.istore_n 2, 1) := dAX10_holder (37, (.istore_n 2, 1)) (List.mem_of_getElem? (i := 18) rfl)
theorem dX10_holder_38 : decode cX10_holder 38 = .ok (.iconst 0, 1) := dAX10_holder (38, (.iconst 0, 1)) (List.mem_of_getElem? (i := 19) rfl)
theorem dX10_holder_39 : decode cX10_holder 39 = .ok (.istore_n 3, 1) := dAX10_holder (39, (.istore_n 3, 1)) (List.mem_of_getElem? (i := 20) rfl)
theorem dX10_holder_40 : decode cX10_holder 40 = .ok (.iload_n 3, 1) := dAX10_holder (40, (.iload_n 3, 1)) (List.mem_of_getElem? (i := 21) rfl)
theorem dX10_holder_41 : decode cX10_holder 41 = .ok (.aload_n 0, 1) := dAX10_holder (41, (.aload_n 0, 1)) (List.mem_of_getElem? (i := 22) rfl)
theorem dX10_holder_42 : decode cX10_holder 42 = .ok (.getfield 20, 3) := dAX10_holder (42, (.getfield 20, 3)) (List.mem_of_getElem? (i := 23) rfl)
theorem dX10_holder_45 : decode cX10_holder 45 = .ok (.iconst 3, 1) := dAX10_holder (45, (.iconst 3, 1)) (List.mem_of_getElem? (i := 24) rfl)
theorem dX10_holder_46 : decode cX10_holder 46 = .ok (.iaload, 1) := dAX10_holder (46, (.iaload, 1)) (List.mem_of_getElem? (i := 25) rfl)
theorem dX10_holder_47 : decode cX10_holder 47 = .ok (.if_icmp .ge 53, 3) := dAX10_holder (47, (.if_icmp .ge 53, 3)) (List.mem_of_getElem? (i := 26) rfl)
theorem dX10_holder_50 : decode cX10_holder 50 = .ok (.aload_n 0, 1) := dAX10_holder (50, (.aload_n 0, 1)) (List.mem_of_getElem? (i := 27) rfl)
theorem dX10_holder_51 : decode cX10_holder 51 = .ok (.getfield 26, 3) := dAX10_holder (51, (.getfield 26, 3)) (List.mem_of_getElem? (i := 28) rfl)
theorem dX10_holder_54 : decode cX10_holder 54 = .ok (.iload_n 3, 1) := dAX10_holder (54, (.iload_n 3, 1)) (List.mem_of_getElem? (i := 29) rfl)
theorem dX10_holder_55 : decode cX10_holder 55 = .ok (.invokestatic 248, 3) := dAX10_holder (55, (.invokestatic 248, 3)) (List.mem_of_getElem? (i := 30) rfl)
theorem dX10_holder_58 : decode cX10_holder 58 = .ok (.ifCond .eq 13, 3) := dAX10_holder (58, (.ifCond .eq 13, 3)) (List.mem_of_getElem? (i := 31) rfl)
theorem dX10_holder_61 : decode cX10_holder 61 = .ok (.aload_n 0, 1) := dAX10_holder (61, (.aload_n 0, 1)) (List.mem_of_getElem? (i := 32) rfl)
theorem dX10_holder_62 : decode cX10_holder 62 = .ok (.iconst 1, 1) := dAX10_holder (62, (.iconst 1, 1)) (List.mem_of_getElem? (i := 33) rfl)
theorem dX10_holder_63 : decode cX10_holder 63 = .ok (.iload_n 3, 1) := dAX10_holder (63, (.iload_n 3, 1)) (List.mem_of_getElem? (i := 34) rfl)
theorem dX10_holder_64 : decode cX10_holder 64 = .ok (.ishl, 1) := dAX10_holder (64, (.ishl, 1)) (List.mem_of_getElem? (i := 35) rfl)
theorem dX10_holder_65 : decode cX10_holder 65 = .ok (.invokevirtual 318, 3) := dAX10_holder (65, (.invokevirtual 318, 3)) (List.mem_of_getElem? (i := 36) rfl)
theorem dX10_holder_68 : decode cX10_holder 68 = .ok (.goto 5, 3) := dAX10_holder (68, (.goto 5, 3)) (List.mem_of_getElem? (i := 37) rfl)
theorem dX10_holder_71 : decode cX10_holder 71 = .ok (.bipush (-2), 2) := dAX10_holder (71, (.bipush (-2), 2)) (List.mem_of_getElem? (i := 38) rfl)
theorem dX10_holder_73 : decode cX10_holder 73 = .ok (.istore 4, 2) := dAX10_holder (73, (.istore 4, 2)) (List.mem_of_getElem? (i := 39) rfl)
theorem dX10_holder_75 : decode cX10_holder 75 = .ok (.iload 4, 2) := dAX10_holder (75, (.iload 4, 2)) (List.mem_of_getElem? (i := 40) rfl)
theorem dX10_holder_77 : decode cX10_holder 77 = .ok (.ifCond .lt 17, 3) := dAX10_holder (77, (.ifCond .lt 17, 3)) (List.mem_of_getElem? (i := 41) rfl)
theorem dX10_holder_80 : decode cX10_holder 80 = .ok (.iload 4, 2) := dAX10_holder (80, (.iload 4, 2)) (List.mem_of_getElem? (i := 42) rfl)
theorem dX10_holder_82 : decode cX10_holder 82 = .ok (.iload_n 2, 1) := dAX10_holder (82, (.iload_n 2, 1)) (List.mem_of_getElem? (i := 43) rfl)
theorem dX10_holder_83 : decode cX10_holder 83 = .ok (.if_icmp .lt 6, 3) := dAX10_holder (83, (.if_icmp .lt 6, 3)) (List.mem_of_getElem? (i := 44) rfl)
theorem dX10_holder_86 : decode cX10_holder 86 = .ok (.goto 8, 3) := dAX10_holder (86, (.goto 8, 3)) (List.mem_of_getElem? (i := 45) rfl)
theorem dX10_holder_89 : decode cX10_holder 89 = .ok (.iload_n 3, 1) := dAX10_holder (89, (.iload_n 3, 1)) (List.mem_of_getElem? (i := 46) rfl)
theorem dX10_holder_90 : decode cX10_holder 90 = .ok (.istore_n 1, 1) := dAX10_holder (90, (.istore_n 1, 1)) (List.mem_of_getElem? (i := 47) rfl)
theorem dX10_holder_91 : decode cX10_holder 91 = .ok (.iload 4, 2) := dAX10_holder (91, (.iload 4, 2)) (List.mem_of_getElem? (i := 48) rfl)
theorem dX10_holder_93 : decode cX10_holder 93 = .ok (.istore_n 2, 1) := dAX10_holder (93, (.istore_n 2, 1)) (List.mem_of_getElem? (i := 49) rfl)
theorem dX10_holder_94 : decode cX10_holder 94 = .ok (.iinc 3 1, 3) := dAX10_holder (94, (.iinc 3 1, 3)) (List.mem_of_getElem? (i := 50) rfl)
theorem dX10_holder_97 : decode cX10_holder 97 = .ok (.goto (-57), 3) := dAX10_holder (97, (.goto (-57), 3)) (List.mem_of_getElem? (i := 51) rfl)
theorem dX10_holder_100 : decode cX10_holder 100 = .ok (.iload_n 1, 1) := dAX10_holder (100, (.iload_n 1, 1)) (List.mem_of_getElem? (i := 52) rfl)
theorem dX10_holder_101 : decode cX10_holder 101 = .ok (.ireturn, 1) := dAX10_holder (101, (.ireturn, 1)) (List.mem_of_getElem? (i := 53) rfl)
set_option maxRecDepth 20000 in
theorem ggX10_holder_X10_good : GoodIn wsX10_holder wsX10_good := goodIn_r _ [9, 10, 11, 82, 83, 84, 85, 86, 87, 88, 89, 90, 91, 92, 93, 94, 95, 96, 97, 98, 99, 100, 101, 102, 103, 104, 105, 106, 107, 108, 109, 110, 111, 112, 113, 114, 115, 116] rfl (by decide +kernel)
set_option maxRecDepth 20000 in
theorem gX10_holder_X10_good : GoodIn wsX10_holder (wsV RX10 159 RX10 yX10_good wsX10_good) := goodIn_app (goodIn_of _ (by decide +kernel)) ggX10_holder_X10_good
set_option maxRecDepth 20000 in
theorem ggX10_holder_X10_no : GoodIn wsX10_holder wsX10_no := goodIn_r _ [15, 11, 82, 83, 84, 85, 86, 87, 88, 89, 90, 91, 92, 93, 94, 95, 96, 97, 98, 99, 100, 101, 102, 103, 104, 105, 106, 107, 108, 109, 110, 111, 112, 113, 114, 115, 116] rfl (by decide +kernel)
set_option maxRecDepth 20000 in
theorem gX10_holder_X10_no : GoodIn wsX10_holder (wsV RX10 162 RX10 yX10_no wsX10_no) := goodIn_app (goodIn_of _ (by decide +kernel)) ggX10_holder_X10_no
set_option maxRecDepth 20000 in
theorem ggX10_holder_X10_endsNow : GoodIn wsX10_holder wsX10_endsNow := goodIn_r _ [19, 4, 20, 21, 22, 8, 23, 24, 25, 26, 27, 28, 29, 30, 31, 32, 3, 33, 34, 35, 36, 37, 38, 39, 40, 41, 42, 43, 44, 45, 46, 47, 48, 49, 50, 51, 52, 53, 54, 55, 56, 57, 58, 59, 60, 61, 62, 63, 64, 65, 66, 67, 68, 69, 70, 71, 72, 73, 82, 83, 84, 85, 86, 87, 88, 89, 90, 91, 92, 93, 94, 95, 96, 97, 98, 99, 100, 101, 102, 103, 104, 105, 106, 107, 108, 109, 110, 111, 112, 113, 114, 115, 116] rfl (by decide +kernel)
set_option maxRecDepth 20000 in
theorem gX10_holder_X10_endsNow : GoodIn wsX10_holder (wsV RX10 309 RX10 yX10_endsNow wsX10_endsNow) := goodIn_app (goodIn_of _ (by decide +kernel)) ggX10_holder_X10_endsNow
set_option maxRecDepth 20000 in
theorem ggX10_holder_X10_isIn : GoodIn wsX10_holder wsX10_isIn := goodIn_r _ [35] rfl (by decide +kernel)
set_option maxRecDepth 20000 in
theorem gX10_holder_X10_isIn : GoodIn wsX10_holder (va_wsS RX10 248 yX10_isIn wsX10_isIn) := goodIn_app (goodIn_of _ (by decide +kernel)) ggX10_holder_X10_isIn
set_option maxRecDepth 20000 in
theorem ggX10_holder_X10_endsIf : GoodIn wsX10_holder wsX10_endsIf := goodIn_r _ [77, 4, 20, 21, 22, 8, 23, 78, 79, 80, 81, 63, 64, 65, 66, 3, 67, 68, 69, 33, 34, 35, 54, 55, 56, 57, 58, 29, 30, 31, 32, 59, 60, 61, 62, 46, 47, 48, 49, 24, 25, 26, 27, 28, 36, 37, 38, 39, 40, 41, 42, 43, 44, 45, 50, 51, 52, 53, 70, 71, 72, 73, 82, 83, 84, 85, 86, 87, 88, 89, 90, 91, 92, 93, 94, 95, 96, 97, 98, 99, 100, 101, 102, 103, 104, 105, 106, 107, 108, 109, 110, 111, 112, 113, 114, 115, 116] rfl (by decide +kernel)
set_option maxRecDepth 20000 in
theorem gX10_holder_X10_endsIf : GoodIn wsX10_holder (wsV RX10 318 RX10 yX10_endsIf wsX10_endsIf) := goodIn_app (goodIn_of _ (by decide +kernel)) ggX10_holder_X10_endsIf
theorem kX10_holder_176 : Cond.fieldLink RX10 176 "EveningVowModel" "hasEvening" "Z" ∈ wsX10_holder := List.mem_of_getElem? (i := 1) rfl
theorem iX10_holder_X10 : ∀ w ∈ u_ws RX10 TX10 35, w ∈ wsX10_holder := fun w h => (List.mem_cons_of_mem _ (List.mem_append_right _ h))
theorem kX10_holder_20 : Cond.fieldLink RX10 20 "EveningVowModel" "\x72" "[I" ∈ wsX10_holder := List.mem_of_getElem? (i := 3) rfl
theorem kX10_holder_26 : Cond.fieldLink RX10 26 "EveningVowModel" "st" "[I" ∈ wsX10_holder := List.mem_of_getElem? (i := 4) rfl
theorem kX10_holder_321 : Cond.constant RX10 321 (1000000 : Int32) ∈ wsX10_holder := by decide +kernel
set_option maxHeartbeats 4000000 in
set_option maxRecDepth 100000 in
theorem wX10_holder_L40 {p : Program} {l : Launch} {e : Env} {s : State} {m : MethodId} {args : Array Value} {below : List Frame} {meth : Method} {c : Code} {g : GG} {A : Nat → Prop} (C0 : Cx p s m args meth c cX10_holder 5 (some .int) RX10 wsX10_holder g A) (a_t : Nat) (p_t : Nat → Nat) (n : Nat) (f_t_15 : Nat → Int32) (f_t_17 : Nat → Int32)  (r : Int32) (o_t' : Nat → Int32) (f_t_25' : Nat → Int32) (K : Int32 → (Nat → Int32) → (Nat → Int32) → Option (Int32 × (Nat → Int32) × (Nat → Int32))) (hKx : ∀ (x1 : Int32) (o_t : Nat → Int32) (f_t_25 : Nat → Int32) (H : Heap) (locs : List Loc) (ls : Array Slot), K x1 o_t f_t_25 = some (r, o_t', f_t_25') → va_P g.1 vwCl [oX10 a_t p_t o_t, aI g (p_t 15) 266 f_t_15, aI g (p_t 17) 17 f_t_17, aI g (p_t 25) 17 f_t_25] H → va_D A [oX10 a_t p_t o_t, aI g (p_t 15) 266 f_t_15, aI g (p_t 17) 17 f_t_17, aI g (p_t 25) 17 f_t_25] → va_S A s.heap H locs → lv_has ls 5 [(1, .int x1)] → W p l e ({ frames := 6, cells := 0, slots := 0, locals := 137 } : Room) s m args below meth c H locs 0 0 (MQ below (EndI g r [oX10 a_t p_t o_t', aI g (p_t 15) 266 f_t_15, aI g (p_t 17) 17 f_t_17, aI g (p_t 25) 17 f_t_25'] A) args s 0 0 A) (F0 m 100 ls [])) : ∀ (k : Nat) (x1 : Int32) (x2 : Int32) (x3 : Int32) (o_t : Nat → Int32) (f_t_25 : Nat → Int32), fX10_holder_L40 n f_t_15 f_t_17 K k x1 x2 x3 o_t f_t_25 = some (r, o_t', f_t_25') → ∀ (H : Heap) (locs : List Loc) (ls : Array Slot), va_P g.1 vwCl [oX10 a_t p_t o_t, aI g (p_t 15) 266 f_t_15, aI g (p_t 17) 17 f_t_17, aI g (p_t 25) 17 f_t_25] H → va_D A [oX10 a_t p_t o_t, aI g (p_t 15) 266 f_t_15, aI g (p_t 17) 17 f_t_17, aI g (p_t 25) 17 f_t_25] → va_S A s.heap H locs → lv_has ls 5 [(0, .ref a_t), (1, .int x1), (2, .int x2), (3, .int x3)] → W p l e ({ frames := 6, cells := 0, slots := 0, locals := 137 } : Room) s m args below meth c H locs 0 0 (MQ below (EndI g r [oX10 a_t p_t o_t', aI g (p_t 15) 266 f_t_15, aI g (p_t 17) 17 f_t_17, aI g (p_t 25) 17 f_t_25'] A) args s 0 0 A) (F0 m 40 ls []) := by
  obtain ⟨hx, hb, hml, hown, hts, hr, hlk, hK, hA, hSW⟩ := id C0
  intro k
  induction k with
  | zero =>
    intro x1 x2 x3 o_t f_t_25 hF
    exact absurd hF (by simp [fX10_holder_L40])
  | succ k ih =>
    intro x1 x2 x3 o_t f_t_25 hF H locs ls hP hD hS hl
    rw [fX10_holder_L40] at hF
    refine lv_iload_n hx hb dX10_holder_40 rfl (lv_at hl 3 rfl) ?_
    refine lv_aload_n hx hb dX10_holder_41 rfl (lv_at hl 0 rfl) ?_
    refine va_get (D := g.1) (ci := 10) (v := .ref (p_t 15)) (C := RX10) (T := TX10) (N := 35) hx hb hts iX10_holder_X10 hown hK.1 hP 0 rfl rfl 15 (by decide) (hts _ kX10_holder_20) (fun _ h9 => h9) rfl dX10_holder_42 ?_
    refine lv_iconst (v := (3 : Int32)) hx hb dX10_holder_45 (by decide) ?_
    refine va_iald_k (j := 3) hx hb hK.1 hP 1 0 rfl rfl (by unfold vp_in; decide) rfl dX10_holder_46 ?_
    refine lv_icmp_ge (tgt := 100) hx hb dX10_holder_47 (by decide) (fun c_13 => ?_) (fun c_13 => ?_)
    · have hF := it_p c_13 hF
      exact hKx x1 o_t f_t_25 _ _ _ hF (hP.sub [0, 1, 2, 3] rfl) (hD.sub [0, 1, 2, 3] rfl rfl) hS (lv_sub hl [1] rfl)
    · have hF := it_n c_13 hF
      refine lv_aload_n hx hb dX10_holder_50 rfl (lv_at hl 0 rfl) ?_
      refine va_get (D := g.1) (ci := 10) (v := .ref (p_t 17)) (C := RX10) (T := TX10) (N := 35) hx hb hts iX10_holder_X10 hown hK.1 hP 0 rfl rfl 17 (by decide) (hts _ kX10_holder_26) (fun _ h9 => h9) rfl dX10_holder_51 ?_
      refine lv_iload_n hx hb dX10_holder_54 rfl (lv_at hl 3 rfl) ?_
      obtain ⟨u_14, hu_15, hF⟩ := ob1_some hF
      refine call_si (wr := [oX10 a_t p_t o_t, aI g (p_t 15) 266 f_t_15, aI g (p_t 25) 17 f_t_25]) (As := [.ref (p_t 17), .int x3]) (rest := []) C0 (mX10_isIn l g (p_t 17) n x3 f_t_17 u_14 hu_15) (va_cwS 2 hts gX10_holder_X10_isIn rfl rfl rfl (by decide +kernel) ⟨Nat.le_of_ble_eq_true rfl, Nat.le_of_ble_eq_true rfl⟩) hP hD hS [2] [0, 1, 3] rfl rfl rfl rfl rfl (by decide) hl.1 rfl rfl (Nat.le_of_ble_eq_true rfl) ⟨Nat.zero_le _, Nat.zero_le _⟩ dX10_holder_55 ?_
      intro H locs hP hD hS
      refine lv_if_eq (tgt := 71) hx hb dX10_holder_58 (by decide) (fun c_16 => ?_) (fun c_16 => ?_)
      · have hF := it_p c_16 hF
        refine lv_bipush (v := (-2 : Int32)) hx hb dX10_holder_71 (by decide) ?_
        refine lv_istore (lv' := [(4, .int (-2 : Int32)), (0, .ref a_t), (1, .int x1), (2, .int x2), (3, .int x3)]) hx hb dX10_holder_73 hl (by decide) rfl (fun ls hl => ?_)
        refine lv_iload hx hb dX10_holder_75 (lv_at hl 0 rfl) ?_
        refine lv_if_lt (tgt := 94) hx hb dX10_holder_77 (by decide) (fun c_17 => ?_) (fun c_17 => ?_)
        · skip
          refine lv_iinc (v := (x3 + (1 : Int32))) (lv' := [(3, .int (x3 + (1 : Int32))), (4, .int (-2 : Int32)), (0, .ref a_t), (1, .int x1), (2, .int x2)]) hx hb dX10_holder_94 hl (k := 4) rfl rfl (by decide) rfl (fun ls hl => ?_)
          refine lv_goto (tgt := 40) hx hb dX10_holder_97 (by decide) ?_
          exact ih x1 x2 (x3 + (1 : Int32)) o_t f_t_25 hF _ _ _ (hP.sub [0, 1, 3, 2] rfl) (hD.sub [0, 1, 3, 2] rfl rfl) hS (lv_sub hl [2, 3, 4, 0] rfl)
        · exact absurd c_17 (by decide)
      · have hF := it_n c_16 hF
        refine lv_aload_n hx hb dX10_holder_61 rfl (lv_at hl 0 rfl) ?_
        refine lv_iconst (v := (1 : Int32)) hx hb dX10_holder_62 (by decide) ?_
        refine lv_iload_n hx hb dX10_holder_63 rfl (lv_at hl 3 rfl) ?_
        refine lv_ishl hx hb dX10_holder_64 ?_
        obtain ⟨u_18, u_19, u_20, hu_21, hF⟩ := ob3_some hF
        refine call_i (wr := []) (As := [.int ((1 : Int32) <<< (x3 &&& 31))]) (rest := []) (ci := 10) (q0 := 0) C0 (mX10_endsIf l g a_t p_t n ((1 : Int32) <<< (x3 &&& 31)) o_t f_t_15 f_t_17 f_t_25 u_18 u_19 u_20 hu_21) (cwV 1 hts gX10_holder_X10_endsIf rfl rfl rfl (by decide +kernel) ⟨Nat.le_of_ble_eq_true rfl, Nat.le_of_ble_eq_true rfl⟩) hP hD hS [0, 1, 3, 2] [] rfl rfl rfl rfl rfl (by decide) rfl rfl hl.1 rfl rfl (Nat.le_of_ble_eq_true rfl) ⟨Nat.zero_le _, Nat.zero_le _⟩ dX10_holder_65 ?_
        intro H locs hP hD hS
        refine lv_goto (tgt := 73) hx hb dX10_holder_68 (by decide) ?_
        refine lv_istore (lv' := [(4, .int u_18), (0, .ref a_t), (1, .int x1), (2, .int x2), (3, .int x3)]) hx hb dX10_holder_73 hl (by decide) rfl (fun ls hl => ?_)
        refine lv_iload hx hb dX10_holder_75 (lv_at hl 0 rfl) ?_
        refine lv_if_lt (tgt := 94) hx hb dX10_holder_77 (by decide) (fun c_22 => ?_) (fun c_22 => ?_)
        · have hF := it_p c_22 hF
          refine lv_iinc (v := (x3 + (1 : Int32))) (lv' := [(3, .int (x3 + (1 : Int32))), (4, .int u_18), (0, .ref a_t), (1, .int x1), (2, .int x2)]) hx hb dX10_holder_94 hl (k := 4) rfl rfl (by decide) rfl (fun ls hl => ?_)
          refine lv_goto (tgt := 40) hx hb dX10_holder_97 (by decide) ?_
          exact ih x1 x2 (x3 + (1 : Int32)) u_19 u_20 hF _ _ _ (hP.sub [0, 1, 2, 3] rfl) (hD.sub [0, 1, 2, 3] rfl rfl) hS (lv_sub hl [2, 3, 4, 0] rfl)
        · have hF := it_n c_22 hF
          refine lv_iload hx hb dX10_holder_80 (lv_at hl 0 rfl) ?_
          refine lv_iload_n hx hb dX10_holder_82 rfl (lv_at hl 3 rfl) ?_
          refine lv_icmp_lt (tgt := 89) hx hb dX10_holder_83 (by decide) (fun c_23 => ?_) (fun c_23 => ?_)
          · have hF := it_p c_23 hF
            refine lv_iload_n hx hb dX10_holder_89 rfl (lv_at hl 4 rfl) ?_
            refine lv_istore_n (lv' := [(1, .int x3), (4, .int u_18), (0, .ref a_t), (2, .int x2), (3, .int x3)]) hx hb dX10_holder_90 rfl hl (by decide) rfl (fun ls hl => ?_)
            refine lv_iload hx hb dX10_holder_91 (lv_at hl 1 rfl) ?_
            refine lv_istore_n (lv' := [(2, .int u_18), (1, .int x3), (4, .int u_18), (0, .ref a_t), (3, .int x3)]) hx hb dX10_holder_93 rfl hl (by decide) rfl (fun ls hl => ?_)
            refine lv_iinc (v := (x3 + (1 : Int32))) (lv' := [(3, .int (x3 + (1 : Int32))), (2, .int u_18), (1, .int x3), (4, .int u_18), (0, .ref a_t)]) hx hb dX10_holder_94 hl (k := 4) rfl rfl (by decide) rfl (fun ls hl => ?_)
            refine lv_goto (tgt := 40) hx hb dX10_holder_97 (by decide) ?_
            exact ih x3 u_18 (x3 + (1 : Int32)) u_19 u_20 hF _ _ _ (hP.sub [0, 1, 2, 3] rfl) (hD.sub [0, 1, 2, 3] rfl rfl) hS (lv_sub hl [4, 2, 1, 0] rfl)
          · have hF := it_n c_23 hF
            refine lv_goto (tgt := 94) hx hb dX10_holder_86 (by decide) ?_
            refine lv_iinc (v := (x3 + (1 : Int32))) (lv' := [(3, .int (x3 + (1 : Int32))), (4, .int u_18), (0, .ref a_t), (1, .int x1), (2, .int x2)]) hx hb dX10_holder_94 hl (k := 4) rfl rfl (by decide) rfl (fun ls hl => ?_)
            refine lv_goto (tgt := 40) hx hb dX10_holder_97 (by decide) ?_
            exact ih x1 x2 (x3 + (1 : Int32)) u_19 u_20 hF _ _ _ (hP.sub [0, 1, 2, 3] rfl) (hD.sub [0, 1, 2, 3] rfl rfl) hS (lv_sub hl [2, 3, 4, 0] rfl)
set_option maxHeartbeats 4000000 in
set_option maxRecDepth 100000 in
theorem mX10_holder (l : Launch) (g : GG) (a_t : Nat) (p_t : Nat → Nat) (n : Nat) (o_t : Nat → Int32) (f_t_15 : Nat → Int32) (f_t_17 : Nat → Int32) (f_t_25 : Nat → Int32) (r : Int32) (o_t' : Nat → Int32) (f_t_25' : Nat → Int32) (hF : fX10_holder n o_t f_t_15 f_t_17 f_t_25 = some (r, o_t', f_t_25')) : MI l g yX10_holder wsX10_holder ({ frames := 6, cells := 0, slots := 0, locals := 137 } : Room) [.ref a_t] [oX10 a_t p_t o_t, aI g (p_t 15) 266 f_t_15, aI g (p_t 17) 17 f_t_17, aI g (p_t 25) 17 f_t_25] r [oX10 a_t p_t o_t', aI g (p_t 15) 266 f_t_15, aI g (p_t 17) 17 f_t_17, aI g (p_t 25) 17 f_t_25'] := by
  refine MI.of (cc := cX10_holder) (maxL := 5) (rt := .int) (own := RX10) rfl rfl (by decide) (Nat.le_of_ble_eq_true rfl) ?_
  intro p e s m args below meth c A C0 hP hD hS ls hl
  obtain ⟨hx, hb, hml, hown, hts, hr, hlk, hK, hA, hSW⟩ := id C0
  have hl : lv_has ls 5 [(0, .ref a_t)] := hl
  rw [fX10_holder] at hF
  refine lv_aload_n hx hb dX10_holder_0 rfl (lv_at hl 0 rfl) ?_
  obtain ⟨u_1, hu_2, hF⟩ := ob1_some hF
  refine call_v (wr := [aI g (p_t 15) 266 f_t_15, aI g (p_t 17) 17 f_t_17, aI g (p_t 25) 17 f_t_25]) (As := []) (rest := []) (ci := 10) (q0 := 0) C0 (mX10_good l g a_t p_t n o_t u_1 hu_2) (cwV 0 hts gX10_holder_X10_good rfl rfl rfl (by decide +kernel) ⟨Nat.le_of_ble_eq_true rfl, Nat.le_of_ble_eq_true rfl⟩) hP hD hS [0] [1, 2, 3] rfl rfl rfl rfl rfl (by decide) rfl rfl hl.1 rfl rfl (Nat.le_of_ble_eq_true rfl) ⟨Nat.zero_le _, Nat.zero_le _⟩ dX10_holder_1 ?_
  intro H locs hP hD hS
  refine lv_aload_n hx hb dX10_holder_4 rfl (lv_at hl 0 rfl) ?_
  refine va_get (D := g.1) (ci := 10) (v := .int (u_1 14)) (C := RX10) (T := TX10) (N := 35) hx hb hts iX10_holder_X10 hown hK.1 hP 3 rfl rfl 14 (by decide) (hts _ kX10_holder_176) (fun _ h9 => h9) rfl dX10_holder_5 ?_
  refine lv_if_ne (tgt := 17) hx hb dX10_holder_8 (by decide) (fun c_3 => ?_) (fun c_3 => ?_)
  · have hF := it_n c_3 hF
    refine lv_bipush (v := (-2 : Int32)) hx hb dX10_holder_17 (by decide) ?_
    refine lv_istore_n (lv' := [(1, .int (-2 : Int32)), (0, .ref a_t)]) hx hb dX10_holder_19 rfl hl (by decide) rfl (fun ls hl => ?_)
    refine lv_aload_n hx hb dX10_holder_20 rfl (lv_at hl 1 rfl) ?_
    obtain ⟨u_4, u_5, u_6, hu_7, hF⟩ := ob3_some hF
    refine call_i (wr := []) (As := []) (rest := []) (ci := 10) (q0 := 0) C0 (mX10_endsNow l g a_t p_t n u_1 f_t_15 f_t_17 f_t_25 u_4 u_5 u_6 hu_7) (cwV 0 hts gX10_holder_X10_endsNow rfl rfl rfl (by decide +kernel) ⟨Nat.le_of_ble_eq_true rfl, Nat.le_of_ble_eq_true rfl⟩) hP hD hS [3, 0, 1, 2] [] rfl rfl rfl rfl rfl (by decide) rfl rfl hl.1 rfl rfl (Nat.le_of_ble_eq_true rfl) ⟨Nat.zero_le _, Nat.zero_le _⟩ dX10_holder_21 ?_
    intro H locs hP hD hS
    refine lv_if_ge (tgt := 33) hx hb dX10_holder_24 (by decide) (fun c_8 => ?_) (fun c_8 => ?_)
    · have hF := it_p c_8 hF
      refine lv_aload_n hx hb dX10_holder_33 rfl (lv_at hl 1 rfl) ?_
      obtain ⟨u_9, u_10, u_11, hu_12, hF⟩ := ob3_some hF
      refine call_i (wr := []) (As := []) (rest := []) (ci := 10) (q0 := 0) C0 (mX10_endsNow l g a_t p_t n u_5 f_t_15 f_t_17 u_6 u_9 u_10 u_11 hu_12) (cwV 0 hts gX10_holder_X10_endsNow rfl rfl rfl (by decide +kernel) ⟨Nat.le_of_ble_eq_true rfl, Nat.le_of_ble_eq_true rfl⟩) hP hD hS [0, 1, 2, 3] [] rfl rfl rfl rfl rfl (by decide) rfl rfl hl.1 rfl rfl (Nat.le_of_ble_eq_true rfl) ⟨Nat.zero_le _, Nat.zero_le _⟩ dX10_holder_34 ?_
      intro H locs hP hD hS
      refine lv_istore_n (lv' := [(2, .int u_9), (1, .int (-2 : Int32)), (0, .ref a_t)]) hx hb dX10_holder_37 rfl hl (by decide) rfl (fun ls hl => ?_)
      refine lv_iconst (v := (0 : Int32)) hx hb dX10_holder_38 (by decide) ?_
      refine lv_istore_n (lv' := [(3, .int (0 : Int32)), (2, .int u_9), (1, .int (-2 : Int32)), (0, .ref a_t)]) hx hb dX10_holder_39 rfl hl (by decide) rfl (fun ls hl => ?_)
      refine wX10_holder_L40 C0 a_t p_t n f_t_15 f_t_17 r o_t' f_t_25' _ ?_ n (-2 : Int32) u_9 (0 : Int32) u_10 u_11 hF _ _ _ (hP.sub [0, 1, 2, 3] rfl) (hD.sub [0, 1, 2, 3] rfl rfl) hS (lv_sub hl [3, 2, 1, 0] rfl)
      · intro x1_x40 o_t_x40 f_t_25_x40 H locs ls hF hP hD hS hl
        refine lv_iload_n hx hb dX10_holder_100 rfl (lv_at hl 0 rfl) ?_
        cases hF
        exact ret_i C0 hP hD hS [0, 1, 2, 3] rfl rfl rfl dX10_holder_101 rfl
    · have hF := it_n c_8 hF
      refine lv_ldcw (v := (1000000 : Int32)) hx hb hown (hts _ kX10_holder_321) dX10_holder_27 ?_
      refine lv_goto (tgt := 37) hx hb dX10_holder_30 (by decide) ?_
      refine lv_istore_n (lv' := [(2, .int (1000000 : Int32)), (1, .int (-2 : Int32)), (0, .ref a_t)]) hx hb dX10_holder_37 rfl hl (by decide) rfl (fun ls hl => ?_)
      refine lv_iconst (v := (0 : Int32)) hx hb dX10_holder_38 (by decide) ?_
      refine lv_istore_n (lv' := [(3, .int (0 : Int32)), (2, .int (1000000 : Int32)), (1, .int (-2 : Int32)), (0, .ref a_t)]) hx hb dX10_holder_39 rfl hl (by decide) rfl (fun ls hl => ?_)
      refine wX10_holder_L40 C0 a_t p_t n f_t_15 f_t_17 r o_t' f_t_25' _ ?_ n (-2 : Int32) (1000000 : Int32) (0 : Int32) u_5 u_6 hF _ _ _ (hP.sub [0, 1, 2, 3] rfl) (hD.sub [0, 1, 2, 3] rfl rfl) hS (lv_sub hl [3, 2, 1, 0] rfl)
      · intro x1_x40 o_t_x40 f_t_25_x40 H locs ls hF hP hD hS hl
        refine lv_iload_n hx hb dX10_holder_100 rfl (lv_at hl 0 rfl) ?_
        cases hF
        exact ret_i C0 hP hD hS [0, 1, 2, 3] rfl rfl rfl dX10_holder_101 rfl
  · have hF := it_p c_3 hF
    refine lv_aload_n hx hb dX10_holder_11 rfl (lv_at hl 0 rfl) ?_
    refine lv_iconst (v := (1 : Int32)) hx hb dX10_holder_12 (by decide) ?_
    obtain ⟨u_24, u_25, hu_26, hF⟩ := ob2_some hF
    refine call_i (wr := [aI g (p_t 15) 266 f_t_15, aI g (p_t 17) 17 f_t_17, aI g (p_t 25) 17 f_t_25]) (As := [.int (1 : Int32)]) (rest := []) (ci := 10) (q0 := 0) C0 (mX10_no l g a_t p_t n (1 : Int32) u_1 u_24 u_25 hu_26) (cwV 1 hts gX10_holder_X10_no rfl rfl rfl (by decide +kernel) ⟨Nat.le_of_ble_eq_true rfl, Nat.le_of_ble_eq_true rfl⟩) hP hD hS [3] [0, 1, 2] rfl rfl rfl rfl rfl (by decide) rfl rfl hl.1 rfl rfl (Nat.le_of_ble_eq_true rfl) ⟨Nat.zero_le _, Nat.zero_le _⟩ dX10_holder_13 ?_
    intro H locs hP hD hS
    cases hF
    exact ret_i C0 hP hD hS [3, 0, 1, 2] rfl rfl rfl dX10_holder_16 rfl

theorem dAX10_leastLike : ∀ q ∈ ([(0, (.aload_n 0, 1)), (1, (.aload_n 0, 1)), (2, (.getfield 26, 3)), (5, (.invokevirtual 259, 3)), (8, (.istore_n 3, 1)), (9, (.iconst 0, 1)), (10, (.istore 4, 2)), (12, (.iload 4, 2)), (14, (.iload_n 1, 1)), (15, (.if_icmp .ge 47, 3)), (18, (.iload 4, 2)), (20, (.iload_n 3, 1)), (21, (.iconst (-1), 1)), (22, (.ixor, 1)), (23, (.iand, 1)), (24, (.ifCond .ne 32, 3)), (27, (.iload 4, 2)), (29, (.invokestatic 306, 3)), (32, (.iload_n 1, 1)), (33, (.invokestatic 306, 3)), (36, (.if_icmp .ne 20, 3)), (39, (.aload_n 0, 1)), (40, (.iload 4, 2)), (42, (.invokevirtual 318, 3)), (45, (.iconst 0, 1)), (46, (.iload_n 2, 1)), (47, (.invokestatic 144, 3)), (50, (.ifCond .eq 6, 3)), (53, (.iload 4, 2)), (55, (.ireturn, 1)), (56, (.iinc 4 1, 3)), (59, (.goto (-47), 3)), (62, (.iload_n 1, 1)), (63, (.ireturn, 1))] : List (Nat × (Instr × Nat))), decode cX10_leastLike q.1 = .ok q.2 := by decide +kernel
theorem dX10_leastLike_0 : decode cX10_leastLike 0 = .ok (.aload_n 0, 1) := dAX10_leastLike (0, (.aload_n 0, 1)) (List.mem_of_getElem? (i := 0) rfl)
theorem dX10_leastLike_1 : decode cX10_leastLike 1 = .ok (.aload_n 0, 1) := dAX10_leastLike (1, (.aload_n 0, 1)) (List.mem_of_getElem? (i := 1) rfl)
theorem dX10_leastLike_2 : decode cX10_leastLike 2 = .ok (.getfield 26, 3) := dAX10_leastLike (2, (.getfield 26, 3)) (List.mem_of_getElem? (i := 2) rfl)
theorem dX10_leastLike_5 : decode cX10_leastLike 5 = .ok (.invokevirtual 259, 3) := dAX10_leastLike (5, (.invokevirtual 259, 3)) (List.mem_of_getElem? (i := 3) rfl)
theorem dX10_leastLike_8 : decode cX10_leastLike 8 = .ok (.istore_n 3, 1) := dAX10_leastLike (8, (.istore_n 3, 1)) (List.mem_of_getElem? (i := 4) rfl)
theorem dX10_leastLike_9 : decode cX10_leastLike 9 = .ok (.iconst 0, 1) := dAX10_leastLike (9, (.iconst 0, 1)) (List.mem_of_getElem? (i := 5) rfl)
theorem dX10_leastLike_10 : decode cX10_leastLike 10 = .ok (.istore 4, 2) := dAX10_leastLike (10, (.istore 4, 2)) (List.mem_of_getElem? (i := 6) rfl)
theorem dX10_leastLike_12 : decode cX10_leastLike 12 = .ok (.iload 4, 2) := dAX10_leastLike (12, (.iload 4, 2)) (List.mem_of_getElem? (i := 7) rfl)
theorem dX10_leastLike_14 : decode cX10_leastLike 14 = .ok (.iload_n 1, 1) := dAX10_leastLike (14, (.iload_n 1, 1)) (List.mem_of_getElem? (i := 8) rfl)
theorem dX10_leastLike_15 : decode cX10_leastLike 15 = .ok (.if_icmp .ge 47, 3) := dAX10_leastLike (15, (.if_icmp .ge 47, 3)) (List.mem_of_getElem? (i := 9) rfl)
theorem dX10_leastLike_18 : decode cX10_leastLike 18 = .ok (.iload 4, 2) := dAX10_leastLike (18, (.iload 4, 2)) (List.mem_of_getElem? (i := 10) rfl)
theorem dX10_leastLike_20 : decode cX10_leastLike 20 = .ok (.iload_n 3, 1) := dAX10_leastLike (20, (.iload_n 3, 1)) (List.mem_of_getElem? (i := 11) rfl)
theorem dX10_leastLike_21 : decode cX10_leastLike 21 = .ok (.iconst (-1), 1) := dAX10_leastLike (21, (.iconst (-1), 1)) (List.mem_of_getElem? (i := 12) rfl)
theorem dX10_leastLike_22 : decode cX10_leastLike 22 = .ok (.ixor, 1) := dAX10_leastLike (22, (.ixor, 1)) (List.mem_of_getElem? (i := 13) rfl)
theorem dX10_leastLike_23 : decode cX10_leastLike 23 = .ok (.iand, 1) := dAX10_leastLike (23, (.iand, 1)) (List.mem_of_getElem? (i := 14) rfl)
theorem dX10_leastLike_24 : decode cX10_leastLike 24 = .ok (.ifCond .ne 32, 3) := dAX10_leastLike (24, (.ifCond .ne 32, 3)) (List.mem_of_getElem? (i := 15) rfl)
theorem dX10_leastLike_27 : decode cX10_leastLike 27 = .ok (.iload 4, 2) := dAX10_leastLike (27, (.iload 4, 2)) (List.mem_of_getElem? (i := 16) rfl)
theorem dX10_leastLike_29 : decode cX10_leastLike 29 = .ok (.invokestatic 306, 3) := dAX10_leastLike (29, (.invokestatic 306, 3)) (List.mem_of_getElem? (i := 17) rfl)
theorem dX10_leastLike_32 : decode cX10_leastLike 32 = .ok (.iload_n 1, 1) := dAX10_leastLike (32, (.iload_n 1, 1)) (List.mem_of_getElem? (i := 18) rfl)
theorem dX10_leastLike_33 : decode cX10_leastLike 33 = .ok (.invokestatic 306, 3) := dAX10_leastLike (33, (.invokestatic 306, 3)) (List.mem_of_getElem? (i := 19) rfl)
theorem dX10_leastLike_36 : decode cX10_leastLike 36 = .ok (.if_icmp .ne 20, 3) := dAX10_leastLike (36, (.if_icmp .ne 20, 3)) (List.mem_of_getElem? (i := 20) rfl)
theorem dX10_leastLike_39 : decode cX10_leastLike 39 = .ok (.aload_n 0, 1) := dAX10_leastLike (39, (.aload_n 0, 1)) (List.mem_of_getElem? (i := 21) rfl)
theorem dX10_leastLike_40 : decode cX10_leastLike 40 = .ok (.iload 4, 2) := dAX10_leastLike (40, (.iload 4, 2)) (List.mem_of_getElem? (i := 22) rfl)
theorem dX10_leastLike_42 : decode cX10_leastLike 42 = .ok (.invokevirtual 318, 3) := dAX10_leastLike (42, (.invokevirtual 318, 3)) (List.mem_of_getElem? (i := 23) rfl)
theorem dX10_leastLike_45 : decode cX10_leastLike 45 = .ok (.iconst 0, 1) := dAX10_leastLike (45, (.iconst 0, 1)) (List.mem_of_getElem? (i := 24) rfl)
theorem dX10_leastLike_46 : decode cX10_leastLike 46 = .ok (.iload_n 2, 1) := dAX10_leastLike (46, (.iload_n 2, 1)) (List.mem_of_getElem? (i := 25) rfl)
theorem dX10_leastLike_47 : decode cX10_leastLike 47 = .ok (.invokestatic 144, 3) := dAX10_leastLike (47, (.invokestatic 144, 3)) (List.mem_of_getElem? (i := 26) rfl)
theorem dX10_leastLike_50 : decode cX10_leastLike 50 = .ok (.ifCond .eq 6, 3) := dAX10_leastLike (50, (.ifCond .eq 6, 3)) (List.mem_of_getElem? (i := 27) rfl)
theorem dX10_leastLike_53 : decode cX10_leastLike 53 = .ok (.iload 4, 2) := dAX10_leastLike (53, (.iload 4, 2)) (List.mem_of_getElem? (i := 28) rfl)
theorem dX10_leastLike_55 : decode cX10_leastLike 55 = .ok (.ireturn, 1) := dAX10_leastLike (55, (.ireturn, 1)) (List.mem_of_getElem? (i := 29) rfl)
theorem dX10_leastLike_56 : decode cX10_leastLike 56 = .ok (.iinc 4 1, 3) := dAX10_leastLike (56, (.iinc 4 1, 3)) (List.mem_of_getElem? (i := 30) rfl)
theorem dX10_leastLike_59 : decode cX10_leastLike 59 = .ok (.goto (-47), 3) := dAX10_leastLike (59, (.goto (-47), 3)) (List.mem_of_getElem? (i := 31) rfl)
theorem dX10_leastLike_62 : decode cX10_leastLike 62 = .ok (.iload_n 1, 1) := dAX10_leastLike (62, (.iload_n 1, 1)) (List.mem_of_getElem? (i := 32) rfl)
theorem dX10_leastLike_63 : decode cX10_leastLike 63 = .ok (.ireturn, 1) := dAX10_leastLike (63, (.ireturn, 1)) (List.mem_of_getElem? (i := 33) rfl)
set_option maxRecDepth 20000 in
theorem ggX10_leastLike_X10_thereOf : GoodIn wsX10_leastLike wsX10_thereOf := goodIn_r _ [6, 7, 8, 9, 5, 10, 72, 73, 74, 75, 76, 77, 78, 79, 80, 81, 82, 83, 84, 85, 86, 87, 88, 89, 90, 91, 92, 93, 94, 95, 96, 97, 98, 99, 100, 101, 102, 103, 104, 105, 106] rfl (by decide +kernel)
set_option maxRecDepth 20000 in
theorem gX10_leastLike_X10_thereOf : GoodIn wsX10_leastLike (wsV RX10 259 RX10 yX10_thereOf wsX10_thereOf) := goodIn_app (goodIn_of _ (by decide +kernel)) ggX10_leastLike_X10_thereOf
set_option maxRecDepth 20000 in
theorem ggX10_leastLike_X10_ones : GoodIn wsX10_leastLike wsX10_ones := goodIn_r _ [13] rfl (by decide +kernel)
set_option maxRecDepth 20000 in
theorem gX10_leastLike_X10_ones : GoodIn wsX10_leastLike (va_wsS RX10 306 yX10_ones wsX10_ones) := goodIn_app (goodIn_of _ (by decide +kernel)) ggX10_leastLike_X10_ones
set_option maxRecDepth 20000 in
theorem ggX10_leastLike_X10_endsIf : GoodIn wsX10_leastLike wsX10_endsIf := goodIn_r _ [17, 1, 18, 19, 20, 5, 21, 22, 23, 24, 25, 26, 27, 28, 29, 7, 30, 31, 32, 8, 9, 10, 33, 34, 35, 36, 37, 2, 3, 4, 6, 38, 39, 40, 41, 42, 43, 44, 45, 46, 47, 48, 49, 50, 51, 52, 53, 54, 55, 56, 57, 58, 59, 60, 61, 62, 63, 64, 65, 66, 67, 68, 72, 73, 74, 75, 76, 77, 78, 79, 80, 81, 82, 83, 84, 85, 86, 87, 88, 89, 90, 91, 92, 93, 94, 95, 96, 97, 98, 99, 100, 101, 102, 103, 104, 105, 106] rfl (by decide +kernel)
set_option maxRecDepth 20000 in
theorem gX10_leastLike_X10_endsIf : GoodIn wsX10_leastLike (wsV RX10 318 RX10 yX10_endsIf wsX10_endsIf) := goodIn_app (goodIn_of _ (by decide +kernel)) ggX10_leastLike_X10_endsIf
set_option maxRecDepth 20000 in
theorem ggX10_leastLike_X10_in : GoodIn wsX10_leastLike wsX10_in := goodIn_r _ [71] rfl (by decide +kernel)
set_option maxRecDepth 20000 in
theorem gX10_leastLike_X10_in : GoodIn wsX10_leastLike (va_wsS RX10 144 yX10_in wsX10_in) := goodIn_app (goodIn_of _ (by decide +kernel)) ggX10_leastLike_X10_in
theorem kX10_leastLike_26 : Cond.fieldLink RX10 26 "EveningVowModel" "st" "[I" ∈ wsX10_leastLike := List.mem_of_getElem? (i := 1) rfl
theorem iX10_leastLike_X10 : ∀ w ∈ u_ws RX10 TX10 35, w ∈ wsX10_leastLike := fun w h => (List.mem_cons_of_mem _ (List.mem_append_right _ h))
set_option maxHeartbeats 4000000 in
set_option maxRecDepth 100000 in
theorem wX10_leastLike_L12 {p : Program} {l : Launch} {e : Env} {s : State} {m : MethodId} {args : Array Value} {below : List Frame} {meth : Method} {c : Code} {g : GG} {A : Nat → Prop} (C0 : Cx p s m args meth c cX10_leastLike 5 (some .int) RX10 wsX10_leastLike g A) (a_t : Nat) (p_t : Nat → Nat) (n : Nat) (x1 : Int32) (x2 : Int32) (x3 : Int32) (f_t_15 : Nat → Int32) (f_t_17 : Nat → Int32)  (r : Int32) (o_t' : Nat → Int32) (f_t_25' : Nat → Int32) (K : (Nat → Int32) → (Nat → Int32) → Option (Int32 × (Nat → Int32) × (Nat → Int32))) (hKx : ∀ (o_t : Nat → Int32) (f_t_25 : Nat → Int32) (H : Heap) (locs : List Loc) (ls : Array Slot), K o_t f_t_25 = some (r, o_t', f_t_25') → va_P g.1 vwCl [oX10 a_t p_t o_t, aI g (p_t 15) 266 f_t_15, aI g (p_t 17) 17 f_t_17, aI g (p_t 25) 17 f_t_25] H → va_D A [oX10 a_t p_t o_t, aI g (p_t 15) 266 f_t_15, aI g (p_t 17) 17 f_t_17, aI g (p_t 25) 17 f_t_25] → va_S A s.heap H locs → lv_has ls 5 [(1, .int x1)] → W p l e ({ frames := 6, cells := 0, slots := 0, locals := 137 } : Room) s m args below meth c H locs 0 0 (MQ below (EndI g r [oX10 a_t p_t o_t', aI g (p_t 15) 266 f_t_15, aI g (p_t 17) 17 f_t_17, aI g (p_t 25) 17 f_t_25'] A) args s 0 0 A) (F0 m 62 ls [])) : ∀ (k : Nat) (x4 : Int32) (o_t : Nat → Int32) (f_t_25 : Nat → Int32), fX10_leastLike_L12 n x1 x2 x3 f_t_15 f_t_17 K k x4 o_t f_t_25 = some (r, o_t', f_t_25') → ∀ (H : Heap) (locs : List Loc) (ls : Array Slot), va_P g.1 vwCl [oX10 a_t p_t o_t, aI g (p_t 15) 266 f_t_15, aI g (p_t 17) 17 f_t_17, aI g (p_t 25) 17 f_t_25] H → va_D A [oX10 a_t p_t o_t, aI g (p_t 15) 266 f_t_15, aI g (p_t 17) 17 f_t_17, aI g (p_t 25) 17 f_t_25] → va_S A s.heap H locs → lv_has ls 5 [(0, .ref a_t), (1, .int x1), (2, .int x2), (3, .int x3), (4, .int x4)] → W p l e ({ frames := 6, cells := 0, slots := 0, locals := 137 } : Room) s m args below meth c H locs 0 0 (MQ below (EndI g r [oX10 a_t p_t o_t', aI g (p_t 15) 266 f_t_15, aI g (p_t 17) 17 f_t_17, aI g (p_t 25) 17 f_t_25'] A) args s 0 0 A) (F0 m 12 ls []) := by
  obtain ⟨hx, hb, hml, hown, hts, hr, hlk, hK, hA, hSW⟩ := id C0
  intro k
  induction k with
  | zero =>
    intro x4 o_t f_t_25 hF
    exact absurd hF (by simp [fX10_leastLike_L12])
  | succ k ih =>
    intro x4 o_t f_t_25 hF H locs ls hP hD hS hl
    rw [fX10_leastLike_L12] at hF
    refine lv_iload hx hb dX10_leastLike_12 (lv_at hl 4 rfl) ?_
    refine lv_iload_n hx hb dX10_leastLike_14 rfl (lv_at hl 1 rfl) ?_
    refine lv_icmp_ge (tgt := 62) hx hb dX10_leastLike_15 (by decide) (fun c_3 => ?_) (fun c_3 => ?_)
    · have hF := it_p c_3 hF
      exact hKx o_t f_t_25 _ _ _ hF (hP.sub [0, 1, 2, 3] rfl) (hD.sub [0, 1, 2, 3] rfl rfl) hS (lv_sub hl [1] rfl)
    · have hF := it_n c_3 hF
      refine lv_iload hx hb dX10_leastLike_18 (lv_at hl 4 rfl) ?_
      refine lv_iload_n hx hb dX10_leastLike_20 rfl (lv_at hl 3 rfl) ?_
      refine lv_iconst (v := (-1 : Int32)) hx hb dX10_leastLike_21 (by decide) ?_
      refine lv_ixor hx hb dX10_leastLike_22 ?_
      refine lv_iand hx hb dX10_leastLike_23 ?_
      refine lv_if_ne (tgt := 56) hx hb dX10_leastLike_24 (by decide) (fun c_4 => ?_) (fun c_4 => ?_)
      · have hF := it_n c_4 hF
        refine lv_iinc (v := (x4 + (1 : Int32))) (lv' := [(4, .int (x4 + (1 : Int32))), (0, .ref a_t), (1, .int x1), (2, .int x2), (3, .int x3)]) hx hb dX10_leastLike_56 hl (k := 4) rfl rfl (by decide) rfl (fun ls hl => ?_)
        refine lv_goto (tgt := 12) hx hb dX10_leastLike_59 (by decide) ?_
        exact ih (x4 + (1 : Int32)) o_t f_t_25 hF _ _ _ (hP.sub [0, 1, 2, 3] rfl) (hD.sub [0, 1, 2, 3] rfl rfl) hS (lv_sub hl [1, 2, 3, 4, 0] rfl)
      · have hF := it_p c_4 hF
        refine lv_iload hx hb dX10_leastLike_27 (lv_at hl 4 rfl) ?_
        obtain ⟨u_5, hu_6, hF⟩ := ob1_some hF
        refine call_si (wr := [oX10 a_t p_t o_t, aI g (p_t 15) 266 f_t_15, aI g (p_t 17) 17 f_t_17, aI g (p_t 25) 17 f_t_25]) (As := [.int x4]) (rest := []) C0 (mX10_ones l g n x4 u_5 hu_6) (va_cwS 1 hts gX10_leastLike_X10_ones rfl rfl rfl (by decide +kernel) ⟨Nat.le_of_ble_eq_true rfl, Nat.le_of_ble_eq_true rfl⟩) hP hD hS [] [0, 1, 2, 3] rfl rfl rfl rfl rfl (by decide) hl.1 rfl rfl (Nat.le_of_ble_eq_true rfl) ⟨Nat.zero_le _, Nat.zero_le _⟩ dX10_leastLike_29 ?_
        intro H locs hP hD hS
        refine lv_iload_n hx hb dX10_leastLike_32 rfl (lv_at hl 1 rfl) ?_
        obtain ⟨u_7, hu_8, hF⟩ := ob1_some hF
        refine call_si (wr := [oX10 a_t p_t o_t, aI g (p_t 15) 266 f_t_15, aI g (p_t 17) 17 f_t_17, aI g (p_t 25) 17 f_t_25]) (As := [.int x1]) (rest := [.int u_5]) C0 (mX10_ones l g n x1 u_7 hu_8) (va_cwS 1 hts gX10_leastLike_X10_ones rfl rfl rfl (by decide +kernel) ⟨Nat.le_of_ble_eq_true rfl, Nat.le_of_ble_eq_true rfl⟩) hP hD hS [] [0, 1, 2, 3] rfl rfl rfl rfl rfl (by decide) hl.1 rfl rfl (Nat.le_of_ble_eq_true rfl) ⟨Nat.zero_le _, Nat.zero_le _⟩ dX10_leastLike_33 ?_
        intro H locs hP hD hS
        refine lv_icmp_ne (tgt := 56) hx hb dX10_leastLike_36 (by decide) (fun c_9 => ?_) (fun c_9 => ?_)
        · have hF := it_n c_9 hF
          refine lv_iinc (v := (x4 + (1 : Int32))) (lv' := [(4, .int (x4 + (1 : Int32))), (0, .ref a_t), (1, .int x1), (2, .int x2), (3, .int x3)]) hx hb dX10_leastLike_56 hl (k := 4) rfl rfl (by decide) rfl (fun ls hl => ?_)
          refine lv_goto (tgt := 12) hx hb dX10_leastLike_59 (by decide) ?_
          exact ih (x4 + (1 : Int32)) o_t f_t_25 hF _ _ _ (hP.sub [0, 1, 2, 3] rfl) (hD.sub [0, 1, 2, 3] rfl rfl) hS (lv_sub hl [1, 2, 3, 4, 0] rfl)
        · have hF := it_p c_9 hF
          refine lv_aload_n hx hb dX10_leastLike_39 rfl (lv_at hl 0 rfl) ?_
          refine lv_iload hx hb dX10_leastLike_40 (lv_at hl 4 rfl) ?_
          obtain ⟨u_10, u_11, u_12, hu_13, hF⟩ := ob3_some hF
          refine call_i (wr := []) (As := [.int x4]) (rest := []) (ci := 10) (q0 := 0) C0 (mX10_endsIf l g a_t p_t n x4 o_t f_t_15 f_t_17 f_t_25 u_10 u_11 u_12 hu_13) (cwV 1 hts gX10_leastLike_X10_endsIf rfl rfl rfl (by decide +kernel) ⟨Nat.le_of_ble_eq_true rfl, Nat.le_of_ble_eq_true rfl⟩) hP hD hS [0, 1, 2, 3] [] rfl rfl rfl rfl rfl (by decide) rfl rfl hl.1 rfl rfl (Nat.le_of_ble_eq_true rfl) ⟨Nat.zero_le _, Nat.zero_le _⟩ dX10_leastLike_42 ?_
          intro H locs hP hD hS
          refine lv_iconst (v := (0 : Int32)) hx hb dX10_leastLike_45 (by decide) ?_
          refine lv_iload_n hx hb dX10_leastLike_46 rfl (lv_at hl 2 rfl) ?_
          obtain ⟨u_14, hu_15, hF⟩ := ob1_some hF
          refine call_si (wr := [oX10 a_t p_t u_11, aI g (p_t 15) 266 f_t_15, aI g (p_t 17) 17 f_t_17, aI g (p_t 25) 17 u_12]) (As := [.int u_10, .int (0 : Int32), .int x2]) (rest := []) C0 (mX10_in l g n u_10 (0 : Int32) x2 u_14 hu_15) (va_cwS 3 hts gX10_leastLike_X10_in rfl rfl rfl (by decide +kernel) ⟨Nat.le_of_ble_eq_true rfl, Nat.le_of_ble_eq_true rfl⟩) hP hD hS [] [0, 1, 2, 3] rfl rfl rfl rfl rfl (by decide) hl.1 rfl rfl (Nat.le_of_ble_eq_true rfl) ⟨Nat.zero_le _, Nat.zero_le _⟩ dX10_leastLike_47 ?_
          intro H locs hP hD hS
          refine lv_if_eq (tgt := 56) hx hb dX10_leastLike_50 (by decide) (fun c_16 => ?_) (fun c_16 => ?_)
          · have hF := it_p c_16 hF
            refine lv_iinc (v := (x4 + (1 : Int32))) (lv' := [(4, .int (x4 + (1 : Int32))), (0, .ref a_t), (1, .int x1), (2, .int x2), (3, .int x3)]) hx hb dX10_leastLike_56 hl (k := 4) rfl rfl (by decide) rfl (fun ls hl => ?_)
            refine lv_goto (tgt := 12) hx hb dX10_leastLike_59 (by decide) ?_
            exact ih (x4 + (1 : Int32)) u_11 u_12 hF _ _ _ (hP.sub [0, 1, 2, 3] rfl) (hD.sub [0, 1, 2, 3] rfl rfl) hS (lv_sub hl [1, 2, 3, 4, 0] rfl)
          · have hF := it_n c_16 hF
            refine lv_iload hx hb dX10_leastLike_53 (lv_at hl 4 rfl) ?_
            cases hF
            exact ret_i C0 hP hD hS [0, 1, 2, 3] rfl rfl rfl dX10_leastLike_55 rfl
set_option maxHeartbeats 4000000 in
set_option maxRecDepth 100000 in
theorem mX10_leastLike (l : Launch) (g : GG) (a_t : Nat) (p_t : Nat → Nat) (n : Nat) (x1 : Int32) (x2 : Int32) (o_t : Nat → Int32) (f_t_15 : Nat → Int32) (f_t_17 : Nat → Int32) (f_t_25 : Nat → Int32) (r : Int32) (o_t' : Nat → Int32) (f_t_25' : Nat → Int32) (hF : fX10_leastLike n x1 x2 o_t f_t_15 f_t_17 f_t_25 = some (r, o_t', f_t_25')) : MI l g yX10_leastLike wsX10_leastLike ({ frames := 6, cells := 0, slots := 0, locals := 137 } : Room) [.ref a_t, .int x1, .int x2] [oX10 a_t p_t o_t, aI g (p_t 15) 266 f_t_15, aI g (p_t 17) 17 f_t_17, aI g (p_t 25) 17 f_t_25] r [oX10 a_t p_t o_t', aI g (p_t 15) 266 f_t_15, aI g (p_t 17) 17 f_t_17, aI g (p_t 25) 17 f_t_25'] := by
  refine MI.of (cc := cX10_leastLike) (maxL := 5) (rt := .int) (own := RX10) rfl rfl (by decide) (Nat.le_of_ble_eq_true rfl) ?_
  intro p e s m args below meth c A C0 hP hD hS ls hl
  obtain ⟨hx, hb, hml, hown, hts, hr, hlk, hK, hA, hSW⟩ := id C0
  have hl : lv_has ls 5 [(0, .ref a_t), (1, .int x1), (2, .int x2)] := hl
  rw [fX10_leastLike] at hF
  refine lv_aload_n hx hb dX10_leastLike_0 rfl (lv_at hl 0 rfl) ?_
  refine lv_aload_n hx hb dX10_leastLike_1 rfl (lv_at hl 0 rfl) ?_
  refine va_get (D := g.1) (ci := 10) (v := .ref (p_t 17)) (C := RX10) (T := TX10) (N := 35) hx hb hts iX10_leastLike_X10 hown hK.1 hP 0 rfl rfl 17 (by decide) (hts _ kX10_leastLike_26) (fun _ h9 => h9) rfl dX10_leastLike_2 ?_
  obtain ⟨u_1, hu_2, hF⟩ := ob1_some hF
  refine call_i (wr := [aI g (p_t 25) 17 f_t_25]) (As := [.ref (p_t 17)]) (rest := []) (ci := 10) (q0 := 0) C0 (mX10_thereOf l g a_t (p_t 17) p_t n o_t f_t_15 f_t_17 u_1 hu_2) (cwV 1 hts gX10_leastLike_X10_thereOf rfl rfl rfl (by decide +kernel) ⟨Nat.le_of_ble_eq_true rfl, Nat.le_of_ble_eq_true rfl⟩) hP hD hS [0, 1, 2] [3] rfl rfl rfl rfl rfl (by decide) rfl rfl hl.1 rfl rfl (Nat.le_of_ble_eq_true rfl) ⟨Nat.zero_le _, Nat.zero_le _⟩ dX10_leastLike_5 ?_
  intro H locs hP hD hS
  refine lv_istore_n (lv' := [(3, .int u_1), (0, .ref a_t), (1, .int x1), (2, .int x2)]) hx hb dX10_leastLike_8 rfl hl (by decide) rfl (fun ls hl => ?_)
  refine lv_iconst (v := (0 : Int32)) hx hb dX10_leastLike_9 (by decide) ?_
  refine lv_istore (lv' := [(4, .int (0 : Int32)), (3, .int u_1), (0, .ref a_t), (1, .int x1), (2, .int x2)]) hx hb dX10_leastLike_10 hl (by decide) rfl (fun ls hl => ?_)
  refine wX10_leastLike_L12 C0 a_t p_t n x1 x2 u_1 f_t_15 f_t_17 r o_t' f_t_25' _ ?_ n (0 : Int32) o_t f_t_25 hF _ _ _ (hP.sub [1, 2, 3, 0] rfl) (hD.sub [1, 2, 3, 0] rfl rfl) hS (lv_sub hl [2, 3, 4, 1, 0] rfl)
  · intro o_t_x12 f_t_25_x12 H locs ls hF hP hD hS hl
    refine lv_iload_n hx hb dX10_leastLike_62 rfl (lv_at hl 0 rfl) ?_
    cases hF
    exact ret_i C0 hP hD hS [0, 1, 2, 3] rfl rfl rfl dX10_leastLike_63 rfl

theorem dAX10_without : ∀ q ∈ ([(0, (.aload_n 0, 1)), (1, (.invokevirtual 159, 3)), (4, (.aload_n 0, 1)), (5, (.getfield 176, 3)), (8, (.ifCond .ne 9, 3)), (11, (.aload_n 0, 1)), (12, (.iconst 1, 1)), (13, (.invokevirtual 162, 3)), (16, (.ireturn, 1)), (17, (.iload_n 1, 1)), (18, (.iconst 0, 1)), (19, (.bipush 60, 2)), (21, (.invokestatic 144, 3)), (24, (.ifCond .ne 9, 3)), (27, (.aload_n 0, 1)), (28, (.iconst 2, 1)), (29, (.invokevirtual 162, 3)), (32, (.ireturn, 1)), (33, (.aload_n 0, 1)), (34, (.aload_n 0, 1)), (35, (.getfield 26, 3)), (38, (.invokevirtual 259, 3)), (41, (.istore_n 2, 1)), (42, (.iload_n 2, 1)), (43, (.istore_n 3, 1)), (44, (.iconst 0, 1)), (45, (.istore 4, 2)), (47, (.iload 4, 2)), (49, (.iconst 1, 1)), (50, (.aload_n 0, 1)), (51, (.getfield 20, 3)), (54, (.iconst 3, 1)), (55, (.iaload, 1)), (56, (.ishl, 1)), (57, (.if_icmp .ge 47, 3)), (60, (.iload 4, 2)), (62, (.iload_n 2, 1)), (63, (.iconst (-1), 1)), (64, (.ixor, 1)), (65, (.iand, 1)), (66, (.ifCond .ne 32, 3)), (69, (.iload 4, 2)), (71, (.invokestatic 306, 3)), (74, (.iload_n 3, 1)), (75, (.invokestatic 306, 3)), (78, (.if_icmp .ge 20, 3)), (81, (.aload_n 0, 1)), (82, (.iload 4, 2)), (84, (.invokevirtual 318, 3)), (87, (.iconst 0, 1)), (88, (.iload_n 1, 1)), (89, (.invokestatic 144, 3)), (92, (.ifCond .eq 6, 3)), (95, (.iload 4, 2)), (97, (.istore_n 3, 1)), (98, (.iinc 4 1, 3)), (101, (.goto (-54), 3)), (104, (.aload_n 0, 1)), (105, (.iload_n 3, 1)), (106, (.iload_n 1, 1)), (107, (.invokevirtual 322, 3)), (110, (.ireturn, 1))] : List (Nat × (Instr × Nat))), decode cX10_without q.1 = .ok q.2 := by decide +kernel
theorem dX10_without_0 : decode cX10_without 0 = .ok (.aload_n 0, 1) := dAX10_without (0, (.aload_n 0, 1)) (List.mem_of_getElem? (i := 0) rfl)
theorem dX10_without_1 : decode cX10_without 1 = .ok (.invokevirtual 159, 3) := dAX10_without (1, (.invokevirtual 159, 3)) (List.mem_of_getElem? (i := 1) rfl)
theorem dX10_without_4 : decode cX10_without 4 = .ok (.aload_n 0, 1) := dAX10_without (4, (.aload_n 0, 1)) (List.mem_of_getElem? (i := 2) rfl)
theorem dX10_without_5 : decode cX10_without 5 = .ok (.getfield 176, 3) := dAX10_without (5, (.getfield 176, 3)) (List.mem_of_getElem? (i := 3) rfl)
theorem dX10_without_8 : decode cX10_without 8 = .ok (.ifCond .ne 9, 3) := dAX10_without (8, (.ifCond .ne 9, 3)) (List.mem_of_getElem? (i := 4) rfl)
theorem dX10_without_11 : decode cX10_without 11 = .ok (.aload_n 0, 1) := dAX10_without (11, (.aload_n 0, 1)) (List.mem_of_getElem? (i := 5) rfl)
theorem dX10_without_12 : decode cX10_without 12 = .ok (.iconst 1, 1) := dAX10_without (12, (.iconst 1, 1)) (List.mem_of_getElem? (i := 6) rfl)
theorem dX10_without_13 : decode cX10_without 13 = .ok (.invokevirtual 162, 3) := dAX10_without (13, (.invokevirtual 162, 3)) (List.mem_of_getElem? (i := 7) rfl)
theorem dX10_without_16 : decode cX10_without 16 = .ok (.ireturn, 1) := dAX10_without (16, (.ireturn, 1)) (List.mem_of_getElem? (i := 8) rfl)
theorem dX10_without_17 : decode cX10_without 17 = .ok (.iload_n 1, 1) := dAX10_without (17, (.iload_n 1, 1)) (List.mem_of_getElem? (i := 9) rfl)
theorem dX10_without_18 : decode cX10_without 18 = .ok (.iconst 0, 1) := dAX10_without (18, (.iconst 0, 1)) (List.mem_of_getElem? (i := 10) rfl)
theorem dX10_without_19 : decode cX10_without 19 = .ok (.bipush 60, 2) := dAX10_without (19, (.bipush 60, 2)) (List.mem_of_getElem? (i := 11) rfl)
theorem dX10_without_21 : decode cX10_without 21 = .ok (.invokestatic 144, 3) := dAX10_without (21, (.invokestatic 144, 3)) (List.mem_of_getElem? (i := 12) rfl)
theorem dX10_without_24 : decode cX10_without 24 = .ok (.ifCond .ne 9, 3) := dAX10_without (24, (.ifCond .ne 9, 3)) (List.mem_of_getElem? (i := 13) rfl)
theorem dX10_without_27 : decode cX10_without 27 = .ok (.aload_n 0, 1) := dAX10_without (27, (.aload_n 0, 1)) (List.mem_of_getElem? (i := 14) rfl)
theorem dX10_without_28 : decode cX10_without 28 = .ok (.iconst 2, 1) := dAX10_without (28, (.iconst 2, 1)) (List.mem_of_getElem? (i := 15) rfl)
theorem dX10_without_29 : decode cX10_without 29 = .ok (.invokevirtual 162, 3) := dAX10_without (29, (.invokevirtual 162, 3)) (List.mem_of_getElem? (i := 16) rfl)
theorem dX10_without_32 : decode cX10_without 32 = .ok (.ireturn, 1) := dAX10_without (32, (.ireturn, 1)) (List.mem_of_getElem? (i := 17) rfl)
theorem dX10_without_33 : decode cX10_without 33 = .ok (.aload_n 0, 1) := dAX10_without (33, (.aload_n 0, 1)) (List.mem_of_getElem? (i := 18) rfl)
theorem dX10_without_34 : decode cX10_without 34 = .ok (.aload_n 0, 1) := dAX10_without (34, (.aload_n 0, 1)) (List.mem_of_getElem? (i := 19) rfl)
theorem dX10_without_35 : decode cX10_without 35 = .ok (.getfield 26, 3) := dAX10_without (35, (.getfield 26, 3)) (List.mem_of_getElem? (i := 20) rfl)
theorem dX10_without_38 : decode cX10_without 38 = .ok (.invokevirtual 259, 3) := dAX10_without (38, (.invokevirtual 259, 3)) (List.mem_of_getElem? (i := 21) rfl)
theorem dX10_without_41 : decode cX10_without 41 = .ok (.istore_n 2, 1) := dAX10_without (41, (.istore_n 2, 1)) (List.mem_of_getElem? (i := 22) rfl)
theorem dX10_without_42 : decode cX10_without 42 = .ok (.iload_n 2, 1) := dAX10_without (42, (.iload_n 2, 1)) (List.mem_of_getElem? (i := 23) rfl)
theorem dX10_without_43 : decode cX10_without 43 = .ok (.istore_n 3, 1) := dAX10_without (43, (.istore_n 3, 1)) (List.mem_of_getElem? (i := 24) rfl)
theorem dX10_without_44 : decode cX10_without 44 = .ok (.iconst 0, 1) := dAX10_without (44, (.iconst 0, 1)) (List.mem_of_getElem? (i := 25) rfl)
theorem dX10_without_45 : decode cX10_without 45 = .ok (.istore 4, 2) := dAX10_without (45, (.istore 4, 2)) (List.mem_of_getElem? (i := 26) rfl)
theorem dX10_without_47 : decode cX10_without 47 = .ok (.iload 4, 2) := dAX10_without (47, (.iload 4, 2)) (List.mem_of_getElem? (i := 27) rfl)
theorem dX10_without_49 : decode cX10_without 49 = .ok (.iconst 1, 1) := dAX10_without (49, (.iconst 1, 1)) (List.mem_of_getElem? (i := 28) rfl)
theorem dX10_without_50 : decode cX10_without 50 = .ok (.aload_n 0, 1) := dAX10_without (50, (.aload_n 0, 1)) (List.mem_of_getElem? (i := 29) rfl)
theorem dX10_without_51 : decode cX10_without 51 = .ok (.getfield 20, 3) := dAX10_without (51, (.getfield 20, 3)) (List.mem_of_getElem? (i := 30) rfl)
theorem dX10_without_54 : decode cX10_without 54 = .ok (.iconst 3, 1) := dAX10_without (54, (.iconst 3, 1)) (List.mem_of_getElem? (i := 31) rfl)
theorem dX10_without_55 : decode cX10_without 55 = .ok (.iaload, 1) := dAX10_without (55, (.iaload, 1)) (List.mem_of_getElem? (i := 32) rfl)
theorem dX10_without_56 : decode cX10_without 56 = .ok (.ishl, 1) := dAX10_without (56, (.ishl, 1)) (List.mem_of_getElem? (i := 33) rfl)
theorem dX10_without_57 : decode cX10_without 57 = .ok (.if_icmp .ge 47, 3) := dAX10_without (57, (.if_icmp .ge 47, 3)) (List.mem_of_getElem? (i := 34) rfl)
theorem dX10_without_60 : decode cX10_without 60 = .ok (.iload 4, 2) := dAX10_without (60, (.iload 4, 2)) (List.mem_of_getElem? (i := 35) rfl)
theorem dX10_without_62 : decode cX10_without 62 = .ok (.iload_n 2, 1) := dAX10_without (62, (.iload_n 2, 1)) (List.mem_of_getElem? (i := 36) rfl)
theorem dX10_without_63 : decode cX10_without 63 = .ok (.iconst (-1), 1) := dAX10_without (63, (.iconst (-1), 1)) (List.mem_of_getElem? (i := 37) rfl)
theorem dX10_without_64 : decode cX10_without 64 = .ok (.ixor, 1) := dAX10_without (64, (.ixor, 1)) (List.mem_of_getElem? (i := 38) rfl)
theorem dX10_without_65 : decode cX10_without 65 = .ok (.iand, 1) := dAX10_without (65, (.iand, 1)) (List.mem_of_getElem? (i := 39) rfl)
theorem dX10_without_66 : decode cX10_without 66 = .ok (.ifCond .ne 32, 3) := dAX10_without (66, (.ifCond .ne 32, 3)) (List.mem_of_getElem? (i := 40) rfl)
theorem dX10_without_69 : decode cX10_without 69 = .ok (.iload 4, 2) := dAX10_without (69, (.iload 4, 2)) (List.mem_of_getElem? (i := 41) rfl)
theorem dX10_without_71 : decode cX10_without 71 = .ok (.invokestatic 306, 3) := dAX10_without (71, (.invokestatic 306, 3)) (List.mem_of_getElem? (i := 42) rfl)
theorem dX10_without_74 : decode cX10_without 74 = .ok (.iload_n 3, 1) := dAX10_without (74, (.iload_n 3, 1)) (List.mem_of_getElem? (i := 43) rfl)
theorem dX10_without_75 : decode cX10_without 75 = .ok (.invokestatic 306, 3) := dAX10_without (75, (.invokestatic 306, 3)) (List.mem_of_getElem? (i := 44) rfl)
theorem dX10_without_78 : decode cX10_without 78 = .ok (.if_icmp .ge 20, 3) := dAX10_without (78, (.if_icmp .ge 20, 3)) (List.mem_of_getElem? (i := 45) rfl)
theorem dX10_without_81 : decode cX10_without 81 = .ok (.aload_n 0, 1) := dAX10_without (81, (.aload_n 0, 1)) (List.mem_of_getElem? (i := 46) rfl)
theorem dX10_without_82 : decode cX10_without 82 = .ok (.iload 4, 2) := dAX10_without (82, (.iload 4, 2)) (List.mem_of_getElem? (i := 47) rfl)
theorem dX10_without_84 : decode cX10_without 84 = .ok (.invokevirtual 318, 3) := dAX10_without (84, (.invokevirtual 318, 3)) (List.mem_of_getElem? (i := 48) rfl)
theorem dX10_without_87 : decode cX10_without 87 = .ok (.iconst 0, 1) := dAX10_without (87, (.iconst 0, 1)) (List.mem_of_getElem? (i := 49) rfl)
theorem dX10_without_88 : decode cX10_without 88 = .ok (.iload_n 1, 1) := dAX10_without (88, (.iload_n 1, 1)) (List.mem_of_getElem? (i := 50) rfl)
theorem dX10_without_89 : decode cX10_without 89 = .ok (.invokestatic 144, 3) := dAX10_without (89, (.invokestatic 144, 3)) (List.mem_of_getElem? (i := 51) rfl)
theorem dX10_without_92 : decode cX10_without 92 = .ok (.ifCond .eq 6, 3) := dAX10_without (92, (.ifCond .eq 6, 3)) (List.mem_of_getElem? (i := 52) rfl)
theorem dX10_without_95 : decode cX10_without 95 = .ok (.iload 4, 2) := dAX10_without (95, (.iload 4, 2)) (List.mem_of_getElem? (i := 53) rfl)
theorem dX10_without_97 : decode cX10_without 97 = .ok (.istore_n 3, 1) := dAX10_without (97, (.istore_n 3, 1)) (List.mem_of_getElem? (i := 54) rfl)
theorem dX10_without_98 : decode cX10_without 98 = .ok (.iinc 4 1, 3) := dAX10_without (98, (.iinc 4 1, 3)) (List.mem_of_getElem? (i := 55) rfl)
theorem dX10_without_101 : decode cX10_without 101 = .ok (.goto (-54), 3) := dAX10_without (101, (.goto (-54), 3)) (List.mem_of_getElem? (i := 56) rfl)
theorem dX10_without_104 : decode cX10_without 104 = .ok (.aload_n 0, 1) := dAX10_without (104, (.aload_n 0, 1)) (List.mem_of_getElem? (i := 57) rfl)
theorem dX10_without_105 : decode cX10_without 105 = .ok (.iload_n 3, 1) := dAX10_without (105, (.iload_n 3, 1)) (List.mem_of_getElem? (i := 58) rfl)
theorem dX10_without_106 : decode cX10_without 106 = .ok (.iload_n 1, 1) := dAX10_without (106, (.iload_n 1, 1)) (List.mem_of_getElem? (i := 59) rfl)
theorem dX10_without_107 : decode cX10_without 107 = .ok (.invokevirtual 322, 3) := dAX10_without (107, (.invokevirtual 322, 3)) (List.mem_of_getElem? (i := 60) rfl)
theorem dX10_without_110 : decode cX10_without 110 = .ok (.ireturn, 1) := dAX10_without (110, (.ireturn, 1)) (List.mem_of_getElem? (i := 61) rfl)
set_option maxRecDepth 20000 in
theorem ggX10_without_X10_good : GoodIn wsX10_without wsX10_good := goodIn_r _ [8, 9, 10, 87, 88, 89, 90, 91, 92, 93, 94, 95, 96, 97, 98, 99, 100, 101, 102, 103, 104, 105, 106, 107, 108, 109, 110, 111, 112, 113, 114, 115, 116, 117, 118, 119, 120, 121] rfl (by decide +kernel)
set_option maxRecDepth 20000 in
theorem gX10_without_X10_good : GoodIn wsX10_without (wsV RX10 159 RX10 yX10_good wsX10_good) := goodIn_app (goodIn_of _ (by decide +kernel)) ggX10_without_X10_good
set_option maxRecDepth 20000 in
theorem ggX10_without_X10_no : GoodIn wsX10_without wsX10_no := goodIn_r _ [14, 10, 87, 88, 89, 90, 91, 92, 93, 94, 95, 96, 97, 98, 99, 100, 101, 102, 103, 104, 105, 106, 107, 108, 109, 110, 111, 112, 113, 114, 115, 116, 117, 118, 119, 120, 121] rfl (by decide +kernel)
set_option maxRecDepth 20000 in
theorem gX10_without_X10_no : GoodIn wsX10_without (wsV RX10 162 RX10 yX10_no wsX10_no) := goodIn_app (goodIn_of _ (by decide +kernel)) ggX10_without_X10_no
set_option maxRecDepth 20000 in
theorem ggX10_without_X10_in : GoodIn wsX10_without wsX10_in := goodIn_r _ [17] rfl (by decide +kernel)
set_option maxRecDepth 20000 in
theorem gX10_without_X10_in : GoodIn wsX10_without (va_wsS RX10 144 yX10_in wsX10_in) := goodIn_app (goodIn_of _ (by decide +kernel)) ggX10_without_X10_in
set_option maxRecDepth 20000 in
theorem ggX10_without_X10_thereOf : GoodIn wsX10_without wsX10_thereOf := goodIn_r _ [21, 3, 22, 23, 7, 24, 87, 88, 89, 90, 91, 92, 93, 94, 95, 96, 97, 98, 99, 100, 101, 102, 103, 104, 105, 106, 107, 108, 109, 110, 111, 112, 113, 114, 115, 116, 117, 118, 119, 120, 121] rfl (by decide +kernel)
set_option maxRecDepth 20000 in
theorem gX10_without_X10_thereOf : GoodIn wsX10_without (wsV RX10 259 RX10 yX10_thereOf wsX10_thereOf) := goodIn_app (goodIn_of _ (by decide +kernel)) ggX10_without_X10_thereOf
set_option maxRecDepth 20000 in
theorem ggX10_without_X10_ones : GoodIn wsX10_without wsX10_ones := goodIn_r _ [27] rfl (by decide +kernel)
set_option maxRecDepth 20000 in
theorem gX10_without_X10_ones : GoodIn wsX10_without (va_wsS RX10 306 yX10_ones wsX10_ones) := goodIn_app (goodIn_of _ (by decide +kernel)) ggX10_without_X10_ones
set_option maxRecDepth 20000 in
theorem ggX10_without_X10_endsIf : GoodIn wsX10_without wsX10_endsIf := goodIn_r _ [31, 2, 32, 33, 34, 7, 35, 36, 37, 38, 39, 40, 41, 42, 43, 3, 44, 45, 46, 22, 23, 24, 47, 48, 49, 50, 51, 18, 19, 20, 21, 52, 53, 54, 55, 56, 57, 58, 59, 60, 61, 62, 63, 64, 65, 66, 67, 68, 69, 70, 71, 72, 73, 74, 75, 76, 77, 78, 79, 80, 81, 82, 87, 88, 89, 90, 91, 92, 93, 94, 95, 96, 97, 98, 99, 100, 101, 102, 103, 104, 105, 106, 107, 108, 109, 110, 111, 112, 113, 114, 115, 116, 117, 118, 119, 120, 121] rfl (by decide +kernel)
set_option maxRecDepth 20000 in
theorem gX10_without_X10_endsIf : GoodIn wsX10_without (wsV RX10 318 RX10 yX10_endsIf wsX10_endsIf) := goodIn_app (goodIn_of _ (by decide +kernel)) ggX10_without_X10_endsIf
set_option maxRecDepth 20000 in
theorem ggX10_without_X10_leastLike : GoodIn wsX10_without wsX10_leastLike := goodIn_r _ [86, 2, 18, 19, 20, 7, 21, 3, 22, 23, 24, 25, 26, 27, 28, 29, 30, 31, 32, 33, 34, 35, 36, 37, 38, 39, 40, 41, 42, 43, 44, 45, 46, 47, 48, 49, 50, 51, 52, 53, 54, 55, 56, 57, 58, 59, 60, 61, 62, 63, 64, 65, 66, 67, 68, 69, 70, 71, 72, 73, 74, 75, 76, 77, 78, 79, 80, 81, 82, 15, 16, 17, 87, 88, 89, 90, 91, 92, 93, 94, 95, 96, 97, 98, 99, 100, 101, 102, 103, 104, 105, 106, 107, 108, 109, 110, 111, 112, 113, 114, 115, 116, 117, 118, 119, 120, 121] rfl (by decide +kernel)
set_option maxRecDepth 20000 in
theorem gX10_without_X10_leastLike : GoodIn wsX10_without (wsV RX10 322 RX10 yX10_leastLike wsX10_leastLike) := goodIn_app (goodIn_of _ (by decide +kernel)) ggX10_without_X10_leastLike
theorem kX10_without_176 : Cond.fieldLink RX10 176 "EveningVowModel" "hasEvening" "Z" ∈ wsX10_without := List.mem_of_getElem? (i := 1) rfl
theorem iX10_without_X10 : ∀ w ∈ u_ws RX10 TX10 35, w ∈ wsX10_without := fun w h => (List.mem_cons_of_mem _ (List.mem_append_right _ h))
theorem kX10_without_26 : Cond.fieldLink RX10 26 "EveningVowModel" "st" "[I" ∈ wsX10_without := List.mem_of_getElem? (i := 2) rfl
theorem kX10_without_20 : Cond.fieldLink RX10 20 "EveningVowModel" "\x72" "[I" ∈ wsX10_without := List.mem_of_getElem? (i := 3) rfl
set_option maxHeartbeats 4000000 in
set_option maxRecDepth 100000 in
theorem wX10_without_L47 {p : Program} {l : Launch} {e : Env} {s : State} {m : MethodId} {args : Array Value} {below : List Frame} {meth : Method} {c : Code} {g : GG} {A : Nat → Prop} (C0 : Cx p s m args meth c cX10_without 5 (some .int) RX10 wsX10_without g A) (a_t : Nat) (p_t : Nat → Nat) (n : Nat) (x1 : Int32) (x2 : Int32) (f_t_15 : Nat → Int32) (f_t_17 : Nat → Int32)  (r : Int32) (o_t' : Nat → Int32) (f_t_25' : Nat → Int32) (K : Int32 → (Nat → Int32) → (Nat → Int32) → Option (Int32 × (Nat → Int32) × (Nat → Int32))) (hKx : ∀ (x3 : Int32) (o_t : Nat → Int32) (f_t_25 : Nat → Int32) (H : Heap) (locs : List Loc) (ls : Array Slot), K x3 o_t f_t_25 = some (r, o_t', f_t_25') → va_P g.1 vwCl [oX10 a_t p_t o_t, aI g (p_t 15) 266 f_t_15, aI g (p_t 17) 17 f_t_17, aI g (p_t 25) 17 f_t_25] H → va_D A [oX10 a_t p_t o_t, aI g (p_t 15) 266 f_t_15, aI g (p_t 17) 17 f_t_17, aI g (p_t 25) 17 f_t_25] → va_S A s.heap H locs → lv_has ls 5 [(0, .ref a_t), (1, .int x1), (3, .int x3)] → W p l e ({ frames := 7, cells := 0, slots := 0, locals := 161 } : Room) s m args below meth c H locs 0 0 (MQ below (EndI g r [oX10 a_t p_t o_t', aI g (p_t 15) 266 f_t_15, aI g (p_t 17) 17 f_t_17, aI g (p_t 25) 17 f_t_25'] A) args s 0 0 A) (F0 m 104 ls [])) : ∀ (k : Nat) (x3 : Int32) (x4 : Int32) (o_t : Nat → Int32) (f_t_25 : Nat → Int32), fX10_without_L47 n x1 x2 f_t_15 f_t_17 K k x3 x4 o_t f_t_25 = some (r, o_t', f_t_25') → ∀ (H : Heap) (locs : List Loc) (ls : Array Slot), va_P g.1 vwCl [oX10 a_t p_t o_t, aI g (p_t 15) 266 f_t_15, aI g (p_t 17) 17 f_t_17, aI g (p_t 25) 17 f_t_25] H → va_D A [oX10 a_t p_t o_t, aI g (p_t 15) 266 f_t_15, aI g (p_t 17) 17 f_t_17, aI g (p_t 25) 17 f_t_25] → va_S A s.heap H locs → lv_has ls 5 [(0, .ref a_t), (1, .int x1), (2, .int x2), (3, .int x3), (4, .int x4)] → W p l e ({ frames := 7, cells := 0, slots := 0, locals := 161 } : Room) s m args below meth c H locs 0 0 (MQ below (EndI g r [oX10 a_t p_t o_t', aI g (p_t 15) 266 f_t_15, aI g (p_t 17) 17 f_t_17, aI g (p_t 25) 17 f_t_25'] A) args s 0 0 A) (F0 m 47 ls []) := by
  obtain ⟨hx, hb, hml, hown, hts, hr, hlk, hK, hA, hSW⟩ := id C0
  intro k
  induction k with
  | zero =>
    intro x3 x4 o_t f_t_25 hF
    exact absurd hF (by simp [fX10_without_L47])
  | succ k ih =>
    intro x3 x4 o_t f_t_25 hF H locs ls hP hD hS hl
    rw [fX10_without_L47] at hF
    refine lv_iload hx hb dX10_without_47 (lv_at hl 4 rfl) ?_
    refine lv_iconst (v := (1 : Int32)) hx hb dX10_without_49 (by decide) ?_
    refine lv_aload_n hx hb dX10_without_50 rfl (lv_at hl 0 rfl) ?_
    refine va_get (D := g.1) (ci := 10) (v := .ref (p_t 15)) (C := RX10) (T := TX10) (N := 35) hx hb hts iX10_without_X10 hown hK.1 hP 0 rfl rfl 15 (by decide) (hts _ kX10_without_20) (fun _ h9 => h9) rfl dX10_without_51 ?_
    refine lv_iconst (v := (3 : Int32)) hx hb dX10_without_54 (by decide) ?_
    refine va_iald_k (j := 3) hx hb hK.1 hP 1 0 rfl rfl (by unfold vp_in; decide) rfl dX10_without_55 ?_
    refine lv_ishl hx hb dX10_without_56 ?_
    refine lv_icmp_ge (tgt := 104) hx hb dX10_without_57 (by decide) (fun c_9 => ?_) (fun c_9 => ?_)
    · have hF := it_p c_9 hF
      exact hKx x3 o_t f_t_25 _ _ _ hF (hP.sub [0, 1, 2, 3] rfl) (hD.sub [0, 1, 2, 3] rfl rfl) hS (lv_sub hl [0, 1, 3] rfl)
    · have hF := it_n c_9 hF
      refine lv_iload hx hb dX10_without_60 (lv_at hl 4 rfl) ?_
      refine lv_iload_n hx hb dX10_without_62 rfl (lv_at hl 2 rfl) ?_
      refine lv_iconst (v := (-1 : Int32)) hx hb dX10_without_63 (by decide) ?_
      refine lv_ixor hx hb dX10_without_64 ?_
      refine lv_iand hx hb dX10_without_65 ?_
      refine lv_if_ne (tgt := 98) hx hb dX10_without_66 (by decide) (fun c_10 => ?_) (fun c_10 => ?_)
      · have hF := it_n c_10 hF
        refine lv_iinc (v := (x4 + (1 : Int32))) (lv' := [(4, .int (x4 + (1 : Int32))), (0, .ref a_t), (1, .int x1), (2, .int x2), (3, .int x3)]) hx hb dX10_without_98 hl (k := 4) rfl rfl (by decide) rfl (fun ls hl => ?_)
        refine lv_goto (tgt := 47) hx hb dX10_without_101 (by decide) ?_
        exact ih x3 (x4 + (1 : Int32)) o_t f_t_25 hF _ _ _ (hP.sub [0, 1, 2, 3] rfl) (hD.sub [0, 1, 2, 3] rfl rfl) hS (lv_sub hl [1, 2, 3, 4, 0] rfl)
      · have hF := it_p c_10 hF
        refine lv_iload hx hb dX10_without_69 (lv_at hl 4 rfl) ?_
        obtain ⟨u_11, hu_12, hF⟩ := ob1_some hF
        refine call_si (wr := [oX10 a_t p_t o_t, aI g (p_t 15) 266 f_t_15, aI g (p_t 17) 17 f_t_17, aI g (p_t 25) 17 f_t_25]) (As := [.int x4]) (rest := []) C0 (mX10_ones l g n x4 u_11 hu_12) (va_cwS 1 hts gX10_without_X10_ones rfl rfl rfl (by decide +kernel) ⟨Nat.le_of_ble_eq_true rfl, Nat.le_of_ble_eq_true rfl⟩) hP hD hS [] [0, 1, 2, 3] rfl rfl rfl rfl rfl (by decide) hl.1 rfl rfl (Nat.le_of_ble_eq_true rfl) ⟨Nat.zero_le _, Nat.zero_le _⟩ dX10_without_71 ?_
        intro H locs hP hD hS
        refine lv_iload_n hx hb dX10_without_74 rfl (lv_at hl 3 rfl) ?_
        obtain ⟨u_13, hu_14, hF⟩ := ob1_some hF
        refine call_si (wr := [oX10 a_t p_t o_t, aI g (p_t 15) 266 f_t_15, aI g (p_t 17) 17 f_t_17, aI g (p_t 25) 17 f_t_25]) (As := [.int x3]) (rest := [.int u_11]) C0 (mX10_ones l g n x3 u_13 hu_14) (va_cwS 1 hts gX10_without_X10_ones rfl rfl rfl (by decide +kernel) ⟨Nat.le_of_ble_eq_true rfl, Nat.le_of_ble_eq_true rfl⟩) hP hD hS [] [0, 1, 2, 3] rfl rfl rfl rfl rfl (by decide) hl.1 rfl rfl (Nat.le_of_ble_eq_true rfl) ⟨Nat.zero_le _, Nat.zero_le _⟩ dX10_without_75 ?_
        intro H locs hP hD hS
        refine lv_icmp_ge (tgt := 98) hx hb dX10_without_78 (by decide) (fun c_15 => ?_) (fun c_15 => ?_)
        · have hF := it_p c_15 hF
          refine lv_iinc (v := (x4 + (1 : Int32))) (lv' := [(4, .int (x4 + (1 : Int32))), (0, .ref a_t), (1, .int x1), (2, .int x2), (3, .int x3)]) hx hb dX10_without_98 hl (k := 4) rfl rfl (by decide) rfl (fun ls hl => ?_)
          refine lv_goto (tgt := 47) hx hb dX10_without_101 (by decide) ?_
          exact ih x3 (x4 + (1 : Int32)) o_t f_t_25 hF _ _ _ (hP.sub [0, 1, 2, 3] rfl) (hD.sub [0, 1, 2, 3] rfl rfl) hS (lv_sub hl [1, 2, 3, 4, 0] rfl)
        · have hF := it_n c_15 hF
          refine lv_aload_n hx hb dX10_without_81 rfl (lv_at hl 0 rfl) ?_
          refine lv_iload hx hb dX10_without_82 (lv_at hl 4 rfl) ?_
          obtain ⟨u_16, u_17, u_18, hu_19, hF⟩ := ob3_some hF
          refine call_i (wr := []) (As := [.int x4]) (rest := []) (ci := 10) (q0 := 0) C0 (mX10_endsIf l g a_t p_t n x4 o_t f_t_15 f_t_17 f_t_25 u_16 u_17 u_18 hu_19) (cwV 1 hts gX10_without_X10_endsIf rfl rfl rfl (by decide +kernel) ⟨Nat.le_of_ble_eq_true rfl, Nat.le_of_ble_eq_true rfl⟩) hP hD hS [0, 1, 2, 3] [] rfl rfl rfl rfl rfl (by decide) rfl rfl hl.1 rfl rfl (Nat.le_of_ble_eq_true rfl) ⟨Nat.zero_le _, Nat.zero_le _⟩ dX10_without_84 ?_
          intro H locs hP hD hS
          refine lv_iconst (v := (0 : Int32)) hx hb dX10_without_87 (by decide) ?_
          refine lv_iload_n hx hb dX10_without_88 rfl (lv_at hl 1 rfl) ?_
          obtain ⟨u_20, hu_21, hF⟩ := ob1_some hF
          refine call_si (wr := [oX10 a_t p_t u_17, aI g (p_t 15) 266 f_t_15, aI g (p_t 17) 17 f_t_17, aI g (p_t 25) 17 u_18]) (As := [.int u_16, .int (0 : Int32), .int x1]) (rest := []) C0 (mX10_in l g n u_16 (0 : Int32) x1 u_20 hu_21) (va_cwS 3 hts gX10_without_X10_in rfl rfl rfl (by decide +kernel) ⟨Nat.le_of_ble_eq_true rfl, Nat.le_of_ble_eq_true rfl⟩) hP hD hS [] [0, 1, 2, 3] rfl rfl rfl rfl rfl (by decide) hl.1 rfl rfl (Nat.le_of_ble_eq_true rfl) ⟨Nat.zero_le _, Nat.zero_le _⟩ dX10_without_89 ?_
          intro H locs hP hD hS
          refine lv_if_eq (tgt := 98) hx hb dX10_without_92 (by decide) (fun c_22 => ?_) (fun c_22 => ?_)
          · have hF := it_p c_22 hF
            refine lv_iinc (v := (x4 + (1 : Int32))) (lv' := [(4, .int (x4 + (1 : Int32))), (0, .ref a_t), (1, .int x1), (2, .int x2), (3, .int x3)]) hx hb dX10_without_98 hl (k := 4) rfl rfl (by decide) rfl (fun ls hl => ?_)
            refine lv_goto (tgt := 47) hx hb dX10_without_101 (by decide) ?_
            exact ih x3 (x4 + (1 : Int32)) u_17 u_18 hF _ _ _ (hP.sub [0, 1, 2, 3] rfl) (hD.sub [0, 1, 2, 3] rfl rfl) hS (lv_sub hl [1, 2, 3, 4, 0] rfl)
          · have hF := it_n c_22 hF
            refine lv_iload hx hb dX10_without_95 (lv_at hl 4 rfl) ?_
            refine lv_istore_n (lv' := [(3, .int x4), (0, .ref a_t), (1, .int x1), (2, .int x2), (4, .int x4)]) hx hb dX10_without_97 rfl hl (by decide) rfl (fun ls hl => ?_)
            refine lv_iinc (v := (x4 + (1 : Int32))) (lv' := [(4, .int (x4 + (1 : Int32))), (3, .int x4), (0, .ref a_t), (1, .int x1), (2, .int x2)]) hx hb dX10_without_98 hl (k := 4) rfl rfl (by decide) rfl (fun ls hl => ?_)
            refine lv_goto (tgt := 47) hx hb dX10_without_101 (by decide) ?_
            exact ih x4 (x4 + (1 : Int32)) u_17 u_18 hF _ _ _ (hP.sub [0, 1, 2, 3] rfl) (hD.sub [0, 1, 2, 3] rfl rfl) hS (lv_sub hl [2, 3, 4, 1, 0] rfl)
set_option maxHeartbeats 4000000 in
set_option maxRecDepth 100000 in
theorem mX10_without (l : Launch) (g : GG) (a_t : Nat) (p_t : Nat → Nat) (n : Nat) (x1 : Int32) (o_t : Nat → Int32) (f_t_15 : Nat → Int32) (f_t_17 : Nat → Int32) (f_t_25 : Nat → Int32) (r : Int32) (o_t' : Nat → Int32) (f_t_25' : Nat → Int32) (hF : fX10_without n x1 o_t f_t_15 f_t_17 f_t_25 = some (r, o_t', f_t_25')) : MI l g yX10_without wsX10_without ({ frames := 7, cells := 0, slots := 0, locals := 161 } : Room) [.ref a_t, .int x1] [oX10 a_t p_t o_t, aI g (p_t 15) 266 f_t_15, aI g (p_t 17) 17 f_t_17, aI g (p_t 25) 17 f_t_25] r [oX10 a_t p_t o_t', aI g (p_t 15) 266 f_t_15, aI g (p_t 17) 17 f_t_17, aI g (p_t 25) 17 f_t_25'] := by
  refine MI.of (cc := cX10_without) (maxL := 5) (rt := .int) (own := RX10) rfl rfl (by decide) (Nat.le_of_ble_eq_true rfl) ?_
  intro p e s m args below meth c A C0 hP hD hS ls hl
  obtain ⟨hx, hb, hml, hown, hts, hr, hlk, hK, hA, hSW⟩ := id C0
  have hl : lv_has ls 5 [(0, .ref a_t), (1, .int x1)] := hl
  rw [fX10_without] at hF
  refine lv_aload_n hx hb dX10_without_0 rfl (lv_at hl 0 rfl) ?_
  obtain ⟨u_1, hu_2, hF⟩ := ob1_some hF
  refine call_v (wr := [aI g (p_t 15) 266 f_t_15, aI g (p_t 17) 17 f_t_17, aI g (p_t 25) 17 f_t_25]) (As := []) (rest := []) (ci := 10) (q0 := 0) C0 (mX10_good l g a_t p_t n o_t u_1 hu_2) (cwV 0 hts gX10_without_X10_good rfl rfl rfl (by decide +kernel) ⟨Nat.le_of_ble_eq_true rfl, Nat.le_of_ble_eq_true rfl⟩) hP hD hS [0] [1, 2, 3] rfl rfl rfl rfl rfl (by decide) rfl rfl hl.1 rfl rfl (Nat.le_of_ble_eq_true rfl) ⟨Nat.zero_le _, Nat.zero_le _⟩ dX10_without_1 ?_
  intro H locs hP hD hS
  refine lv_aload_n hx hb dX10_without_4 rfl (lv_at hl 0 rfl) ?_
  refine va_get (D := g.1) (ci := 10) (v := .int (u_1 14)) (C := RX10) (T := TX10) (N := 35) hx hb hts iX10_without_X10 hown hK.1 hP 3 rfl rfl 14 (by decide) (hts _ kX10_without_176) (fun _ h9 => h9) rfl dX10_without_5 ?_
  refine lv_if_ne (tgt := 17) hx hb dX10_without_8 (by decide) (fun c_3 => ?_) (fun c_3 => ?_)
  · have hF := it_n c_3 hF
    refine lv_iload_n hx hb dX10_without_17 rfl (lv_at hl 1 rfl) ?_
    refine lv_iconst (v := (0 : Int32)) hx hb dX10_without_18 (by decide) ?_
    refine lv_bipush (v := (60 : Int32)) hx hb dX10_without_19 (by decide) ?_
    obtain ⟨u_4, hu_5, hF⟩ := ob1_some hF
    refine call_si (wr := [aI g (p_t 15) 266 f_t_15, aI g (p_t 17) 17 f_t_17, aI g (p_t 25) 17 f_t_25, oX10 a_t p_t u_1]) (As := [.int x1, .int (0 : Int32), .int (60 : Int32)]) (rest := []) C0 (mX10_in l g n x1 (0 : Int32) (60 : Int32) u_4 hu_5) (va_cwS 3 hts gX10_without_X10_in rfl rfl rfl (by decide +kernel) ⟨Nat.le_of_ble_eq_true rfl, Nat.le_of_ble_eq_true rfl⟩) hP hD hS [] [0, 1, 2, 3] rfl rfl rfl rfl rfl (by decide) hl.1 rfl rfl (Nat.le_of_ble_eq_true rfl) ⟨Nat.zero_le _, Nat.zero_le _⟩ dX10_without_21 ?_
    intro H locs hP hD hS
    refine lv_if_ne (tgt := 33) hx hb dX10_without_24 (by decide) (fun c_6 => ?_) (fun c_6 => ?_)
    · have hF := it_n c_6 hF
      refine lv_aload_n hx hb dX10_without_33 rfl (lv_at hl 0 rfl) ?_
      refine lv_aload_n hx hb dX10_without_34 rfl (lv_at hl 0 rfl) ?_
      refine va_get (D := g.1) (ci := 10) (v := .ref (p_t 17)) (C := RX10) (T := TX10) (N := 35) hx hb hts iX10_without_X10 hown hK.1 hP 3 rfl rfl 17 (by decide) (hts _ kX10_without_26) (fun _ h9 => h9) rfl dX10_without_35 ?_
      obtain ⟨u_7, hu_8, hF⟩ := ob1_some hF
      refine call_i (wr := [aI g (p_t 25) 17 f_t_25]) (As := [.ref (p_t 17)]) (rest := []) (ci := 10) (q0 := 0) C0 (mX10_thereOf l g a_t (p_t 17) p_t n u_1 f_t_15 f_t_17 u_7 hu_8) (cwV 1 hts gX10_without_X10_thereOf rfl rfl rfl (by decide +kernel) ⟨Nat.le_of_ble_eq_true rfl, Nat.le_of_ble_eq_true rfl⟩) hP hD hS [3, 0, 1] [2] rfl rfl rfl rfl rfl (by decide) rfl rfl hl.1 rfl rfl (Nat.le_of_ble_eq_true rfl) ⟨Nat.zero_le _, Nat.zero_le _⟩ dX10_without_38 ?_
      intro H locs hP hD hS
      refine lv_istore_n (lv' := [(2, .int u_7), (0, .ref a_t), (1, .int x1)]) hx hb dX10_without_41 rfl hl (by decide) rfl (fun ls hl => ?_)
      refine lv_iload_n hx hb dX10_without_42 rfl (lv_at hl 0 rfl) ?_
      refine lv_istore_n (lv' := [(3, .int u_7), (2, .int u_7), (0, .ref a_t), (1, .int x1)]) hx hb dX10_without_43 rfl hl (by decide) rfl (fun ls hl => ?_)
      refine lv_iconst (v := (0 : Int32)) hx hb dX10_without_44 (by decide) ?_
      refine lv_istore (lv' := [(4, .int (0 : Int32)), (3, .int u_7), (2, .int u_7), (0, .ref a_t), (1, .int x1)]) hx hb dX10_without_45 hl (by decide) rfl (fun ls hl => ?_)
      refine wX10_without_L47 C0 a_t p_t n x1 u_7 f_t_15 f_t_17 r o_t' f_t_25' _ ?_ n u_7 (0 : Int32) u_1 f_t_25 hF _ _ _ (hP.sub [1, 2, 3, 0] rfl) (hD.sub [1, 2, 3, 0] rfl rfl) hS (lv_sub hl [3, 4, 2, 1, 0] rfl)
      · intro x3_x47 o_t_x47 f_t_25_x47 H locs ls hF hP hD hS hl
        refine lv_aload_n hx hb dX10_without_104 rfl (lv_at hl 0 rfl) ?_
        refine lv_iload_n hx hb dX10_without_105 rfl (lv_at hl 2 rfl) ?_
        refine lv_iload_n hx hb dX10_without_106 rfl (lv_at hl 1 rfl) ?_
        obtain ⟨u_23, u_24, u_25, hu_26, hF⟩ := ob3_some hF
        refine call_i (wr := []) (As := [.int x3_x47, .int x1]) (rest := []) (ci := 10) (q0 := 0) C0 (mX10_leastLike l g a_t p_t n x3_x47 x1 o_t_x47 f_t_15 f_t_17 f_t_25_x47 u_23 u_24 u_25 hu_26) (cwV 2 hts gX10_without_X10_leastLike rfl rfl rfl (by decide +kernel) ⟨Nat.le_of_ble_eq_true rfl, Nat.le_of_ble_eq_true rfl⟩) hP hD hS [0, 1, 2, 3] [] rfl rfl rfl rfl rfl (by decide) rfl rfl hl.1 rfl rfl (Nat.le_of_ble_eq_true rfl) ⟨Nat.zero_le _, Nat.zero_le _⟩ dX10_without_107 ?_
        intro H locs hP hD hS
        cases hF
        exact ret_i C0 hP hD hS [0, 1, 2, 3] rfl rfl rfl dX10_without_110 rfl
    · have hF := it_p c_6 hF
      refine lv_aload_n hx hb dX10_without_27 rfl (lv_at hl 0 rfl) ?_
      refine lv_iconst (v := (2 : Int32)) hx hb dX10_without_28 (by decide) ?_
      obtain ⟨u_27, u_28, hu_29, hF⟩ := ob2_some hF
      refine call_i (wr := [aI g (p_t 15) 266 f_t_15, aI g (p_t 17) 17 f_t_17, aI g (p_t 25) 17 f_t_25]) (As := [.int (2 : Int32)]) (rest := []) (ci := 10) (q0 := 0) C0 (mX10_no l g a_t p_t n (2 : Int32) u_1 u_27 u_28 hu_29) (cwV 1 hts gX10_without_X10_no rfl rfl rfl (by decide +kernel) ⟨Nat.le_of_ble_eq_true rfl, Nat.le_of_ble_eq_true rfl⟩) hP hD hS [3] [0, 1, 2] rfl rfl rfl rfl rfl (by decide) rfl rfl hl.1 rfl rfl (Nat.le_of_ble_eq_true rfl) ⟨Nat.zero_le _, Nat.zero_le _⟩ dX10_without_29 ?_
      intro H locs hP hD hS
      cases hF
      exact ret_i C0 hP hD hS [3, 0, 1, 2] rfl rfl rfl dX10_without_32 rfl
  · have hF := it_p c_3 hF
    refine lv_aload_n hx hb dX10_without_11 rfl (lv_at hl 0 rfl) ?_
    refine lv_iconst (v := (1 : Int32)) hx hb dX10_without_12 (by decide) ?_
    obtain ⟨u_30, u_31, hu_32, hF⟩ := ob2_some hF
    refine call_i (wr := [aI g (p_t 15) 266 f_t_15, aI g (p_t 17) 17 f_t_17, aI g (p_t 25) 17 f_t_25]) (As := [.int (1 : Int32)]) (rest := []) (ci := 10) (q0 := 0) C0 (mX10_no l g a_t p_t n (1 : Int32) u_1 u_30 u_31 hu_32) (cwV 1 hts gX10_without_X10_no rfl rfl rfl (by decide +kernel) ⟨Nat.le_of_ble_eq_true rfl, Nat.le_of_ble_eq_true rfl⟩) hP hD hS [3] [0, 1, 2] rfl rfl rfl rfl rfl (by decide) rfl rfl hl.1 rfl rfl (Nat.le_of_ble_eq_true rfl) ⟨Nat.zero_le _, Nat.zero_le _⟩ dX10_without_13 ?_
    intro H locs hP hD hS
    cases hF
    exact ret_i C0 hP hD hS [3, 0, 1, 2] rfl rfl rfl dX10_without_16 rfl

theorem dAX10_tires : ∀ q ∈ ([(0, (.iconst 0, 1)), (1, (.istore_n 3, 1)), (2, (.iload_n 3, 1)), (3, (.aload_n 0, 1)), (4, (.getfield 20, 3)), (7, (.iconst 3, 1)), (8, (.iaload, 1)), (9, (.if_icmp .ge 40, 3)), (12, (.aload_n 1, 1)), (13, (.iload_n 3, 1)), (14, (.dup2, 1)), (15, (.iaload, 1)), (16, (.aload_n 1, 1)), (17, (.iload_n 3, 1)), (18, (.invokestatic 248, 3)), (21, (.ifCond .eq 19, 3)), (24, (.aload_n 0, 1)), (25, (.getfield 20, 3)), (28, (.bipush 86, 2)), (30, (.iconst 2, 1)), (31, (.iload_n 2, 1)), (32, (.imul, 1)), (33, (.iadd, 1)), (34, (.iconst 1, 1)), (35, (.iadd, 1)), (36, (.iaload, 1)), (37, (.goto 4, 3)), (40, (.iconst 0, 1)), (41, (.isub, 1)), (42, (.iastore, 1)), (43, (.iinc 3 1, 3)), (46, (.goto (-44), 3)), (49, (.return_, 1))] : List (Nat × (Instr × Nat))), decode cX10_tires q.1 = .ok q.2 := by decide +kernel
theorem dX10_tires_0 : decode cX10_tires 0 = .ok (.iconst 0, 1) := dAX10_tires (0, (.iconst 0, 1)) (List.mem_of_getElem? (i := 0) rfl)
theorem dX10_tires_1 : decode cX10_tires 1 = .ok (.istore_n 3, 1) := dAX10_tires (1, (.istore_n 3, 1)) (List.mem_of_getElem? (i := 1) rfl)
theorem dX10_tires_2 : decode cX10_tires 2 = .ok (.iload_n 3, 1) := dAX10_tires (2, (.iload_n 3, 1)) (List.mem_of_getElem? (i := 2) rfl)
theorem dX10_tires_3 : decode cX10_tires 3 = .ok (.aload_n 0, 1) := dAX10_tires (3, (.aload_n 0, 1)) (List.mem_of_getElem? (i := 3) rfl)
theorem dX10_tires_4 : decode cX10_tires 4 = .ok (.getfield 20, 3) := dAX10_tires (4, (.getfield 20, 3)) (List.mem_of_getElem? (i := 4) rfl)
theorem dX10_tires_7 : decode cX10_tires 7 = .ok (.iconst 3, 1) := dAX10_tires (7, (.iconst 3, 1)) (List.mem_of_getElem? (i := 5) rfl)
theorem dX10_tires_8 : decode cX10_tires 8 = .ok (.iaload, 1) := dAX10_tires (8, (.iaload, 1)) (List.mem_of_getElem? (i := 6) rfl)
theorem dX10_tires_9 : decode cX10_tires 9 = .ok (.if_icmp .ge 40, 3) := dAX10_tires (9, (.if_icmp .ge 40, 3)) (List.mem_of_getElem? (i := 7) rfl)
theorem dX10_tires_12 : decode cX10_tires 12 = .ok (.aload_n 1, 1) := dAX10_tires (12, (.aload_n 1, 1)) (List.mem_of_getElem? (i := 8) rfl)
theorem dX10_tires_13 : decode cX10_tires 13 = .ok (.iload_n 3, 1) := dAX10_tires (13, (.iload_n 3, 1)) (List.mem_of_getElem? (i := 9) rfl)
theorem dX10_tires_14 : decode cX10_tires 14 = .ok (.dup2, 1) := dAX10_tires (14, (.dup2, 1)) (List.mem_of_getElem? (i := 10) rfl)
theorem dX10_tires_15 : decode cX10_tires 15 = .ok (.iaload, 1) := dAX10_tires (15, (.iaload, 1)) (List.mem_of_getElem? (i := 11) rfl)
theorem dX10_tires_16 : decode cX10_tires 16 = .ok (.aload_n 1, 1) := dAX10_tires (16, (.aload_n 1, 1)) (List.mem_of_getElem? (i := 12) rfl)
theorem dX10_tires_17 : decode cX10_tires 17 = .ok (.iload_n 3, 1) := dAX10_tires (17, (.iload_n 3, 1)) (List.mem_of_getElem? (i := 13) rfl)
theorem dX10_tires_18 : decode cX10_tires 18 = .ok (.invokestatic 248, 3) := dAX10_tires (18, (.invokestatic 248, 3)) (List.mem_of_getElem? (i := 14) rfl)
theorem dX10_tires_21 : decode cX10_tires 21 = .ok (.ifCond .eq 19, 3) := dAX10_tires (21, (.ifCond .eq 19, 3)) (List.mem_of_getElem? (i := 15) rfl)
theorem dX10_tires_24 : decode cX10_tires 24 = .ok (.aload_n 0, 1) := dAX10_tires (24, (.aload_n 0, 1)) (List.mem_of_getElem? (i := 16) rfl)
theorem dX10_tires_25 : decode cX10_tires 25 = .ok (.getfield 20, 3) := dAX10_tires (25, (.getfield 20, 3)) (List.mem_of_getElem? (i := 17) rfl)
theorem dX10_tires_28 : decode cX10_tires 28 = .ok (.bipush 86, 2) := dAX10_tires (28, (.bipush 86, 2)) (List.mem_of_getElem? (i := 18) rfl)
theorem dX10_tires_30 : decode cX10_tires 30 = .ok (.iconst 2, 1) := dAX10_tires (30, (.iconst 2, 1)) (List.mem_of_getElem? (i := 19) rfl)
theorem dX10_tires_31 : decode cX10_tires 31 = .ok (.iload_n 2, 1) := dAX10_tires (31, (.iload_n 2, 1)) (List.mem_of_getElem? (i := 20) rfl)
theorem dX10_tires_32 : decode cX10_tires 32 = .ok (.imul, 1) := dAX10_tires (32, (.imul, 1)) (List.mem_of_getElem? (i := 21) rfl)
theorem dX10_tires_33 : decode cX10_tires 33 = .ok (.iadd, 1) := dAX10_tires (33, (.iadd, 1)) (List.mem_of_getElem? (i := 22) rfl)
theorem dX10_tires_34 : decode cX10_tires 34 = .ok (.iconst 1, 1) := dAX10_tires (34, (.iconst 1, 1)) (List.mem_of_getElem? (i := 23) rfl)
theorem dX10_tires_35 : decode cX10_tires 35 = .ok (.iadd, 1) := dAX10_tires (35, (.iadd, 1)) (List.mem_of_getElem? (i := 24) rfl)
theorem dX10_tires_36 : decode cX10_tires 36 = .ok (.iaload, 1) := dAX10_tires (36, (.iaload, 1)) (List.mem_of_getElem? (i := 25) rfl)
theorem dX10_tires_37 : decode cX10_tires 37 = .ok (.goto 4, 3) := dAX10_tires (37, (.goto 4, 3)) (List.mem_of_getElem? (i := 26) rfl)
theorem dX10_tires_40 : decode cX10_tires 40 = .ok (.iconst 0, 1) := dAX10_tires (40, (.iconst 0, 1)) (List.mem_of_getElem? (i := 27) rfl)
theorem dX10_tires_41 : decode cX10_tires 41 = .ok (.isub, 1) := dAX10_tires (41, (.isub, 1)) (List.mem_of_getElem? (i := 28) rfl)
theorem dX10_tires_42 : decode cX10_tires 42 = .ok (.iastore, 1) := dAX10_tires (42, (.iastore, 1)) (List.mem_of_getElem? (i := 29) rfl)
theorem dX10_tires_43 : decode cX10_tires 43 = .ok (.iinc 3 1, 3) := dAX10_tires (43, (.iinc 3 1, 3)) (List.mem_of_getElem? (i := 30) rfl)
theorem dX10_tires_46 : decode cX10_tires 46 = .ok (.goto (-44), 3) := dAX10_tires (46, (.goto (-44), 3)) (List.mem_of_getElem? (i := 31) rfl)
theorem dX10_tires_49 : decode cX10_tires 49 = .ok (.return_, 1) := dAX10_tires (49, (.return_, 1)) (List.mem_of_getElem? (i := 32) rfl)
set_option maxRecDepth 20000 in
theorem ggX10_tires_X10_isIn : GoodIn wsX10_tires wsX10_isIn := goodIn_r _ [5] rfl (by decide +kernel)
set_option maxRecDepth 20000 in
theorem gX10_tires_X10_isIn : GoodIn wsX10_tires (va_wsS RX10 248 yX10_isIn wsX10_isIn) := goodIn_app (goodIn_of _ (by decide +kernel)) ggX10_tires_X10_isIn
theorem kX10_tires_20 : Cond.fieldLink RX10 20 "EveningVowModel" "\x72" "[I" ∈ wsX10_tires := List.mem_of_getElem? (i := 1) rfl
theorem iX10_tires_X10 : ∀ w ∈ u_ws RX10 TX10 35, w ∈ wsX10_tires := fun w h => (List.mem_cons_of_mem _ (List.mem_append_right _ h))
set_option maxHeartbeats 4000000 in
set_option maxRecDepth 100000 in
theorem wX10_tires_L2 {p : Program} {l : Launch} {e : Env} {s : State} {m : MethodId} {args : Array Value} {below : List Frame} {meth : Method} {c : Code} {g : GG} {A : Nat → Prop} (C0 : Cx p s m args meth c cX10_tires 4 none RX10 wsX10_tires g A) (a_t : Nat) (a_r1 : Nat) (p_t : Nat → Nat) (n : Nat) (x2 : Int32) (o_t : Nat → Int32) (f_t_15 : Nat → Int32)  (f_r1' : Nat → Int32) (K : (Nat → Int32) → Option ((Nat → Int32))) (hKx : ∀ (f_r1 : Nat → Int32) (H : Heap) (locs : List Loc) (ls : Array Slot), K f_r1 = some (f_r1') → va_P g.1 vwCl [oX10 a_t p_t o_t, aI g (p_t 15) 266 f_t_15, aI g a_r1 17 f_r1] H → va_D A [oX10 a_t p_t o_t, aI g (p_t 15) 266 f_t_15, aI g a_r1 17 f_r1] → va_S A s.heap H locs → lv_has ls 4 [] → W p l e ({ frames := 1, cells := 0, slots := 0, locals := 21 } : Room) s m args below meth c H locs 0 0 (MQ below (EndV g [oX10 a_t p_t o_t, aI g (p_t 15) 266 f_t_15, aI g a_r1 17 f_r1'] A) args s 0 0 A) (F0 m 49 ls [])) : ∀ (k : Nat) (x3 : Int32) (f_r1 : Nat → Int32), fX10_tires_L2 n x2 o_t f_t_15 K k x3 f_r1 = some (f_r1') → ∀ (H : Heap) (locs : List Loc) (ls : Array Slot), va_P g.1 vwCl [oX10 a_t p_t o_t, aI g (p_t 15) 266 f_t_15, aI g a_r1 17 f_r1] H → va_D A [oX10 a_t p_t o_t, aI g (p_t 15) 266 f_t_15, aI g a_r1 17 f_r1] → va_S A s.heap H locs → lv_has ls 4 [(0, .ref a_t), (1, .ref a_r1), (2, .int x2), (3, .int x3)] → W p l e ({ frames := 1, cells := 0, slots := 0, locals := 21 } : Room) s m args below meth c H locs 0 0 (MQ below (EndV g [oX10 a_t p_t o_t, aI g (p_t 15) 266 f_t_15, aI g a_r1 17 f_r1'] A) args s 0 0 A) (F0 m 2 ls []) := by
  obtain ⟨hx, hb, hml, hown, hts, hr, hlk, hK, hA, hSW⟩ := id C0
  intro k
  induction k with
  | zero =>
    intro x3 f_r1 hF
    exact absurd hF (by simp [fX10_tires_L2])
  | succ k ih =>
    intro x3 f_r1 hF H locs ls hP hD hS hl
    rw [fX10_tires_L2] at hF
    refine lv_iload_n hx hb dX10_tires_2 rfl (lv_at hl 3 rfl) ?_
    refine lv_aload_n hx hb dX10_tires_3 rfl (lv_at hl 0 rfl) ?_
    refine va_get (D := g.1) (ci := 10) (v := .ref (p_t 15)) (C := RX10) (T := TX10) (N := 35) hx hb hts iX10_tires_X10 hown hK.1 hP 0 rfl rfl 15 (by decide) (hts _ kX10_tires_20) (fun _ h9 => h9) rfl dX10_tires_4 ?_
    refine lv_iconst (v := (3 : Int32)) hx hb dX10_tires_7 (by decide) ?_
    refine va_iald_k (j := 3) hx hb hK.1 hP 1 0 rfl rfl (by unfold vp_in; decide) rfl dX10_tires_8 ?_
    refine lv_icmp_ge (tgt := 49) hx hb dX10_tires_9 (by decide) (fun c_1 => ?_) (fun c_1 => ?_)
    · have hF := it_p c_1 hF
      exact hKx f_r1 _ _ _ hF (hP.sub [0, 1, 2] rfl) (hD.sub [0, 1, 2] rfl rfl) hS (lv_sub hl [] rfl)
    · have hF := it_n c_1 hF
      refine lv_aload_n hx hb dX10_tires_12 rfl (lv_at hl 1 rfl) ?_
      refine lv_iload_n hx hb dX10_tires_13 rfl (lv_at hl 3 rfl) ?_
      refine lv_dup2_11 hx hb dX10_tires_14 rfl rfl ?_
      obtain ⟨h_2, hF⟩ := it_ck hF
      refine va_iald hx hb hK.1 hP 2 0 rfl rfl h_2 dX10_tires_15 ?_
      refine lv_aload_n hx hb dX10_tires_16 rfl (lv_at hl 1 rfl) ?_
      refine lv_iload_n hx hb dX10_tires_17 rfl (lv_at hl 3 rfl) ?_
      obtain ⟨u_3, hu_4, hF⟩ := ob1_some hF
      refine call_si (wr := [oX10 a_t p_t o_t, aI g (p_t 15) 266 f_t_15]) (As := [.ref a_r1, .int x3]) (rest := [.int (f_r1 (x3).toNatClampNeg), .int x3, .ref a_r1]) C0 (mX10_isIn l g a_r1 n x3 f_r1 u_3 hu_4) (va_cwS 2 hts gX10_tires_X10_isIn rfl rfl rfl (by decide +kernel) ⟨Nat.le_of_ble_eq_true rfl, Nat.le_of_ble_eq_true rfl⟩) hP hD hS [2] [0, 1] rfl rfl rfl rfl rfl (by decide) hl.1 rfl rfl (Nat.le_of_ble_eq_true rfl) ⟨Nat.zero_le _, Nat.zero_le _⟩ dX10_tires_18 ?_
      intro H locs hP hD hS
      refine lv_if_eq (tgt := 40) hx hb dX10_tires_21 (by decide) (fun c_5 => ?_) (fun c_5 => ?_)
      · have hF := it_p c_5 hF
        refine lv_iconst (v := (0 : Int32)) hx hb dX10_tires_40 (by decide) ?_
        refine lv_isub hx hb dX10_tires_41 ?_
        obtain ⟨h_6, hF⟩ := it_ck hF
        refine va_iast hx hb hK.1 hP hD hS 2 0 rfl rfl h_6 dX10_tires_42 (fun H locs hP hD hS => ?_)
        have hP : va_P g.1 vwCl [oX10 a_t p_t o_t, aI g (p_t 15) 266 f_t_15, aI g a_r1 17 (upd f_r1 (x3).toNatClampNeg ((f_r1 (x3).toNatClampNeg) - (0 : Int32)))] H := hP
        have hD : va_D A [oX10 a_t p_t o_t, aI g (p_t 15) 266 f_t_15, aI g a_r1 17 (upd f_r1 (x3).toNatClampNeg ((f_r1 (x3).toNatClampNeg) - (0 : Int32)))] := hD
        refine lv_iinc (v := (x3 + (1 : Int32))) (lv' := [(3, .int (x3 + (1 : Int32))), (0, .ref a_t), (1, .ref a_r1), (2, .int x2)]) hx hb dX10_tires_43 hl (k := 3) rfl rfl (by decide) rfl (fun ls hl => ?_)
        refine lv_goto (tgt := 2) hx hb dX10_tires_46 (by decide) ?_
        exact ih (x3 + (1 : Int32)) (upd f_r1 (x3).toNatClampNeg ((f_r1 (x3).toNatClampNeg) - (0 : Int32))) hF _ _ _ (hP.sub [0, 1, 2] rfl) (hD.sub [0, 1, 2] rfl rfl) hS (lv_sub hl [1, 2, 3, 0] rfl)
      · have hF := it_n c_5 hF
        refine lv_aload_n hx hb dX10_tires_24 rfl (lv_at hl 0 rfl) ?_
        refine va_get (D := g.1) (ci := 10) (v := .ref (p_t 15)) (C := RX10) (T := TX10) (N := 35) hx hb hts iX10_tires_X10 hown hK.1 hP 0 rfl rfl 15 (by decide) (hts _ kX10_tires_20) (fun _ h9 => h9) rfl dX10_tires_25 ?_
        refine lv_bipush (v := (86 : Int32)) hx hb dX10_tires_28 (by decide) ?_
        refine lv_iconst (v := (2 : Int32)) hx hb dX10_tires_30 (by decide) ?_
        refine lv_iload_n hx hb dX10_tires_31 rfl (lv_at hl 2 rfl) ?_
        refine lv_imul hx hb dX10_tires_32 ?_
        refine lv_iadd hx hb dX10_tires_33 ?_
        refine lv_iconst (v := (1 : Int32)) hx hb dX10_tires_34 (by decide) ?_
        refine lv_iadd hx hb dX10_tires_35 ?_
        obtain ⟨h_7, hF⟩ := it_ck hF
        refine va_iald hx hb hK.1 hP 1 0 rfl rfl h_7 dX10_tires_36 ?_
        refine lv_goto (tgt := 41) hx hb dX10_tires_37 (by decide) ?_
        refine lv_isub hx hb dX10_tires_41 ?_
        obtain ⟨h_8, hF⟩ := it_ck hF
        refine va_iast hx hb hK.1 hP hD hS 2 0 rfl rfl h_8 dX10_tires_42 (fun H locs hP hD hS => ?_)
        have hP : va_P g.1 vwCl [oX10 a_t p_t o_t, aI g (p_t 15) 266 f_t_15, aI g a_r1 17 (upd f_r1 (x3).toNatClampNeg ((f_r1 (x3).toNatClampNeg) - (f_t_15 ((((86 : Int32) + ((2 : Int32) * x2)) + (1 : Int32))).toNatClampNeg)))] H := hP
        have hD : va_D A [oX10 a_t p_t o_t, aI g (p_t 15) 266 f_t_15, aI g a_r1 17 (upd f_r1 (x3).toNatClampNeg ((f_r1 (x3).toNatClampNeg) - (f_t_15 ((((86 : Int32) + ((2 : Int32) * x2)) + (1 : Int32))).toNatClampNeg)))] := hD
        refine lv_iinc (v := (x3 + (1 : Int32))) (lv' := [(3, .int (x3 + (1 : Int32))), (0, .ref a_t), (1, .ref a_r1), (2, .int x2)]) hx hb dX10_tires_43 hl (k := 3) rfl rfl (by decide) rfl (fun ls hl => ?_)
        refine lv_goto (tgt := 2) hx hb dX10_tires_46 (by decide) ?_
        exact ih (x3 + (1 : Int32)) (upd f_r1 (x3).toNatClampNeg ((f_r1 (x3).toNatClampNeg) - (f_t_15 ((((86 : Int32) + ((2 : Int32) * x2)) + (1 : Int32))).toNatClampNeg))) hF _ _ _ (hP.sub [0, 1, 2] rfl) (hD.sub [0, 1, 2] rfl rfl) hS (lv_sub hl [1, 2, 3, 0] rfl)
set_option maxHeartbeats 4000000 in
set_option maxRecDepth 100000 in
theorem mX10_tires (l : Launch) (g : GG) (a_t : Nat) (a_r1 : Nat) (p_t : Nat → Nat) (n : Nat) (x2 : Int32) (o_t : Nat → Int32) (f_t_15 : Nat → Int32) (f_r1 : Nat → Int32) (f_r1' : Nat → Int32) (hF : fX10_tires n x2 o_t f_t_15 f_r1 = some (f_r1')) : MV l g yX10_tires wsX10_tires ({ frames := 1, cells := 0, slots := 0, locals := 21 } : Room) [.ref a_t, .ref a_r1, .int x2] [oX10 a_t p_t o_t, aI g (p_t 15) 266 f_t_15, aI g a_r1 17 f_r1] [oX10 a_t p_t o_t, aI g (p_t 15) 266 f_t_15, aI g a_r1 17 f_r1'] := by
  refine MV.of (cc := cX10_tires) (maxL := 4) (own := RX10) rfl rfl (by decide) (Nat.le_of_ble_eq_true rfl) ?_
  intro p e s m args below meth c A C0 hP hD hS ls hl
  obtain ⟨hx, hb, hml, hown, hts, hr, hlk, hK, hA, hSW⟩ := id C0
  have hl : lv_has ls 4 [(0, .ref a_t), (1, .ref a_r1), (2, .int x2)] := hl
  rw [fX10_tires] at hF
  refine lv_iconst (v := (0 : Int32)) hx hb dX10_tires_0 (by decide) ?_
  refine lv_istore_n (lv' := [(3, .int (0 : Int32)), (0, .ref a_t), (1, .ref a_r1), (2, .int x2)]) hx hb dX10_tires_1 rfl hl (by decide) rfl (fun ls hl => ?_)
  refine wX10_tires_L2 C0 a_t a_r1 p_t n x2 o_t f_t_15 f_r1' _ ?_ n (0 : Int32) f_r1 hF _ _ _ (hP.sub [0, 1, 2] rfl) (hD.sub [0, 1, 2] rfl rfl) hS (lv_sub hl [1, 2, 3, 0] rfl)
  · intro f_r1_x2 H locs ls hF hP hD hS hl
    cases hF
    exact ret_v C0 hP hD hS [0, 1, 2] rfl rfl rfl dX10_tires_49

