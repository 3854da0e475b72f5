theorem dAX2_begin : ∀ q ∈ ([(0, (.aload_n 0, 1)), (1, (.iconst 0, 1)), (2, (.putfield 9, 3)), (5, (.aload_n 0, 1)), (6, (.iconst 1, 1)), (7, (.aload_n 1, 1)), (8, (.getfield 40, 3)), (11, (.ishl, 1)), (12, (.iconst 1, 1)), (13, (.isub, 1)), (14, (.putfield 15, 3)), (17, (.aload_n 0, 1)), (18, (.aload_n 1, 1)), (19, (.getfield 45, 3)), (22, (.putfield 18, 3)), (25, (.aload_n 0, 1)), (26, (.iconst 0, 1)), (27, (.putfield 21, 3)), (30, (.iconst 0, 1)), (31, (.istore_n 2, 1)), (32, (.iload_n 2, 1)), (33, (.aload_n 1, 1)), (34, (.getfield 40, 3)), (37, (.if_icmp .ge 29, 3)), (40, (.aload_n 0, 1)), (41, (.getfield 30, 3)), (44, (.iload_n 2, 1)), (45, (.aload_n 1, 1)), (46, (.getfield 48, 3)), (49, (.iload_n 2, 1)), (50, (.iaload, 1)), (51, (.iastore, 1)), (52, (.aload_n 0, 1)), (53, (.getfield 34, 3)), (56, (.iload_n 2, 1)), (57, (.bipush (-2), 2)), (59, (.iastore, 1)), (60, (.iinc 2 1, 3)), (63, (.goto (-31), 3)), (66, (.return_, 1))] : List (Nat × (Instr × Nat))), decode cX2_begin q.1 = .ok q.2 := by decide +kernel
theorem dX2_begin_0 : decode cX2_begin 0 = .ok (.aload_n 0, 1) := dAX2_begin (0, (.aload_n 0, 1)) (List.mem_of_getElem? (i := 0) rfl)
theorem dX2_begin_1 : decode cX2_begin 1 = .ok (.iconst 0, 1) := dAX2_begin (1, (.iconst 0, 1)) (List.mem_of_getElem? (i := 1) rfl)
theorem dX2_begin_2 : decode cX2_begin 2 = .ok (.putfield 9, 3) := dAX2_begin (2, (.putfield 9, 3)) (List.mem_of_getElem? (i := 2) rfl)
theorem dX2_begin_5 : decode cX2_begin 5 = .ok (.aload_n 0, 1) := dAX2_begin (5, (.aload_n 0, 1)) (List.mem_of_getElem? (i := 3) rfl)
theorem dX2_begin_6 : decode cX2_begin 6 = .ok (.iconst 1, 1) := dAX2_begin (6, (.iconst 1, 1)) (List.mem_of_getElem? (i := 4) rfl)
theorem dX2_begin_7 : decode cX2_begin 7 = .ok (.aload_n 1, 1) := dAX2_begin (7, (.aload_n 1, 1)) (List.mem_of_getElem? (i := 5) rfl)
theorem dX2_begin_8 : decode cX2_begin 8 = .ok (.getfield 40, 3) := dAX2_begin (8, (.getfield 40, 3)) (List.mem_of_getElem? (i := 6) rfl)
theorem dX2_begin_11 : decode cX2_begin 11 = .ok (.ishl, 1) := dAX2_begin (11, (.ishl, 1)) (List.mem_of_getElem? (i := 7) rfl)
theorem dX2_begin_12 : decode cX2_begin 12 = .ok (.iconst 1, 1) := dAX2_begin (12, (.iconst 1, 1)) (List.mem_of_getElem? (i := 8) rfl)
theorem dX2_begin_13 : decode cX2_begin 13 = .ok (.isub, 1) := dAX2_begin (13, (.isub, 1)) (List.mem_of_getElem? (i := 9) rfl)
theorem dX2_begin_14 : decode cX2_begin 14 = .ok (.putfield 15, 3) := dAX2_begin (14, (.putfield 15, 3)) (List.mem_of_getElem? (i := 10) rfl)
theorem dX2_begin_17 : decode cX2_begin 17 = .ok (.aload_n 0, 1) := dAX2_begin (17, (.aload_n 0, 1)) (List.mem_of_getElem? (i := 11) rfl)
theorem dX2_begin_18 : decode cX2_begin 18 = .ok (.aload_n 1, 1) := dAX2_begin (18, (.aload_n 1, 1)) (List.mem_of_getElem? (i := 12) rfl)
theorem dX2_begin_19 : decode cX2_begin 19 = .ok (.getfield 45, 3) := dAX2_begin (19, (.getfield 45, 3)) (List.mem_of_getElem? (i := 13) rfl)
theorem dX2_begin_22 : decode cX2_begin 22 = .ok (.putfield 18, 3) := dAX2_begin (22, (.putfield 18, 3)) (List.mem_of_getElem? (i := 14) rfl)
theorem dX2_begin_25 : decode cX2_begin 25 = .ok (.aload_n 0, 1) := dAX2_begin (25, (.aload_n 0, 1)) (List.mem_of_getElem? (i := 15) rfl)
theorem dX2_begin_26 : decode cX2_begin 26 = .ok (.iconst 0, 1) := dAX2_begin (26, (.iconst 0, 1)) (List.mem_of_getElem? (i := 16) rfl)
theorem dX2_begin_27 : decode cX2_begin 27 = .ok (.putfield 21, 3) := dAX2_begin (27, (.putfield 21, 3)) (List.mem_of_getElem? (i := 17) rfl)
theorem dX2_begin_30 : decode cX2_begin 30 = .ok (.iconst 0, 1) := dAX2_begin (30, (.iconst 0, 1)) (List.mem_of_getElem? (i := 18) rfl)
theorem dX2_begin_31 : decode cX2_begin 31 = .ok (.istore_n 2, 1) := dAX2_begin (31, (.istore_n 2, 1)) (List.mem_of_getElem? (i := 19) rfl)
theorem dX2_begin_32 : decode cX2_begin 32 = .ok (.iload_n 2, 1) := dAX2_begin (32, (.iload_n 2, 1)) (List.mem_of_getElem? (i := 20) rfl)
theorem dX2_begin_33 : decode cX2_begin 33 = .ok (.aload_n 1, 1) := dAX2_begin (33, (.aload_n 1, 1)) (List.mem_of_getElem? (i := 21) rfl)
theorem dX2_begin_34 : decode cX2_begin 34 = .ok (.getfield 40, 3) := dAX2_begin (34, (.getfield 40, 3)) (List.mem_of_getElem? (i := 22) rfl)
theorem dX2_begin_37 : decode cX2_begin 37 = .ok (.if_icmp .ge 29, 3) := dAX2_begin (37, (.if_icmp .ge 29, 3)) (List.mem_of_getElem? (i := 23) rfl)
theorem dX2_begin_40 : decode cX2_begin 40 = .ok (.aload_n 0, 1) := dAX2_begin (40, (.aload_n 0, 1)) (List.mem_of_getElem? (i := 24) rfl)
theorem dX2_begin_41 : decode cX2_begin 41 = .ok (.getfield 30, 3) := dAX2_begin (41, (.getfield 30, 3)) (List.mem_of_getElem? (i := 25) rfl)
theorem dX2_begin_44 : decode cX2_begin 44 = .ok (.iload_n 2, 1) := dAX2_begin (44, (.iload_n 2, 1)) (List.mem_of_getElem? (i := 26) rfl)
theorem dX2_begin_45 : decode cX2_begin 45 = .ok (.aload_n 1, 1) := dAX2_begin (45, (.aload_n 1, 1)) (List.mem_of_getElem? (i := 27) rfl)
theorem dX2_begin_46 : decode cX2_begin 46 = .ok (.getfield 48, 3) := dAX2_begin (46, (.getfield 48, 3)) (List.mem_of_getElem? (i := 28) rfl)
theorem dX2_begin_49 : decode cX2_begin 49 = .ok (.iload_n 2, 1) := dAX2_begin (49, (.iload_n 2, 1)) (List.mem_of_getElem? (i := 29) rfl)
theorem dX2_begin_50 : decode cX2_begin 50 = .ok (.iaload, 1) := dAX2_begin (50, (.iaload, 1)) (List.mem_of_getElem? (i := 30) rfl)
theorem dX2_begin_51 : decode cX2_begin 51 = .ok (.iastore, 1) := dAX2_begin (51, (.iastore, 1)) (List.mem_of_getElem? (i := 31) rfl)
theorem dX2_begin_52 : decode cX2_begin 52 = .ok (.aload_n 0, 1) := dAX2_begin (52, (.aload_n 0, 1)) (List.mem_of_getElem? (i := 32) rfl)
theorem dX2_begin_53 : decode cX2_begin 53 = .ok (.getfield 34, 3) := dAX2_begin (53, (.getfield 34, 3)) (List.mem_of_getElem? (i := 33) rfl)
theorem dX2_begin_56 : decode cX2_begin 56 = .ok (.iload_n 2, 1) := dAX2_begin (56, (.iload_n 2, 1)) (List.mem_of_getElem? (i := 34) rfl)
theorem dX2_begin_57 : decode cX2_begin 57 = .ok (.bipush (-2), 2) := dAX2_begin (57, (.bipush (-2), 2)) (List.mem_of_getElem? (i := 35) rfl)
theorem dX2_begin_59 : decode cX2_begin 59 = .ok (.iastore, 1) := dAX2_begin (59, (.iastore, 1)) (List.mem_of_getElem? (i := 36) rfl)
theorem dX2_begin_60 : decode cX2_begin 60 = .ok (.iinc 2 1, 3) := dAX2_begin (60, (.iinc 2 1, 3)) (List.mem_of_getElem? (i := 37) rfl)
theorem dX2_begin_63 : decode cX2_begin 63 = .ok (.goto (-31), 3) := dAX2_begin (63, (.goto (-31), 3)) (List.mem_of_getElem? (i := 38) rfl)
theorem dX2_begin_66 : decode cX2_begin 66 = .ok (.return_, 1) := dAX2_begin (66, (.return_, 1)) (List.mem_of_getElem? (i := 39) rfl)
theorem kX2_begin_9 : Cond.fieldLink RX2 9 "EveningVow$Night" "clock" "I" ∈ wsX2_begin := List.mem_of_getElem? (i := 1) rfl
theorem iX2_begin_X2 : ∀ w ∈ u_ws RX2 TX2 9, w ∈ wsX2_begin := fun w h => (List.mem_cons_of_mem _ (List.mem_append_left _ (List.mem_append_right _ h)))
theorem kX2_begin_40 : Cond.fieldLink RX2 40 "EveningVow$House" "guests" "I" ∈ wsX2_begin := List.mem_of_getElem? (i := 2) rfl
theorem iX2_begin_X1 : ∀ w ∈ u_ws RX1 TX1 17, w ∈ wsX2_begin := fun w h => (List.mem_cons_of_mem _ (List.mem_append_right _ h))
theorem kX2_begin_15 : Cond.fieldLink RX2 15 "EveningVow$Night" "there" "I" ∈ wsX2_begin := List.mem_of_getElem? (i := 3) rfl
theorem kX2_begin_45 : Cond.fieldLink RX2 45 "EveningVow$House" "cups" "I" ∈ wsX2_begin := List.mem_of_getElem? (i := 4) rfl
theorem kX2_begin_18 : Cond.fieldLink RX2 18 "EveningVow$Night" "cupsLeft" "I" ∈ wsX2_begin := List.mem_of_getElem? (i := 5) rfl
theorem kX2_begin_21 : Cond.fieldLink RX2 21 "EveningVow$Night" "toldTales" "I" ∈ wsX2_begin := List.mem_of_getElem? (i := 6) rfl
theorem kX2_begin_30 : Cond.fieldLink RX2 30 "EveningVow$Night" "want" "[I" ∈ wsX2_begin := List.mem_of_getElem? (i := 7) rfl
theorem kX2_begin_48 : Cond.fieldLink RX2 48 "EveningVow$House" "firstWant" "[I" ∈ wsX2_begin := List.mem_of_getElem? (i := 8) rfl
theorem kX2_begin_34 : Cond.fieldLink RX2 34 "EveningVow$Night" "leftAt" "[I" ∈ wsX2_begin := List.mem_of_getElem? (i := 9) rfl
set_option maxHeartbeats 4000000 in
set_option maxRecDepth 100000 in
theorem wX2_begin_L32 {p : Program} {l : Launch} {e : Env} {s : State} {m : MethodId} {args : Array Value} {below : List Frame} {meth : Method} {c : Code} {g : GG} {A : Nat → Prop} (C0 : Cx p s m args meth c cX2_begin 3 none RX2 wsX2_begin g A) (a_t : Nat) (a_r1 : Nat) (p_t : Nat → Nat) (p_r1 : Nat → Nat) (n : Nat) (o_t : Nat → Int32) (o_r1 : Nat → Int32) (f_r1_5 : Nat → Int32)  (o_t' : Nat → Int32) (f_t_6' : Nat → Int32) (f_t_7' : Nat → Int32) (K : (Nat → Int32) → (Nat → Int32) → Option ((Nat → Int32) × (Nat → Int32) × (Nat → Int32))) (hKx : ∀ (f_t_6 : Nat → Int32) (f_t_7 : Nat → Int32) (H : Heap) (locs : List Loc) (ls : Array Slot), K f_t_6 f_t_7 = some (o_t', f_t_6', f_t_7') → va_P g.1 vwCl [oX2 a_t p_t o_t, aI g (p_t 6) 7 f_t_6, aI g (p_t 7) 7 f_t_7, oX1 a_r1 p_r1 o_r1, aI g (p_r1 5) 7 f_r1_5] H → va_D A [oX2 a_t p_t o_t, aI g (p_t 6) 7 f_t_6, aI g (p_t 7) 7 f_t_7, oX1 a_r1 p_r1 o_r1, aI g (p_r1 5) 7 f_r1_5] → va_S A s.heap H locs → lv_has ls 3 [] → W p l e ({ frames := 0, cells := 0, slots := 0, locals := 0 } : Room) s m args below meth c H locs 0 0 (MQ below (EndV g [oX2 a_t p_t o_t', aI g (p_t 6) 7 f_t_6', aI g (p_t 7) 7 f_t_7', oX1 a_r1 p_r1 o_r1, aI g (p_r1 5) 7 f_r1_5] A) args s 0 0 A) (F0 m 66 ls [])) : ∀ (k : Nat) (x2 : Int32) (f_t_6 : Nat → Int32) (f_t_7 : Nat → Int32), fX2_begin_L32 n o_t o_r1 f_r1_5 K k x2 f_t_6 f_t_7 = some (o_t', f_t_6', f_t_7') → ∀ (H : Heap) (locs : List Loc) (ls : Array Slot), va_P g.1 vwCl [oX2 a_t p_t o_t, aI g (p_t 6) 7 f_t_6, aI g (p_t 7) 7 f_t_7, oX1 a_r1 p_r1 o_r1, aI g (p_r1 5) 7 f_r1_5] H → va_D A [oX2 a_t p_t o_t, aI g (p_t 6) 7 f_t_6, aI g (p_t 7) 7 f_t_7, oX1 a_r1 p_r1 o_r1, aI g (p_r1 5) 7 f_r1_5] → va_S A s.heap H locs → lv_has ls 3 [(0, .ref a_t), (1, .ref a_r1), (2, .int x2)] → W p l e ({ frames := 0, cells := 0, slots := 0, locals := 0 } : Room) s m args below meth c H locs 0 0 (MQ below (EndV g [oX2 a_t p_t o_t', aI g (p_t 6) 7 f_t_6', aI g (p_t 7) 7 f_t_7', oX1 a_r1 p_r1 o_r1, aI g (p_r1 5) 7 f_r1_5] A) args s 0 0 A) (F0 m 32 ls []) := by
  obtain ⟨hx, hb, hml, hown, hts, hr, hlk, hK, hA, hSW⟩ := id C0
  intro k
  induction k with
  | zero =>
    intro x2 f_t_6 f_t_7 hF
    exact absurd hF (by simp [fX2_begin_L32])
  | succ k ih =>
    intro x2 f_t_6 f_t_7 hF H locs ls hP hD hS hl
    rw [fX2_begin_L32] at hF
    refine lv_iload_n hx hb dX2_begin_32 rfl (lv_at hl 2 rfl) ?_
    refine lv_aload_n hx hb dX2_begin_33 rfl (lv_at hl 1 rfl) ?_
    refine va_get (D := g.1) (ci := 1) (v := .int (o_r1 3)) (C := RX1) (T := TX1) (N := 17) hx hb hts iX2_begin_X1 hown hK.1 hP 3 rfl rfl 3 (by decide) (hts _ kX2_begin_40) (fun _ h9 => h9) rfl dX2_begin_34 ?_
    refine lv_icmp_ge (tgt := 66) hx hb dX2_begin_37 (by decide) (fun c_1 => ?_) (fun c_1 => ?_)
    · have hF := it_p c_1 hF
      exact hKx f_t_6 f_t_7 _ _ _ hF (hP.sub [0, 1, 2, 3, 4] rfl) (hD.sub [0, 1, 2, 3, 4] rfl rfl) hS (lv_sub hl [] rfl)
    · have hF := it_n c_1 hF
      refine lv_aload_n hx hb dX2_begin_40 rfl (lv_at hl 0 rfl) ?_
      refine va_get (D := g.1) (ci := 2) (v := .ref (p_t 6)) (C := RX2) (T := TX2) (N := 9) hx hb hts iX2_begin_X2 hown hK.1 hP 0 rfl rfl 6 (by decide) (hts _ kX2_begin_30) (fun _ h9 => h9) rfl dX2_begin_41 ?_
      refine lv_iload_n hx hb dX2_begin_44 rfl (lv_at hl 2 rfl) ?_
      refine lv_aload_n hx hb dX2_begin_45 rfl (lv_at hl 1 rfl) ?_
      refine va_get (D := g.1) (ci := 1) (v := .ref (p_r1 5)) (C := RX1) (T := TX1) (N := 17) hx hb hts iX2_begin_X1 hown hK.1 hP 3 rfl rfl 5 (by decide) (hts _ kX2_begin_48) (fun _ h9 => h9) rfl dX2_begin_46 ?_
      refine lv_iload_n hx hb dX2_begin_49 rfl (lv_at hl 2 rfl) ?_
      obtain ⟨h_2, hF⟩ := it_ck hF
      refine va_iald hx hb hK.1 hP 4 0 rfl rfl h_2 dX2_begin_50 ?_
      obtain ⟨h_3, hF⟩ := it_ck hF
      refine va_iast hx hb hK.1 hP hD hS 1 0 rfl rfl h_3 dX2_begin_51 (fun H locs hP hD hS => ?_)
      have hP : va_P g.1 vwCl [oX2 a_t p_t o_t, aI g (p_t 6) 7 (upd f_t_6 (x2).toNatClampNeg (f_r1_5 (x2).toNatClampNeg)), aI g (p_t 7) 7 f_t_7, oX1 a_r1 p_r1 o_r1, aI g (p_r1 5) 7 f_r1_5] H := hP
      have hD : va_D A [oX2 a_t p_t o_t, aI g (p_t 6) 7 (upd f_t_6 (x2).toNatClampNeg (f_r1_5 (x2).toNatClampNeg)), aI g (p_t 7) 7 f_t_7, oX1 a_r1 p_r1 o_r1, aI g (p_r1 5) 7 f_r1_5] := hD
      refine lv_aload_n hx hb dX2_begin_52 rfl (lv_at hl 0 rfl) ?_
      refine va_get (D := g.1) (ci := 2) (v := .ref (p_t 7)) (C := RX2) (T := TX2) (N := 9) hx hb hts iX2_begin_X2 hown hK.1 hP 0 rfl rfl 7 (by decide) (hts _ kX2_begin_34) (fun _ h9 => h9) rfl dX2_begin_53 ?_
      refine lv_iload_n hx hb dX2_begin_56 rfl (lv_at hl 2 rfl) ?_
      refine lv_bipush (v := (-2 : Int32)) hx hb dX2_begin_57 (by decide) ?_
      obtain ⟨h_4, hF⟩ := it_ck hF
      refine va_iast hx hb hK.1 hP hD hS 2 0 rfl rfl h_4 dX2_begin_59 (fun H locs hP hD hS => ?_)
      have hP : va_P g.1 vwCl [oX2 a_t p_t o_t, aI g (p_t 6) 7 (upd f_t_6 (x2).toNatClampNeg (f_r1_5 (x2).toNatClampNeg)), aI g (p_t 7) 7 (upd f_t_7 (x2).toNatClampNeg (-2 : Int32)), oX1 a_r1 p_r1 o_r1, aI g (p_r1 5) 7 f_r1_5] H := hP
      have hD : va_D A [oX2 a_t p_t o_t, aI g (p_t 6) 7 (upd f_t_6 (x2).toNatClampNeg (f_r1_5 (x2).toNatClampNeg)), aI g (p_t 7) 7 (upd f_t_7 (x2).toNatClampNeg (-2 : Int32)), oX1 a_r1 p_r1 o_r1, aI g (p_r1 5) 7 f_r1_5] := hD
      refine lv_iinc (v := (x2 + (1 : Int32))) (lv' := [(2, .int (x2 + (1 : Int32))), (0, .ref a_t), (1, .ref a_r1)]) hx hb dX2_begin_60 hl (k := 2) rfl rfl (by decide) rfl (fun ls hl => ?_)
      refine lv_goto (tgt := 32) hx hb dX2_begin_63 (by decide) ?_
      exact ih (x2 + (1 : Int32)) (upd f_t_6 (x2).toNatClampNeg (f_r1_5 (x2).toNatClampNeg)) (upd f_t_7 (x2).toNatClampNeg (-2 : Int32)) hF _ _ _ (hP.sub [0, 1, 2, 3, 4] rfl) (hD.sub [0, 1, 2, 3, 4] rfl rfl) hS (lv_sub hl [1, 2, 0] rfl)
set_option maxHeartbeats 4000000 in
set_option maxRecDepth 100000 in
theorem mX2_begin (l : Launch) (g : GG) (a_t : Nat) (a_r1 : Nat) (p_t : Nat → Nat) (p_r1 : Nat → Nat) (n : Nat) (o_t : Nat → Int32) (f_t_6 : Nat → Int32) (f_t_7 : Nat → Int32) (o_r1 : Nat → Int32) (f_r1_5 : Nat → Int32) (o_t' : Nat → Int32) (f_t_6' : Nat → Int32) (f_t_7' : Nat → Int32) (hF : fX2_begin n o_t f_t_6 f_t_7 o_r1 f_r1_5 = some (o_t', f_t_6', f_t_7')) : MV l g yX2_begin wsX2_begin ({ frames := 0, cells := 0, slots := 0, locals := 0 } : Room) [.ref a_t, .ref a_r1] [oX2 a_t p_t o_t, aI g (p_t 6) 7 f_t_6, aI g (p_t 7) 7 f_t_7, oX1 a_r1 p_r1 o_r1, aI g (p_r1 5) 7 f_r1_5] [oX2 a_t p_t o_t', aI g (p_t 6) 7 f_t_6', aI g (p_t 7) 7 f_t_7', oX1 a_r1 p_r1 o_r1, aI g (p_r1 5) 7 f_r1_5] := by
  refine MV.of (cc := cX2_begin) (maxL := 3) (own := RX2) rfl rfl (by decide) (Nat.le_of_ble_eq_true rfl) ?_
  intro p e s m args below meth c A C0 hP hD hS ls hl
  obtain ⟨hx, hb, hml, hown, hts, hr, hlk, hK, hA, hSW⟩ := id C0
  have hl : lv_has ls 3 [(0, .ref a_t), (1, .ref a_r1)] := hl
  rw [fX2_begin] at hF
  refine lv_aload_n hx hb dX2_begin_0 rfl (lv_at hl 0 rfl) ?_
  refine lv_iconst (v := (0 : Int32)) hx hb dX2_begin_1 (by decide) ?_
  refine va_put (D := g.1) (ci := 2) (v := .int (0 : Int32)) (ty := .int) (C := RX2) (T := TX2) (N := 9) hx hb hts iX2_begin_X2 tyX2 tyX2_ok nmX2 hown hK.1 hP hD hS 0 rfl rfl 0 (by decide) (hts _ kX2_begin_9) (fun _ h9 => h9) rfl (by decide +kernel) rfl rfl (Nat.le_of_ble_eq_true rfl) dX2_begin_2 (fun H locs hP hD hS => ?_)
  have hP : va_P g.1 vwCl [oX2 a_t p_t (upd o_t 0 (0 : Int32)), aI g (p_t 6) 7 f_t_6, aI g (p_t 7) 7 f_t_7, oX1 a_r1 p_r1 o_r1, aI g (p_r1 5) 7 f_r1_5] H := hP
  have hD : va_D A [oX2 a_t p_t (upd o_t 0 (0 : Int32)), aI g (p_t 6) 7 f_t_6, aI g (p_t 7) 7 f_t_7, oX1 a_r1 p_r1 o_r1, aI g (p_r1 5) 7 f_r1_5] := hD
  refine lv_aload_n hx hb dX2_begin_5 rfl (lv_at hl 0 rfl) ?_
  refine lv_iconst (v := (1 : Int32)) hx hb dX2_begin_6 (by decide) ?_
  refine lv_aload_n hx hb dX2_begin_7 rfl (lv_at hl 1 rfl) ?_
  refine va_get (D := g.1) (ci := 1) (v := .int (o_r1 3)) (C := RX1) (T := TX1) (N := 17) hx hb hts iX2_begin_X1 hown hK.1 hP 3 rfl rfl 3 (by decide) (hts _ kX2_begin_40) (fun _ h9 => h9) rfl dX2_begin_8 ?_
  refine lv_ishl hx hb dX2_begin_11 ?_
  refine lv_iconst (v := (1 : Int32)) hx hb dX2_begin_12 (by decide) ?_
  refine lv_isub hx hb dX2_begin_13 ?_
  refine va_put (D := g.1) (ci := 2) (v := .int (((1 : Int32) <<< ((o_r1 3) &&& 31)) - (1 : Int32))) (ty := .int) (C := RX2) (T := TX2) (N := 9) hx hb hts iX2_begin_X2 tyX2 tyX2_ok nmX2 hown hK.1 hP hD hS 0 rfl rfl 1 (by decide) (hts _ kX2_begin_15) (fun _ h9 => h9) rfl (by decide +kernel) rfl rfl (Nat.le_of_ble_eq_true rfl) dX2_begin_14 (fun H locs hP hD hS => ?_)
  have hP : va_P g.1 vwCl [oX2 a_t p_t (upd (upd o_t 0 (0 : Int32)) 1 (((1 : Int32) <<< ((o_r1 3) &&& 31)) - (1 : Int32))), aI g (p_t 6) 7 f_t_6, aI g (p_t 7) 7 f_t_7, oX1 a_r1 p_r1 o_r1, aI g (p_r1 5) 7 f_r1_5] H := hP
  have hD : va_D A [oX2 a_t p_t (upd (upd o_t 0 (0 : Int32)) 1 (((1 : Int32) <<< ((o_r1 3) &&& 31)) - (1 : Int32))), aI g (p_t 6) 7 f_t_6, aI g (p_t 7) 7 f_t_7, oX1 a_r1 p_r1 o_r1, aI g (p_r1 5) 7 f_r1_5] := hD
  refine lv_aload_n hx hb dX2_begin_17 rfl (lv_at hl 0 rfl) ?_
  refine lv_aload_n hx hb dX2_begin_18 rfl (lv_at hl 1 rfl) ?_
  refine va_get (D := g.1) (ci := 1) (v := .int (o_r1 0)) (C := RX1) (T := TX1) (N := 17) hx hb hts iX2_begin_X1 hown hK.1 hP 3 rfl rfl 0 (by decide) (hts _ kX2_begin_45) (fun _ h9 => h9) rfl dX2_begin_19 ?_
  refine va_put (D := g.1) (ci := 2) (v := .int (o_r1 0)) (ty := .int) (C := RX2) (T := TX2) (N := 9) hx hb hts iX2_begin_X2 tyX2 tyX2_ok nmX2 hown hK.1 hP hD hS 0 rfl rfl 2 (by decide) (hts _ kX2_begin_18) (fun _ h9 => h9) rfl (by decide +kernel) rfl rfl (Nat.le_of_ble_eq_true rfl) dX2_begin_22 (fun H locs hP hD hS => ?_)
  have hP : va_P g.1 vwCl [oX2 a_t p_t (upd (upd (upd o_t 0 (0 : Int32)) 1 (((1 : Int32) <<< ((o_r1 3) &&& 31)) - (1 : Int32))) 2 (o_r1 0)), aI g (p_t 6) 7 f_t_6, aI g (p_t 7) 7 f_t_7, oX1 a_r1 p_r1 o_r1, aI g (p_r1 5) 7 f_r1_5] H := hP
  have hD : va_D A [oX2 a_t p_t (upd (upd (upd o_t 0 (0 : Int32)) 1 (((1 : Int32) <<< ((o_r1 3) &&& 31)) - (1 : Int32))) 2 (o_r1 0)), aI g (p_t 6) 7 f_t_6, aI g (p_t 7) 7 f_t_7, oX1 a_r1 p_r1 o_r1, aI g (p_r1 5) 7 f_r1_5] := hD
  refine lv_aload_n hx hb dX2_begin_25 rfl (lv_at hl 0 rfl) ?_
  refine lv_iconst (v := (0 : Int32)) hx hb dX2_begin_26 (by decide) ?_
  refine va_put (D := g.1) (ci := 2) (v := .int (0 : Int32)) (ty := .int) (C := RX2) (T := TX2) (N := 9) hx hb hts iX2_begin_X2 tyX2 tyX2_ok nmX2 hown hK.1 hP hD hS 0 rfl rfl 3 (by decide) (hts _ kX2_begin_21) (fun _ h9 => h9) rfl (by decide +kernel) rfl rfl (Nat.le_of_ble_eq_true rfl) dX2_begin_27 (fun H locs hP hD hS => ?_)
  have hP : va_P g.1 vwCl [oX2 a_t p_t (upd (upd (upd (upd o_t 0 (0 : Int32)) 1 (((1 : Int32) <<< ((o_r1 3) &&& 31)) - (1 : Int32))) 2 (o_r1 0)) 3 (0 : Int32)), aI g (p_t 6) 7 f_t_6, aI g (p_t 7) 7 f_t_7, oX1 a_r1 p_r1 o_r1, aI g (p_r1 5) 7 f_r1_5] H := hP
  have hD : va_D A [oX2 a_t p_t (upd (upd (upd (upd o_t 0 (0 : Int32)) 1 (((1 : Int32) <<< ((o_r1 3) &&& 31)) - (1 : Int32))) 2 (o_r1 0)) 3 (0 : Int32)), aI g (p_t 6) 7 f_t_6, aI g (p_t 7) 7 f_t_7, oX1 a_r1 p_r1 o_r1, aI g (p_r1 5) 7 f_r1_5] := hD
  refine lv_iconst (v := (0 : Int32)) hx hb dX2_begin_30 (by decide) ?_
  refine lv_istore_n (lv' := [(2, .int (0 : Int32)), (0, .ref a_t), (1, .ref a_r1)]) hx hb dX2_begin_31 rfl hl (by decide) rfl (fun ls hl => ?_)
  refine wX2_begin_L32 C0 a_t a_r1 p_t p_r1 n (upd (upd (upd (upd o_t 0 (0 : Int32)) 1 (((1 : Int32) <<< ((o_r1 3) &&& 31)) - (1 : Int32))) 2 (o_r1 0)) 3 (0 : Int32)) o_r1 f_r1_5 o_t' f_t_6' f_t_7' _ ?_ n (0 : Int32) f_t_6 f_t_7 hF _ _ _ (hP.sub [0, 1, 2, 3, 4] rfl) (hD.sub [0, 1, 2, 3, 4] rfl rfl) hS (lv_sub hl [1, 2, 0] rfl)
  · intro f_t_6_x32 f_t_7_x32 H locs ls hF hP hD hS hl
    cases hF
    exact ret_v C0 hP hD hS [0, 1, 2, 3, 4] rfl rfl rfl dX2_begin_66

theorem dAX2_become : ∀ q ∈ ([(0, (.aload_n 0, 1)), (1, (.aload_n 1, 1)), (2, (.getfield 9, 3)), (5, (.putfield 9, 3)), (8, (.aload_n 0, 1)), (9, (.aload_n 1, 1)), (10, (.getfield 15, 3)), (13, (.putfield 15, 3)), (16, (.aload_n 0, 1)), (17, (.aload_n 1, 1)), (18, (.getfield 18, 3)), (21, (.putfield 18, 3)), (24, (.aload_n 0, 1)), (25, (.aload_n 1, 1)), (26, (.getfield 21, 3)), (29, (.putfield 21, 3)), (32, (.aload_n 1, 1)), (33, (.getfield 30, 3)), (36, (.iconst 0, 1)), (37, (.aload_n 0, 1)), (38, (.getfield 30, 3)), (41, (.iconst 0, 1)), (42, (.bipush 7, 2)), (44, (.invokestatic 51, 3)), (47, (.aload_n 1, 1)), (48, (.getfield 34, 3)), (51, (.iconst 0, 1)), (52, (.aload_n 0, 1)), (53, (.getfield 34, 3)), (56, (.iconst 0, 1)), (57, (.bipush 7, 2)), (59, (.invokestatic 51, 3)), (62, (.return_, 1))] : List (Nat × (Instr × Nat))), decode cX2_become q.1 = .ok q.2 := by decide +kernel
theorem dX2_become_0 : decode cX2_become 0 = .ok (.aload_n 0, 1) := dAX2_become (0, (.aload_n 0, 1)) (List.mem_of_getElem? (i := 0) rfl)
theorem dX2_become_1 : decode cX2_become 1 = .ok (.aload_n 1, 1) := dAX2_become (1, (.aload_n 1, 1)) (List.mem_of_getElem? (i := 1) rfl)
theorem dX2_become_2 : decode cX2_become 2 = .ok (.getfield 9, 3) := dAX2_become (2, (.getfield 9, 3)) (List.mem_of_getElem? (i := 2) rfl)
theorem dX2_become_5 : decode cX2_become 5 = .ok (.putfield 9, 3) := dAX2_become (5, (.putfield 9, 3)) (List.mem_of_getElem? (i := 3) rfl)
theorem dX2_become_8 : decode cX2_become 8 = .ok (.aload_n 0, 1) := dAX2_become (8, (.aload_n 0, 1)) (List.mem_of_getElem? (i := 4) rfl)
theorem dX2_become_9 : decode cX2_become 9 = .ok (.aload_n 1, 1) := dAX2_become (9, (.aload_n 1, 1)) (List.mem_of_getElem? (i := 5) rfl)
theorem dX2_become_10 : decode cX2_become 10 = .ok (.getfield 15, 3) := dAX2_become (10, (.getfield 15, 3)) (List.mem_of_getElem? (i := 6) rfl)
theorem dX2_become_13 : decode cX2_become 13 = .ok (.putfield 15, 3) := dAX2_become (13, (.putfield 15, 3)) (List.mem_of_getElem? (i := 7) rfl)
theorem dX2_become_16 : decode cX2_become 16 = .ok (.aload_n 0, 1) := dAX2_become (16, (.aload_n 0, 1)) (List.mem_of_getElem? (i := 8) rfl)
theorem dX2_become_17 : decode cX2_become 17 = .ok (.aload_n 1, 1) := dAX2_become (17, (.aload_n 1, 1)) (List.mem_of_getElem? (i := 9) rfl)
theorem dX2_become_18 : decode cX2_become 18 = .ok (.getfield 18, 3) := dAX2_become (18, (.getfield 18, 3)) (List.mem_of_getElem? (i := 10) rfl)
theorem dX2_become_21 : decode cX2_become 21 = .ok (.putfield 18, 3) := dAX2_become (21, (.putfield 18, 3)) (List.mem_of_getElem? (i := 11) rfl)
theorem dX2_become_24 : decode cX2_become 24 = .ok (.aload_n 0, 1) := dAX2_become (24, (.aload_n 0, 1)) (List.mem_of_getElem? (i := 12) rfl)
theorem dX2_become_25 : decode cX2_become 25 = .ok (.aload_n 1, 1) := dAX2_become (25, (.aload_n 1, 1)) (List.mem_of_getElem? (i := 13) rfl)
theorem dX2_become_26 : decode cX2_become 26 = .ok (.getfield 21, 3) := dAX2_become (26, (.getfield 21, 3)) (List.mem_of_getElem? (i := 14) rfl)
theorem dX2_become_29 : decode cX2_become 29 = .ok (.putfield 21, 3) := dAX2_become (29, (.putfield 21, 3)) (List.mem_of_getElem? (i := 15) rfl)
theorem dX2_become_32 : decode cX2_become 32 = .ok (.aload_n 1, 1) := dAX2_become (32, (.aload_n 1, 1)) (List.mem_of_getElem? (i := 16) rfl)
theorem dX2_become_33 : decode cX2_become 33 = .ok (.getfield 30, 3) := dAX2_become (33, (.getfield 30, 3)) (List.mem_of_getElem? (i := 17) rfl)
theorem dX2_become_36 : decode cX2_become 36 = .ok (.iconst 0, 1) := dAX2_become (36, (.iconst 0, 1)) (List.mem_of_getElem? (i := 18) rfl)
theorem dX2_become_37 : decode cX2_become 37 = .ok (.aload_n 0, 1) := dAX2_become (37, (.aload_n 0, 1)) (List.mem_of_getElem? (i := 19) rfl)
theorem dX2_become_38 : decode cX2_become 38 = .ok (.getfield 30, 3) := dAX2_become (38, (.getfield 30, 3)) (List.mem_of_getElem? (i := 20) rfl)
theorem dX2_become_41 : decode cX2_become 41 = .ok (.iconst 0, 1) := dAX2_become (41, (.iconst 0, 1)) (List.mem_of_getElem? (i := 21) rfl)
theorem dX2_become_42 : decode cX2_become 42 = .ok (.bipush 7, 2) := dAX2_become (42, (.bipush 7, 2)) (List.mem_of_getElem? (i := 22) rfl)
theorem dX2_become_44 : decode cX2_become 44 = .ok (.invokestatic 51, 3) := dAX2_become (44, (.invokestatic 51, 3)) (List.mem_of_getElem? (i := 23) rfl)
theorem dX2_become_47 : decode cX2_become 47 = .ok (.aload_n 1, 1) := dAX2_become (47, (.aload_n 1, 1)) (List.mem_of_getElem? (i := 24) rfl)
theorem dX2_become_48 : decode cX2_become 48 = .ok (.getfield 34, 3) := dAX2_become (48, (.getfield 34, 3)) (List.mem_of_getElem? (i := 25) rfl)
theorem dX2_become_51 : decode cX2_become 51 = .ok (.iconst 0, 1) := dAX2_become (51, (.iconst 0, 1)) (List.mem_of_getElem? (i := 26) rfl)
theorem dX2_become_52 : decode cX2_become 52 = .ok (.aload_n 0, 1) := dAX2_become (52, (.aload_n 0, 1)) (List.mem_of_getElem? (i := 27) rfl)
theorem dX2_become_53 : decode cX2_become 53 = .ok (.getfield 34, 3) := dAX2_become (53, (.getfield 34, 3)) (List.mem_of_getElem? (i := 28) rfl)
theorem dX2_become_56 : decode cX2_become 56 = .ok (.iconst 0, 1) := dAX2_become (56, (.iconst 0, 1)) (List.mem_of_getElem? (i := 29) rfl)
theorem dX2_become_57 : decode cX2_become 57 = .ok (.bipush 7, 2) := dAX2_become (57, (.bipush 7, 2)) (List.mem_of_getElem? (i := 30) rfl)
theorem dX2_become_59 : decode cX2_become 59 = .ok (.invokestatic 51, 3) := dAX2_become (59, (.invokestatic 51, 3)) (List.mem_of_getElem? (i := 31) rfl)
theorem dX2_become_62 : decode cX2_become 62 = .ok (.return_, 1) := dAX2_become (62, (.return_, 1)) (List.mem_of_getElem? (i := 32) rfl)
theorem kX2_become_9 : Cond.fieldLink RX2 9 "EveningVow$Night" "clock" "I" ∈ wsX2_become := List.mem_of_getElem? (i := 1) rfl
theorem iX2_become_X2 : ∀ w ∈ u_ws RX2 TX2 9, w ∈ wsX2_become := fun w h => (List.mem_cons_of_mem _ (List.mem_append_right _ h))
theorem kX2_become_15 : Cond.fieldLink RX2 15 "EveningVow$Night" "there" "I" ∈ wsX2_become := List.mem_of_getElem? (i := 2) rfl
theorem kX2_become_18 : Cond.fieldLink RX2 18 "EveningVow$Night" "cupsLeft" "I" ∈ wsX2_become := List.mem_of_getElem? (i := 3) rfl
theorem kX2_become_21 : Cond.fieldLink RX2 21 "EveningVow$Night" "toldTales" "I" ∈ wsX2_become := List.mem_of_getElem? (i := 4) rfl
theorem kX2_become_30 : Cond.fieldLink RX2 30 "EveningVow$Night" "want" "[I" ∈ wsX2_become := List.mem_of_getElem? (i := 5) rfl
theorem kX2_become_51_a : Cond.methodLink RX2 51 arraycopyName ∈ wsX2_become := List.mem_of_getElem? (i := 6) rfl
theorem kX2_become_51_b : Cond.native arraycopyName ∈ wsX2_become := List.mem_of_getElem? (i := 7) rfl
theorem kX2_become_51_c : Cond.static arraycopyName ∈ wsX2_become := List.mem_of_getElem? (i := 8) rfl
theorem kX2_become_51_d : Cond.initialized "java/lang/System" ∈ wsX2_become := List.mem_of_getElem? (i := 9) rfl
theorem kX2_become_34 : Cond.fieldLink RX2 34 "EveningVow$Night" "leftAt" "[I" ∈ wsX2_become := List.mem_of_getElem? (i := 10) rfl
set_option maxHeartbeats 4000000 in
set_option maxRecDepth 100000 in
theorem mX2_become (l : Launch) (g : GG) (a_t : Nat) (a_r1 : Nat) (p_t : Nat → Nat) (p_r1 : Nat → Nat) (n : Nat) (o_t : Nat → Int32) (f_t_6 : Nat → Int32) (f_t_7 : Nat → Int32) (o_r1 : Nat → Int32) (f_r1_6 : Nat → Int32) (f_r1_7 : Nat → Int32) (o_t' : Nat → Int32) (f_t_6' : Nat → Int32) (f_t_7' : Nat → Int32) (hF : fX2_become n o_t f_t_6 f_t_7 o_r1 f_r1_6 f_r1_7 = some (o_t', f_t_6', f_t_7')) : MV l g yX2_become wsX2_become ({ frames := 1, cells := 0, slots := 0, locals := 60 } : Room) [.ref a_t, .ref a_r1] [oX2 a_t p_t o_t, aI g (p_t 6) 7 f_t_6, aI g (p_t 7) 7 f_t_7, oX2 a_r1 p_r1 o_r1, aI g (p_r1 6) 7 f_r1_6, aI g (p_r1 7) 7 f_r1_7] [oX2 a_t p_t o_t', aI g (p_t 6) 7 f_t_6', aI g (p_t 7) 7 f_t_7', oX2 a_r1 p_r1 o_r1, aI g (p_r1 6) 7 f_r1_6, aI g (p_r1 7) 7 f_r1_7] := by
  refine MV.of (cc := cX2_become) (maxL := 2) (own := RX2) rfl rfl (by decide) (Nat.le_of_ble_eq_true rfl) ?_
  intro p e s m args below meth c A C0 hP hD hS ls hl
  obtain ⟨hx, hb, hml, hown, hts, hr, hlk, hK, hA, hSW⟩ := id C0
  have hl : lv_has ls 2 [(0, .ref a_t), (1, .ref a_r1)] := hl
  rw [fX2_become] at hF
  refine lv_aload_n hx hb dX2_become_0 rfl (lv_at hl 0 rfl) ?_
  refine lv_aload_n hx hb dX2_become_1 rfl (lv_at hl 1 rfl) ?_
  refine va_get (D := g.1) (ci := 2) (v := .int (o_r1 0)) (C := RX2) (T := TX2) (N := 9) hx hb hts iX2_become_X2 hown hK.1 hP 3 rfl rfl 0 (by decide) (hts _ kX2_become_9) (fun _ h9 => h9) rfl dX2_become_2 ?_
  refine va_put (D := g.1) (ci := 2) (v := .int (o_r1 0)) (ty := .int) (C := RX2) (T := TX2) (N := 9) hx hb hts iX2_become_X2 tyX2 tyX2_ok nmX2 hown hK.1 hP hD hS 0 rfl rfl 0 (by decide) (hts _ kX2_become_9) (fun _ h9 => h9) rfl (by decide +kernel) rfl rfl (Nat.le_of_ble_eq_true rfl) dX2_become_5 (fun H locs hP hD hS => ?_)
  have hP : va_P g.1 vwCl [oX2 a_t p_t (upd o_t 0 (o_r1 0)), aI g (p_t 6) 7 f_t_6, aI g (p_t 7) 7 f_t_7, oX2 a_r1 p_r1 o_r1, aI g (p_r1 6) 7 f_r1_6, aI g (p_r1 7) 7 f_r1_7] H := hP
  have hD : va_D A [oX2 a_t p_t (upd o_t 0 (o_r1 0)), aI g (p_t 6) 7 f_t_6, aI g (p_t 7) 7 f_t_7, oX2 a_r1 p_r1 o_r1, aI g (p_r1 6) 7 f_r1_6, aI g (p_r1 7) 7 f_r1_7] := hD
  refine lv_aload_n hx hb dX2_become_8 rfl (lv_at hl 0 rfl) ?_
  refine lv_aload_n hx hb dX2_become_9 rfl (lv_at hl 1 rfl) ?_
  refine va_get (D := g.1) (ci := 2) (v := .int (o_r1 1)) (C := RX2) (T := TX2) (N := 9) hx hb hts iX2_become_X2 hown hK.1 hP 3 rfl rfl 1 (by decide) (hts _ kX2_become_15) (fun _ h9 => h9) rfl dX2_become_10 ?_
  refine va_put (D := g.1) (ci := 2) (v := .int (o_r1 1)) (ty := .int) (C := RX2) (T := TX2) (N := 9) hx hb hts iX2_become_X2 tyX2 tyX2_ok nmX2 hown hK.1 hP hD hS 0 rfl rfl 1 (by decide) (hts _ kX2_become_15) (fun _ h9 => h9) rfl (by decide +kernel) rfl rfl (Nat.le_of_ble_eq_true rfl) dX2_become_13 (fun H locs hP hD hS => ?_)
  have hP : va_P g.1 vwCl [oX2 a_t p_t (upd (upd o_t 0 (o_r1 0)) 1 (o_r1 1)), aI g (p_t 6) 7 f_t_6, aI g (p_t 7) 7 f_t_7, oX2 a_r1 p_r1 o_r1, aI g (p_r1 6) 7 f_r1_6, aI g (p_r1 7) 7 f_r1_7] H := hP
  have hD : va_D A [oX2 a_t p_t (upd (upd o_t 0 (o_r1 0)) 1 (o_r1 1)), aI g (p_t 6) 7 f_t_6, aI g (p_t 7) 7 f_t_7, oX2 a_r1 p_r1 o_r1, aI g (p_r1 6) 7 f_r1_6, aI g (p_r1 7) 7 f_r1_7] := hD
  refine lv_aload_n hx hb dX2_become_16 rfl (lv_at hl 0 rfl) ?_
  refine lv_aload_n hx hb dX2_become_17 rfl (lv_at hl 1 rfl) ?_
  refine va_get (D := g.1) (ci := 2) (v := .int (o_r1 2)) (C := RX2) (T := TX2) (N := 9) hx hb hts iX2_become_X2 hown hK.1 hP 3 rfl rfl 2 (by decide) (hts _ kX2_become_18) (fun _ h9 => h9) rfl dX2_become_18 ?_
  refine va_put (D := g.1) (ci := 2) (v := .int (o_r1 2)) (ty := .int) (C := RX2) (T := TX2) (N := 9) hx hb hts iX2_become_X2 tyX2 tyX2_ok nmX2 hown hK.1 hP hD hS 0 rfl rfl 2 (by decide) (hts _ kX2_become_18) (fun _ h9 => h9) rfl (by decide +kernel) rfl rfl (Nat.le_of_ble_eq_true rfl) dX2_become_21 (fun H locs hP hD hS => ?_)
  have hP : va_P g.1 vwCl [oX2 a_t p_t (upd (upd (upd o_t 0 (o_r1 0)) 1 (o_r1 1)) 2 (o_r1 2)), aI g (p_t 6) 7 f_t_6, aI g (p_t 7) 7 f_t_7, oX2 a_r1 p_r1 o_r1, aI g (p_r1 6) 7 f_r1_6, aI g (p_r1 7) 7 f_r1_7] H := hP
  have hD : va_D A [oX2 a_t p_t (upd (upd (upd o_t 0 (o_r1 0)) 1 (o_r1 1)) 2 (o_r1 2)), aI g (p_t 6) 7 f_t_6, aI g (p_t 7) 7 f_t_7, oX2 a_r1 p_r1 o_r1, aI g (p_r1 6) 7 f_r1_6, aI g (p_r1 7) 7 f_r1_7] := hD
  refine lv_aload_n hx hb dX2_become_24 rfl (lv_at hl 0 rfl) ?_
  refine lv_aload_n hx hb dX2_become_25 rfl (lv_at hl 1 rfl) ?_
  refine va_get (D := g.1) (ci := 2) (v := .int (o_r1 3)) (C := RX2) (T := TX2) (N := 9) hx hb hts iX2_become_X2 hown hK.1 hP 3 rfl rfl 3 (by decide) (hts _ kX2_become_21) (fun _ h9 => h9) rfl dX2_become_26 ?_
  refine va_put (D := g.1) (ci := 2) (v := .int (o_r1 3)) (ty := .int) (C := RX2) (T := TX2) (N := 9) hx hb hts iX2_become_X2 tyX2 tyX2_ok nmX2 hown hK.1 hP hD hS 0 rfl rfl 3 (by decide) (hts _ kX2_become_21) (fun _ h9 => h9) rfl (by decide +kernel) rfl rfl (Nat.le_of_ble_eq_true rfl) dX2_become_29 (fun H locs hP hD hS => ?_)
  have hP : va_P g.1 vwCl [oX2 a_t p_t (upd (upd (upd (upd o_t 0 (o_r1 0)) 1 (o_r1 1)) 2 (o_r1 2)) 3 (o_r1 3)), aI g (p_t 6) 7 f_t_6, aI g (p_t 7) 7 f_t_7, oX2 a_r1 p_r1 o_r1, aI g (p_r1 6) 7 f_r1_6, aI g (p_r1 7) 7 f_r1_7] H := hP
  have hD : va_D A [oX2 a_t p_t (upd (upd (upd (upd o_t 0 (o_r1 0)) 1 (o_r1 1)) 2 (o_r1 2)) 3 (o_r1 3)), aI g (p_t 6) 7 f_t_6, aI g (p_t 7) 7 f_t_7, oX2 a_r1 p_r1 o_r1, aI g (p_r1 6) 7 f_r1_6, aI g (p_r1 7) 7 f_r1_7] := hD
  refine lv_aload_n hx hb dX2_become_32 rfl (lv_at hl 1 rfl) ?_
  refine va_get (D := g.1) (ci := 2) (v := .ref (p_r1 6)) (C := RX2) (T := TX2) (N := 9) hx hb hts iX2_become_X2 hown hK.1 hP 3 rfl rfl 6 (by decide) (hts _ kX2_become_30) (fun _ h9 => h9) rfl dX2_become_33 ?_
  refine lv_iconst (v := (0 : Int32)) hx hb dX2_become_36 (by decide) ?_
  refine lv_aload_n hx hb dX2_become_37 rfl (lv_at hl 0 rfl) ?_
  refine va_get (D := g.1) (ci := 2) (v := .ref (p_t 6)) (C := RX2) (T := TX2) (N := 9) hx hb hts iX2_become_X2 hown hK.1 hP 0 rfl rfl 6 (by decide) (hts _ kX2_become_30) (fun _ h9 => h9) rfl dX2_become_38 ?_
  refine lv_iconst (v := (0 : Int32)) hx hb dX2_become_41 (by decide) ?_
  refine lv_bipush (v := (7 : Int32)) hx hb dX2_become_42 (by decide) ?_
  refine va_copyi hx hb (hml.trans hl.1.symm) hown (hts _ kX2_become_51_a) (hts _ kX2_become_51_b) (hts _ kX2_become_51_c) (hts _ kX2_become_51_d) hK.1 hP hD hS 4 1 0 0 rfl rfl rfl rfl rfl (by decide) (by decide) (by decide) (by decide) (by decide) (fun _ _ => rfl) (Nat.le_of_ble_eq_true rfl) (by decide +kernel) dX2_become_44 (fun H locs hP hD hS => ?_)
  have hP : va_P g.1 vwCl [oX2 a_t p_t (upd (upd (upd (upd o_t 0 (o_r1 0)) 1 (o_r1 1)) 2 (o_r1 2)) 3 (o_r1 3)), aI g (p_t 6) 7 (va_cpy f_r1_6 f_t_6 0 0 7), aI g (p_t 7) 7 f_t_7, oX2 a_r1 p_r1 o_r1, aI g (p_r1 6) 7 f_r1_6, aI g (p_r1 7) 7 f_r1_7] H := hP
  have hD : va_D A [oX2 a_t p_t (upd (upd (upd (upd o_t 0 (o_r1 0)) 1 (o_r1 1)) 2 (o_r1 2)) 3 (o_r1 3)), aI g (p_t 6) 7 (va_cpy f_r1_6 f_t_6 0 0 7), aI g (p_t 7) 7 f_t_7, oX2 a_r1 p_r1 o_r1, aI g (p_r1 6) 7 f_r1_6, aI g (p_r1 7) 7 f_r1_7] := hD
  refine lv_aload_n hx hb dX2_become_47 rfl (lv_at hl 1 rfl) ?_
  refine va_get (D := g.1) (ci := 2) (v := .ref (p_r1 7)) (C := RX2) (T := TX2) (N := 9) hx hb hts iX2_become_X2 hown hK.1 hP 3 rfl rfl 7 (by decide) (hts _ kX2_become_34) (fun _ h9 => h9) rfl dX2_become_48 ?_
  refine lv_iconst (v := (0 : Int32)) hx hb dX2_become_51 (by decide) ?_
  refine lv_aload_n hx hb dX2_become_52 rfl (lv_at hl 0 rfl) ?_
  refine va_get (D := g.1) (ci := 2) (v := .ref (p_t 7)) (C := RX2) (T := TX2) (N := 9) hx hb hts iX2_become_X2 hown hK.1 hP 0 rfl rfl 7 (by decide) (hts _ kX2_become_34) (fun _ h9 => h9) rfl dX2_become_53 ?_
  refine lv_iconst (v := (0 : Int32)) hx hb dX2_become_56 (by decide) ?_
  refine lv_bipush (v := (7 : Int32)) hx hb dX2_become_57 (by decide) ?_
  refine va_copyi hx hb (hml.trans hl.1.symm) hown (hts _ kX2_become_51_a) (hts _ kX2_become_51_b) (hts _ kX2_become_51_c) (hts _ kX2_become_51_d) hK.1 hP hD hS 5 2 0 0 rfl rfl rfl rfl rfl (by decide) (by decide) (by decide) (by decide) (by decide) (fun _ _ => rfl) (Nat.le_of_ble_eq_true rfl) (by decide +kernel) dX2_become_59 (fun H locs hP hD hS => ?_)
  have hP : va_P g.1 vwCl [oX2 a_t p_t (upd (upd (upd (upd o_t 0 (o_r1 0)) 1 (o_r1 1)) 2 (o_r1 2)) 3 (o_r1 3)), aI g (p_t 6) 7 (va_cpy f_r1_6 f_t_6 0 0 7), aI g (p_t 7) 7 (va_cpy f_r1_7 f_t_7 0 0 7), oX2 a_r1 p_r1 o_r1, aI g (p_r1 6) 7 f_r1_6, aI g (p_r1 7) 7 f_r1_7] H := hP
  have hD : va_D A [oX2 a_t p_t (upd (upd (upd (upd o_t 0 (o_r1 0)) 1 (o_r1 1)) 2 (o_r1 2)) 3 (o_r1 3)), aI g (p_t 6) 7 (va_cpy f_r1_6 f_t_6 0 0 7), aI g (p_t 7) 7 (va_cpy f_r1_7 f_t_7 0 0 7), oX2 a_r1 p_r1 o_r1, aI g (p_r1 6) 7 f_r1_6, aI g (p_r1 7) 7 f_r1_7] := hD
  cases hF
  exact ret_v C0 hP hD hS [0, 1, 2, 3, 4, 5] rfl rfl rfl dX2_become_62

theorem dAX9_inBits : ∀ q ∈ ([(0, (.iload_n 0, 1)), (1, (.iload_n 1, 1)), (2, (.ishr, 1)), (3, (.iconst 1, 1)), (4, (.iand, 1)), (5, (.iconst 1, 1)), (6, (.if_icmp .ne 7, 3)), (9, (.iconst 1, 1)), (10, (.goto 4, 3)), (13, (.iconst 0, 1)), (14, (.ireturn, 1))] : List (Nat × (Instr × Nat))), decode cX9_inBits q.1 = .ok q.2 := by decide +kernel
theorem dX9_inBits_0 : decode cX9_inBits 0 = .ok (.iload_n 0, 1) := dAX9_inBits (0, (.iload_n 0, 1)) (List.mem_of_getElem? (i := 0) rfl)
theorem dX9_inBits_1 : decode cX9_inBits 1 = .ok (.iload_n 1, 1) := dAX9_inBits (1, (.iload_n 1, 1)) (List.mem_of_getElem? (i := 1) rfl)
theorem dX9_inBits_2 : decode cX9_inBits 2 = .ok (.ishr, 1) := dAX9_inBits (2, (.ishr, 1)) (List.mem_of_getElem? (i := 2) rfl)
theorem dX9_inBits_3 : decode cX9_inBits 3 = .ok (.iconst 1, 1) := dAX9_inBits (3, (.iconst 1, 1)) (List.mem_of_getElem? (i := 3) rfl)
theorem dX9_inBits_4 : decode cX9_inBits 4 = .ok (.iand, 1) := dAX9_inBits (4, (.iand, 1)) (List.mem_of_getElem? (i := 4) rfl)
theorem dX9_inBits_5 : decode cX9_inBits 5 = .ok (.iconst 1, 1) := dAX9_inBits (5, (.iconst 1, 1)) (List.mem_of_getElem? (i := 5) rfl)
theorem dX9_inBits_6 : decode cX9_inBits 6 = .ok (.if_icmp .ne 7, 3) := dAX9_inBits (6, (.if_icmp .ne 7, 3)) (List.mem_of_getElem? (i := 6) rfl)
theorem dX9_inBits_9 : decode cX9_inBits 9 = .ok (.iconst 1, 1) := dAX9_inBits (9, (.iconst 1, 1)) (List.mem_of_getElem? (i := 7) rfl)
theorem dX9_inBits_10 : decode cX9_inBits 10 = .ok (.goto 4, 3) := dAX9_inBits (10, (.goto 4, 3)) (List.mem_of_getElem? (i := 8) rfl)
theorem dX9_inBits_13 : decode cX9_inBits 13 = .ok (.iconst 0, 1) := dAX9_inBits (13, (.iconst 0, 1)) (List.mem_of_getElem? (i := 9) rfl)
theorem dX9_inBits_14 : decode cX9_inBits 14 = .ok (.ireturn, 1) := dAX9_inBits (14, (.ireturn, 1)) (List.mem_of_getElem? (i := 10) rfl)
set_option maxHeartbeats 4000000 in
set_option maxRecDepth 100000 in
theorem mX9_inBits (l : Launch) (g : GG)   (n : Nat) (x0 : Int32) (x1 : Int32) (r : Int32) (hF : fX9_inBits n x0 x1 = some (r)) : MI l g yX9_inBits wsX9_inBits ({ frames := 0, cells := 0, slots := 0, locals := 0 } : Room) [.int x0, .int x1] [] r [] := by
  refine MI.of (cc := cX9_inBits) (maxL := 2) (rt := .boolean) (own := RX9) rfl rfl (by decide) (Nat.le_of_ble_eq_true rfl) ?_
  intro p e s m args below meth c A C0 hP hD hS ls hl
  obtain ⟨hx, hb, hml, hown, hts, hr, hlk, hK, hA, hSW⟩ := id C0
  have hl : lv_has ls 2 [(0, .int x0), (1, .int x1)] := hl
  rw [fX9_inBits] at hF
  refine lv_iload_n hx hb dX9_inBits_0 rfl (lv_at hl 0 rfl) ?_
  refine lv_iload_n hx hb dX9_inBits_1 rfl (lv_at hl 1 rfl) ?_
  refine lv_ishr hx hb dX9_inBits_2 ?_
  refine lv_iconst (v := (1 : Int32)) hx hb dX9_inBits_3 (by decide) ?_
  refine lv_iand hx hb dX9_inBits_4 ?_
  refine lv_iconst (v := (1 : Int32)) hx hb dX9_inBits_5 (by decide) ?_
  refine lv_icmp_ne (tgt := 13) hx hb dX9_inBits_6 (by decide) (fun c_1 => ?_) (fun c_1 => ?_)
  · have hF := it_n c_1 hF
    refine lv_iconst (v := (0 : Int32)) hx hb dX9_inBits_13 (by decide) ?_
    cases hF
    exact ret_z C0 hP hD hS [] rfl rfl rfl dX9_inBits_14 rfl rfl
  · have hF := it_p c_1 hF
    refine lv_iconst (v := (1 : Int32)) hx hb dX9_inBits_9 (by decide) ?_
    refine lv_goto (tgt := 14) hx hb dX9_inBits_10 (by decide) ?_
    cases hF
    exact ret_z C0 hP hD hS [] rfl rfl rfl dX9_inBits_14 rfl rfl

theorem dAX2_has : ∀ q ∈ ([(0, (.aload_n 0, 1)), (1, (.getfield 15, 3)), (4, (.iload_n 1, 1)), (5, (.invokestatic 57, 3)), (8, (.ireturn, 1))] : List (Nat × (Instr × Nat))), decode cX2_has q.1 = .ok q.2 := by decide +kernel
theorem dX2_has_0 : decode cX2_has 0 = .ok (.aload_n 0, 1) := dAX2_has (0, (.aload_n 0, 1)) (List.mem_of_getElem? (i := 0) rfl)
theorem dX2_has_1 : decode cX2_has 1 = .ok (.getfield 15, 3) := dAX2_has (1, (.getfield 15, 3)) (List.mem_of_getElem? (i := 1) rfl)
theorem dX2_has_4 : decode cX2_has 4 = .ok (.iload_n 1, 1) := dAX2_has (4, (.iload_n 1, 1)) (List.mem_of_getElem? (i := 2) rfl)
theorem dX2_has_5 : decode cX2_has 5 = .ok (.invokestatic 57, 3) := dAX2_has (5, (.invokestatic 57, 3)) (List.mem_of_getElem? (i := 3) rfl)
theorem dX2_has_8 : decode cX2_has 8 = .ok (.ireturn, 1) := dAX2_has (8, (.ireturn, 1)) (List.mem_of_getElem? (i := 4) rfl)
set_option maxRecDepth 20000 in
theorem ggX2_has_X9_inBits : GoodIn wsX2_has wsX9_inBits := goodIn_r _ [4] rfl (by decide +kernel)
set_option maxRecDepth 20000 in
theorem gX2_has_X9_inBits_n57 : GoodIn wsX2_has (wsX9_inBits) := ggX2_has_X9_inBits
theorem kX2_has_15 : Cond.fieldLink RX2 15 "EveningVow$Night" "there" "I" ∈ wsX2_has := List.mem_of_getElem? (i := 1) rfl
theorem iX2_has_X2 : ∀ w ∈ u_ws RX2 TX2 9, w ∈ wsX2_has := fun w h => (List.mem_cons_of_mem _ (List.mem_append_right _ h))
theorem kX2_has_57_s : Cond.static yX9_inBits ∈ wsX2_has := List.mem_of_getElem? (i := 2) rfl
theorem kX2_has_57_i : Cond.initialized RX9 ∈ wsX2_has := List.mem_of_getElem? (i := 3) rfl
set_option maxHeartbeats 4000000 in
set_option maxRecDepth 100000 in
theorem mX2_has (l : Launch) (g : GG) (a_t : Nat) (p_t : Nat → Nat) (n : Nat) (x1 : Int32) (o_t : Nat → Int32) (r : Int32) (hF : fX2_has n x1 o_t = some (r)) : MI l g yX2_has wsX2_has ({ frames := 1, cells := 0, slots := 0, locals := 21 } : Room) [.ref a_t, .int x1] [oX2 a_t p_t o_t] r [oX2 a_t p_t o_t] := by
  refine MI.of (cc := cX2_has) (maxL := 2) (rt := .boolean) (own := RX2) rfl rfl (by decide) (Nat.le_of_ble_eq_true rfl) ?_
  intro p e s m args below meth c A C0 hP hD hS ls hl
  obtain ⟨hx, hb, hml, hown, hts, hr, hlk, hK, hA, hSW⟩ := id C0
  have hl : lv_has ls 2 [(0, .ref a_t), (1, .int x1)] := hl
  rw [fX2_has] at hF
  refine lv_aload_n hx hb dX2_has_0 rfl (lv_at hl 0 rfl) ?_
  refine va_get (D := g.1) (ci := 2) (v := .int (o_t 1)) (C := RX2) (T := TX2) (N := 9) hx hb hts iX2_has_X2 hown hK.1 hP 0 rfl rfl 1 (by decide) (hts _ kX2_has_15) (fun _ h9 => h9) rfl dX2_has_1 ?_
  refine lv_iload_n hx hb dX2_has_4 rfl (lv_at hl 1 rfl) ?_
  obtain ⟨u_1, hu_2, hF⟩ := ob1_some hF
  refine call_ni (wr := [oX2 a_t p_t o_t]) (As := [.int (o_t 1), .int x1]) (rest := []) C0 (mX9_inBits l g n (o_t 1) x1 u_1 hu_2) (va_cnB 2 hts gX2_has_X9_inBits_n57 rfl rfl rfl (hK.2.1.1 (RX2, 57, yX9_inBits, RX9) (List.mem_of_getElem? (i := 0) rfl)) (hts _ kX2_has_57_i) (by decide +kernel) ⟨Nat.le_of_ble_eq_true rfl, Nat.le_of_ble_eq_true rfl⟩) (hts _ kX2_has_57_s) hP hD hS [] [0] rfl rfl rfl rfl rfl (by decide) hl.1 rfl rfl (Nat.le_of_ble_eq_true rfl) ⟨Nat.zero_le _, Nat.zero_le _⟩ dX2_has_5 ?_
  intro H locs hP hD hS
  obtain ⟨h_3, hF⟩ := it_ck hF
  cases hF
  exact ret_z C0 hP hD hS [0] rfl rfl rfl dX2_has_8 (nar01 h_3) rfl

theorem dAX2_wasTold : ∀ q ∈ ([(0, (.aload_n 0, 1)), (1, (.getfield 21, 3)), (4, (.iload_n 1, 1)), (5, (.invokestatic 57, 3)), (8, (.ireturn, 1))] : List (Nat × (Instr × Nat))), decode cX2_wasTold q.1 = .ok q.2 := by decide +kernel
theorem dX2_wasTold_0 : decode cX2_wasTold 0 = .ok (.aload_n 0, 1) := dAX2_wasTold (0, (.aload_n 0, 1)) (List.mem_of_getElem? (i := 0) rfl)
theorem dX2_wasTold_1 : decode cX2_wasTold 1 = .ok (.getfield 21, 3) := dAX2_wasTold (1, (.getfield 21, 3)) (List.mem_of_getElem? (i := 1) rfl)
theorem dX2_wasTold_4 : decode cX2_wasTold 4 = .ok (.iload_n 1, 1) := dAX2_wasTold (4, (.iload_n 1, 1)) (List.mem_of_getElem? (i := 2) rfl)
theorem dX2_wasTold_5 : decode cX2_wasTold 5 = .ok (.invokestatic 57, 3) := dAX2_wasTold (5, (.invokestatic 57, 3)) (List.mem_of_getElem? (i := 3) rfl)
theorem dX2_wasTold_8 : decode cX2_wasTold 8 = .ok (.ireturn, 1) := dAX2_wasTold (8, (.ireturn, 1)) (List.mem_of_getElem? (i := 4) rfl)
set_option maxRecDepth 20000 in
theorem ggX2_wasTold_X9_inBits : GoodIn wsX2_wasTold wsX9_inBits := goodIn_r _ [4] rfl (by decide +kernel)
set_option maxRecDepth 20000 in
theorem gX2_wasTold_X9_inBits_n57 : GoodIn wsX2_wasTold (wsX9_inBits) := ggX2_wasTold_X9_inBits
theorem kX2_wasTold_21 : Cond.fieldLink RX2 21 "EveningVow$Night" "toldTales" "I" ∈ wsX2_wasTold := List.mem_of_getElem? (i := 1) rfl
theorem iX2_wasTold_X2 : ∀ w ∈ u_ws RX2 TX2 9, w ∈ wsX2_wasTold := fun w h => (List.mem_cons_of_mem _ (List.mem_append_right _ h))
theorem kX2_wasTold_57_s : Cond.static yX9_inBits ∈ wsX2_wasTold := List.mem_of_getElem? (i := 2) rfl
theorem kX2_wasTold_57_i : Cond.initialized RX9 ∈ wsX2_wasTold := List.mem_of_getElem? (i := 3) rfl
set_option maxHeartbeats 4000000 in
set_option maxRecDepth 100000 in
theorem mX2_wasTold (l : Launch) (g : GG) (a_t : Nat) (p_t : Nat → Nat) (n : Nat) (x1 : Int32) (o_t : Nat → Int32) (r : Int32) (hF : fX2_wasTold n x1 o_t = some (r)) : MI l g yX2_wasTold wsX2_wasTold ({ frames := 1, cells := 0, slots := 0, locals := 21 } : Room) [.ref a_t, .int x1] [oX2 a_t p_t o_t] r [oX2 a_t p_t o_t] := by
  refine MI.of (cc := cX2_wasTold) (maxL := 2) (rt := .boolean) (own := RX2) rfl rfl (by decide) (Nat.le_of_ble_eq_true rfl) ?_
  intro p e s m args below meth c A C0 hP hD hS ls hl
  obtain ⟨hx, hb, hml, hown, hts, hr, hlk, hK, hA, hSW⟩ := id C0
  have hl : lv_has ls 2 [(0, .ref a_t), (1, .int x1)] := hl
  rw [fX2_wasTold] at hF
  refine lv_aload_n hx hb dX2_wasTold_0 rfl (lv_at hl 0 rfl) ?_
  refine va_get (D := g.1) (ci := 2) (v := .int (o_t 3)) (C := RX2) (T := TX2) (N := 9) hx hb hts iX2_wasTold_X2 hown hK.1 hP 0 rfl rfl 3 (by decide) (hts _ kX2_wasTold_21) (fun _ h9 => h9) rfl dX2_wasTold_1 ?_
  refine lv_iload_n hx hb dX2_wasTold_4 rfl (lv_at hl 1 rfl) ?_
  obtain ⟨u_1, hu_2, hF⟩ := ob1_some hF
  refine call_ni (wr := [oX2 a_t p_t o_t]) (As := [.int (o_t 3), .int x1]) (rest := []) C0 (mX9_inBits l g n (o_t 3) x1 u_1 hu_2) (va_cnB 2 hts gX2_wasTold_X9_inBits_n57 rfl rfl rfl (hK.2.1.1 (RX2, 57, yX9_inBits, RX9) (List.mem_of_getElem? (i := 0) rfl)) (hts _ kX2_wasTold_57_i) (by decide +kernel) ⟨Nat.le_of_ble_eq_true rfl, Nat.le_of_ble_eq_true rfl⟩) (hts _ kX2_wasTold_57_s) hP hD hS [] [0] rfl rfl rfl rfl rfl (by decide) hl.1 rfl rfl (Nat.le_of_ble_eq_true rfl) ⟨Nat.zero_le _, Nat.zero_le _⟩ dX2_wasTold_5 ?_
  intro H locs hP hD hS
  obtain ⟨h_3, hF⟩ := it_ck hF
  cases hF
  exact ret_z C0 hP hD hS [0] rfl rfl rfl dX2_wasTold_8 (nar01 h_3) rfl

theorem dAX2_weigh : ∀ q ∈ ([(0, (.iconst 0, 1)), (1, (.istore_n 2, 1)), (2, (.iload_n 2, 1)), (3, (.aload_n 1, 1)), (4, (.getfield 40, 3)), (7, (.if_icmp .ge 21, 3)), (10, (.aload_n 0, 1)), (11, (.getfield 37, 3)), (14, (.iload_n 2, 1)), (15, (.aload_n 0, 1)), (16, (.getfield 30, 3)), (19, (.iload_n 2, 1)), (20, (.iaload, 1)), (21, (.iastore, 1)), (22, (.iinc 2 1, 3)), (25, (.goto (-23), 3)), (28, (.iconst 0, 1)), (29, (.istore_n 2, 1)), (30, (.iload_n 2, 1)), (31, (.aload_n 1, 1)), (32, (.getfield 65, 3)), (35, (.if_icmp .ge 60, 3)), (38, (.aload_n 1, 1)), (39, (.getfield 68, 3)), (42, (.iload_n 2, 1)), (43, (.iaload, 1)), (44, (.istore_n 3, 1)), (45, (.iload_n 3, 1)), (46, (.ifCond .lt 43, 3)), (49, (.iload_n 3, 1)), (50, (.aload_n 1, 1)), (51, (.getfield 40, 3)), (54, (.if_icmp .ge 35, 3)), (57, (.aload_n 0, 1)), (58, (.getfield 15, 3)), (61, (.aload_n 1, 1)), (62, (.getfield 71, 3)), (65, (.iload_n 2, 1)), (66, (.iaload, 1)), (67, (.ishr, 1)), (68, (.iconst 1, 1)), (69, (.iand, 1)), (70, (.iconst 1, 1)), (71, (.if_icmp .ne 18, 3)), (74, (.aload_n 0, 1)), (75, (.getfield 37, 3)), (78, (.iload_n 3, 1)), (79, (.dup2, 1)), (80, (.iaload, 1)), (81, (.aload_n 1, 1)), (82, (.getfield 74, 3)), (85, (.iload_n 2, 1)), (86, (.iaload, 1)), (87, (.iadd, 1)), (88, (.iastore, 1)), (89, (.iinc 2 1, 3)), (92, (.goto (-62), 3)), (95, (.return_, 1))] : List (Nat × (Instr × Nat))), decode cX2_weigh q.1 = .ok q.2 := by decide +kernel
theorem dX2_weigh_0 : decode cX2_weigh 0 = .ok (.iconst 0, 1) := dAX2_weigh (0, (.iconst 0, 1)) (List.mem_of_getElem? (i := 0) rfl)
theorem dX2_weigh_1 : decode cX2_weigh 1 = .ok (.istore_n 2, 1) := dAX2_weigh (1, (.istore_n 2, 1)) (List.mem_of_getElem? (i := 1) rfl)
theorem dX2_weigh_2 : decode cX2_weigh 2 = .ok (.iload_n 2, 1) := dAX2_weigh (2, (.iload_n 2, 1)) (List.mem_of_getElem? (i := 2) rfl)
theorem dX2_weigh_3 : decode cX2_weigh 3 = .ok (.aload_n 1, 1) := dAX2_weigh (3, (.aload_n 1, 1)) (List.mem_of_getElem? (i := 3) rfl)
theorem dX2_weigh_4 : decode cX2_weigh 4 = .ok (.getfield 40, 3) := dAX2_weigh (4, (.getfield 40, 3)) (List.mem_of_getElem? (i := 4) rfl)
theorem dX2_weigh_7 : decode cX2_weigh 7 = .ok (.if_icmp .ge 21, 3) := dAX2_weigh (7, (.if_icmp .ge 21, 3)) (List.mem_of_getElem? (i := 5) rfl)
theorem dX2_weigh_10 : decode cX2_weigh 10 = .ok (.aload_n 0, 1) := dAX2_weigh (10, (.aload_n 0, 1)) (List.mem_of_getElem? (i := 6) rfl)
theorem dX2_weigh_11 : decode cX2_weigh 11 = .ok (.getfield 37, 3) := dAX2_weigh (11, (.getfield 37, 3)) (List.mem_of_getElem? (i := 7) rfl)
theorem dX2_weigh_14 : decode cX2_weigh 14 = .ok (.iload_n 2, 1) := dAX2_weigh (14, (.iload_n 2, 1)) (List.mem_of_getElem? (i := 8) rfl)
theorem dX2_weigh_15 : decode cX2_weigh 15 = .ok (.aload_n 0, 1) := dAX2_weigh (15, (.aload_n 0, 1)) (List.mem_of_getElem? (i := 9) rfl)
theorem dX2_weigh_16 : decode cX2_weigh 16 = .ok (.getfield 30, 3) := dAX2_weigh (16, (.getfield 30, 3)) (List.mem_of_getElem? (i := 10) rfl)
theorem dX2_weigh_19 : decode cX2_weigh 19 = .ok (.iload_n 2, 1) := dAX2_weigh (19, (.iload_n 2, 1)) (List.mem_of_getElem? (i := 11) rfl)
theorem dX2_weigh_20 : decode cX2_weigh 20 = .ok (.iaload, 1) := dAX2_weigh (20, (.iaload, 1)) (List.mem_of_getElem? (i := 12) rfl)
theorem dX2_weigh_21 : decode cX2_weigh 21 = .ok (.iastore, 1) := dAX2_weigh (21, (.iastore, 1)) (List.mem_of_getElem? (i := 13) rfl)
theorem dX2_weigh_22 : decode cX2_weigh 22 = .ok (.iinc 2 1, 3) := dAX2_weigh (22, (.iinc 2 1, 3)) (List.mem_of_getElem? (i := 14) rfl)
theorem dX2_weigh_25 : decode cX2_weigh 25 = .ok (.goto (-23), 3) := dAX2_weigh (25, (.goto (-23), 3)) (List.mem_of_getElem? (i := 15) rfl)
theorem dX2_weigh_28 : decode cX2_weigh 28 = .ok (.iconst 0, 1) := dAX2_weigh (28, (.iconst 0, 1)) (List.mem_of_getElem? (i := 16) rfl)
theorem dX2_weigh_29 : decode cX2_weigh 29 = .ok (.istore_n 2, 1) := dAX2_weigh (29, (.istore_n 2, 1)) (List.mem_of_getElem? (i := 17) rfl)
theorem dX2_weigh_30 : decode cX2_weigh 30 = .ok (.iload_n 2, 1) := dAX2_weigh (30, (.iload_n 2, 1)) (List.mem_of_getElem? (i := 18) rfl)
theorem dX2_weigh_31 : decode cX2_weigh 31 = .ok (.aload_n 1, 1) := dAX2_weigh (31, (.aload_n 1, 1)) (List.mem_of_getElem? (i := 19) rfl)
theorem dX2_weigh_32 : decode cX2_weigh 32 = .ok (.getfield 65, 3) := dAX2_weigh (32, (.getfield 65, 3)) (List.mem_of_getElem? (i := 20) rfl)
theorem dX2_weigh_35 : decode cX2_weigh 35 = .ok (.if_icmp .ge 60, 3) := dAX2_weigh (35, (.if_icmp .ge 60, 3)) (List.mem_of_getElem? (i := 21) rfl)
theorem dX2_weigh_38 : decode cX2_weigh 38 = .ok (.aload_n 1, 1) := dAX2_weigh (38, (.aload_n 1, 1)) (List.mem_of_getElem? (i := 22) rfl)
theorem dX2_weigh_39 : decode cX2_weigh 39 = .ok (.getfield 68, 3) := dAX2_weigh (39, (.getfield 68, 3)) (List.mem_of_getElem? (i := 23) rfl)
theorem dX2_weigh_42 : decode cX2_weigh 42 = .ok (.iload_n 2, 1) := dAX2_weigh (42, (.iload_n 2, 1)) (List.mem_of_getElem? (i := 24) rfl)
theorem dX2_weigh_43 : decode cX2_weigh 43 = .ok (.iaload, 1) := dAX2_weigh (43, (.iaload, 1)) (List.mem_of_getElem? (i := 25) rfl)
theorem dX2_weigh_44 : decode cX2_weigh 44 = .ok (.istore_n 3, 1) := dAX2_weigh (44, (.istore_n 3, 1)) (List.mem_of_getElem? (i := 26) rfl)
theorem dX2_weigh_45 : decode cX2_weigh 45 = .ok (.iload_n 3, 1) := dAX2_weigh (45, (.iload_n 3, 1)) (List.mem_of_getElem? (i := 27) rfl)
theorem dX2_weigh_46 : decode cX2_weigh 46 = .ok (.ifCond .lt 43, 3) := dAX2_weigh (46, (.ifCond .lt 43, 3)) (List.mem_of_getElem? (i := 28) rfl)
theorem dX2_weigh_49 : decode cX2_weigh 49 = .ok (.iload_n 3, 1) := dAX2_weigh (49, (.iload_n 3, 1)) (List.mem_of_getElem? (i := 29) rfl)
theorem dX2_weigh_50 : decode cX2_weigh 50 = .ok (.aload_n 1, 1) := dAX2_weigh (50, (.aload_n 1, 1)) (List.mem_of_getElem? (i := 30) rfl)
theorem dX2_weigh_51 : decode cX2_weigh 51 = .ok (.getfield 40, 3) := dAX2_weigh (51, (.getfield 40, 3)) (List.mem_of_getElem? (i := 31) rfl)
theorem dX2_weigh_54 : decode cX2_weigh 54 = .ok (.if_icmp .ge 35, 3) := dAX2_weigh (54, (.if_icmp .ge 35, 3)) (List.mem_of_getElem? (i := 32) rfl)
theorem dX2_weigh_57 : decode cX2_weigh 57 = .ok (.aload_n 0, 1) := dAX2_weigh (57, (.aload_n 0, 1)) (List.mem_of_getElem? (i := 33) rfl)
theorem dX2_weigh_58 : decode cX2_weigh 58 = .ok (.getfield 15, 3) := dAX2_weigh (58, (.getfield 15, 3)) (List.mem_of_getElem? (i := 34) rfl)
theorem dX2_weigh_61 : decode cX2_weigh 61 = .ok (.aload_n 1, 1) := dAX2_weigh (61, (.aload_n 1, 1)) (List.mem_of_getElem? (i := 35) rfl)
theorem dX2_weigh_62 : decode cX2_weigh 62 = .ok (.getfield 71, 3) := dAX2_weigh (62, (.getfield 71, 3)) (List.mem_of_getElem? (i := 36) rfl)
theorem dX2_weigh_65 : decode cX2_weigh 65 = .ok (.iload_n 2, 1) := dAX2_weigh (65, (.iload_n 2, 1)) (List.mem_of_getElem? (i := 37) rfl)
theorem dX2_weigh_66 : decode cX2_weigh 66 = .ok (.iaload, 1) := dAX2_weigh (66, (.iaload, 1)) (List.mem_of_getElem? (i := 38) rfl)
theorem dX2_weigh_67 : decode cX2_weigh 67 = .ok (.ishr, 1) := dAX2_weigh (67, (.ishr, 1)) (List.mem_of_getElem? (i := 39) rfl)
theorem dX2_weigh_68 : decode cX2_weigh 68 = .ok (.iconst 1, 1) := dAX2_weigh (68, (.iconst 1, 1)) (List.mem_of_getElem? (i := 40) rfl)
theorem dX2_weigh_69 : decode cX2_weigh 69 = .ok (.iand, 1) := dAX2_weigh (69, (.iand, 1)) (List.mem_of_getElem? (i := 41) rfl)
theorem dX2_weigh_70 : decode cX2_weigh 70 = .ok (.iconst 1, 1) := dAX2_weigh (70, (.iconst 1, 1)) (List.mem_of_getElem? (i := 42) rfl)
theorem dX2_weigh_71 : decode cX2_weigh 71 = .ok (.if_icmp .ne 18, 3) := dAX2_weigh (71, (.if_icmp .ne 18, 3)) (List.mem_of_getElem? (i := 43) rfl)
theorem dX2_weigh_74 : decode cX2_weigh 74 = .ok (.aload_n 0, 1) := dAX2_weigh (74, (.aload_n 0, 1)) (List.mem_of_getElem? (i := 44) rfl)
theorem dX2_weigh_75 : decode cX2_weigh 75 = .ok (.getfield 37, 3) := dAX2_weigh (75, (.getfield 37, 3)) (List.mem_of_getElem? (i := 45) rfl)
theorem dX2_weigh_78 : decode cX2_weigh 78 = .ok (.iload_n 3, 1) := dAX2_weigh (78, (.iload_n 3, 1)) (List.mem_of_getElem? (i := 46) rfl)
theorem dX2_weigh_79 : decode cX2_weigh 79 = .ok (.dup2, 1) := dAX2_weigh (79, (.dup2, 1)) (List.mem_of_getElem? (i := 47) rfl)
theorem dX2_weigh_80 : decode cX2_weigh 80 = .ok (.iaload, 1) := dAX2_weigh (80, (.iaload, 1)) (List.mem_of_getElem? (i := 48) rfl)
theorem dX2_weigh_81 : decode cX2_weigh 81 = .ok (.aload_n 1, 1) := dAX2_weigh (81, (.aload_n 1, 1)) (List.mem_of_getElem? (i := 49) rfl)
theorem dX2_weigh_82 : decode cX2_weigh 82 = .ok (.getfield 74, 3) := dAX2_weigh (82, (.getfield 74, 3)) (List.mem_of_getElem? (i := 50) rfl)
theorem dX2_weigh_85 : decode cX2_weigh 85 = .ok (.iload_n 2, 1) := dAX2_weigh (85, (.iload_n 2, 1)) (List.mem_of_getElem? (i := 51) rfl)
theorem dX2_weigh_86 : decode cX2_weigh 86 = .ok (.iaload, 1) := dAX2_weigh (86, (.iaload, 1)) (List.mem_of_getElem? (i := 52) rfl)
theorem dX2_weigh_87 : decode cX2_weigh 87 = .ok (.iadd, 1) := dAX2_weigh (87, (.iadd, 1)) (List.mem_of_getElem? (i := 53) rfl)
theorem dX2_weigh_88 : decode cX2_weigh 88 = .ok (.iastore, 1) := dAX2_weigh (88, (.iastore, 1)) (List.mem_of_getElem? (i := 54) rfl)
theorem dX2_weigh_89 : decode cX2_weigh 89 = .ok (.iinc 2 1, 3) := dAX2_weigh (89, (.iinc 2 1, 3)) (List.mem_of_getElem? (i := 55) rfl)
theorem dX2_weigh_92 : decode cX2_weigh 92 = .ok (.goto (-62), 3) := dAX2_weigh (92, (.goto (-62), 3)) (List.mem_of_getElem? (i := 56) rfl)
theorem dX2_weigh_95 : decode cX2_weigh 95 = .ok (.return_, 1) := dAX2_weigh (95, (.return_, 1)) (List.mem_of_getElem? (i := 57) rfl)
theorem kX2_weigh_40 : Cond.fieldLink RX2 40 "EveningVow$House" "guests" "I" ∈ wsX2_weigh := List.mem_of_getElem? (i := 1) rfl
theorem iX2_weigh_X1 : ∀ w ∈ u_ws RX1 TX1 17, w ∈ wsX2_weigh := fun w h => (List.mem_cons_of_mem _ (List.mem_append_left _ (List.mem_append_right _ h)))
theorem kX2_weigh_37 : Cond.fieldLink RX2 37 "EveningVow$Night" "will" "[I" ∈ wsX2_weigh := List.mem_of_getElem? (i := 2) rfl
theorem iX2_weigh_X2 : ∀ w ∈ u_ws RX2 TX2 9, w ∈ wsX2_weigh := fun w h => (List.mem_cons_of_mem _ (List.mem_append_right _ h))
theorem kX2_weigh_30 : Cond.fieldLink RX2 30 "EveningVow$Night" "want" "[I" ∈ wsX2_weigh := List.mem_of_getElem? (i := 3) rfl
theorem kX2_weigh_65 : Cond.fieldLink RX2 65 "EveningVow$House" "draws" "I" ∈ wsX2_weigh := List.mem_of_getElem? (i := 4) rfl
theorem kX2_weigh_68 : Cond.fieldLink RX2 68 "EveningVow$House" "drawnGuest" "[I" ∈ wsX2_weigh := List.mem_of_getElem? (i := 5) rfl
theorem kX2_weigh_15 : Cond.fieldLink RX2 15 "EveningVow$Night" "there" "I" ∈ wsX2_weigh := List.mem_of_getElem? (i := 6) rfl
theorem kX2_weigh_71 : Cond.fieldLink RX2 71 "EveningVow$House" "drawer" "[I" ∈ wsX2_weigh := List.mem_of_getElem? (i := 7) rfl
theorem kX2_weigh_74 : Cond.fieldLink RX2 74 "EveningVow$House" "drawnMuch" "[I" ∈ wsX2_weigh := List.mem_of_getElem? (i := 8) rfl
set_option maxHeartbeats 4000000 in
set_option maxRecDepth 100000 in
theorem wX2_weigh_L2 {p : Program} {l : Launch} {e : Env} {s : State} {m : MethodId} {args : Array Value} {below : List Frame} {meth : Method} {c : Code} {g : GG} {A : Nat → Prop} (C0 : Cx p s m args meth c cX2_weigh 4 none RX2 wsX2_weigh g A) (a_t : Nat) (a_r1 : Nat) (p_t : Nat → Nat) (p_r1 : Nat → Nat) (n : Nat) (o_t : Nat → Int32) (f_t_6 : Nat → Int32) (o_r1 : Nat → Int32) (f_r1_10 : Nat → Int32) (f_r1_11 : Nat → Int32) (f_r1_12 : Nat → Int32) (f_t_8' : Nat → Int32) (K : (Nat → Int32) → Option ((Nat → Int32))) (hKx : ∀ (f_t_8 : Nat → Int32) (H : Heap) (locs : List Loc) (ls : Array Slot), K f_t_8 = some (f_t_8') → va_P g.1 vwCl [oX2 a_t p_t o_t, aI g (p_t 6) 7 f_t_6, aI g (p_t 8) 7 f_t_8, oX1 a_r1 p_r1 o_r1, aI g (p_r1 10) 8 f_r1_10, aI g (p_r1 11) 8 f_r1_11, aI g (p_r1 12) 8 f_r1_12] H → va_D A [oX2 a_t p_t o_t, aI g (p_t 6) 7 f_t_6, aI g (p_t 8) 7 f_t_8, oX1 a_r1 p_r1 o_r1, aI g (p_r1 10) 8 f_r1_10, aI g (p_r1 11) 8 f_r1_11, aI g (p_r1 12) 8 f_r1_12] → va_S A s.heap H locs → lv_has ls 4 [(0, .ref a_t), (1, .ref a_r1)] → W p l e ({ frames := 0, cells := 0, slots := 0, locals := 0 } : Room) s m args below meth c H locs 0 0 (MQ below (EndV g [oX2 a_t p_t o_t, aI g (p_t 6) 7 f_t_6, aI g (p_t 8) 7 f_t_8', oX1 a_r1 p_r1 o_r1, aI g (p_r1 10) 8 f_r1_10, aI g (p_r1 11) 8 f_r1_11, aI g (p_r1 12) 8 f_r1_12] A) args s 0 0 A) (F0 m 28 ls [])) : ∀ (k : Nat) (x2 : Int32) (f_t_8 : Nat → Int32), fX2_weigh_L2 n o_t f_t_6 o_r1 K k x2 f_t_8 = some (f_t_8') → ∀ (H : Heap) (locs : List Loc) (ls : Array Slot), va_P g.1 vwCl [oX2 a_t p_t o_t, aI g (p_t 6) 7 f_t_6, aI g (p_t 8) 7 f_t_8, oX1 a_r1 p_r1 o_r1, aI g (p_r1 10) 8 f_r1_10, aI g (p_r1 11) 8 f_r1_11, aI g (p_r1 12) 8 f_r1_12] H → va_D A [oX2 a_t p_t o_t, aI g (p_t 6) 7 f_t_6, aI g (p_t 8) 7 f_t_8, oX1 a_r1 p_r1 o_r1, aI g (p_r1 10) 8 f_r1_10, aI g (p_r1 11) 8 f_r1_11, aI g (p_r1 12) 8 f_r1_12] → va_S A s.heap H locs → lv_has ls 4 [(0, .ref a_t), (1, .ref a_r1), (2, .int x2)] → W p l e ({ frames := 0, cells := 0, slots := 0, locals := 0 } : Room) s m args below meth c H locs 0 0 (MQ below (EndV g [oX2 a_t p_t o_t, aI g (p_t 6) 7 f_t_6, aI g (p_t 8) 7 f_t_8', oX1 a_r1 p_r1 o_r1, aI g (p_r1 10) 8 f_r1_10, aI g (p_r1 11) 8 f_r1_11, aI g (p_r1 12) 8 f_r1_12] A) args s 0 0 A) (F0 m 2 ls []) := by
  obtain ⟨hx, hb, hml, hown, hts, hr, hlk, hK, hA, hSW⟩ := id C0
  intro k
  induction k with
  | zero =>
    intro x2 f_t_8 hF
    exact absurd hF (by simp [fX2_weigh_L2])
  | succ k ih =>
    intro x2 f_t_8 hF H locs ls hP hD hS hl
    rw [fX2_weigh_L2] at hF
    refine lv_iload_n hx hb dX2_weigh_2 rfl (lv_at hl 2 rfl) ?_
    refine lv_aload_n hx hb dX2_weigh_3 rfl (lv_at hl 1 rfl) ?_
    refine va_get (D := g.1) (ci := 1) (v := .int (o_r1 3)) (C := RX1) (T := TX1) (N := 17) hx hb hts iX2_weigh_X1 hown hK.1 hP 3 rfl rfl 3 (by decide) (hts _ kX2_weigh_40) (fun _ h9 => h9) rfl dX2_weigh_4 ?_
    refine lv_icmp_ge (tgt := 28) hx hb dX2_weigh_7 (by decide) (fun c_1 => ?_) (fun c_1 => ?_)
    · have hF := it_p c_1 hF
      exact hKx f_t_8 _ _ _ hF (hP.sub [0, 1, 2, 3, 4, 5, 6] rfl) (hD.sub [0, 1, 2, 3, 4, 5, 6] rfl rfl) hS (lv_sub hl [0, 1] rfl)
    · have hF := it_n c_1 hF
      refine lv_aload_n hx hb dX2_weigh_10 rfl (lv_at hl 0 rfl) ?_
      refine va_get (D := g.1) (ci := 2) (v := .ref (p_t 8)) (C := RX2) (T := TX2) (N := 9) hx hb hts iX2_weigh_X2 hown hK.1 hP 0 rfl rfl 8 (by decide) (hts _ kX2_weigh_37) (fun _ h9 => h9) rfl dX2_weigh_11 ?_
      refine lv_iload_n hx hb dX2_weigh_14 rfl (lv_at hl 2 rfl) ?_
      refine lv_aload_n hx hb dX2_weigh_15 rfl (lv_at hl 0 rfl) ?_
      refine va_get (D := g.1) (ci := 2) (v := .ref (p_t 6)) (C := RX2) (T := TX2) (N := 9) hx hb hts iX2_weigh_X2 hown hK.1 hP 0 rfl rfl 6 (by decide) (hts _ kX2_weigh_30) (fun _ h9 => h9) rfl dX2_weigh_16 ?_
      refine lv_iload_n hx hb dX2_weigh_19 rfl (lv_at hl 2 rfl) ?_
      obtain ⟨h_2, hF⟩ := it_ck hF
      refine va_iald hx hb hK.1 hP 1 0 rfl rfl h_2 dX2_weigh_20 ?_
      obtain ⟨h_3, hF⟩ := it_ck hF
      refine va_iast hx hb hK.1 hP hD hS 2 0 rfl rfl h_3 dX2_weigh_21 (fun H locs hP hD hS => ?_)
      have hP : va_P g.1 vwCl [oX2 a_t p_t o_t, aI g (p_t 6) 7 f_t_6, aI g (p_t 8) 7 (upd f_t_8 (x2).toNatClampNeg (f_t_6 (x2).toNatClampNeg)), oX1 a_r1 p_r1 o_r1, aI g (p_r1 10) 8 f_r1_10, aI g (p_r1 11) 8 f_r1_11, aI g (p_r1 12) 8 f_r1_12] H := hP
      have hD : va_D A [oX2 a_t p_t o_t, aI g (p_t 6) 7 f_t_6, aI g (p_t 8) 7 (upd f_t_8 (x2).toNatClampNeg (f_t_6 (x2).toNatClampNeg)), oX1 a_r1 p_r1 o_r1, aI g (p_r1 10) 8 f_r1_10, aI g (p_r1 11) 8 f_r1_11, aI g (p_r1 12) 8 f_r1_12] := hD
      refine lv_iinc (v := (x2 + (1 : Int32))) (lv' := [(2, .int (x2 + (1 : Int32))), (0, .ref a_t), (1, .ref a_r1)]) hx hb dX2_weigh_22 hl (k := 2) rfl rfl (by decide) rfl (fun ls hl => ?_)
      refine lv_goto (tgt := 2) hx hb dX2_weigh_25 (by decide) ?_
      exact ih (x2 + (1 : Int32)) (upd f_t_8 (x2).toNatClampNeg (f_t_6 (x2).toNatClampNeg)) hF _ _ _ (hP.sub [0, 1, 2, 3, 4, 5, 6] rfl) (hD.sub [0, 1, 2, 3, 4, 5, 6] rfl rfl) hS (lv_sub hl [1, 2, 0] rfl)
set_option maxHeartbeats 4000000 in
set_option maxRecDepth 100000 in
theorem wX2_weigh_L30 {p : Program} {l : Launch} {e : Env} {s : State} {m : MethodId} {args : Array Value} {below : List Frame} {meth : Method} {c : Code} {g : GG} {A : Nat → Prop} (C0 : Cx p s m args meth c cX2_weigh 4 none RX2 wsX2_weigh g A) (a_t : Nat) (a_r1 : Nat) (p_t : Nat → Nat) (p_r1 : Nat → Nat) (n : Nat) (o_t : Nat → Int32) (o_r1 : Nat → Int32) (f_r1_10 : Nat → Int32) (f_r1_11 : Nat → Int32) (f_r1_12 : Nat → Int32) (f_t_6 : Nat → Int32) (f_t_8' : Nat → Int32) (K : (Nat → Int32) → Option ((Nat → Int32))) (hKx : ∀ (f_t_8 : Nat → Int32) (H : Heap) (locs : List Loc) (ls : Array Slot), K f_t_8 = some (f_t_8') → va_P g.1 vwCl [oX2 a_t p_t o_t, aI g (p_t 6) 7 f_t_6, aI g (p_t 8) 7 f_t_8, oX1 a_r1 p_r1 o_r1, aI g (p_r1 10) 8 f_r1_10, aI g (p_r1 11) 8 f_r1_11, aI g (p_r1 12) 8 f_r1_12] H → va_D A [oX2 a_t p_t o_t, aI g (p_t 6) 7 f_t_6, aI g (p_t 8) 7 f_t_8, oX1 a_r1 p_r1 o_r1, aI g (p_r1 10) 8 f_r1_10, aI g (p_r1 11) 8 f_r1_11, aI g (p_r1 12) 8 f_r1_12] → va_S A s.heap H locs → lv_has ls 4 [] → W p l e ({ frames := 0, cells := 0, slots := 0, locals := 0 } : Room) s m args below meth c H locs 0 0 (MQ below (EndV g [oX2 a_t p_t o_t, aI g (p_t 6) 7 f_t_6, aI g (p_t 8) 7 f_t_8', oX1 a_r1 p_r1 o_r1, aI g (p_r1 10) 8 f_r1_10, aI g (p_r1 11) 8 f_r1_11, aI g (p_r1 12) 8 f_r1_12] A) args s 0 0 A) (F0 m 95 ls [])) : ∀ (k : Nat) (x2 : Int32) (f_t_8 : Nat → Int32), fX2_weigh_L30 n o_t o_r1 f_r1_10 f_r1_11 f_r1_12 K k x2 f_t_8 = some (f_t_8') → ∀ (H : Heap) (locs : List Loc) (ls : Array Slot), va_P g.1 vwCl [oX2 a_t p_t o_t, aI g (p_t 6) 7 f_t_6, aI g (p_t 8) 7 f_t_8, oX1 a_r1 p_r1 o_r1, aI g (p_r1 10) 8 f_r1_10, aI g (p_r1 11) 8 f_r1_11, aI g (p_r1 12) 8 f_r1_12] H → va_D A [oX2 a_t p_t o_t, aI g (p_t 6) 7 f_t_6, aI g (p_t 8) 7 f_t_8, oX1 a_r1 p_r1 o_r1, aI g (p_r1 10) 8 f_r1_10, aI g (p_r1 11) 8 f_r1_11, aI g (p_r1 12) 8 f_r1_12] → va_S A s.heap H locs → lv_has ls 4 [(0, .ref a_t), (1, .ref a_r1), (2, .int x2)] → W p l e ({ frames := 0, cells := 0, slots := 0, locals := 0 } : Room) s m args below meth c H locs 0 0 (MQ below (EndV g [oX2 a_t p_t o_t, aI g (p_t 6) 7 f_t_6, aI g (p_t 8) 7 f_t_8', oX1 a_r1 p_r1 o_r1, aI g (p_r1 10) 8 f_r1_10, aI g (p_r1 11) 8 f_r1_11, aI g (p_r1 12) 8 f_r1_12] A) args s 0 0 A) (F0 m 30 ls []) := by
  obtain ⟨hx, hb, hml, hown, hts, hr, hlk, hK, hA, hSW⟩ := id C0
  intro k
  induction k with
  | zero =>
    intro x2 f_t_8 hF
    exact absurd hF (by simp [fX2_weigh_L30])
  | succ k ih =>
    intro x2 f_t_8 hF H locs ls hP hD hS hl
    rw [fX2_weigh_L30] at hF
    refine lv_iload_n hx hb dX2_weigh_30 rfl (lv_at hl 2 rfl) ?_
    refine lv_aload_n hx hb dX2_weigh_31 rfl (lv_at hl 1 rfl) ?_
    refine va_get (D := g.1) (ci := 1) (v := .int (o_r1 9)) (C := RX1) (T := TX1) (N := 17) hx hb hts iX2_weigh_X1 hown hK.1 hP 3 rfl rfl 9 (by decide) (hts _ kX2_weigh_65) (fun _ h9 => h9) rfl dX2_weigh_32 ?_
    refine lv_icmp_ge (tgt := 95) hx hb dX2_weigh_35 (by decide) (fun c_4 => ?_) (fun c_4 => ?_)
    · have hF := it_p c_4 hF
      exact hKx f_t_8 _ _ _ hF (hP.sub [0, 1, 2, 3, 4, 5, 6] rfl) (hD.sub [0, 1, 2, 3, 4, 5, 6] rfl rfl) hS (lv_sub hl [] rfl)
    · have hF := it_n c_4 hF
      refine lv_aload_n hx hb dX2_weigh_38 rfl (lv_at hl 1 rfl) ?_
      refine va_get (D := g.1) (ci := 1) (v := .ref (p_r1 10)) (C := RX1) (T := TX1) (N := 17) hx hb hts iX2_weigh_X1 hown hK.1 hP 3 rfl rfl 10 (by decide) (hts _ kX2_weigh_68) (fun _ h9 => h9) rfl dX2_weigh_39 ?_
      refine lv_iload_n hx hb dX2_weigh_42 rfl (lv_at hl 2 rfl) ?_
      obtain ⟨h_5, hF⟩ := it_ck hF
      refine va_iald hx hb hK.1 hP 4 0 rfl rfl h_5 dX2_weigh_43 ?_
      refine lv_istore_n (lv' := [(3, .int (f_r1_10 (x2).toNatClampNeg)), (0, .ref a_t), (1, .ref a_r1), (2, .int x2)]) hx hb dX2_weigh_44 rfl hl (by decide) rfl (fun ls hl => ?_)
      refine lv_iload_n hx hb dX2_weigh_45 rfl (lv_at hl 0 rfl) ?_
      refine lv_if_lt (tgt := 89) hx hb dX2_weigh_46 (by decide) (fun c_6 => ?_) (fun c_6 => ?_)
      · have hF := it_p c_6 hF
        refine lv_iinc (v := (x2 + (1 : Int32))) (lv' := [(2, .int (x2 + (1 : Int32))), (3, .int (f_r1_10 (x2).toNatClampNeg)), (0, .ref a_t), (1, .ref a_r1)]) hx hb dX2_weigh_89 hl (k := 3) rfl rfl (by decide) rfl (fun ls hl => ?_)
        refine lv_goto (tgt := 30) hx hb dX2_weigh_92 (by decide) ?_
        exact ih (x2 + (1 : Int32)) f_t_8 hF _ _ _ (hP.sub [0, 1, 2, 3, 4, 5, 6] rfl) (hD.sub [0, 1, 2, 3, 4, 5, 6] rfl rfl) hS (lv_sub hl [2, 3, 0] rfl)
      · have hF := it_n c_6 hF
        refine lv_iload_n hx hb dX2_weigh_49 rfl (lv_at hl 0 rfl) ?_
        refine lv_aload_n hx hb dX2_weigh_50 rfl (lv_at hl 2 rfl) ?_
        refine va_get (D := g.1) (ci := 1) (v := .int (o_r1 3)) (C := RX1) (T := TX1) (N := 17) hx hb hts iX2_weigh_X1 hown hK.1 hP 3 rfl rfl 3 (by decide) (hts _ kX2_weigh_40) (fun _ h9 => h9) rfl dX2_weigh_51 ?_
        refine lv_icmp_ge (tgt := 89) hx hb dX2_weigh_54 (by decide) (fun c_7 => ?_) (fun c_7 => ?_)
        · have hF := it_p c_7 hF
          refine lv_iinc (v := (x2 + (1 : Int32))) (lv' := [(2, .int (x2 + (1 : Int32))), (3, .int (f_r1_10 (x2).toNatClampNeg)), (0, .ref a_t), (1, .ref a_r1)]) hx hb dX2_weigh_89 hl (k := 3) rfl rfl (by decide) rfl (fun ls hl => ?_)
          refine lv_goto (tgt := 30) hx hb dX2_weigh_92 (by decide) ?_
          exact ih (x2 + (1 : Int32)) f_t_8 hF _ _ _ (hP.sub [0, 1, 2, 3, 4, 5, 6] rfl) (hD.sub [0, 1, 2, 3, 4, 5, 6] rfl rfl) hS (lv_sub hl [2, 3, 0] rfl)
        · have hF := it_n c_7 hF
          refine lv_aload_n hx hb dX2_weigh_57 rfl (lv_at hl 1 rfl) ?_
          refine va_get (D := g.1) (ci := 2) (v := .int (o_t 1)) (C := RX2) (T := TX2) (N := 9) hx hb hts iX2_weigh_X2 hown hK.1 hP 0 rfl rfl 1 (by decide) (hts _ kX2_weigh_15) (fun _ h9 => h9) rfl dX2_weigh_58 ?_
          refine lv_aload_n hx hb dX2_weigh_61 rfl (lv_at hl 2 rfl) ?_
          refine va_get (D := g.1) (ci := 1) (v := .ref (p_r1 11)) (C := RX1) (T := TX1) (N := 17) hx hb hts iX2_weigh_X1 hown hK.1 hP 3 rfl rfl 11 (by decide) (hts _ kX2_weigh_71) (fun _ h9 => h9) rfl dX2_weigh_62 ?_
          refine lv_iload_n hx hb dX2_weigh_65 rfl (lv_at hl 3 rfl) ?_
          obtain ⟨h_8, hF⟩ := it_ck hF
          refine va_iald hx hb hK.1 hP 5 0 rfl rfl h_8 dX2_weigh_66 ?_
          refine lv_ishr hx hb dX2_weigh_67 ?_
          refine lv_iconst (v := (1 : Int32)) hx hb dX2_weigh_68 (by decide) ?_
          refine lv_iand hx hb dX2_weigh_69 ?_
          refine lv_iconst (v := (1 : Int32)) hx hb dX2_weigh_70 (by decide) ?_
          refine lv_icmp_ne (tgt := 89) hx hb dX2_weigh_71 (by decide) (fun c_9 => ?_) (fun c_9 => ?_)
          · have hF := it_n c_9 hF
            refine lv_iinc (v := (x2 + (1 : Int32))) (lv' := [(2, .int (x2 + (1 : Int32))), (3, .int (f_r1_10 (x2).toNatClampNeg)), (0, .ref a_t), (1, .ref a_r1)]) hx hb dX2_weigh_89 hl (k := 3) rfl rfl (by decide) rfl (fun ls hl => ?_)
            refine lv_goto (tgt := 30) hx hb dX2_weigh_92 (by decide) ?_
            exact ih (x2 + (1 : Int32)) f_t_8 hF _ _ _ (hP.sub [0, 1, 2, 3, 4, 5, 6] rfl) (hD.sub [0, 1, 2, 3, 4, 5, 6] rfl rfl) hS (lv_sub hl [2, 3, 0] rfl)
          · have hF := it_p c_9 hF
            refine lv_aload_n hx hb dX2_weigh_74 rfl (lv_at hl 1 rfl) ?_
            refine va_get (D := g.1) (ci := 2) (v := .ref (p_t 8)) (C := RX2) (T := TX2) (N := 9) hx hb hts iX2_weigh_X2 hown hK.1 hP 0 rfl rfl 8 (by decide) (hts _ kX2_weigh_37) (fun _ h9 => h9) rfl dX2_weigh_75 ?_
            refine lv_iload_n hx hb dX2_weigh_78 rfl (lv_at hl 0 rfl) ?_
            refine lv_dup2_11 hx hb dX2_weigh_79 rfl rfl ?_
            obtain ⟨h_10, hF⟩ := it_ck hF
            refine va_iald hx hb hK.1 hP 2 0 rfl rfl h_10 dX2_weigh_80 ?_
            refine lv_aload_n hx hb dX2_weigh_81 rfl (lv_at hl 2 rfl) ?_
            refine va_get (D := g.1) (ci := 1) (v := .ref (p_r1 12)) (C := RX1) (T := TX1) (N := 17) hx hb hts iX2_weigh_X1 hown hK.1 hP 3 rfl rfl 12 (by decide) (hts _ kX2_weigh_74) (fun _ h9 => h9) rfl dX2_weigh_82 ?_
            refine lv_iload_n hx hb dX2_weigh_85 rfl (lv_at hl 3 rfl) ?_
            obtain ⟨h_11, hF⟩ := it_ck hF
            refine va_iald hx hb hK.1 hP 6 0 rfl rfl h_11 dX2_weigh_86 ?_
            refine lv_iadd hx hb dX2_weigh_87 ?_
            obtain ⟨h_12, hF⟩ := it_ck hF
            refine va_iast hx hb hK.1 hP hD hS 2 0 rfl rfl h_12 dX2_weigh_88 (fun H locs hP hD hS => ?_)
            have hP : va_P g.1 vwCl [oX2 a_t p_t o_t, aI g (p_t 6) 7 f_t_6, aI g (p_t 8) 7 (upd f_t_8 ((f_r1_10 (x2).toNatClampNeg)).toNatClampNeg ((f_t_8 ((f_r1_10 (x2).toNatClampNeg)).toNatClampNeg) + (f_r1_12 (x2).toNatClampNeg))), oX1 a_r1 p_r1 o_r1, aI g (p_r1 10) 8 f_r1_10, aI g (p_r1 11) 8 f_r1_11, aI g (p_r1 12) 8 f_r1_12] H := hP
            have hD : va_D A [oX2 a_t p_t o_t, aI g (p_t 6) 7 f_t_6, aI g (p_t 8) 7 (upd f_t_8 ((f_r1_10 (x2).toNatClampNeg)).toNatClampNeg ((f_t_8 ((f_r1_10 (x2).toNatClampNeg)).toNatClampNeg) + (f_r1_12 (x2).toNatClampNeg))), oX1 a_r1 p_r1 o_r1, aI g (p_r1 10) 8 f_r1_10, aI g (p_r1 11) 8 f_r1_11, aI g (p_r1 12) 8 f_r1_12] := hD
            refine lv_iinc (v := (x2 + (1 : Int32))) (lv' := [(2, .int (x2 + (1 : Int32))), (3, .int (f_r1_10 (x2).toNatClampNeg)), (0, .ref a_t), (1, .ref a_r1)]) hx hb dX2_weigh_89 hl (k := 3) rfl rfl (by decide) rfl (fun ls hl => ?_)
            refine lv_goto (tgt := 30) hx hb dX2_weigh_92 (by decide) ?_
            exact ih (x2 + (1 : Int32)) (upd f_t_8 ((f_r1_10 (x2).toNatClampNeg)).toNatClampNeg ((f_t_8 ((f_r1_10 (x2).toNatClampNeg)).toNatClampNeg) + (f_r1_12 (x2).toNatClampNeg))) hF _ _ _ (hP.sub [0, 1, 2, 3, 4, 5, 6] rfl) (hD.sub [0, 1, 2, 3, 4, 5, 6] rfl rfl) hS (lv_sub hl [2, 3, 0] rfl)
set_option maxHeartbeats 4000000 in
set_option maxRecDepth 100000 in
theorem mX2_weigh (l : Launch) (g : GG) (a_t : Nat) (a_r1 : Nat) (p_t : Nat → Nat) (p_r1 : Nat → Nat) (n : Nat) (o_t : Nat → Int32) (f_t_6 : Nat → Int32) (f_t_8 : Nat → Int32) (o_r1 : Nat → Int32) (f_r1_10 : Nat → Int32) (f_r1_11 : Nat → Int32) (f_r1_12 : Nat → Int32) (f_t_8' : Nat → Int32) (hF : fX2_weigh n o_t f_t_6 f_t_8 o_r1 f_r1_10 f_r1_11 f_r1_12 = some (f_t_8')) : MV l g yX2_weigh wsX2_weigh ({ frames := 0, cells := 0, slots := 0, locals := 0 } : Room) [.ref a_t, .ref a_r1] [oX2 a_t p_t o_t, aI g (p_t 6) 7 f_t_6, aI g (p_t 8) 7 f_t_8, oX1 a_r1 p_r1 o_r1, aI g (p_r1 10) 8 f_r1_10, aI g (p_r1 11) 8 f_r1_11, aI g (p_r1 12) 8 f_r1_12] [oX2 a_t p_t o_t, aI g (p_t 6) 7 f_t_6, aI g (p_t 8) 7 f_t_8', oX1 a_r1 p_r1 o_r1, aI g (p_r1 10) 8 f_r1_10, aI g (p_r1 11) 8 f_r1_11, aI g (p_r1 12) 8 f_r1_12] := by
  refine MV.of (cc := cX2_weigh) (maxL := 4) (own := RX2) rfl rfl (by decide) (Nat.le_of_ble_eq_true rfl) ?_
  intro p e s m args below meth c A C0 hP hD hS ls hl
  obtain ⟨hx, hb, hml, hown, hts, hr, hlk, hK, hA, hSW⟩ := id C0
  have hl : lv_has ls 4 [(0, .ref a_t), (1, .ref a_r1)] := hl
  rw [fX2_weigh] at hF
  refine lv_iconst (v := (0 : Int32)) hx hb dX2_weigh_0 (by decide) ?_
  refine lv_istore_n (lv' := [(2, .int (0 : Int32)), (0, .ref a_t), (1, .ref a_r1)]) hx hb dX2_weigh_1 rfl hl (by decide) rfl (fun ls hl => ?_)
  refine wX2_weigh_L2 C0 a_t a_r1 p_t p_r1 n o_t f_t_6 o_r1 f_r1_10 f_r1_11 f_r1_12 f_t_8' _ ?_ n (0 : Int32) f_t_8 hF _ _ _ (hP.sub [0, 1, 2, 3, 4, 5, 6] rfl) (hD.sub [0, 1, 2, 3, 4, 5, 6] rfl rfl) hS (lv_sub hl [1, 2, 0] rfl)
  · intro f_t_8_x2 H locs ls hF hP hD hS hl
    refine lv_iconst (v := (0 : Int32)) hx hb dX2_weigh_28 (by decide) ?_
    refine lv_istore_n (lv' := [(2, .int (0 : Int32)), (0, .ref a_t), (1, .ref a_r1)]) hx hb dX2_weigh_29 rfl hl (by decide) rfl (fun ls hl => ?_)
    refine wX2_weigh_L30 C0 a_t a_r1 p_t p_r1 n o_t o_r1 f_r1_10 f_r1_11 f_r1_12 f_t_6 f_t_8' _ ?_ n (0 : Int32) f_t_8_x2 hF _ _ _ (hP.sub [0, 1, 2, 3, 4, 5, 6] rfl) (hD.sub [0, 1, 2, 3, 4, 5, 6] rfl rfl) hS (lv_sub hl [1, 2, 0] rfl)
    · intro f_t_8_x30 H locs ls hF hP hD hS hl
      cases hF
      exact ret_v C0 hP hD hS [0, 1, 2, 3, 4, 5, 6] rfl rfl rfl dX2_weigh_95

theorem dAX2_willOf : ∀ q ∈ ([(0, (.aload_n 0, 1)), (1, (.aload_n 1, 1)), (2, (.invokevirtual 61, 3)), (5, (.aload_n 0, 1)), (6, (.getfield 37, 3)), (9, (.iload_n 2, 1)), (10, (.iaload, 1)), (11, (.ireturn, 1))] : List (Nat × (Instr × Nat))), decode cX2_willOf q.1 = .ok q.2 := by decide +kernel
theorem dX2_willOf_0 : decode cX2_willOf 0 = .ok (.aload_n 0, 1) := dAX2_willOf (0, (.aload_n 0, 1)) (List.mem_of_getElem? (i := 0) rfl)
theorem dX2_willOf_1 : decode cX2_willOf 1 = .ok (.aload_n 1, 1) := dAX2_willOf (1, (.aload_n 1, 1)) (List.mem_of_getElem? (i := 1) rfl)
theorem dX2_willOf_2 : decode cX2_willOf 2 = .ok (.invokevirtual 61, 3) := dAX2_willOf (2, (.invokevirtual 61, 3)) (List.mem_of_getElem? (i := 2) rfl)
theorem dX2_willOf_5 : decode cX2_willOf 5 = .ok (.aload_n 0, 1) := dAX2_willOf (5, (.aload_n 0, 1)) (List.mem_of_getElem? (i := 3) rfl)
theorem dX2_willOf_6 : decode cX2_willOf 6 = .ok (.getfield 37, 3) := dAX2_willOf (6, (.getfield 37, 3)) (List.mem_of_getElem? (i := 4) rfl)
theorem dX2_willOf_9 : decode cX2_willOf 9 = .ok (.iload_n 2, 1) := dAX2_willOf (9, (.iload_n 2, 1)) (List.mem_of_getElem? (i := 5) rfl)
theorem dX2_willOf_10 : decode cX2_willOf 10 = .ok (.iaload, 1) := dAX2_willOf (10, (.iaload, 1)) (List.mem_of_getElem? (i := 6) rfl)
theorem dX2_willOf_11 : decode cX2_willOf 11 = .ok (.ireturn, 1) := dAX2_willOf (11, (.ireturn, 1)) (List.mem_of_getElem? (i := 7) rfl)
set_option maxRecDepth 20000 in
theorem ggX2_willOf_X2_weigh : GoodIn wsX2_willOf wsX2_weigh := goodIn_r _ [6, 7, 1, 8, 9, 10, 11, 12, 13, 23, 24, 25, 26, 27, 28, 29, 30, 31, 32, 33, 34, 35, 36, 37, 38, 39, 14, 15, 16, 17, 18, 19, 20, 21, 22] rfl (by decide +kernel)
set_option maxRecDepth 20000 in
theorem gX2_willOf_X2_weigh : GoodIn wsX2_willOf (wsV RX2 61 RX2 yX2_weigh wsX2_weigh) := goodIn_app (goodIn_of _ (by decide +kernel)) ggX2_willOf_X2_weigh
theorem kX2_willOf_37 : Cond.fieldLink RX2 37 "EveningVow$Night" "will" "[I" ∈ wsX2_willOf := List.mem_of_getElem? (i := 1) rfl
theorem iX2_willOf_X2 : ∀ w ∈ u_ws RX2 TX2 9, w ∈ wsX2_willOf := fun w h => (List.mem_cons_of_mem _ (List.mem_append_left _ (List.mem_append_right _ h)))
set_option maxHeartbeats 4000000 in
set_option maxRecDepth 100000 in
theorem mX2_willOf (l : Launch) (g : GG) (a_t : Nat) (a_r1 : Nat) (p_t : Nat → Nat) (p_r1 : Nat → Nat) (n : Nat) (x2 : Int32) (o_t : Nat → Int32) (f_t_6 : Nat → Int32) (f_t_8 : Nat → Int32) (o_r1 : Nat → Int32) (f_r1_10 : Nat → Int32) (f_r1_11 : Nat → Int32) (f_r1_12 : Nat → Int32) (r : Int32) (f_t_8' : Nat → Int32) (hF : fX2_willOf n x2 o_t f_t_6 f_t_8 o_r1 f_r1_10 f_r1_11 f_r1_12 = some (r, f_t_8')) : MI l g yX2_willOf wsX2_willOf ({ frames := 1, cells := 0, slots := 0, locals := 23 } : Room) [.ref a_t, .ref a_r1, .int x2] [oX2 a_t p_t o_t, aI g (p_t 6) 7 f_t_6, aI g (p_t 8) 7 f_t_8, oX1 a_r1 p_r1 o_r1, aI g (p_r1 10) 8 f_r1_10, aI g (p_r1 11) 8 f_r1_11, aI g (p_r1 12) 8 f_r1_12] r [oX2 a_t p_t o_t, aI g (p_t 6) 7 f_t_6, aI g (p_t 8) 7 f_t_8', oX1 a_r1 p_r1 o_r1, aI g (p_r1 10) 8 f_r1_10, aI g (p_r1 11) 8 f_r1_11, aI g (p_r1 12) 8 f_r1_12] := by
  refine MI.of (cc := cX2_willOf) (maxL := 3) (rt := .int) (own := RX2) rfl rfl (by decide) (Nat.le_of_ble_eq_true rfl) ?_
  intro p e s m args below meth c A C0 hP hD hS ls hl
  obtain ⟨hx, hb, hml, hown, hts, hr, hlk, hK, hA, hSW⟩ := id C0
  have hl : lv_has ls 3 [(0, .ref a_t), (1, .ref a_r1), (2, .int x2)] := hl
  rw [fX2_willOf] at hF
  refine lv_aload_n hx hb dX2_willOf_0 rfl (lv_at hl 0 rfl) ?_
  refine lv_aload_n hx hb dX2_willOf_1 rfl (lv_at hl 1 rfl) ?_
  obtain ⟨u_1, hu_2, hF⟩ := ob1_some hF
  refine call_v (wr := []) (As := [.ref a_r1]) (rest := []) (ci := 2) (q0 := 0) C0 (mX2_weigh l g a_t a_r1 p_t p_r1 n o_t f_t_6 f_t_8 o_r1 f_r1_10 f_r1_11 f_r1_12 u_1 hu_2) (cwV 1 hts gX2_willOf_X2_weigh rfl rfl rfl (by decide +kernel) ⟨Nat.le_of_ble_eq_true rfl, Nat.le_of_ble_eq_true rfl⟩) hP hD hS [0, 1, 2, 3, 4, 5, 6] [] rfl rfl rfl rfl rfl (by decide) rfl rfl hl.1 rfl rfl (Nat.le_of_ble_eq_true rfl) ⟨Nat.zero_le _, Nat.zero_le _⟩ dX2_willOf_2 ?_
  intro H locs hP hD hS
  refine lv_aload_n hx hb dX2_willOf_5 rfl (lv_at hl 0 rfl) ?_
  refine va_get (D := g.1) (ci := 2) (v := .ref (p_t 8)) (C := RX2) (T := TX2) (N := 9) hx hb hts iX2_willOf_X2 hown hK.1 hP 0 rfl rfl 8 (by decide) (hts _ kX2_willOf_37) (fun _ h9 => h9) rfl dX2_willOf_6 ?_
  refine lv_iload_n hx hb dX2_willOf_9 rfl (lv_at hl 2 rfl) ?_
  obtain ⟨h_3, hF⟩ := it_ck hF
  refine va_iald hx hb hK.1 hP 2 0 rfl rfl h_3 dX2_willOf_10 ?_
  cases hF
  exact ret_i C0 hP hD hS [0, 1, 2, 3, 4, 5, 6] rfl rfl rfl dX2_willOf_11 rfl

theorem dAX2_unwilling : ∀ q ∈ ([(0, (.aload_n 0, 1)), (1, (.getfield 15, 3)), (4, (.iconst 1, 1)), (5, (.aload_n 1, 1)), (6, (.getfield 40, 3)), (9, (.ishl, 1)), (10, (.iconst 1, 1)), (11, (.isub, 1)), (12, (.if_icmp .ne 7, 3)), (15, (.iconst 1, 1)), (16, (.goto 4, 3)), (19, (.iconst 0, 1)), (20, (.istore_n 2, 1)), (21, (.iconst 0, 1)), (22, (.istore_n 3, 1)), (23, (.iconst 0, 1)), (24, (.istore 4, 2)), (26, (.iload 4, 2)), (28, (.aload_n 1, 1)), (29, (.getfield 40, 3)), (32, (.if_icmp .ge 66, 3)), (35, (.iload_n 2, 1)), (36, (.ifCond .eq 18, 3)), (39, (.aload_n 1, 1)), (40, (.getfield 77, 3)), (43, (.iload 4, 2)), (45, (.iaload, 1)), (46, (.iconst 1, 1)), (47, (.if_icmp .ne 7, 3)), (50, (.iconst 1, 1)), (51, (.goto 4, 3)), (54, (.iconst 0, 1)), (55, (.istore 5, 2)), (57, (.aload_n 0, 1)), (58, (.getfield 15, 3)), (61, (.iload 4, 2)), (63, (.ishr, 1)), (64, (.iconst 1, 1)), (65, (.iand, 1)), (66, (.iconst 1, 1)), (67, (.if_icmp .ne 25, 3)), (70, (.aload_n 0, 1)), (71, (.getfield 37, 3)), (74, (.iload 4, 2)), (76, (.iaload, 1)), (77, (.ifCond .gt 15, 3)), (80, (.iload 5, 2)), (82, (.ifCond .ne 10, 3)), (85, (.iload_n 3, 1)), (86, (.iconst 1, 1)), (87, (.iload 4, 2)), (89, (.ishl, 1)), (90, (.ior, 1)), (91, (.istore_n 3, 1)), (92, (.iinc 4 1, 3)), (95, (.goto (-69), 3)), (98, (.iload_n 3, 1)), (99, (.ireturn, 1))] : List (Nat × (Instr × Nat))), decode cX2_unwilling q.1 = .ok q.2 := by decide +kernel
theorem dX2_unwilling_0 : decode cX2_unwilling 0 = .ok (.aload_n 0, 1) := dAX2_unwilling (0, (.aload_n 0, 1)) (List.mem_of_getElem? (i := 0) rfl)
theorem dX2_unwilling_1 : decode cX2_unwilling 1 = .ok (.getfield 15, 3) := dAX2_unwilling (1, (.getfield 15, 3)) (List.mem_of_getElem? (i := 1) rfl)
theorem dX2_unwilling_4 : decode cX2_unwilling 4 = .ok (.iconst 1, 1) := dAX2_unwilling (4, (.iconst 1, 1)) (List.mem_of_getElem? (i := 2) rfl)
theorem dX2_unwilling_5 : decode cX2_unwilling 5 = .ok (.aload_n 1, 1) := dAX2_unwilling (5, (.aload_n 1, 1)) (List.mem_of_getElem? (i := 3) rfl)
theorem dX2_unwilling_6 : decode cX2_unwilling 6 = .ok (.getfield 40, 3) := dAX2_unwilling (6, (.getfield 40, 3)) (List.mem_of_getElem? (i := 4) rfl)
theorem dX2_unwilling_9 : decode cX2_unwilling 9 = .ok (.ishl, 1) := dAX2_unwilling (9, (.ishl, 1)) (List.mem_of_getElem? (i := 5) rfl)
theorem dX2_unwilling_10 : decode cX2_unwilling 10 = .ok (.iconst 1, 1) := dAX2_unwilling (10, (.iconst 1, 1)) (List.mem_of_getElem? (i := 6) rfl)
theorem dX2_unwilling_11 : decode cX2_unwilling 11 = .ok (.isub, 1) := dAX2_unwilling (11, (.isub, 1)) (List.mem_of_getElem? (i := 7) rfl)
theorem dX2_unwilling_12 : decode cX2_unwilling 12 = .ok (.if_icmp .ne 7, 3) := dAX2_unwilling (12, (.if_icmp .ne 7, 3)) (List.mem_of_getElem? (i := 8) rfl)
theorem dX2_unwilling_15 : decode cX2_unwilling 15 = .ok (.iconst 1, 1) := dAX2_unwilling (15, (.iconst 1, 1)) (List.mem_of_getElem? (i := 9) rfl)
theorem dX2_unwilling_16 : decode cX2_unwilling 16 = .ok (.goto 4, 3) := dAX2_unwilling (16, (.goto 4, 3)) (List.mem_of_getElem? (i := 10) rfl)
theorem dX2_unwilling_19 : decode cX2_unwilling 19 = .ok (.iconst 0, 1) := dAX2_unwilling (19, (.iconst 0, 1)) (List.mem_of_getElem? (i := 11) rfl)
theorem dX2_unwilling_20 : decode cX2_unwilling 20 = .ok (.istore_n 2, 1) := dAX2_unwilling (20, (.istore_n 2, 1)) (List.mem_of_getElem? (i := 12) rfl)
theorem dX2_unwilling_21 : decode cX2_unwilling 21 = .ok (.iconst 0, 1) := dAX2_unwilling (21, (.iconst 0, 1)) (List.mem_of_getElem? (i := 13) rfl)
theorem dX2_unwilling_22 : decode cX2_unwilling 22 = .ok (.istore_n 3, 1) := dAX2_unwilling (22, (.istore_n 3, 1)) (List.mem_of_getElem? (i := 14) rfl)
theorem dX2_unwilling_23 : decode cX2_unwilling 23 = .ok (.iconst 0, 1) := dAX2_unwilling (23, (.iconst 0, 1)) (List.mem_of_getElem? (i := 15) rfl)
theorem dX2_unwilling_24 : decode cX2_unwilling 24 = .ok (.istore 4, 2) := dAX2_unwilling (24, (.istore 4, 2)) (List.mem_of_getElem? (i := 16) rfl)
theorem dX2_unwilling_26 : decode cX2_unwilling 26 = .ok (.iload 4, 2) := dAX2_unwilling (26, (.iload 4, 2)) (List.mem_of_getElem? (i := 17) rfl)
theorem dX2_unwilling_28 : decode cX2_unwilling 28 = .ok (.aload_n 1, 1) := dAX2_unwilling (28, (.aload_n 1, 1)) (List.mem_of_getElem? (i := 18) rfl)
theorem dX2_unwilling_29 : decode cX2_unwilling 29 = .ok (.getfield 40, 3) := dAX2_unwilling (29, (.getfield 40, 3)) (List.mem_of_getElem? (i := 19) rfl)
theorem dX2_unwilling_32 : decode cX2_unwilling 32 = .ok (.if_icmp .ge 66, 3) := dAX2_unwilling (32, (.if_icmp .ge 66, 3)) (List.mem_of_getElem? (i := 20) rfl)
theorem dX2_unwilling_35 : decode cX2_unwilling 35 = .ok (.iload_n 2, 1) := dAX2_unwilling (35, (.iload_n 2, 1)) (List.mem_of_getElem? (i := 21) rfl)
theorem dX2_unwilling_36 : decode cX2_unwilling 36 = .ok (.ifCond .eq 18, 3) := dAX2_unwilling (36, (.ifCond .eq 18, 3)) (List.mem_of_getElem? (i := 22) rfl)
theorem dX2_unwilling_39 : decode cX2_unwilling 39 = .ok (.aload_n 1, 1) := dAX2_unwilling (39, (.aload_n 1, 1)) (List.mem_of_getElem? (i := 23) rfl)
theorem dX2_unwilling_40 : decode cX2_unwilling 40 = .ok (.getfield 77, 3) := dAX2_unwilling (40, (.getfield 77, 3)) (List.mem_of_getElem? (i := 24) rfl)
theorem dX2_unwilling_43 : decode cX2_unwilling 43 = .ok (.iload 4, 2) := dAX2_unwilling (43, (.iload 4, 2)) (List.mem_of_getElem? (i := 25) rfl)
theorem dX2_unwilling_45 : decode cX2_unwilling 45 = .ok (.iaload, 1) := dAX2_unwilling (45, (.iaload, 1)) (List.mem_of_getElem? (i := 26) rfl)
theorem dX2_unwilling_46 : decode cX2_unwilling 46 = .ok (.iconst 1, 1) := dAX2_unwilling (46, (.iconst 1, 1)) (List.mem_of_getElem? (i := 27) rfl)
theorem dX2_unwilling_47 : decode cX2_unwilling 47 = .ok (.if_icmp .ne 7, 3) := dAX2_unwilling (47, (.if_icmp .ne 7, 3)) (List.mem_of_getElem? (i := 28) rfl)
theorem dX2_unwilling_50 : decode cX2_unwilling 50 = .ok (.iconst 1, 1) := dAX2_unwilling (50, (.iconst 1, 1)) (List.mem_of_getElem? (i := 29) rfl)
theorem dX2_unwilling_51 : decode cX2_unwilling 51 = .ok (.goto 4, 3) := dAX2_unwilling (51, (.goto 4, 3)) (List.mem_of_getElem? (i := 30) rfl)
theorem dX2_unwilling_54 : decode cX2_unwilling 54 = .ok (.iconst 0, 1) := dAX2_unwilling (54, (.iconst 0, 1)) (List.mem_of_getElem? (i := 31) rfl)
theorem dX2_unwilling_55 : decode cX2_unwilling 55 = .ok (.istore 5, 2) := dAX2_unwilling (55, (.istore 5, 2)) (List.mem_of_getElem? (i := 32) rfl)
theorem dX2_unwilling_57 : decode cX2_unwilling 57 = .ok (.aload_n 0, 1) := dAX2_unwilling (57, (.aload_n 0, 1)) (List.mem_of_getElem? (i := 33) rfl)
theorem dX2_unwilling_58 : decode cX2_unwilling 58 = .ok (.getfield 15, 3) := dAX2_unwilling (58, (.getfield 15, 3)) (List.mem_of_getElem? (i := 34) rfl)
theorem dX2_unwilling_61 : decode cX2_unwilling 61 = .ok (.iload 4, 2) := dAX2_unwilling (61, (.iload 4, 2)) (List.mem_of_getElem? (i := 35) rfl)
theorem dX2_unwilling_63 : decode cX2_unwilling 63 = .ok (.ishr, 1) := dAX2_unwilling (63, (.ishr, 1)) (List.mem_of_getElem? (i := 36) rfl)
theorem dX2_unwilling_64 : decode cX2_unwilling 64 = .ok (.iconst 1, 1) := dAX2_unwilling (64, (.iconst 1, 1)) (List.mem_of_getElem? (i := 37) rfl)
theorem dX2_unwilling_65 : decode cX2_unwilling 65 = .ok (.iand, 1) := dAX2_unwilling (65, (.iand, 1)) (List.mem_of_getElem? (i := 38) rfl)
theorem dX2_unwilling_66 : decode cX2_unwilling 66 = .ok (.iconst 1, 1) := dAX2_unwilling (66, (.iconst 1, 1)) (List.mem_of_getElem? (i := 39) rfl)
theorem dX2_unwilling_67 : decode cX2_unwilling 67 = .ok (.if_icmp .ne 25, 3) := dAX2_unwilling (67, (.if_icmp .ne 25, 3)) (List.mem_of_getElem? (i := 40) rfl)
theorem dX2_unwilling_70 : decode cX2_unwilling 70 = .ok (.aload_n 0, 1) := dAX2_unwilling (70, (.aload_n 0, 1)) (List.mem_of_getElem? (i := 41) rfl)
theorem dX2_unwilling_71 : decode cX2_unwilling 71 = .ok (.getfield 37, 3) := dAX2_unwilling (71, (.getfield 37, 3)) (List.mem_of_getElem? (i := 42) rfl)
theorem dX2_unwilling_74 : decode cX2_unwilling 74 = .ok (.iload 4, 2) := dAX2_unwilling (74, (.iload 4, 2)) (List.mem_of_getElem? (i := 43) rfl)
theorem dX2_unwilling_76 : decode cX2_unwilling 76 = .ok (.iaload, 1) := dAX2_unwilling (76, (.iaload, 1)) (List.mem_of_getElem? (i := 44) rfl)
theorem dX2_unwilling_77 : decode cX2_unwilling 77 = .ok (.ifCond .gt 15, 3) := dAX2_unwilling (77, (.ifCond .gt 15, 3)) (List.mem_of_getElem? (i := 45) rfl)
theorem dX2_unwilling_80 : decode cX2_unwilling 80 = .ok (.iload 5, 2) := dAX2_unwilling (80, (.iload 5, 2)) (List.mem_of_getElem? (i := 46) rfl)
theorem dX2_unwilling_82 : decode cX2_unwilling 82 = .ok (.ifCond .ne 10, 3) := dAX2_unwilling (82, (.ifCond .ne 10, 3)) (List.mem_of_getElem? (i := 47) rfl)
theorem dX2_unwilling_85 : decode cX2_unwilling 85 = .ok (.iload_n 3, 1) := dAX2_unwilling (85, (.iload_n 3, 1)) (List.mem_of_getElem? (i := 48) rfl)
theorem dX2_unwilling_86 : decode cX2_unwilling 86 = .ok (.iconst 1, 1) := dAX2_unwilling (86, (.iconst 1, 1)) (List.mem_of_getElem? (i := 49) rfl)
theorem dX2_unwilling_87 : decode cX2_unwilling 87 = .ok (.iload 4, 2) := dAX2_unwilling (87, (.iload 4, 2)) (List.mem_of_getElem? (i := 50) rfl)
theorem dX2_unwilling_89 : decode cX2_unwilling 89 = .ok (.ishl, 1) := dAX2_unwilling (89, (.ishl, 1)) (List.mem_of_getElem? (i := 51) rfl)
theorem dX2_unwilling_90 : decode cX2_unwilling 90 = .ok (.ior, 1) := dAX2_unwilling (90, (.ior, 1)) (List.mem_of_getElem? (i := 52) rfl)
theorem dX2_unwilling_91 : decode cX2_unwilling 91 = .ok (.istore_n 3, 1) := dAX2_unwilling (91, (.istore_n 3, 1)) (List.mem_of_getElem? (i := 53) rfl)
theorem dX2_unwilling_92 : decode cX2_unwilling 92 = .ok (.iinc 4 1, 3) := dAX2_unwilling (92, (.iinc 4 1, 3)) (List.mem_of_getElem? (i := 54) rfl)
theorem dX2_unwilling_95 : decode cX2_unwilling 95 = .ok (.goto (-69), 3) := dAX2_unwilling (95, (.goto (-69), 3)) (List.mem_of_getElem? (i := 55) rfl)
theorem dX2_unwilling_98 : decode cX2_unwilling 98 = .ok (.iload_n 3, 1) := dAX2_unwilling (98, (.iload_n 3, 1)) (List.mem_of_getElem? (i := 56) rfl)
theorem dX2_unwilling_99 : decode cX2_unwilling 99 = .ok (.ireturn, 1) := dAX2_unwilling (99, (.ireturn, 1)) (List.mem_of_getElem? (i := 57) rfl)
theorem kX2_unwilling_15 : Cond.fieldLink RX2 15 "EveningVow$Night" "there" "I" ∈ wsX2_unwilling := List.mem_of_getElem? (i := 1) rfl
theorem iX2_unwilling_X2 : ∀ w ∈ u_ws RX2 TX2 9, w ∈ wsX2_unwilling := fun w h => (List.mem_cons_of_mem _ (List.mem_append_left _ (List.mem_append_right _ h)))
theorem kX2_unwilling_40 : Cond.fieldLink RX2 40 "EveningVow$House" "guests" "I" ∈ wsX2_unwilling := List.mem_of_getElem? (i := 2) rfl
theorem iX2_unwilling_X1 : ∀ w ∈ u_ws RX1 TX1 17, w ∈ wsX2_unwilling := fun w h => (List.mem_cons_of_mem _ (List.mem_append_right _ h))
theorem kX2_unwilling_37 : Cond.fieldLink RX2 37 "EveningVow$Night" "will" "[I" ∈ wsX2_unwilling := List.mem_of_getElem? (i := 4) rfl
theorem kX2_unwilling_77 : Cond.fieldLink RX2 77 "EveningVow$House" "kind" "[I" ∈ wsX2_unwilling := List.mem_of_getElem? (i := 3) rfl
set_option maxHeartbeats 4000000 in
set_option maxRecDepth 100000 in
theorem wX2_unwilling_L26 {p : Program} {l : Launch} {e : Env} {s : State} {m : MethodId} {args : Array Value} {below : List Frame} {meth : Method} {c : Code} {g : GG} {A : Nat → Prop} (C0 : Cx p s m args meth c cX2_unwilling 6 (some .int) RX2 wsX2_unwilling g A) (a_t : Nat) (a_r1 : Nat) (p_t : Nat → Nat) (p_r1 : Nat → Nat) (n : Nat) (x2 : Int32) (o_t : Nat → Int32) (f_t_8 : Nat → Int32) (o_r1 : Nat → Int32) (f_r1_4 : Nat → Int32)  (r : Int32) (K : Int32 → Option (Int32)) (hKx : ∀ (x3 : Int32) (H : Heap) (locs : List Loc) (ls : Array Slot), K x3 = some (r) → va_P g.1 vwCl [oX2 a_t p_t o_t, aI g (p_t 8) 7 f_t_8, oX1 a_r1 p_r1 o_r1, aI g (p_r1 4) 7 f_r1_4] H → va_D A [oX2 a_t p_t o_t, aI g (p_t 8) 7 f_t_8, oX1 a_r1 p_r1 o_r1, aI g (p_r1 4) 7 f_r1_4] → va_S A s.heap H locs → lv_has ls 6 [(3, .int x3)] → W p l e ({ frames := 0, cells := 0, slots := 0, locals := 0 } : Room) s m args below meth c H locs 0 0 (MQ below (EndI g r [oX2 a_t p_t o_t, aI g (p_t 8) 7 f_t_8, oX1 a_r1 p_r1 o_r1, aI g (p_r1 4) 7 f_r1_4] A) args s 0 0 A) (F0 m 98 ls [])) : ∀ (k : Nat) (x3 : Int32) (x4 : Int32), fX2_unwilling_L26 n x2 o_t f_t_8 o_r1 f_r1_4 K k x3 x4 = some (r) → ∀ (H : Heap) (locs : List Loc) (ls : Array Slot), va_P g.1 vwCl [oX2 a_t p_t o_t, aI g (p_t 8) 7 f_t_8, oX1 a_r1 p_r1 o_r1, aI g (p_r1 4) 7 f_r1_4] H → va_D A [oX2 a_t p_t o_t, aI g (p_t 8) 7 f_t_8, oX1 a_r1 p_r1 o_r1, aI g (p_r1 4) 7 f_r1_4] → va_S A s.heap H locs → lv_has ls 6 [(0, .ref a_t), (1, .ref a_r1), (2, .int x2), (3, .int x3), (4, .int x4)] → W p l e ({ frames := 0, cells := 0, slots := 0, locals := 0 } : Room) s m args below meth c H locs 0 0 (MQ below (EndI g r [oX2 a_t p_t o_t, aI g (p_t 8) 7 f_t_8, oX1 a_r1 p_r1 o_r1, aI g (p_r1 4) 7 f_r1_4] A) args s 0 0 A) (F0 m 26 ls []) := by
  obtain ⟨hx, hb, hml, hown, hts, hr, hlk, hK, hA, hSW⟩ := id C0
  intro k
  induction k with
  | zero =>
    intro x3 x4 hF
    exact absurd hF (by simp [fX2_unwilling_L26])
  | succ k ih =>
    intro x3 x4 hF H locs ls hP hD hS hl
    rw [fX2_unwilling_L26] at hF
    refine lv_iload hx hb dX2_unwilling_26 (lv_at hl 4 rfl) ?_
    refine lv_aload_n hx hb dX2_unwilling_28 rfl (lv_at hl 1 rfl) ?_
    refine va_get (D := g.1) (ci := 1) (v := .int (o_r1 3)) (C := RX1) (T := TX1) (N := 17) hx hb hts iX2_unwilling_X1 hown hK.1 hP 2 rfl rfl 3 (by decide) (hts _ kX2_unwilling_40) (fun _ h9 => h9) rfl dX2_unwilling_29 ?_
    refine lv_icmp_ge (tgt := 98) hx hb dX2_unwilling_32 (by decide) (fun c_2 => ?_) (fun c_2 => ?_)
    · have hF := it_p c_2 hF
      exact hKx x3 _ _ _ hF (hP.sub [0, 1, 2, 3] rfl) (hD.sub [0, 1, 2, 3] rfl rfl) hS (lv_sub hl [3] rfl)
    · have hF := it_n c_2 hF
      refine lv_iload_n hx hb dX2_unwilling_35 rfl (lv_at hl 2 rfl) ?_
      obtain ⟨J55, eJ55, hF⟩ := jn_some hF
      have hJ55 : ∀ (s0_55 : Int32) (H : Heap) (locs : List Loc) (ls : Array Slot), J55 s0_55 = some (r) → va_P g.1 vwCl [oX2 a_t p_t o_t, aI g (p_t 8) 7 f_t_8, oX1 a_r1 p_r1 o_r1, aI g (p_r1 4) 7 f_r1_4] H → va_D A [oX2 a_t p_t o_t, aI g (p_t 8) 7 f_t_8, oX1 a_r1 p_r1 o_r1, aI g (p_r1 4) 7 f_r1_4] → va_S A s.heap H locs → lv_has ls 6 [(0, .ref a_t), (1, .ref a_r1), (2, .int x2), (3, .int x3), (4, .int x4)] → W p l e ({ frames := 0, cells := 0, slots := 0, locals := 0 } : Room) s m args below meth c H locs 0 0 (MQ below (EndI g r [oX2 a_t p_t o_t, aI g (p_t 8) 7 f_t_8, oX1 a_r1 p_r1 o_r1, aI g (p_r1 4) 7 f_r1_4] A) args s 0 0 A) (F0 m 55 ls [.int s0_55]) := by
        intro s0_55 H locs ls hF hP hD hS hl
        have hF := jj1 eJ55 hF
        refine lv_istore (lv' := [(5, .int s0_55), (0, .ref a_t), (1, .ref a_r1), (2, .int x2), (3, .int x3), (4, .int x4)]) hx hb dX2_unwilling_55 hl (by decide) rfl (fun ls hl => ?_)
        refine lv_aload_n hx hb dX2_unwilling_57 rfl (lv_at hl 1 rfl) ?_
        refine va_get (D := g.1) (ci := 2) (v := .int (o_t 1)) (C := RX2) (T := TX2) (N := 9) hx hb hts iX2_unwilling_X2 hown hK.1 hP 0 rfl rfl 1 (by decide) (hts _ kX2_unwilling_15) (fun _ h9 => h9) rfl dX2_unwilling_58 ?_
        refine lv_iload hx hb dX2_unwilling_61 (lv_at hl 5 rfl) ?_
        refine lv_ishr hx hb dX2_unwilling_63 ?_
        refine lv_iconst (v := (1 : Int32)) hx hb dX2_unwilling_64 (by decide) ?_
        refine lv_iand hx hb dX2_unwilling_65 ?_
        refine lv_iconst (v := (1 : Int32)) hx hb dX2_unwilling_66 (by decide) ?_
        refine lv_icmp_ne (tgt := 92) hx hb dX2_unwilling_67 (by decide) (fun c_3 => ?_) (fun c_3 => ?_)
        · have hF := it_n c_3 hF
          refine lv_iinc (v := (x4 + (1 : Int32))) (lv' := [(4, .int (x4 + (1 : Int32))), (5, .int s0_55), (0, .ref a_t), (1, .ref a_r1), (2, .int x2), (3, .int x3)]) hx hb dX2_unwilling_92 hl (k := 5) rfl rfl (by decide) rfl (fun ls hl => ?_)
          refine lv_goto (tgt := 26) hx hb dX2_unwilling_95 (by decide) ?_
          exact ih x3 (x4 + (1 : Int32)) hF _ _ _ (hP.sub [0, 1, 2, 3] rfl) (hD.sub [0, 1, 2, 3] rfl rfl) hS (lv_sub hl [2, 3, 4, 5, 0] rfl)
        · have hF := it_p c_3 hF
          refine lv_aload_n hx hb dX2_unwilling_70 rfl (lv_at hl 1 rfl) ?_
          refine va_get (D := g.1) (ci := 2) (v := .ref (p_t 8)) (C := RX2) (T := TX2) (N := 9) hx hb hts iX2_unwilling_X2 hown hK.1 hP 0 rfl rfl 8 (by decide) (hts _ kX2_unwilling_37) (fun _ h9 => h9) rfl dX2_unwilling_71 ?_
          refine lv_iload hx hb dX2_unwilling_74 (lv_at hl 5 rfl) ?_
          obtain ⟨h_4, hF⟩ := it_ck hF
          refine va_iald hx hb hK.1 hP 1 0 rfl rfl h_4 dX2_unwilling_76 ?_
          refine lv_if_gt (tgt := 92) hx hb dX2_unwilling_77 (by decide) (fun c_5 => ?_) (fun c_5 => ?_)
          · have hF := it_p c_5 hF
            refine lv_iinc (v := (x4 + (1 : Int32))) (lv' := [(4, .int (x4 + (1 : Int32))), (5, .int s0_55), (0, .ref a_t), (1, .ref a_r1), (2, .int x2), (3, .int x3)]) hx hb dX2_unwilling_92 hl (k := 5) rfl rfl (by decide) rfl (fun ls hl => ?_)
            refine lv_goto (tgt := 26) hx hb dX2_unwilling_95 (by decide) ?_
            exact ih x3 (x4 + (1 : Int32)) hF _ _ _ (hP.sub [0, 1, 2, 3] rfl) (hD.sub [0, 1, 2, 3] rfl rfl) hS (lv_sub hl [2, 3, 4, 5, 0] rfl)
          · have hF := it_n c_5 hF
            refine lv_iload hx hb dX2_unwilling_80 (lv_at hl 0 rfl) ?_
            refine lv_if_ne (tgt := 92) hx hb dX2_unwilling_82 (by decide) (fun c_6 => ?_) (fun c_6 => ?_)
            · have hF := it_n c_6 hF
              refine lv_iinc (v := (x4 + (1 : Int32))) (lv' := [(4, .int (x4 + (1 : Int32))), (5, .int s0_55), (0, .ref a_t), (1, .ref a_r1), (2, .int x2), (3, .int x3)]) hx hb dX2_unwilling_92 hl (k := 5) rfl rfl (by decide) rfl (fun ls hl => ?_)
              refine lv_goto (tgt := 26) hx hb dX2_unwilling_95 (by decide) ?_
              exact ih x3 (x4 + (1 : Int32)) hF _ _ _ (hP.sub [0, 1, 2, 3] rfl) (hD.sub [0, 1, 2, 3] rfl rfl) hS (lv_sub hl [2, 3, 4, 5, 0] rfl)
            · have hF := it_p c_6 hF
              refine lv_iload_n hx hb dX2_unwilling_85 rfl (lv_at hl 4 rfl) ?_
              refine lv_iconst (v := (1 : Int32)) hx hb dX2_unwilling_86 (by decide) ?_
              refine lv_iload hx hb dX2_unwilling_87 (lv_at hl 5 rfl) ?_
              refine lv_ishl hx hb dX2_unwilling_89 ?_
              refine lv_ior hx hb dX2_unwilling_90 ?_
              refine lv_istore_n (lv' := [(3, .int (x3 ||| ((1 : Int32) <<< (x4 &&& 31)))), (5, .int s0_55), (0, .ref a_t), (1, .ref a_r1), (2, .int x2), (4, .int x4)]) hx hb dX2_unwilling_91 rfl hl (by decide) rfl (fun ls hl => ?_)
              refine lv_iinc (v := (x4 + (1 : Int32))) (lv' := [(4, .int (x4 + (1 : Int32))), (3, .int (x3 ||| ((1 : Int32) <<< (x4 &&& 31)))), (5, .int s0_55), (0, .ref a_t), (1, .ref a_r1), (2, .int x2)]) hx hb dX2_unwilling_92 hl (k := 5) rfl rfl (by decide) rfl (fun ls hl => ?_)
              refine lv_goto (tgt := 26) hx hb dX2_unwilling_95 (by decide) ?_
              exact ih (x3 ||| ((1 : Int32) <<< (x4 &&& 31))) (x4 + (1 : Int32)) hF _ _ _ (hP.sub [0, 1, 2, 3] rfl) (hD.sub [0, 1, 2, 3] rfl rfl) hS (lv_sub hl [3, 4, 5, 1, 0] rfl)
      refine lv_if_eq (tgt := 54) hx hb dX2_unwilling_36 (by decide) (fun c_7 => ?_) (fun c_7 => ?_)
      · have hF := it_p c_7 hF
        refine lv_iconst (v := (0 : Int32)) hx hb dX2_unwilling_54 (by decide) ?_
        exact hJ55 (0 : Int32) _ _ _ hF (hP.sub [0, 1, 2, 3] rfl) (hD.sub [0, 1, 2, 3] rfl rfl) hS (lv_sub hl [0, 1, 2, 3, 4] rfl)
      · have hF := it_n c_7 hF
        refine lv_aload_n hx hb dX2_unwilling_39 rfl (lv_at hl 1 rfl) ?_
        refine va_get (D := g.1) (ci := 1) (v := .ref (p_r1 4)) (C := RX1) (T := TX1) (N := 17) hx hb hts iX2_unwilling_X1 hown hK.1 hP 2 rfl rfl 4 (by decide) (hts _ kX2_unwilling_77) (fun _ h9 => h9) rfl dX2_unwilling_40 ?_
        refine lv_iload hx hb dX2_unwilling_43 (lv_at hl 4 rfl) ?_
        obtain ⟨h_8, hF⟩ := it_ck hF
        refine va_iald hx hb hK.1 hP 3 0 rfl rfl h_8 dX2_unwilling_45 ?_
        refine lv_iconst (v := (1 : Int32)) hx hb dX2_unwilling_46 (by decide) ?_
        refine lv_icmp_ne (tgt := 54) hx hb dX2_unwilling_47 (by decide) (fun c_9 => ?_) (fun c_9 => ?_)
        · have hF := it_n c_9 hF
          refine lv_iconst (v := (0 : Int32)) hx hb dX2_unwilling_54 (by decide) ?_
          exact hJ55 (0 : Int32) _ _ _ hF (hP.sub [0, 1, 2, 3] rfl) (hD.sub [0, 1, 2, 3] rfl rfl) hS (lv_sub hl [0, 1, 2, 3, 4] rfl)
        · have hF := it_p c_9 hF
          refine lv_iconst (v := (1 : Int32)) hx hb dX2_unwilling_50 (by decide) ?_
          refine lv_goto (tgt := 55) hx hb dX2_unwilling_51 (by decide) ?_
          exact hJ55 (1 : Int32) _ _ _ hF (hP.sub [0, 1, 2, 3] rfl) (hD.sub [0, 1, 2, 3] rfl rfl) hS (lv_sub hl [0, 1, 2, 3, 4] rfl)
set_option maxHeartbeats 4000000 in
set_option maxRecDepth 100000 in
theorem mX2_unwilling (l : Launch) (g : GG) (a_t : Nat) (a_r1 : Nat) (p_t : Nat → Nat) (p_r1 : Nat → Nat) (n : Nat) (o_t : Nat → Int32) (f_t_8 : Nat → Int32) (o_r1 : Nat → Int32) (f_r1_4 : Nat → Int32) (r : Int32) (hF : fX2_unwilling n o_t f_t_8 o_r1 f_r1_4 = some (r)) : MI l g yX2_unwilling wsX2_unwilling ({ frames := 0, cells := 0, slots := 0, locals := 0 } : Room) [.ref a_t, .ref a_r1] [oX2 a_t p_t o_t, aI g (p_t 8) 7 f_t_8, oX1 a_r1 p_r1 o_r1, aI g (p_r1 4) 7 f_r1_4] r [oX2 a_t p_t o_t, aI g (p_t 8) 7 f_t_8, oX1 a_r1 p_r1 o_r1, aI g (p_r1 4) 7 f_r1_4] := by
  refine MI.of (cc := cX2_unwilling) (maxL := 6) (rt := .int) (own := RX2) rfl rfl (by decide) (Nat.le_of_ble_eq_true rfl) ?_
  intro p e s m args below meth c A C0 hP hD hS ls hl
  obtain ⟨hx, hb, hml, hown, hts, hr, hlk, hK, hA, hSW⟩ := id C0
  have hl : lv_has ls 6 [(0, .ref a_t), (1, .ref a_r1)] := hl
  rw [fX2_unwilling] at hF
  refine lv_aload_n hx hb dX2_unwilling_0 rfl (lv_at hl 0 rfl) ?_
  refine va_get (D := g.1) (ci := 2) (v := .int (o_t 1)) (C := RX2) (T := TX2) (N := 9) hx hb hts iX2_unwilling_X2 hown hK.1 hP 0 rfl rfl 1 (by decide) (hts _ kX2_unwilling_15) (fun _ h9 => h9) rfl dX2_unwilling_1 ?_
  refine lv_iconst (v := (1 : Int32)) hx hb dX2_unwilling_4 (by decide) ?_
  refine lv_aload_n hx hb dX2_unwilling_5 rfl (lv_at hl 1 rfl) ?_
  refine va_get (D := g.1) (ci := 1) (v := .int (o_r1 3)) (C := RX1) (T := TX1) (N := 17) hx hb hts iX2_unwilling_X1 hown hK.1 hP 2 rfl rfl 3 (by decide) (hts _ kX2_unwilling_40) (fun _ h9 => h9) rfl dX2_unwilling_6 ?_
  refine lv_ishl hx hb dX2_unwilling_9 ?_
  refine lv_iconst (v := (1 : Int32)) hx hb dX2_unwilling_10 (by decide) ?_
  refine lv_isub hx hb dX2_unwilling_11 ?_
  refine lv_icmp_ne (tgt := 19) hx hb dX2_unwilling_12 (by decide) (fun c_1 => ?_) (fun c_1 => ?_)
  · have hF := it_n c_1 hF
    refine lv_iconst (v := (0 : Int32)) hx hb dX2_unwilling_19 (by decide) ?_
    refine lv_istore_n (lv' := [(2, .int (0 : Int32)), (0, .ref a_t), (1, .ref a_r1)]) hx hb dX2_unwilling_20 rfl hl (by decide) rfl (fun ls hl => ?_)
    refine lv_iconst (v := (0 : Int32)) hx hb dX2_unwilling_21 (by decide) ?_
    refine lv_istore_n (lv' := [(3, .int (0 : Int32)), (2, .int (0 : Int32)), (0, .ref a_t), (1, .ref a_r1)]) hx hb dX2_unwilling_22 rfl hl (by decide) rfl (fun ls hl => ?_)
    refine lv_iconst (v := (0 : Int32)) hx hb dX2_unwilling_23 (by decide) ?_
    refine lv_istore (lv' := [(4, .int (0 : Int32)), (3, .int (0 : Int32)), (2, .int (0 : Int32)), (0, .ref a_t), (1, .ref a_r1)]) hx hb dX2_unwilling_24 hl (by decide) rfl (fun ls hl => ?_)
    refine wX2_unwilling_L26 C0 a_t a_r1 p_t p_r1 n (0 : Int32) o_t f_t_8 o_r1 f_r1_4 r _ ?_ n (0 : Int32) (0 : Int32) hF _ _ _ (hP.sub [0, 1, 2, 3] rfl) (hD.sub [0, 1, 2, 3] rfl rfl) hS (lv_sub hl [3, 4, 2, 1, 0] rfl)
    · intro x3_x26 H locs ls hF hP hD hS hl
      refine lv_iload_n hx hb dX2_unwilling_98 rfl (lv_at hl 0 rfl) ?_
      cases hF
      exact ret_i C0 hP hD hS [0, 1, 2, 3] rfl rfl rfl dX2_unwilling_99 rfl
  · have hF := it_p c_1 hF
    refine lv_iconst (v := (1 : Int32)) hx hb dX2_unwilling_15 (by decide) ?_
    refine lv_goto (tgt := 20) hx hb dX2_unwilling_16 (by decide) ?_
    refine lv_istore_n (lv' := [(2, .int (1 : Int32)), (0, .ref a_t), (1, .ref a_r1)]) hx hb dX2_unwilling_20 rfl hl (by decide) rfl (fun ls hl => ?_)
    refine lv_iconst (v := (0 : Int32)) hx hb dX2_unwilling_21 (by decide) ?_
    refine lv_istore_n (lv' := [(3, .int (0 : Int32)), (2, .int (1 : Int32)), (0, .ref a_t), (1, .ref a_r1)]) hx hb dX2_unwilling_22 rfl hl (by decide) rfl (fun ls hl => ?_)
    refine lv_iconst (v := (0 : Int32)) hx hb dX2_unwilling_23 (by decide) ?_
    refine lv_istore (lv' := [(4, .int (0 : Int32)), (3, .int (0 : Int32)), (2, .int (1 : Int32)), (0, .ref a_t), (1, .ref a_r1)]) hx hb dX2_unwilling_24 hl (by decide) rfl (fun ls hl => ?_)
    refine wX2_unwilling_L26 C0 a_t a_r1 p_t p_r1 n (1 : Int32) o_t f_t_8 o_r1 f_r1_4 r _ ?_ n (0 : Int32) (0 : Int32) hF _ _ _ (hP.sub [0, 1, 2, 3] rfl) (hD.sub [0, 1, 2, 3] rfl rfl) hS (lv_sub hl [3, 4, 2, 1, 0] rfl)
    · intro x3_x26 H locs ls hF hP hD hS hl
      refine lv_iload_n hx hb dX2_unwilling_98 rfl (lv_at hl 0 rfl) ?_
      cases hF
      exact ret_i C0 hP hD hS [0, 1, 2, 3] rfl rfl rfl dX2_unwilling_99 rfl

theorem dAX2_release : ∀ q ∈ ([(0, (.aload_n 0, 1)), (1, (.dup, 1)), (2, (.getfield 15, 3)), (5, (.iload_n 2, 1)), (6, (.iconst (-1), 1)), (7, (.ixor, 1)), (8, (.iand, 1)), (9, (.putfield 15, 3)), (12, (.iconst 0, 1)), (13, (.istore_n 3, 1)), (14, (.iload_n 3, 1)), (15, (.aload_n 1, 1)), (16, (.getfield 40, 3)), (19, (.if_icmp .ge 77, 3)), (22, (.iload_n 2, 1)), (23, (.iload_n 3, 1)), (24, (.ishr, 1)), (25, (.iconst 1, 1)), (26, (.iand, 1)), (27, (.iconst 1, 1)), (28, (.if_icmp .ne 62, 3)), (31, (.aload_n 0, 1)), (32, (.getfield 34, 3)), (35, (.iload_n 3, 1)), (36, (.aload_n 0, 1)), (37, (.getfield 9, 3)), (40, (.iastore, 1)), (41, (.aload_n 1, 1)), (42, (.getfield 80, 3)), (45, (.iload_n 3, 1)), (46, (.iaload, 1)), (47, (.istore 4, 2)), (49, (.iload 4, 2)), (51, (.ifCond .lt 39, 3)), (54, (.iload 4, 2)), (56, (.aload_n 1, 1)), (57, (.getfield 40, 3)), (60, (.if_icmp .ge 30, 3)), (63, (.aload_n 0, 1)), (64, (.getfield 15, 3)), (67, (.iload 4, 2)), (69, (.ishr, 1)), (70, (.iconst 1, 1)), (71, (.iand, 1)), (72, (.iconst 1, 1)), (73, (.if_icmp .ne 17, 3)), (76, (.aload_n 0, 1)), (77, (.getfield 30, 3)), (80, (.iload 4, 2)), (82, (.dup2, 1)), (83, (.iaload, 1)), (84, (.aload_n 1, 1)), (85, (.getfield 83, 3)), (88, (.isub, 1)), (89, (.iastore, 1)), (90, (.iinc 3 1, 3)), (93, (.goto (-79), 3)), (96, (.return_, 1))] : List (Nat × (Instr × Nat))), decode cX2_release q.1 = .ok q.2 := by decide +kernel
theorem dX2_release_0 : decode cX2_release 0 = .ok (.aload_n 0, 1) := dAX2_release (0, (.aload_n 0, 1)) (List.mem_of_getElem? (i := 0) rfl)
theorem dX2_release_1 : decode cX2_release 1 = .ok (.dup, 1) := dAX2_release (1, (.dup, 1)) (List.mem_of_getElem? (i := 1) rfl)
theorem dX2_release_2 : decode cX2_release 2 = .ok (.getfield 15, 3) := dAX2_release (2, (.getfield 15, 3)) (List.mem_of_getElem? (i := 2) rfl)
theorem dX2_release_5 : decode cX2_release 5 = .ok (.iload_n 2, 1) := dAX2_release (5, (.iload_n 2, 1)) (List.mem_of_getElem? (i := 3) rfl)
theorem dX2_release_6 : decode cX2_release 6 = .ok (.iconst (-1), 1) := dAX2_release (6, (.iconst (-1), 1)) (List.mem_of_getElem? (i := 4) rfl)
theorem dX2_release_7 : decode cX2_release 7 = .ok (.ixor, 1) := dAX2_release (7, (.ixor, 1)) (List.mem_of_getElem? (i := 5) rfl)
theorem dX2_release_8 : decode cX2_release 8 = .ok (.iand, 1) := dAX2_release (8, (.iand, 1)) (List.mem_of_getElem? (i := 6) rfl)
theorem dX2_release_9 : decode cX2_release 9 = .ok (.putfield 15, 3) := dAX2_release (9, (.putfield 15, 3)) (List.mem_of_getElem? (i := 7) rfl)
theorem dX2_release_12 : decode cX2_release 12 = .ok (.iconst 0, 1) := dAX2_release (12, (.iconst 0, 1)) (List.mem_of_getElem? (i := 8) rfl)
theorem dX2_release_13 : decode cX2_release 13 = .ok (.istore_n 3, 1) := dAX2_release (13, (.istore_n 3, 1)) (List.mem_of_getElem? (i := 9) rfl)
theorem dX2_release_14 : decode cX2_release 14 = .ok (.iload_n 3, 1) := dAX2_release (14, (.iload_n 3, 1)) (List.mem_of_getElem? (i := 10) rfl)
theorem dX2_release_15 : decode cX2_release 15 = .ok (.aload_n 1, 1) := dAX2_release (15, (.aload_n 1, 1)) (List.mem_of_getElem? (i := 11) rfl)
theorem dX2_release_16 : decode cX2_release 16 = .ok (.getfield 40, 3) := dAX2_release (16, (.getfield 40, 3)) (List.mem_of_getElem? (i := 12) rfl)
theorem dX2_release_19 : decode cX2_release 19 = .ok (.if_icmp .ge 77, 3) := dAX2_release (19, (.if_icmp .ge 77, 3)) (List.mem_of_getElem? (i := 13) rfl)
theorem dX2_release_22 : decode cX2_release 22 = .ok (.iload_n 2, 1) := dAX2_release (22, (.iload_n 2, 1)) (List.mem_of_getElem? (i := 14) rfl)
theorem dX2_release_23 : decode cX2_release 23 = .ok (.iload_n 3, 1) := dAX2_release (23, (.iload_n 3, 1)) (List.mem_of_getElem? (i := 15) rfl)
theorem dX2_release_24 : decode cX2_release 24 = .ok (.ishr, 1) := dAX2_release (24, (.ishr, 1)) (List.mem_of_getElem? (i := 16) rfl)
theorem dX2_release_25 : decode cX2_release 25 = .ok (.iconst 1, 1) := dAX2_release (25, (.iconst 1, 1)) (List.mem_of_getElem? (i := 17) rfl)
theorem dX2_release_26 : decode cX2_release 26 = .ok (.iand, 1) := dAX2_release (26, (.iand, 1)) (List.mem_of_getElem? (i := 18) rfl)
theorem dX2_release_27 : decode cX2_release 27 = .ok (.iconst 1, 1) := dAX2_release (27, (.iconst 1, 1)) (List.mem_of_getElem? (i := 19) rfl)
theorem dX2_release_28 : decode cX2_release 28 = .ok (.if_icmp .ne 62, 3) := dAX2_release (28, (.if_icmp .ne 62, 3)) (List.mem_of_getElem? (i := 20) rfl)
theorem dX2_release_31 : decode cX2_release 31 = .ok (.aload_n 0, 1) := dAX2_release (31, (.aload_n 0, 1)) (List.mem_of_getElem? (i := 21) rfl)
theorem dX2_release_32 : decode cX2_release 32 = .ok (.getfield 34, 3) := dAX2_release (32, (.getfield 34, 3)) (List.mem_of_getElem? (i := 22) rfl)
theorem dX2_release_35 : decode cX2_release 35 = .ok (.iload_n 3, 1) := dAX2_release (35, (.iload_n 3, 1)) (List.mem_of_getElem? (i := 23) rfl)
theorem dX2_release_36 : decode cX2_release 36 = .ok (.aload_n 0, 1) := dAX2_release (36, (.aload_n 0, 1)) (List.mem_of_getElem? (i := 24) rfl)
theorem dX2_release_37 : decode cX2_release 37 = .ok (.getfield 9, 3) := dAX2_release (37, (.getfield 9, 3)) (List.mem_of_getElem? (i := 25) rfl)
theorem dX2_release_40 : decode cX2_release 40 = .ok (.iastore, 1) := dAX2_release (40, (.iastore, 1)) (List.mem_of_getElem? (i := 26) rfl)
theorem dX2_release_41 : decode cX2_release 41 = .ok (.aload_n 1, 1) := dAX2_release (41, (.aload_n 1, 1)) (List.mem_of_getElem? (i := 27) rfl)
theorem dX2_release_42 : decode cX2_release 42 = .ok (.getfield 80, 3) := dAX2_release (42, (.getfield 80, 3)) (List.mem_of_getElem? (i := 28) rfl)
theorem dX2_release_45 : decode cX2_release 45 = .ok (.iload_n 3, 1) := dAX2_release (45, (.iload_n 3, 1)) (List.mem_of_getElem? (i := 29) rfl)
theorem dX2_release_46 : decode cX2_release 46 = .ok (.iaload, 1) := dAX2_release (46, (.iaload, 1)) (List.mem_of_getElem? (i := 30) rfl)
theorem dX2_release_47 : decode cX2_release 47 = .ok (.istore 4, 2) := dAX2_release (47, (.istore 4, 2)) (List.mem_of_getElem? (i := 31) rfl)
theorem dX2_release_49 : decode cX2_release 49 = .ok (.iload 4, 2) := dAX2_release (49, (.iload 4, 2)) (List.mem_of_getElem? (i := 32) rfl)
theorem dX2_release_51 : decode cX2_release 51 = .ok (.ifCond .lt 39, 3) := dAX2_release (51, (.ifCond .lt 39, 3)) (List.mem_of_getElem? (i := 33) rfl)
theorem dX2_release_54 : decode cX2_release 54 = .ok (.iload 4, 2) := dAX2_release (54, (.iload 4, 2)) (List.mem_of_getElem? (i := 34) rfl)
theorem dX2_release_56 : decode cX2_release 56 = .ok (.aload_n 1, 1) := dAX2_release (56, (.aload_n 1, 1)) (List.mem_of_getElem? (i := 35) rfl)
theorem dX2_release_57 : decode cX2_release 57 = .ok (.getfield 40, 3) := dAX2_release (57, (.getfield 40, 3)) (List.mem_of_getElem? (i := 36) rfl)
theorem dX2_release_60 : decode cX2_release 60 = .ok (.if_icmp .ge 30, 3) := dAX2_release (60, (.if_icmp .ge 30, 3)) (List.mem_of_getElem? (i := 37) rfl)
theorem dX2_release_63 : decode cX2_release 63 = .ok (.aload_n 0, 1) := dAX2_release (63, (.aload_n 0, 1)) (List.mem_of_getElem? (i := 38) rfl)
theorem dX2_release_64 : decode cX2_release 64 = .ok (.getfield 15, 3) := dAX2_release (64, (.getfield 15, 3)) (List.mem_of_getElem? (i := 39) rfl)
theorem dX2_release_67 : decode cX2_release 67 = .ok (.iload 4, 2) := dAX2_release (67, (.iload 4, 2)) (List.mem_of_getElem? (i := 40) rfl)
theorem dX2_release_69 : decode cX2_release 69 = .ok (.ishr, 1) := dAX2_release (69, (.ishr, 1)) (List.mem_of_getElem? (i := 41) rfl)
theorem dX2_release_70 : decode cX2_release 70 = .ok (.iconst 1, 1) := dAX2_release (70, (.iconst 1, 1)) (List.mem_of_getElem? (i := 42) rfl)
theorem dX2_release_71 : decode cX2_release 71 = .ok (.iand, 1) := dAX2_release (71, (.iand, 1)) (List.mem_of_getElem? (i := 43) rfl)
theorem dX2_release_72 : decode cX2_release 72 = .ok (.iconst 1, 1) := dAX2_release (72, (.iconst 1, 1)) (List.mem_of_getElem? (i := 44) rfl)
theorem dX2_release_73 : decode cX2_release 73 = .ok (.if_icmp .ne 17, 3) := dAX2_release (73, (.if_icmp .ne 17, 3)) (List.mem_of_getElem? (i := 45) rfl)
theorem dX2_release_76 : decode cX2_release 76 = .ok (.aload_n 0, 1) := dAX2_release (76, (.aload_n 0, 1)) (List.mem_of_getElem? (i := 46) rfl)
theorem dX2_release_77 : decode cX2_release 77 = .ok (.getfield 30, 3) := dAX2_release (77, (.getfield 30, 3)) (List.mem_of_getElem? (i := 47) rfl)
theorem dX2_release_80 : decode cX2_release 80 = .ok (.iload 4, 2) := dAX2_release (80, (.iload 4, 2)) (List.mem_of_getElem? (i := 48) rfl)
theorem dX2_release_82 : decode cX2_release 82 = .ok (.dup2, 1) := dAX2_release (82, (.dup2, 1)) (List.mem_of_getElem? (i := 49) rfl)
theorem dX2_release_83 : decode cX2_release 83 = .ok (.iaload, 1) := dAX2_release (83, (.iaload, 1)) (List.mem_of_getElem? (i := 50) rfl)
theorem dX2_release_84 : decode cX2_release 84 = .ok (.aload_n 1, 1) := dAX2_release (84, (.aload_n 1, 1)) (List.mem_of_getElem? (i := 51) rfl)
theorem dX2_release_85 : decode cX2_release 85 = .ok (.getfield 83, 3) := dAX2_release (85, (.getfield 83, 3)) (List.mem_of_getElem? (i := 52) rfl)
theorem dX2_release_88 : decode cX2_release 88 = .ok (.isub, 1) := dAX2_release (88, (.isub, 1)) (List.mem_of_getElem? (i := 53) rfl)
theorem dX2_release_89 : decode cX2_release 89 = .ok (.iastore, 1) := dAX2_release (89, (.iastore, 1)) (List.mem_of_getElem? (i := 54) rfl)
theorem dX2_release_90 : decode cX2_release 90 = .ok (.iinc 3 1, 3) := dAX2_release (90, (.iinc 3 1, 3)) (List.mem_of_getElem? (i := 55) rfl)
theorem dX2_release_93 : decode cX2_release 93 = .ok (.goto (-79), 3) := dAX2_release (93, (.goto (-79), 3)) (List.mem_of_getElem? (i := 56) rfl)
theorem dX2_release_96 : decode cX2_release 96 = .ok (.return_, 1) := dAX2_release (96, (.return_, 1)) (List.mem_of_getElem? (i := 57) rfl)
theorem kX2_release_15 : Cond.fieldLink RX2 15 "EveningVow$Night" "there" "I" ∈ wsX2_release := List.mem_of_getElem? (i := 1) rfl
theorem iX2_release_X2 : ∀ w ∈ u_ws RX2 TX2 9, w ∈ wsX2_release := fun w h => (List.mem_cons_of_mem _ (List.mem_append_left _ (List.mem_append_right _ h)))
theorem kX2_release_40 : Cond.fieldLink RX2 40 "EveningVow$House" "guests" "I" ∈ wsX2_release := List.mem_of_getElem? (i := 2) rfl
theorem iX2_release_X1 : ∀ w ∈ u_ws RX1 TX1 17, w ∈ wsX2_release := fun w h => (List.mem_cons_of_mem _ (List.mem_append_right _ h))
theorem kX2_release_34 : Cond.fieldLink RX2 34 "EveningVow$Night" "leftAt" "[I" ∈ wsX2_release := List.mem_of_getElem? (i := 3) rfl
theorem kX2_release_9 : Cond.fieldLink RX2 9 "EveningVow$Night" "clock" "I" ∈ wsX2_release := List.mem_of_getElem? (i := 4) rfl
theorem kX2_release_80 : Cond.fieldLink RX2 80 "EveningVow$House" "mate" "[I" ∈ wsX2_release := List.mem_of_getElem? (i := 5) rfl
theorem kX2_release_30 : Cond.fieldLink RX2 30 "EveningVow$Night" "want" "[I" ∈ wsX2_release := List.mem_of_getElem? (i := 6) rfl
theorem kX2_release_83 : Cond.fieldLink RX2 83 "EveningVow$House" "grief" "I" ∈ wsX2_release := List.mem_of_getElem? (i := 7) rfl
set_option maxHeartbeats 4000000 in
set_option maxRecDepth 100000 in
theorem wX2_release_L14 {p : Program} {l : Launch} {e : Env} {s : State} {m : MethodId} {args : Array Value} {below : List Frame} {meth : Method} {c : Code} {g : GG} {A : Nat → Prop} (C0 : Cx p s m args meth c cX2_release 5 none RX2 wsX2_release g A) (a_t : Nat) (a_r1 : Nat) (p_t : Nat → Nat) (p_r1 : Nat → Nat) (n : Nat) (x2 : Int32) (o_t : Nat → Int32) (o_r1 : Nat → Int32) (f_r1_7 : Nat → Int32)  (o_t' : Nat → Int32) (f_t_6' : Nat → Int32) (f_t_7' : Nat → Int32) (K : (Nat → Int32) → (Nat → Int32) → Option ((Nat → Int32) × (Nat → Int32) × (Nat → Int32))) (hKx : ∀ (f_t_6 : Nat → Int32) (f_t_7 : Nat → Int32) (H : Heap) (locs : List Loc) (ls : Array Slot), K f_t_6 f_t_7 = some (o_t', f_t_6', f_t_7') → va_P g.1 vwCl [oX2 a_t p_t o_t, aI g (p_t 6) 7 f_t_6, aI g (p_t 7) 7 f_t_7, oX1 a_r1 p_r1 o_r1, aI g (p_r1 7) 7 f_r1_7] H → va_D A [oX2 a_t p_t o_t, aI g (p_t 6) 7 f_t_6, aI g (p_t 7) 7 f_t_7, oX1 a_r1 p_r1 o_r1, aI g (p_r1 7) 7 f_r1_7] → va_S A s.heap H locs → lv_has ls 5 [] → W p l e ({ frames := 0, cells := 0, slots := 0, locals := 0 } : Room) s m args below meth c H locs 0 0 (MQ below (EndV g [oX2 a_t p_t o_t', aI g (p_t 6) 7 f_t_6', aI g (p_t 7) 7 f_t_7', oX1 a_r1 p_r1 o_r1, aI g (p_r1 7) 7 f_r1_7] A) args s 0 0 A) (F0 m 96 ls [])) : ∀ (k : Nat) (x3 : Int32) (f_t_6 : Nat → Int32) (f_t_7 : Nat → Int32), fX2_release_L14 n x2 o_t o_r1 f_r1_7 K k x3 f_t_6 f_t_7 = some (o_t', f_t_6', f_t_7') → ∀ (H : Heap) (locs : List Loc) (ls : Array Slot), va_P g.1 vwCl [oX2 a_t p_t o_t, aI g (p_t 6) 7 f_t_6, aI g (p_t 7) 7 f_t_7, oX1 a_r1 p_r1 o_r1, aI g (p_r1 7) 7 f_r1_7] H → va_D A [oX2 a_t p_t o_t, aI g (p_t 6) 7 f_t_6, aI g (p_t 7) 7 f_t_7, oX1 a_r1 p_r1 o_r1, aI g (p_r1 7) 7 f_r1_7] → va_S A s.heap H locs → lv_has ls 5 [(0, .ref a_t), (1, .ref a_r1), (2, .int x2), (3, .int x3)] → W p l e ({ frames := 0, cells := 0, slots := 0, locals := 0 } : Room) s m args below meth c H locs 0 0 (MQ below (EndV g [oX2 a_t p_t o_t', aI g (p_t 6) 7 f_t_6', aI g (p_t 7) 7 f_t_7', oX1 a_r1 p_r1 o_r1, aI g (p_r1 7) 7 f_r1_7] A) args s 0 0 A) (F0 m 14 ls []) := by
  obtain ⟨hx, hb, hml, hown, hts, hr, hlk, hK, hA, hSW⟩ := id C0
  intro k
  induction k with
  | zero =>
    intro x3 f_t_6 f_t_7 hF
    exact absurd hF (by simp [fX2_release_L14])
  | succ k ih =>
    intro x3 f_t_6 f_t_7 hF H locs ls hP hD hS hl
    rw [fX2_release_L14] at hF
    refine lv_iload_n hx hb dX2_release_14 rfl (lv_at hl 3 rfl) ?_
    refine lv_aload_n hx hb dX2_release_15 rfl (lv_at hl 1 rfl) ?_
    refine va_get (D := g.1) (ci := 1) (v := .int (o_r1 3)) (C := RX1) (T := TX1) (N := 17) hx hb hts iX2_release_X1 hown hK.1 hP 3 rfl rfl 3 (by decide) (hts _ kX2_release_40) (fun _ h9 => h9) rfl dX2_release_16 ?_
    refine lv_icmp_ge (tgt := 96) hx hb dX2_release_19 (by decide) (fun c_1 => ?_) (fun c_1 => ?_)
    · have hF := it_p c_1 hF
      exact hKx f_t_6 f_t_7 _ _ _ hF (hP.sub [0, 1, 2, 3, 4] rfl) (hD.sub [0, 1, 2, 3, 4] rfl rfl) hS (lv_sub hl [] rfl)
    · have hF := it_n c_1 hF
      refine lv_iload_n hx hb dX2_release_22 rfl (lv_at hl 2 rfl) ?_
      refine lv_iload_n hx hb dX2_release_23 rfl (lv_at hl 3 rfl) ?_
      refine lv_ishr hx hb dX2_release_24 ?_
      refine lv_iconst (v := (1 : Int32)) hx hb dX2_release_25 (by decide) ?_
      refine lv_iand hx hb dX2_release_26 ?_
      refine lv_iconst (v := (1 : Int32)) hx hb dX2_release_27 (by decide) ?_
      refine lv_icmp_ne (tgt := 90) hx hb dX2_release_28 (by decide) (fun c_2 => ?_) (fun c_2 => ?_)
      · have hF := it_n c_2 hF
        refine lv_iinc (v := (x3 + (1 : Int32))) (lv' := [(3, .int (x3 + (1 : Int32))), (0, .ref a_t), (1, .ref a_r1), (2, .int x2)]) hx hb dX2_release_90 hl (k := 3) rfl rfl (by decide) rfl (fun ls hl => ?_)
        refine lv_goto (tgt := 14) hx hb dX2_release_93 (by decide) ?_
        exact ih (x3 + (1 : Int32)) f_t_6 f_t_7 hF _ _ _ (hP.sub [0, 1, 2, 3, 4] rfl) (hD.sub [0, 1, 2, 3, 4] rfl rfl) hS (lv_sub hl [1, 2, 3, 0] rfl)
      · have hF := it_p c_2 hF
        refine lv_aload_n hx hb dX2_release_31 rfl (lv_at hl 0 rfl) ?_
        refine va_get (D := g.1) (ci := 2) (v := .ref (p_t 7)) (C := RX2) (T := TX2) (N := 9) hx hb hts iX2_release_X2 hown hK.1 hP 0 rfl rfl 7 (by decide) (hts _ kX2_release_34) (fun _ h9 => h9) rfl dX2_release_32 ?_
        refine lv_iload_n hx hb dX2_release_35 rfl (lv_at hl 3 rfl) ?_
        refine lv_aload_n hx hb dX2_release_36 rfl (lv_at hl 0 rfl) ?_
        refine va_get (D := g.1) (ci := 2) (v := .int (o_t 0)) (C := RX2) (T := TX2) (N := 9) hx hb hts iX2_release_X2 hown hK.1 hP 0 rfl rfl 0 (by decide) (hts _ kX2_release_9) (fun _ h9 => h9) rfl dX2_release_37 ?_
        obtain ⟨h_3, hF⟩ := it_ck hF
        refine va_iast hx hb hK.1 hP hD hS 2 0 rfl rfl h_3 dX2_release_40 (fun H locs hP hD hS => ?_)
        have hP : va_P g.1 vwCl [oX2 a_t p_t o_t, aI g (p_t 6) 7 f_t_6, aI g (p_t 7) 7 (upd f_t_7 (x3).toNatClampNeg (o_t 0)), oX1 a_r1 p_r1 o_r1, aI g (p_r1 7) 7 f_r1_7] H := hP
        have hD : va_D A [oX2 a_t p_t o_t, aI g (p_t 6) 7 f_t_6, aI g (p_t 7) 7 (upd f_t_7 (x3).toNatClampNeg (o_t 0)), oX1 a_r1 p_r1 o_r1, aI g (p_r1 7) 7 f_r1_7] := hD
        refine lv_aload_n hx hb dX2_release_41 rfl (lv_at hl 1 rfl) ?_
        refine va_get (D := g.1) (ci := 1) (v := .ref (p_r1 7)) (C := RX1) (T := TX1) (N := 17) hx hb hts iX2_release_X1 hown hK.1 hP 3 rfl rfl 7 (by decide) (hts _ kX2_release_80) (fun _ h9 => h9) rfl dX2_release_42 ?_
        refine lv_iload_n hx hb dX2_release_45 rfl (lv_at hl 3 rfl) ?_
        obtain ⟨h_4, hF⟩ := it_ck hF
        refine va_iald hx hb hK.1 hP 4 0 rfl rfl h_4 dX2_release_46 ?_
        refine lv_istore (lv' := [(4, .int (f_r1_7 (x3).toNatClampNeg)), (0, .ref a_t), (1, .ref a_r1), (2, .int x2), (3, .int x3)]) hx hb dX2_release_47 hl (by decide) rfl (fun ls hl => ?_)
        refine lv_iload hx hb dX2_release_49 (lv_at hl 0 rfl) ?_
        refine lv_if_lt (tgt := 90) hx hb dX2_release_51 (by decide) (fun c_5 => ?_) (fun c_5 => ?_)
        · have hF := it_p c_5 hF
          refine lv_iinc (v := (x3 + (1 : Int32))) (lv' := [(3, .int (x3 + (1 : Int32))), (4, .int (f_r1_7 (x3).toNatClampNeg)), (0, .ref a_t), (1, .ref a_r1), (2, .int x2)]) hx hb dX2_release_90 hl (k := 4) rfl rfl (by decide) rfl (fun ls hl => ?_)
          refine lv_goto (tgt := 14) hx hb dX2_release_93 (by decide) ?_
          exact ih (x3 + (1 : Int32)) f_t_6 (upd f_t_7 (x3).toNatClampNeg (o_t 0)) hF _ _ _ (hP.sub [0, 1, 2, 3, 4] rfl) (hD.sub [0, 1, 2, 3, 4] rfl rfl) hS (lv_sub hl [2, 3, 4, 0] rfl)
        · have hF := it_n c_5 hF
          refine lv_iload hx hb dX2_release_54 (lv_at hl 0 rfl) ?_
          refine lv_aload_n hx hb dX2_release_56 rfl (lv_at hl 2 rfl) ?_
          refine va_get (D := g.1) (ci := 1) (v := .int (o_r1 3)) (C := RX1) (T := TX1) (N := 17) hx hb hts iX2_release_X1 hown hK.1 hP 3 rfl rfl 3 (by decide) (hts _ kX2_release_40) (fun _ h9 => h9) rfl dX2_release_57 ?_
          refine lv_icmp_ge (tgt := 90) hx hb dX2_release_60 (by decide) (fun c_6 => ?_) (fun c_6 => ?_)
          · have hF := it_p c_6 hF
            refine lv_iinc (v := (x3 + (1 : Int32))) (lv' := [(3, .int (x3 + (1 : Int32))), (4, .int (f_r1_7 (x3).toNatClampNeg)), (0, .ref a_t), (1, .ref a_r1), (2, .int x2)]) hx hb dX2_release_90 hl (k := 4) rfl rfl (by decide) rfl (fun ls hl => ?_)
            refine lv_goto (tgt := 14) hx hb dX2_release_93 (by decide) ?_
            exact ih (x3 + (1 : Int32)) f_t_6 (upd f_t_7 (x3).toNatClampNeg (o_t 0)) hF _ _ _ (hP.sub [0, 1, 2, 3, 4] rfl) (hD.sub [0, 1, 2, 3, 4] rfl rfl) hS (lv_sub hl [2, 3, 4, 0] rfl)
          · have hF := it_n c_6 hF
            refine lv_aload_n hx hb dX2_release_63 rfl (lv_at hl 1 rfl) ?_
            refine va_get (D := g.1) (ci := 2) (v := .int (o_t 1)) (C := RX2) (T := TX2) (N := 9) hx hb hts iX2_release_X2 hown hK.1 hP 0 rfl rfl 1 (by decide) (hts _ kX2_release_15) (fun _ h9 => h9) rfl dX2_release_64 ?_
            refine lv_iload hx hb dX2_release_67 (lv_at hl 0 rfl) ?_
            refine lv_ishr hx hb dX2_release_69 ?_
            refine lv_iconst (v := (1 : Int32)) hx hb dX2_release_70 (by decide) ?_
            refine lv_iand hx hb dX2_release_71 ?_
            refine lv_iconst (v := (1 : Int32)) hx hb dX2_release_72 (by decide) ?_
            refine lv_icmp_ne (tgt := 90) hx hb dX2_release_73 (by decide) (fun c_7 => ?_) (fun c_7 => ?_)
            · have hF := it_n c_7 hF
              refine lv_iinc (v := (x3 + (1 : Int32))) (lv' := [(3, .int (x3 + (1 : Int32))), (4, .int (f_r1_7 (x3).toNatClampNeg)), (0, .ref a_t), (1, .ref a_r1), (2, .int x2)]) hx hb dX2_release_90 hl (k := 4) rfl rfl (by decide) rfl (fun ls hl => ?_)
              refine lv_goto (tgt := 14) hx hb dX2_release_93 (by decide) ?_
              exact ih (x3 + (1 : Int32)) f_t_6 (upd f_t_7 (x3).toNatClampNeg (o_t 0)) hF _ _ _ (hP.sub [0, 1, 2, 3, 4] rfl) (hD.sub [0, 1, 2, 3, 4] rfl rfl) hS (lv_sub hl [2, 3, 4, 0] rfl)
            · have hF := it_p c_7 hF
              refine lv_aload_n hx hb dX2_release_76 rfl (lv_at hl 1 rfl) ?_
              refine va_get (D := g.1) (ci := 2) (v := .ref (p_t 6)) (C := RX2) (T := TX2) (N := 9) hx hb hts iX2_release_X2 hown hK.1 hP 0 rfl rfl 6 (by decide) (hts _ kX2_release_30) (fun _ h9 => h9) rfl dX2_release_77 ?_
              refine lv_iload hx hb dX2_release_80 (lv_at hl 0 rfl) ?_
              refine lv_dup2_11 hx hb dX2_release_82 rfl rfl ?_
              obtain ⟨h_8, hF⟩ := it_ck hF
              refine va_iald hx hb hK.1 hP 1 0 rfl rfl h_8 dX2_release_83 ?_
              refine lv_aload_n hx hb dX2_release_84 rfl (lv_at hl 2 rfl) ?_
              refine va_get (D := g.1) (ci := 1) (v := .int (o_r1 2)) (C := RX1) (T := TX1) (N := 17) hx hb hts iX2_release_X1 hown hK.1 hP 3 rfl rfl 2 (by decide) (hts _ kX2_release_83) (fun _ h9 => h9) rfl dX2_release_85 ?_
              refine lv_isub hx hb dX2_release_88 ?_
              obtain ⟨h_9, hF⟩ := it_ck hF
              refine va_iast hx hb hK.1 hP hD hS 1 0 rfl rfl h_9 dX2_release_89 (fun H locs hP hD hS => ?_)
              have hP : va_P g.1 vwCl [oX2 a_t p_t o_t, aI g (p_t 6) 7 (upd f_t_6 ((f_r1_7 (x3).toNatClampNeg)).toNatClampNeg ((f_t_6 ((f_r1_7 (x3).toNatClampNeg)).toNatClampNeg) - (o_r1 2))), aI g (p_t 7) 7 (upd f_t_7 (x3).toNatClampNeg (o_t 0)), oX1 a_r1 p_r1 o_r1, aI g (p_r1 7) 7 f_r1_7] H := hP
              have hD : va_D A [oX2 a_t p_t o_t, aI g (p_t 6) 7 (upd f_t_6 ((f_r1_7 (x3).toNatClampNeg)).toNatClampNeg ((f_t_6 ((f_r1_7 (x3).toNatClampNeg)).toNatClampNeg) - (o_r1 2))), aI g (p_t 7) 7 (upd f_t_7 (x3).toNatClampNeg (o_t 0)), oX1 a_r1 p_r1 o_r1, aI g (p_r1 7) 7 f_r1_7] := hD
              refine lv_iinc (v := (x3 + (1 : Int32))) (lv' := [(3, .int (x3 + (1 : Int32))), (4, .int (f_r1_7 (x3).toNatClampNeg)), (0, .ref a_t), (1, .ref a_r1), (2, .int x2)]) hx hb dX2_release_90 hl (k := 4) rfl rfl (by decide) rfl (fun ls hl => ?_)
              refine lv_goto (tgt := 14) hx hb dX2_release_93 (by decide) ?_
              exact ih (x3 + (1 : Int32)) (upd f_t_6 ((f_r1_7 (x3).toNatClampNeg)).toNatClampNeg ((f_t_6 ((f_r1_7 (x3).toNatClampNeg)).toNatClampNeg) - (o_r1 2))) (upd f_t_7 (x3).toNatClampNeg (o_t 0)) hF _ _ _ (hP.sub [0, 1, 2, 3, 4] rfl) (hD.sub [0, 1, 2, 3, 4] rfl rfl) hS (lv_sub hl [2, 3, 4, 0] rfl)
set_option maxHeartbeats 4000000 in
set_option maxRecDepth 100000 in
theorem mX2_release (l : Launch) (g : GG) (a_t : Nat) (a_r1 : Nat) (p_t : Nat → Nat) (p_r1 : Nat → Nat) (n : Nat) (x2 : Int32) (o_t : Nat → Int32) (f_t_6 : Nat → Int32) (f_t_7 : Nat → Int32) (o_r1 : Nat → Int32) (f_r1_7 : Nat → Int32) (o_t' : Nat → Int32) (f_t_6' : Nat → Int32) (f_t_7' : Nat → Int32) (hF : fX2_release n x2 o_t f_t_6 f_t_7 o_r1 f_r1_7 = some (o_t', f_t_6', f_t_7')) : MV l g yX2_release wsX2_release ({ frames := 0, cells := 0, slots := 0, locals := 0 } : Room) [.ref a_t, .ref a_r1, .int x2] [oX2 a_t p_t o_t, aI g (p_t 6) 7 f_t_6, aI g (p_t 7) 7 f_t_7, oX1 a_r1 p_r1 o_r1, aI g (p_r1 7) 7 f_r1_7] [oX2 a_t p_t o_t', aI g (p_t 6) 7 f_t_6', aI g (p_t 7) 7 f_t_7', oX1 a_r1 p_r1 o_r1, aI g (p_r1 7) 7 f_r1_7] := by
  refine MV.of (cc := cX2_release) (maxL := 5) (own := RX2) rfl rfl (by decide) (Nat.le_of_ble_eq_true rfl) ?_
  intro p e s m args below meth c A C0 hP hD hS ls hl
  obtain ⟨hx, hb, hml, hown, hts, hr, hlk, hK, hA, hSW⟩ := id C0
  have hl : lv_has ls 5 [(0, .ref a_t), (1, .ref a_r1), (2, .int x2)] := hl
  rw [fX2_release] at hF
  refine lv_aload_n hx hb dX2_release_0 rfl (lv_at hl 0 rfl) ?_
  refine lv_dup hx hb dX2_release_1 rfl ?_
  refine va_get (D := g.1) (ci := 2) (v := .int (o_t 1)) (C := RX2) (T := TX2) (N := 9) hx hb hts iX2_release_X2 hown hK.1 hP 0 rfl rfl 1 (by decide) (hts _ kX2_release_15) (fun _ h9 => h9) rfl dX2_release_2 ?_
  refine lv_iload_n hx hb dX2_release_5 rfl (lv_at hl 2 rfl) ?_
  refine lv_iconst (v := (-1 : Int32)) hx hb dX2_release_6 (by decide) ?_
  refine lv_ixor hx hb dX2_release_7 ?_
  refine lv_iand hx hb dX2_release_8 ?_
  refine va_put (D := g.1) (ci := 2) (v := .int ((o_t 1) &&& (x2 ^^^ (-1 : Int32)))) (ty := .int) (C := RX2) (T := TX2) (N := 9) hx hb hts iX2_release_X2 tyX2 tyX2_ok nmX2 hown hK.1 hP hD hS 0 rfl rfl 1 (by decide) (hts _ kX2_release_15) (fun _ h9 => h9) rfl (by decide +kernel) rfl rfl (Nat.le_of_ble_eq_true rfl) dX2_release_9 (fun H locs hP hD hS => ?_)
  have hP : va_P g.1 vwCl [oX2 a_t p_t (upd o_t 1 ((o_t 1) &&& (x2 ^^^ (-1 : Int32)))), aI g (p_t 6) 7 f_t_6, aI g (p_t 7) 7 f_t_7, oX1 a_r1 p_r1 o_r1, aI g (p_r1 7) 7 f_r1_7] H := hP
  have hD : va_D A [oX2 a_t p_t (upd o_t 1 ((o_t 1) &&& (x2 ^^^ (-1 : Int32)))), aI g (p_t 6) 7 f_t_6, aI g (p_t 7) 7 f_t_7, oX1 a_r1 p_r1 o_r1, aI g (p_r1 7) 7 f_r1_7] := hD
  refine lv_iconst (v := (0 : Int32)) hx hb dX2_release_12 (by decide) ?_
  refine lv_istore_n (lv' := [(3, .int (0 : Int32)), (0, .ref a_t), (1, .ref a_r1), (2, .int x2)]) hx hb dX2_release_13 rfl hl (by decide) rfl (fun ls hl => ?_)
  refine wX2_release_L14 C0 a_t a_r1 p_t p_r1 n x2 (upd o_t 1 ((o_t 1) &&& (x2 ^^^ (-1 : Int32)))) o_r1 f_r1_7 o_t' f_t_6' f_t_7' _ ?_ n (0 : Int32) f_t_6 f_t_7 hF _ _ _ (hP.sub [0, 1, 2, 3, 4] rfl) (hD.sub [0, 1, 2, 3, 4] rfl rfl) hS (lv_sub hl [1, 2, 3, 0] rfl)
  · intro f_t_6_x14 f_t_7_x14 H locs ls hF hP hD hS hl
    cases hF
    exact ret_v C0 hP hD hS [0, 1, 2, 3, 4] rfl rfl rfl dX2_release_96

theorem dAX2_settle : ∀ q ∈ ([(0, (.aload_n 0, 1)), (1, (.iconst 0, 1)), (2, (.putfield 24, 3)), (5, (.iconst 0, 1)), (6, (.istore_n 2, 1)), (7, (.iconst 0, 1)), (8, (.istore_n 3, 1)), (9, (.iload_n 3, 1)), (10, (.bipush 7, 2)), (12, (.if_icmp .ge 50, 3)), (15, (.aload_n 0, 1)), (16, (.aload_n 1, 1)), (17, (.invokevirtual 61, 3)), (20, (.aload_n 0, 1)), (21, (.aload_n 1, 1)), (22, (.invokevirtual 86, 3)), (25, (.istore 4, 2)), (27, (.iload 4, 2)), (29, (.ifCond .ne 5, 3)), (32, (.iload_n 2, 1)), (33, (.ireturn, 1)), (34, (.aload_n 0, 1)), (35, (.aload_n 1, 1)), (36, (.iload 4, 2)), (38, (.invokevirtual 90, 3)), (41, (.iload_n 2, 1)), (42, (.iload 4, 2)), (44, (.ior, 1)), (45, (.istore_n 2, 1)), (46, (.aload_n 0, 1)), (47, (.dup, 1)), (48, (.getfield 24, 3)), (51, (.iconst 1, 1)), (52, (.iadd, 1)), (53, (.putfield 24, 3)), (56, (.iinc 3 1, 3)), (59, (.goto (-50), 3)), (62, (.iload_n 2, 1)), (63, (.ireturn, 1))] : List (Nat × (Instr × Nat))), decode cX2_settle q.1 = .ok q.2 := by decide +kernel
theorem dX2_settle_0 : decode cX2_settle 0 = .ok (.aload_n 0, 1) := dAX2_settle (0, (.aload_n 0, 1)) (List.mem_of_getElem? (i := 0) rfl)
theorem dX2_settle_1 : decode cX2_settle 1 = .ok (.iconst 0, 1) := dAX2_settle (1, (.iconst 0, 1)) (List.mem_of_getElem? (i := 1) rfl)
theorem dX2_settle_2 : decode cX2_settle 2 = .ok (.putfield 24, 3) := dAX2_settle (2, (.putfield 24, 3)) (List.mem_of_getElem? (i := 2) rfl)
theorem dX2_settle_5 : decode cX2_settle 5 = .ok (.iconst 0, 1) := dAX2_settle (5, (.iconst 0, 1)) (List.mem_of_getElem? (i := 3) rfl)
theorem dX2_settle_6 : decode cX2_settle 6 = .ok (.istore_n 2, 1) := dAX2_settle (6, (.istore_n 2, 1)) (List.mem_of_getElem? (i := 4) rfl)
theorem dX2_settle_7 : decode cX2_settle 7 = .ok (.iconst 0, 1) := dAX2_settle (7, (.iconst 0, 1)) (List.mem_of_getElem? (i := 5) rfl)
theorem dX2_settle_8 : decode cX2_settle 8 = .ok (.istore_n 3, 1) := dAX2_settle (8, (.istore_n 3, 1)) (List.mem_of_getElem? (i := 6) rfl)
theorem dX2_settle_9 : decode cX2_settle 9 = .ok (.iload_n 3, 1) := dAX2_settle (9, (.iload_n 3, 1)) (List.mem_of_getElem? (i := 7) rfl)
theorem dX2_settle_10 : decode cX2_settle 10 = .ok (.bipush 7, 2) := dAX2_settle (10, (.bipush 7, 2)) (List.mem_of_getElem? (i := 8) rfl)
theorem dX2_settle_12 : decode cX2_settle 12 = .ok (.if_icmp .ge 50, 3) := dAX2_settle (12, (.if_icmp .ge 50, 3)) (List.mem_of_getElem? (i := 9) rfl)
theorem dX2_settle_15 : decode cX2_settle 15 = .ok (.aload_n 0, 1) := dAX2_settle (15, (.aload_n 0, 1)) (List.mem_of_getElem? (i := 10) rfl)
theorem dX2_settle_16 : decode cX2_settle 16 = .ok (.aload_n 1, 1) := dAX2_settle (16, (.aload_n 1, 1)) (List.mem_of_getElem? (i := 11) rfl)
theorem dX2_settle_17 : decode cX2_settle 17 = .ok (.invokevirtual 61, 3) := dAX2_settle (17, (.invokevirtual 61, 3)) (List.mem_of_getElem? (i := 12) rfl)
theorem dX2_settle_20 : decode cX2_settle 20 = .ok (.aload_n 0, 1) := dAX2_settle (20, (.aload_n 0, 1)) (List.mem_of_getElem? (i := 13) rfl)
theorem dX2_settle_21 : decode cX2_settle 21 = .ok (.aload_n 1, 1) := dAX2_settle (21, (.aload_n 1, 1)) (List.mem_of_getElem? (i := 14) rfl)
theorem dX2_settle_22 : decode cX2_settle 22 = .ok (.invokevirtual 86, 3) := dAX2_settle (22, (.invokevirtual 86, 3)) (List.mem_of_getElem? (i := 15) rfl)
theorem dX2_settle_25 : decode cX2_settle 25 = .ok (.istore 4, 2) := dAX2_settle (25, (.istore 4, 2)) (List.mem_of_getElem? (i := 16) rfl)
theorem dX2_settle_27 : decode cX2_settle 27 = .ok (.iload 4, 2) := dAX2_settle (27, (.iload 4, 2)) (List.mem_of_getElem? (i := 17) rfl)
theorem dX2_settle_29 : decode cX2_settle 29 = .ok (.ifCond .ne 5, 3) := dAX2_settle (29, (.ifCond .ne 5, 3)) (List.mem_of_getElem? (i := 18) rfl)
theorem dX2_settle_32 : decode cX2_settle 32 = .ok (.iload_n 2, 1) := dAX2_settle (32, (.iload_n 2, 1)) (List.mem_of_getElem? (i := 19) rfl)
theorem dX2_settle_33 : decode cX2_settle 33 = .ok (.ireturn, 1) := dAX2_settle (33, (.ireturn, 1)) (List.mem_of_getElem? (i := 20) rfl)
theorem dX2_settle_34 : decode cX2_settle 34 = .ok (.aload_n 0, 1) := dAX2_settle (34, (.aload_n 0, 1)) (List.mem_of_getElem? (i := 21) rfl)
theorem dX2_settle_35 : decode cX2_settle 35 = .ok (.aload_n 1, 1) := dAX2_settle (35, (.aload_n 1, 1)) (List.mem_of_getElem? (i := 22) rfl)
theorem dX2_settle_36 : decode cX2_settle 36 = .ok (.iload 4, 2) := dAX2_settle (36, (.iload 4, 2)) (List.mem_of_getElem? (i := 23) rfl)
theorem dX2_settle_38 : decode cX2_settle 38 = .ok (.invokevirtual 90, 3) := dAX2_settle (38, (.invokevirtual 90, 3)) (List.mem_of_getElem? (i := 24) rfl)
theorem dX2_settle_41 : decode cX2_settle 41 = .ok (.iload_n 2, 1) := dAX2_settle (41, (.iload_n 2, 1)) (List.mem_of_getElem? (i := 25) rfl)
theorem dX2_settle_42 : decode cX2_settle 42 = .ok (.iload 4, 2) := dAX2_settle (42, (.iload 4, 2)) (List.mem_of_getElem? (i := 26) rfl)
theorem dX2_settle_44 : decode cX2_settle 44 = .ok (.ior, 1) := dAX2_settle (44, (.ior, 1)) (List.mem_of_getElem? (i := 27) rfl)
theorem dX2_settle_45 : decode cX2_settle 45 = .ok (.istore_n 2, 1) := dAX2_settle (45, (.istore_n 2, 1)) (List.mem_of_getElem? (i := 28) rfl)
theorem dX2_settle_46 : decode cX2_settle 46 = .ok (.aload_n 0, 1) := dAX2_settle (46, (.aload_n 0, 1)) (List.mem_of_getElem? (i := 29) rfl)
theorem dX2_settle_47 : decode cX2_settle 47 = .ok (.dup, 1) := dAX2_settle (47, (.dup, 1)) (List.mem_of_getElem? (i := 30) rfl)
theorem dX2_settle_48 : decode cX2_settle 48 = .ok (.getfield 24, 3) := dAX2_settle (48, (.getfield 24, 3)) (List.mem_of_getElem? (i := 31) rfl)
theorem dX2_settle_51 : decode cX2_settle 51 = .ok (.iconst 1, 1) := dAX2_settle (51, (.iconst 1, 1)) (List.mem_of_getElem? (i := 32) rfl)
theorem dX2_settle_52 : decode cX2_settle 52 = .ok (.iadd, 1) := dAX2_settle (52, (.iadd, 1)) (List.mem_of_getElem? (i := 33) rfl)
theorem dX2_settle_53 : decode cX2_settle 53 = .ok (.putfield 24, 3) := dAX2_settle (53, (.putfield 24, 3)) (List.mem_of_getElem? (i := 34) rfl)
theorem dX2_settle_56 : decode cX2_settle 56 = .ok (.iinc 3 1, 3) := dAX2_settle (56, (.iinc 3 1, 3)) (List.mem_of_getElem? (i := 35) rfl)
theorem dX2_settle_59 : decode cX2_settle 59 = .ok (.goto (-50), 3) := dAX2_settle (59, (.goto (-50), 3)) (List.mem_of_getElem? (i := 36) rfl)
theorem dX2_settle_62 : decode cX2_settle 62 = .ok (.iload_n 2, 1) := dAX2_settle (62, (.iload_n 2, 1)) (List.mem_of_getElem? (i := 37) rfl)
theorem dX2_settle_63 : decode cX2_settle 63 = .ok (.ireturn, 1) := dAX2_settle (63, (.ireturn, 1)) (List.mem_of_getElem? (i := 38) rfl)
set_option maxRecDepth 20000 in
theorem ggX2_settle_X2_weigh : GoodIn wsX2_settle wsX2_weigh := goodIn_r _ [6, 7, 8, 9, 10, 11, 12, 13, 14, 37, 38, 39, 40, 41, 42, 43, 44, 45, 46, 47, 48, 49, 50, 51, 52, 53, 28, 29, 30, 31, 32, 33, 34, 35, 36] rfl (by decide +kernel)
set_option maxRecDepth 20000 in
theorem gX2_settle_X2_weigh : GoodIn wsX2_settle (wsV RX2 61 RX2 yX2_weigh wsX2_weigh) := goodIn_app (goodIn_of _ (by decide +kernel)) ggX2_settle_X2_weigh
set_option maxRecDepth 20000 in
theorem ggX2_settle_X2_unwilling : GoodIn wsX2_settle wsX2_unwilling := goodIn_r _ [18, 12, 7, 19, 8, 28, 29, 30, 31, 32, 33, 34, 35, 36, 37, 38, 39, 40, 41, 42, 43, 44, 45, 46, 47, 48, 49, 50, 51, 52, 53] rfl (by decide +kernel)
set_option maxRecDepth 20000 in
theorem gX2_settle_X2_unwilling : GoodIn wsX2_settle (wsV RX2 86 RX2 yX2_unwilling wsX2_unwilling) := goodIn_app (goodIn_of _ (by decide +kernel)) ggX2_settle_X2_unwilling
set_option maxRecDepth 20000 in
theorem ggX2_settle_X2_release : GoodIn wsX2_settle wsX2_release := goodIn_r _ [23, 12, 7, 24, 25, 26, 9, 27, 28, 29, 30, 31, 32, 33, 34, 35, 36, 37, 38, 39, 40, 41, 42, 43, 44, 45, 46, 47, 48, 49, 50, 51, 52, 53] rfl (by decide +kernel)
set_option maxRecDepth 20000 in
theorem gX2_settle_X2_release : GoodIn wsX2_settle (wsV RX2 90 RX2 yX2_release wsX2_release) := goodIn_app (goodIn_of _ (by decide +kernel)) ggX2_settle_X2_release
theorem kX2_settle_24 : Cond.fieldLink RX2 24 "EveningVow$Night" "roundsRun" "I" ∈ wsX2_settle := List.mem_of_getElem? (i := 1) rfl
theorem iX2_settle_X2 : ∀ w ∈ u_ws RX2 TX2 9, w ∈ wsX2_settle := fun w h => (List.mem_cons_of_mem _ (List.mem_append_left _ (List.mem_append_right _ h)))
set_option maxHeartbeats 4000000 in
set_option maxRecDepth 100000 in
theorem wX2_settle_L9 {p : Program} {l : Launch} {e : Env} {s : State} {m : MethodId} {args : Array Value} {below : List Frame} {meth : Method} {c : Code} {g : GG} {A : Nat → Prop} (C0 : Cx p s m args meth c cX2_settle 5 (some .int) RX2 wsX2_settle g A) (a_t : Nat) (a_r1 : Nat) (p_t : Nat → Nat) (p_r1 : Nat → Nat) (n : Nat) (o_r1 : Nat → Int32) (f_r1_4 : Nat → Int32) (f_r1_7 : Nat → Int32) (f_r1_10 : Nat → Int32) (f_r1_11 : Nat → Int32) (f_r1_12 : Nat → Int32)  (r : Int32) (o_t' : Nat → Int32) (f_t_6' : Nat → Int32) (f_t_7' : Nat → Int32) (f_t_8' : Nat → Int32) (K : Int32 → (Nat → Int32) → (Nat → Int32) → (Nat → Int32) → (Nat → Int32) → Option (Int32 × (Nat → Int32) × (Nat → Int32) × (Nat → Int32) × (Nat → Int32))) (hKx : ∀ (x2 : Int32) (o_t : Nat → Int32) (f_t_6 : Nat → Int32) (f_t_7 : Nat → Int32) (f_t_8 : Nat → Int32) (H : Heap) (locs : List Loc) (ls : Array Slot), K x2 o_t f_t_6 f_t_7 f_t_8 = some (r, o_t', f_t_6', f_t_7', f_t_8') → va_P g.1 vwCl [oX2 a_t p_t o_t, aI g (p_t 6) 7 f_t_6, aI g (p_t 7) 7 f_t_7, aI g (p_t 8) 7 f_t_8, oX1 a_r1 p_r1 o_r1, aI g (p_r1 4) 7 f_r1_4, aI g (p_r1 7) 7 f_r1_7, aI g (p_r1 10) 8 f_r1_10, aI g (p_r1 11) 8 f_r1_11, aI g (p_r1 12) 8 f_r1_12] H → va_D A [oX2 a_t p_t o_t, aI g (p_t 6) 7 f_t_6, aI g (p_t 7) 7 f_t_7, aI g (p_t 8) 7 f_t_8, oX1 a_r1 p_r1 o_r1, aI g (p_r1 4) 7 f_r1_4, aI g (p_r1 7) 7 f_r1_7, aI g (p_r1 10) 8 f_r1_10, aI g (p_r1 11) 8 f_r1_11, aI g (p_r1 12) 8 f_r1_12] → va_S A s.heap H locs → lv_has ls 5 [(2, .int x2)] → W p l e ({ frames := 1, cells := 0, slots := 0, locals := 25 } : Room) s m args below meth c H locs 0 0 (MQ below (EndI g r [oX2 a_t p_t o_t', aI g (p_t 6) 7 f_t_6', aI g (p_t 7) 7 f_t_7', aI g (p_t 8) 7 f_t_8', oX1 a_r1 p_r1 o_r1, aI g (p_r1 4) 7 f_r1_4, aI g (p_r1 7) 7 f_r1_7, aI g (p_r1 10) 8 f_r1_10, aI g (p_r1 11) 8 f_r1_11, aI g (p_r1 12) 8 f_r1_12] A) args s 0 0 A) (F0 m 62 ls [])) : ∀ (k : Nat) (x2 : Int32) (x3 : Int32) (o_t : Nat → Int32) (f_t_6 : Nat → Int32) (f_t_7 : Nat → Int32) (f_t_8 : Nat → Int32), fX2_settle_L9 n o_r1 f_r1_4 f_r1_7 f_r1_10 f_r1_11 f_r1_12 K k x2 x3 o_t f_t_6 f_t_7 f_t_8 = some (r, o_t', f_t_6', f_t_7', f_t_8') → ∀ (H : Heap) (locs : List Loc) (ls : Array Slot), va_P g.1 vwCl [oX2 a_t p_t o_t, aI g (p_t 6) 7 f_t_6, aI g (p_t 7) 7 f_t_7, aI g (p_t 8) 7 f_t_8, oX1 a_r1 p_r1 o_r1, aI g (p_r1 4) 7 f_r1_4, aI g (p_r1 7) 7 f_r1_7, aI g (p_r1 10) 8 f_r1_10, aI g (p_r1 11) 8 f_r1_11, aI g (p_r1 12) 8 f_r1_12] H → va_D A [oX2 a_t p_t o_t, aI g (p_t 6) 7 f_t_6, aI g (p_t 7) 7 f_t_7, aI g (p_t 8) 7 f_t_8, oX1 a_r1 p_r1 o_r1, aI g (p_r1 4) 7 f_r1_4, aI g (p_r1 7) 7 f_r1_7, aI g (p_r1 10) 8 f_r1_10, aI g (p_r1 11) 8 f_r1_11, aI g (p_r1 12) 8 f_r1_12] → va_S A s.heap H locs → lv_has ls 5 [(0, .ref a_t), (1, .ref a_r1), (2, .int x2), (3, .int x3)] → W p l e ({ frames := 1, cells := 0, slots := 0, locals := 25 } : Room) s m args below meth c H locs 0 0 (MQ below (EndI g r [oX2 a_t p_t o_t', aI g (p_t 6) 7 f_t_6', aI g (p_t 7) 7 f_t_7', aI g (p_t 8) 7 f_t_8', oX1 a_r1 p_r1 o_r1, aI g (p_r1 4) 7 f_r1_4, aI g (p_r1 7) 7 f_r1_7, aI g (p_r1 10) 8 f_r1_10, aI g (p_r1 11) 8 f_r1_11, aI g (p_r1 12) 8 f_r1_12] A) args s 0 0 A) (F0 m 9 ls []) := by
  obtain ⟨hx, hb, hml, hown, hts, hr, hlk, hK, hA, hSW⟩ := id C0
  intro k
  induction k with
  | zero =>
    intro x2 x3 o_t f_t_6 f_t_7 f_t_8 hF
    exact absurd hF (by simp [fX2_settle_L9])
  | succ k ih =>
    intro x2 x3 o_t f_t_6 f_t_7 f_t_8 hF H locs ls hP hD hS hl
    rw [fX2_settle_L9] at hF
    refine lv_iload_n hx hb dX2_settle_9 rfl (lv_at hl 3 rfl) ?_
    refine lv_bipush (v := (7 : Int32)) hx hb dX2_settle_10 (by decide) ?_
    refine lv_icmp_ge (tgt := 62) hx hb dX2_settle_12 (by decide) (fun c_1 => ?_) (fun c_1 => ?_)
    · have hF := it_p c_1 hF
      exact hKx x2 o_t f_t_6 f_t_7 f_t_8 _ _ _ hF (hP.sub [0, 1, 2, 3, 4, 5, 6, 7, 8, 9] rfl) (hD.sub [0, 1, 2, 3, 4, 5, 6, 7, 8, 9] rfl rfl) hS (lv_sub hl [2] rfl)
    · have hF := it_n c_1 hF
      refine lv_aload_n hx hb dX2_settle_15 rfl (lv_at hl 0 rfl) ?_
      refine lv_aload_n hx hb dX2_settle_16 rfl (lv_at hl 1 rfl) ?_
      obtain ⟨u_2, hu_3, hF⟩ := ob1_some hF
      refine call_v (wr := [aI g (p_t 7) 7 f_t_7, aI g (p_r1 4) 7 f_r1_4, aI g (p_r1 7) 7 f_r1_7]) (As := [.ref a_r1]) (rest := []) (ci := 2) (q0 := 0) C0 (mX2_weigh l g a_t a_r1 p_t p_r1 n o_t f_t_6 f_t_8 o_r1 f_r1_10 f_r1_11 f_r1_12 u_2 hu_3) (cwV 1 hts gX2_settle_X2_weigh rfl rfl rfl (by decide +kernel) ⟨Nat.le_of_ble_eq_true rfl, Nat.le_of_ble_eq_true rfl⟩) hP hD hS [0, 1, 3, 4, 7, 8, 9] [2, 5, 6] rfl rfl rfl rfl rfl (by decide) rfl rfl hl.1 rfl rfl (Nat.le_of_ble_eq_true rfl) ⟨Nat.zero_le _, Nat.zero_le _⟩ dX2_settle_17 ?_
      intro H locs hP hD hS
      refine lv_aload_n hx hb dX2_settle_20 rfl (lv_at hl 0 rfl) ?_
      refine lv_aload_n hx hb dX2_settle_21 rfl (lv_at hl 1 rfl) ?_
      obtain ⟨u_4, hu_5, hF⟩ := ob1_some hF
      refine call_i (wr := [aI g (p_t 7) 7 f_t_7, aI g (p_r1 7) 7 f_r1_7, aI g (p_t 6) 7 f_t_6, aI g (p_r1 10) 8 f_r1_10, aI g (p_r1 11) 8 f_r1_11, aI g (p_r1 12) 8 f_r1_12]) (As := [.ref a_r1]) (rest := []) (ci := 2) (q0 := 0) C0 (mX2_unwilling l g a_t a_r1 p_t p_r1 n o_t u_2 o_r1 f_r1_4 u_4 hu_5) (cwV 1 hts gX2_settle_X2_unwilling rfl rfl rfl (by decide +kernel) ⟨Nat.le_of_ble_eq_true rfl, Nat.le_of_ble_eq_true rfl⟩) hP hD hS [3, 5, 6, 1] [0, 2, 4, 7, 8, 9] rfl rfl rfl rfl rfl (by decide) rfl rfl hl.1 rfl rfl (Nat.le_of_ble_eq_true rfl) ⟨Nat.zero_le _, Nat.zero_le _⟩ dX2_settle_22 ?_
      intro H locs hP hD hS
      refine lv_istore (lv' := [(4, .int u_4), (0, .ref a_t), (1, .ref a_r1), (2, .int x2), (3, .int x3)]) hx hb dX2_settle_25 hl (by decide) rfl (fun ls hl => ?_)
      refine lv_iload hx hb dX2_settle_27 (lv_at hl 0 rfl) ?_
      refine lv_if_ne (tgt := 34) hx hb dX2_settle_29 (by decide) (fun c_6 => ?_) (fun c_6 => ?_)
      · have hF := it_n c_6 hF
        refine lv_aload_n hx hb dX2_settle_34 rfl (lv_at hl 1 rfl) ?_
        refine lv_aload_n hx hb dX2_settle_35 rfl (lv_at hl 2 rfl) ?_
        refine lv_iload hx hb dX2_settle_36 (lv_at hl 0 rfl) ?_
        obtain ⟨u_7, u_8, u_9, hu_10, hF⟩ := ob3_some hF
        refine call_v (wr := [aI g (p_r1 10) 8 f_r1_10, aI g (p_r1 11) 8 f_r1_11, aI g (p_r1 12) 8 f_r1_12, aI g (p_t 8) 7 u_2, aI g (p_r1 4) 7 f_r1_4]) (As := [.ref a_r1, .int u_4]) (rest := []) (ci := 2) (q0 := 0) C0 (mX2_release l g a_t a_r1 p_t p_r1 n u_4 o_t f_t_6 f_t_7 o_r1 f_r1_7 u_7 u_8 u_9 hu_10) (cwV 2 hts gX2_settle_X2_release rfl rfl rfl (by decide +kernel) ⟨Nat.le_of_ble_eq_true rfl, Nat.le_of_ble_eq_true rfl⟩) hP hD hS [6, 2, 0, 8, 1] [3, 4, 5, 7, 9] rfl rfl rfl rfl rfl (by decide) rfl rfl hl.1 rfl rfl (Nat.le_of_ble_eq_true rfl) ⟨Nat.zero_le _, Nat.zero_le _⟩ dX2_settle_38 ?_
        intro H locs hP hD hS
        refine lv_iload_n hx hb dX2_settle_41 rfl (lv_at hl 3 rfl) ?_
        refine lv_iload hx hb dX2_settle_42 (lv_at hl 0 rfl) ?_
        refine lv_ior hx hb dX2_settle_44 ?_
        refine lv_istore_n (lv' := [(2, .int (x2 ||| u_4)), (4, .int u_4), (0, .ref a_t), (1, .ref a_r1), (3, .int x3)]) hx hb dX2_settle_45 rfl hl (by decide) rfl (fun ls hl => ?_)
        refine lv_aload_n hx hb dX2_settle_46 rfl (lv_at hl 2 rfl) ?_
        refine lv_dup hx hb dX2_settle_47 rfl ?_
        refine va_get (D := g.1) (ci := 2) (v := .int (u_7 4)) (C := RX2) (T := TX2) (N := 9) hx hb hts iX2_settle_X2 hown hK.1 hP 5 rfl rfl 4 (by decide) (hts _ kX2_settle_24) (fun _ h9 => h9) rfl dX2_settle_48 ?_
        refine lv_iconst (v := (1 : Int32)) hx hb dX2_settle_51 (by decide) ?_
        refine lv_iadd hx hb dX2_settle_52 ?_
        refine va_put (D := g.1) (ci := 2) (v := .int ((u_7 4) + (1 : Int32))) (ty := .int) (C := RX2) (T := TX2) (N := 9) hx hb hts iX2_settle_X2 tyX2 tyX2_ok nmX2 hown hK.1 hP hD hS 5 rfl rfl 4 (by decide) (hts _ kX2_settle_24) (fun _ h9 => h9) rfl (by decide +kernel) rfl rfl (Nat.le_of_ble_eq_true rfl) dX2_settle_53 (fun H locs hP hD hS => ?_)
        have hP : va_P g.1 vwCl [aI g (p_r1 10) 8 f_r1_10, aI g (p_r1 11) 8 f_r1_11, aI g (p_r1 12) 8 f_r1_12, aI g (p_t 8) 7 u_2, aI g (p_r1 4) 7 f_r1_4, oX2 a_t p_t (upd u_7 4 ((u_7 4) + (1 : Int32))), aI g (p_t 6) 7 u_8, aI g (p_t 7) 7 u_9, oX1 a_r1 p_r1 o_r1, aI g (p_r1 7) 7 f_r1_7] H := hP
        have hD : va_D A [aI g (p_r1 10) 8 f_r1_10, aI g (p_r1 11) 8 f_r1_11, aI g (p_r1 12) 8 f_r1_12, aI g (p_t 8) 7 u_2, aI g (p_r1 4) 7 f_r1_4, oX2 a_t p_t (upd u_7 4 ((u_7 4) + (1 : Int32))), aI g (p_t 6) 7 u_8, aI g (p_t 7) 7 u_9, oX1 a_r1 p_r1 o_r1, aI g (p_r1 7) 7 f_r1_7] := hD
        refine lv_iinc (v := (x3 + (1 : Int32))) (lv' := [(3, .int (x3 + (1 : Int32))), (2, .int (x2 ||| u_4)), (4, .int u_4), (0, .ref a_t), (1, .ref a_r1)]) hx hb dX2_settle_56 hl (k := 4) rfl rfl (by decide) rfl (fun ls hl => ?_)
        refine lv_goto (tgt := 9) hx hb dX2_settle_59 (by decide) ?_
        exact ih (x2 ||| u_4) (x3 + (1 : Int32)) (upd u_7 4 ((u_7 4) + (1 : Int32))) u_8 u_9 u_2 hF _ _ _ (hP.sub [5, 6, 7, 3, 8, 4, 9, 0, 1, 2] rfl) (hD.sub [5, 6, 7, 3, 8, 4, 9, 0, 1, 2] rfl rfl) hS (lv_sub hl [3, 4, 1, 0] rfl)
      · have hF := it_p c_6 hF
        refine lv_iload_n hx hb dX2_settle_32 rfl (lv_at hl 3 rfl) ?_
        cases hF
        exact ret_i C0 hP hD hS [6, 2, 0, 7, 8, 9, 1, 3, 4, 5] rfl rfl rfl dX2_settle_33 rfl
set_option maxHeartbeats 4000000 in
set_option maxRecDepth 100000 in
theorem mX2_settle (l : Launch) (g : GG) (a_t : Nat) (a_r1 : Nat) (p_t : Nat → Nat) (p_r1 : Nat → Nat) (n : Nat) (o_t : Nat → Int32) (f_t_6 : Nat → Int32) (f_t_7 : Nat → Int32) (f_t_8 : Nat → Int32) (o_r1 : Nat → Int32) (f_r1_4 : Nat → Int32) (f_r1_7 : Nat → Int32) (f_r1_10 : Nat → Int32) (f_r1_11 : Nat → Int32) (f_r1_12 : Nat → Int32) (r : Int32) (o_t' : Nat → Int32) (f_t_6' : Nat → Int32) (f_t_7' : Nat → Int32) (f_t_8' : Nat → Int32) (hF : fX2_settle n o_t f_t_6 f_t_7 f_t_8 o_r1 f_r1_4 f_r1_7 f_r1_10 f_r1_11 f_r1_12 = some (r, o_t', f_t_6', f_t_7', f_t_8')) : MI l g yX2_settle wsX2_settle ({ frames := 1, cells := 0, slots := 0, locals := 25 } : Room) [.ref a_t, .ref a_r1] [oX2 a_t p_t o_t, aI g (p_t 6) 7 f_t_6, aI g (p_t 7) 7 f_t_7, aI g (p_t 8) 7 f_t_8, oX1 a_r1 p_r1 o_r1, aI g (p_r1 4) 7 f_r1_4, aI g (p_r1 7) 7 f_r1_7, aI g (p_r1 10) 8 f_r1_10, aI g (p_r1 11) 8 f_r1_11, aI g (p_r1 12) 8 f_r1_12] r [oX2 a_t p_t o_t', aI g (p_t 6) 7 f_t_6', aI g (p_t 7) 7 f_t_7', aI g (p_t 8) 7 f_t_8', oX1 a_r1 p_r1 o_r1, aI g (p_r1 4) 7 f_r1_4, aI g (p_r1 7) 7 f_r1_7, aI g (p_r1 10) 8 f_r1_10, aI g (p_r1 11) 8 f_r1_11, aI g (p_r1 12) 8 f_r1_12] := by
  refine MI.of (cc := cX2_settle) (maxL := 5) (rt := .int) (own := RX2) rfl rfl (by decide) (Nat.le_of_ble_eq_true rfl) ?_
  intro p e s m args below meth c A C0 hP hD hS ls hl
  obtain ⟨hx, hb, hml, hown, hts, hr, hlk, hK, hA, hSW⟩ := id C0
  have hl : lv_has ls 5 [(0, .ref a_t), (1, .ref a_r1)] := hl
  rw [fX2_settle] at hF
  refine lv_aload_n hx hb dX2_settle_0 rfl (lv_at hl 0 rfl) ?_
  refine lv_iconst (v := (0 : Int32)) hx hb dX2_settle_1 (by decide) ?_
  refine va_put (D := g.1) (ci := 2) (v := .int (0 : Int32)) (ty := .int) (C := RX2) (T := TX2) (N := 9) hx hb hts iX2_settle_X2 tyX2 tyX2_ok nmX2 hown hK.1 hP hD hS 0 rfl rfl 4 (by decide) (hts _ kX2_settle_24) (fun _ h9 => h9) rfl (by decide +kernel) rfl rfl (Nat.le_of_ble_eq_true rfl) dX2_settle_2 (fun H locs hP hD hS => ?_)
  have hP : va_P g.1 vwCl [oX2 a_t p_t (upd o_t 4 (0 : Int32)), aI g (p_t 6) 7 f_t_6, aI g (p_t 7) 7 f_t_7, aI g (p_t 8) 7 f_t_8, oX1 a_r1 p_r1 o_r1, aI g (p_r1 4) 7 f_r1_4, aI g (p_r1 7) 7 f_r1_7, aI g (p_r1 10) 8 f_r1_10, aI g (p_r1 11) 8 f_r1_11, aI g (p_r1 12) 8 f_r1_12] H := hP
  have hD : va_D A [oX2 a_t p_t (upd o_t 4 (0 : Int32)), aI g (p_t 6) 7 f_t_6, aI g (p_t 7) 7 f_t_7, aI g (p_t 8) 7 f_t_8, oX1 a_r1 p_r1 o_r1, aI g (p_r1 4) 7 f_r1_4, aI g (p_r1 7) 7 f_r1_7, aI g (p_r1 10) 8 f_r1_10, aI g (p_r1 11) 8 f_r1_11, aI g (p_r1 12) 8 f_r1_12] := hD
  refine lv_iconst (v := (0 : Int32)) hx hb dX2_settle_5 (by decide) ?_
  refine lv_istore_n (lv' := [(2, .int (0 : Int32)), (0, .ref a_t), (1, .ref a_r1)]) hx hb dX2_settle_6 rfl hl (by decide) rfl (fun ls hl => ?_)
  refine lv_iconst (v := (0 : Int32)) hx hb dX2_settle_7 (by decide) ?_
  refine lv_istore_n (lv' := [(3, .int (0 : Int32)), (2, .int (0 : Int32)), (0, .ref a_t), (1, .ref a_r1)]) hx hb dX2_settle_8 rfl hl (by decide) rfl (fun ls hl => ?_)
  refine wX2_settle_L9 C0 a_t a_r1 p_t p_r1 n o_r1 f_r1_4 f_r1_7 f_r1_10 f_r1_11 f_r1_12 r o_t' f_t_6' f_t_7' f_t_8' _ ?_ n (0 : Int32) (0 : Int32) (upd o_t 4 (0 : Int32)) f_t_6 f_t_7 f_t_8 hF _ _ _ (hP.sub [0, 1, 2, 3, 4, 5, 6, 7, 8, 9] rfl) (hD.sub [0, 1, 2, 3, 4, 5, 6, 7, 8, 9] rfl rfl) hS (lv_sub hl [2, 3, 1, 0] rfl)
  · intro x2_x9 o_t_x9 f_t_6_x9 f_t_7_x9 f_t_8_x9 H locs ls hF hP hD hS hl
    refine lv_iload_n hx hb dX2_settle_62 rfl (lv_at hl 0 rfl) ?_
    cases hF
    exact ret_i C0 hP hD hS [0, 1, 2, 3, 4, 5, 6, 7, 8, 9] rfl rfl rfl dX2_settle_63 rfl

theorem dAX3_amount : ∀ q ∈ ([(0, (.aload_n 0, 1)), (1, (.getfield 15, 3)), (4, (.ifCond .ne 5, 3)), (7, (.iload_n 1, 1)), (8, (.ireturn, 1)), (9, (.aload_n 0, 1)), (10, (.bipush 75, 2)), (12, (.aload_n 0, 1)), (13, (.getfield 9, 3)), (16, (.imul, 1)), (17, (.bipush 74, 2)), (19, (.iadd, 1)), (20, (.ldc 19, 2)), (22, (.irem, 1)), (23, (.putfield 9, 3)), (26, (.iconst 2, 1)), (27, (.iload_n 1, 1)), (28, (.imul, 1)), (29, (.iconst 1, 1)), (30, (.iadd, 1)), (31, (.istore_n 2, 1)), (32, (.iload_n 2, 1)), (33, (.iconst 1, 1)), (34, (.if_icmp .ge 7, 3)), (37, (.iconst 0, 1)), (38, (.goto 9, 3)), (41, (.aload_n 0, 1)), (42, (.getfield 9, 3)), (45, (.iload_n 2, 1)), (46, (.irem, 1)), (47, (.ireturn, 1))] : List (Nat × (Instr × Nat))), decode cX3_amount q.1 = .ok q.2 := by decide +kernel
theorem dX3_amount_0 : decode cX3_amount 0 = .ok (.aload_n 0, 1) := dAX3_amount (0, (.aload_n 0, 1)) (List.mem_of_getElem? (i := 0) rfl)
theorem dX3_amount_1 : decode cX3_amount 1 = .ok (.getfield 15, 3) := dAX3_amount (1, (.getfield 15, 3)) (List.mem_of_getElem? (i := 1) rfl)
theorem dX3_amount_4 : decode cX3_amount 4 = .ok (.ifCond .ne 5, 3) := dAX3_amount (4, (.ifCond .ne 5, 3)) (List.mem_of_getElem? (i := 2) rfl)
theorem dX3_amount_7 : decode cX3_amount 7 = .ok (.iload_n 1, 1) := dAX3_amount (7, (.iload_n 1, 1)) (List.mem_of_getElem? (i := 3) rfl)
theorem dX3_amount_8 : decode cX3_amount 8 = .ok (.ireturn, 1) := dAX3_amount (8, (.ireturn, 1)) (List.mem_of_getElem? (i := 4) rfl)
theorem dX3_amount_9 : decode cX3_amount 9 = .ok (.aload_n 0, 1) := dAX3_amount (9, (.aload_n 0, 1)) (List.mem_of_getElem? (i := 5) rfl)
theorem dX3_amount_10 : decode cX3_amount 10 = .ok (.bipush 75, 2) := dAX3_amount (10, (.bipush 75, 2)) (List.mem_of_getElem? (i := 6) rfl)
theorem dX3_amount_12 : decode cX3_amount 12 = .ok (.aload_n 0, 1) := dAX3_amount (12, (.aload_n 0, 1)) (List.mem_of_getElem? (i := 7) rfl)
theorem dX3_amount_13 : decode cX3_amount 13 = .ok (.getfield 9, 3) := dAX3_amount (13, (.getfield 9, 3)) (List.mem_of_getElem? (i := 8) rfl)
theorem dX3_amount_16 : decode cX3_amount 16 = .ok (.imul, 1) := dAX3_amount (16, (.imul, 1)) (List.mem_of_getElem? (i := 9) rfl)
theorem dX3_amount_17 : decode cX3_amount 17 = .ok (.bipush 74, 2) := dAX3_amount (17, (.bipush 74, 2)) (List.mem_of_getElem? (i := 10) rfl)
theorem dX3_amount_19 : decode cX3_amount 19 = .ok (.iadd, 1) := dAX3_amount (19, (.iadd, 1)) (List.mem_of_getElem? (i := 11) rfl)
theorem dX3_amount_20 : decode cX3_amount 20 = .ok (.ldc 19, 2) := dAX3_amount (20, (.ldc 19, 2)) (List.mem_of_getElem? (i := 12) rfl)
theorem dX3_amount_22 : decode cX3_amount 22 = .ok (.irem, 1) := dAX3_amount (22, (.irem, 1)) (List.mem_of_getElem? (i := 13) rfl)
theorem dX3_amount_23 : decode cX3_amount 23 = .ok (.putfield 9, 3) := dAX3_amount (23, (.putfield 9, 3)) (List.mem_of_getElem? (i := 14) rfl)
theorem dX3_amount_26 : decode cX3_amount 26 = .ok (.iconst 2, 1) := dAX3_amount (26, (.iconst 2, 1)) (List.mem_of_getElem? (i := 15) rfl)
theorem dX3_amount_27 : decode cX3_amount 27 = .ok (.iload_n 1, 1) := dAX3_amount (27, (.iload_n 1, 1)) (List.mem_of_getElem? (i := 16) rfl)
theorem dX3_amount_28 : decode cX3_amount 28 = .ok (.imul, 1) := dAX3_amount (28, (.imul, 1)) (List.mem_of_getElem? (i := 17) rfl)
theorem dX3_amount_29 : decode cX3_amount 29 = .ok (.iconst 1, 1) := dAX3_amount (29, (.iconst 1, 1)) (List.mem_of_getElem? (i := 18) rfl)
theorem dX3_amount_30 : decode cX3_amount 30 = .ok (.iadd, 1) := dAX3_amount (30, (.iadd, 1)) (List.mem_of_getElem? (i := 19) rfl)
theorem dX3_amount_31 : decode cX3_amount 31 = .ok (.istore_n 2, 1) := dAX3_amount (31, (.istore_n 2, 1)) (List.mem_of_getElem? (i := 20) rfl)
theorem dX3_amount_32 : decode cX3_amount 32 = .ok (.iload_n 2, 1) := dAX3_amount (32, (.iload_n 2, 1)) (List.mem_of_getElem? (i := 21) rfl)
theorem dX3_amount_33 : decode cX3_amount 33 = .ok (.iconst 1, 1) := dAX3_amount (33, (.iconst 1, 1)) (List.mem_of_getElem? (i := 22) rfl)
theorem dX3_amount_34 : decode cX3_amount 34 = .ok (.if_icmp .ge 7, 3) := dAX3_amount (34, (.if_icmp .ge 7, 3)) (List.mem_of_getElem? (i := 23) rfl)
theorem dX3_amount_37 : decode cX3_amount 37 = .ok (.iconst 0, 1) := dAX3_amount (37, (.iconst 0, 1)) (List.mem_of_getElem? (i := 24) rfl)
theorem dX3_amount_38 : decode cX3_amount 38 = .ok (.goto 9, 3) := dAX3_amount (38, (.goto 9, 3)) (List.mem_of_getElem? (i := 25) rfl)
theorem dX3_amount_41 : decode cX3_amount 41 = .ok (.aload_n 0, 1) := dAX3_amount (41, (.aload_n 0, 1)) (List.mem_of_getElem? (i := 26) rfl)
theorem dX3_amount_42 : decode cX3_amount 42 = .ok (.getfield 9, 3) := dAX3_amount (42, (.getfield 9, 3)) (List.mem_of_getElem? (i := 27) rfl)
theorem dX3_amount_45 : decode cX3_amount 45 = .ok (.iload_n 2, 1) := dAX3_amount (45, (.iload_n 2, 1)) (List.mem_of_getElem? (i := 28) rfl)
theorem dX3_amount_46 : decode cX3_amount 46 = .ok (.irem, 1) := dAX3_amount (46, (.irem, 1)) (List.mem_of_getElem? (i := 29) rfl)
theorem dX3_amount_47 : decode cX3_amount 47 = .ok (.ireturn, 1) := dAX3_amount (47, (.ireturn, 1)) (List.mem_of_getElem? (i := 30) rfl)
theorem kX3_amount_15 : Cond.fieldLink RX3 15 "EveningVow$Pace" "drawing" "Z" ∈ wsX3_amount := List.mem_of_getElem? (i := 1) rfl
theorem iX3_amount_X3 : ∀ w ∈ u_ws RX3 TX3 2, w ∈ wsX3_amount := fun w h => (List.mem_cons_of_mem _ (List.mem_append_right _ h))
theorem kX3_amount_9 : Cond.fieldLink RX3 9 "EveningVow$Pace" "seed" "I" ∈ wsX3_amount := List.mem_of_getElem? (i := 2) rfl
theorem kX3_amount_19 : Cond.constant RX3 19 (65537 : Int32) ∈ wsX3_amount := by decide +kernel
set_option maxHeartbeats 4000000 in
set_option maxRecDepth 100000 in
theorem mX3_amount (l : Launch) (g : GG) (a_t : Nat) (p_t : Nat → Nat) (n : Nat) (x1 : Int32) (o_t : Nat → Int32) (r : Int32) (o_t' : Nat → Int32) (hF : fX3_amount n x1 o_t = some (r, o_t')) : MI l g yX3_amount wsX3_amount ({ frames := 0, cells := 0, slots := 0, locals := 0 } : Room) [.ref a_t, .int x1] [oX3 a_t p_t o_t] r [oX3 a_t p_t o_t'] := by
  refine MI.of (cc := cX3_amount) (maxL := 3) (rt := .int) (own := RX3) rfl rfl (by decide) (Nat.le_of_ble_eq_true rfl) ?_
  intro p e s m args below meth c A C0 hP hD hS ls hl
  obtain ⟨hx, hb, hml, hown, hts, hr, hlk, hK, hA, hSW⟩ := id C0
  have hl : lv_has ls 3 [(0, .ref a_t), (1, .int x1)] := hl
  rw [fX3_amount] at hF
  refine lv_aload_n hx hb dX3_amount_0 rfl (lv_at hl 0 rfl) ?_
  refine va_get (D := g.1) (ci := 3) (v := .int (o_t 0)) (C := RX3) (T := TX3) (N := 2) hx hb hts iX3_amount_X3 hown hK.1 hP 0 rfl rfl 0 (by decide) (hts _ kX3_amount_15) (fun _ h9 => h9) rfl dX3_amount_1 ?_
  refine lv_if_ne (tgt := 9) hx hb dX3_amount_4 (by decide) (fun c_1 => ?_) (fun c_1 => ?_)
  · have hF := it_n c_1 hF
    refine lv_aload_n hx hb dX3_amount_9 rfl (lv_at hl 0 rfl) ?_
    refine lv_bipush (v := (75 : Int32)) hx hb dX3_amount_10 (by decide) ?_
    refine lv_aload_n hx hb dX3_amount_12 rfl (lv_at hl 0 rfl) ?_
    refine va_get (D := g.1) (ci := 3) (v := .int (o_t 1)) (C := RX3) (T := TX3) (N := 2) hx hb hts iX3_amount_X3 hown hK.1 hP 0 rfl rfl 1 (by decide) (hts _ kX3_amount_9) (fun _ h9 => h9) rfl dX3_amount_13 ?_
    refine lv_imul hx hb dX3_amount_16 ?_
    refine lv_bipush (v := (74 : Int32)) hx hb dX3_amount_17 (by decide) ?_
    refine lv_iadd hx hb dX3_amount_19 ?_
    refine lv_ldc (v := (65537 : Int32)) hx hb hown (hts _ kX3_amount_19) dX3_amount_20 ?_
    refine lv_irem hx hb dX3_amount_22 (by decide) ?_
    refine va_put (D := g.1) (ci := 3) (v := .int ((((75 : Int32) * (o_t 1)) + (74 : Int32)) - (((75 : Int32) * (o_t 1)) + (74 : Int32)) / (65537 : Int32) * (65537 : Int32))) (ty := .int) (C := RX3) (T := TX3) (N := 2) hx hb hts iX3_amount_X3 tyX3 tyX3_ok nmX3 hown hK.1 hP hD hS 0 rfl rfl 1 (by decide) (hts _ kX3_amount_9) (fun _ h9 => h9) rfl (by decide +kernel) rfl rfl (Nat.le_of_ble_eq_true rfl) dX3_amount_23 (fun H locs hP hD hS => ?_)
    have hP : va_P g.1 vwCl [oX3 a_t p_t (upd o_t 1 ((((75 : Int32) * (o_t 1)) + (74 : Int32)) - (((75 : Int32) * (o_t 1)) + (74 : Int32)) / (65537 : Int32) * (65537 : Int32)))] H := hP
    have hD : va_D A [oX3 a_t p_t (upd o_t 1 ((((75 : Int32) * (o_t 1)) + (74 : Int32)) - (((75 : Int32) * (o_t 1)) + (74 : Int32)) / (65537 : Int32) * (65537 : Int32)))] := hD
    refine lv_iconst (v := (2 : Int32)) hx hb dX3_amount_26 (by decide) ?_
    refine lv_iload_n hx hb dX3_amount_27 rfl (lv_at hl 1 rfl) ?_
    refine lv_imul hx hb dX3_amount_28 ?_
    refine lv_iconst (v := (1 : Int32)) hx hb dX3_amount_29 (by decide) ?_
    refine lv_iadd hx hb dX3_amount_30 ?_
    refine lv_istore_n (lv' := [(2, .int (((2 : Int32) * x1) + (1 : Int32))), (0, .ref a_t), (1, .int x1)]) hx hb dX3_amount_31 rfl hl (by decide) rfl (fun ls hl => ?_)
    refine lv_iload_n hx hb dX3_amount_32 rfl (lv_at hl 0 rfl) ?_
    refine lv_iconst (v := (1 : Int32)) hx hb dX3_amount_33 (by decide) ?_
    refine lv_icmp_ge (tgt := 41) hx hb dX3_amount_34 (by decide) (fun c_2 => ?_) (fun c_2 => ?_)
    · have hF := it_p c_2 hF
      refine lv_aload_n hx hb dX3_amount_41 rfl (lv_at hl 1 rfl) ?_
      refine va_get (D := g.1) (ci := 3) (v := .int ((((75 : Int32) * (o_t 1)) + (74 : Int32)) - (((75 : Int32) * (o_t 1)) + (74 : Int32)) / (65537 : Int32) * (65537 : Int32))) (C := RX3) (T := TX3) (N := 2) hx hb hts iX3_amount_X3 hown hK.1 hP 0 rfl rfl 1 (by decide) (hts _ kX3_amount_9) (fun _ h9 => h9) rfl dX3_amount_42 ?_
      refine lv_iload_n hx hb dX3_amount_45 rfl (lv_at hl 0 rfl) ?_
      obtain ⟨h_3, hF⟩ := it_ck hF
      refine lv_irem hx hb dX3_amount_46 h_3 ?_
      cases hF
      exact ret_i C0 hP hD hS [0] rfl rfl rfl dX3_amount_47 rfl
    · have hF := it_n c_2 hF
      refine lv_iconst (v := (0 : Int32)) hx hb dX3_amount_37 (by decide) ?_
      refine lv_goto (tgt := 47) hx hb dX3_amount_38 (by decide) ?_
      cases hF
      exact ret_i C0 hP hD hS [0] rfl rfl rfl dX3_amount_47 rfl
  · have hF := it_p c_1 hF
    refine lv_iload_n hx hb dX3_amount_7 rfl (lv_at hl 1 rfl) ?_
    cases hF
    exact ret_i C0 hP hD hS [0] rfl rfl rfl dX3_amount_8 rfl

theorem dAX2_sink : ∀ q ∈ ([(0, (.iconst 0, 1)), (1, (.istore_n 3, 1)), (2, (.iload_n 3, 1)), (3, (.aload_n 1, 1)), (4, (.getfield 40, 3)), (7, (.if_icmp .ge 81, 3)), (10, (.aload_n 1, 1)), (11, (.getfield 77, 3)), (14, (.iload_n 3, 1)), (15, (.iaload, 1)), (16, (.iconst 3, 1)), (17, (.if_icmp .eq 22, 3)), (20, (.aload_n 1, 1)), (21, (.getfield 77, 3)), (24, (.iload_n 3, 1)), (25, (.iaload, 1)), (26, (.iconst 2, 1)), (27, (.if_icmp .ne 16, 3)), (30, (.aload_n 0, 1)), (31, (.getfield 9, 3)), (34, (.bipush 6, 2)), (36, (.if_icmp .ge 7, 3)), (39, (.iconst 1, 1)), (40, (.goto 4, 3)), (43, (.iconst 0, 1)), (44, (.istore 4, 2)), (46, (.aload_n 0, 1)), (47, (.getfield 15, 3)), (50, (.iload_n 3, 1)), (51, (.ishr, 1)), (52, (.iconst 1, 1)), (53, (.iand, 1)), (54, (.iconst 1, 1)), (55, (.if_icmp .ne 27, 3)), (58, (.iload 4, 2)), (60, (.ifCond .ne 22, 3)), (63, (.aload_n 0, 1)), (64, (.getfield 30, 3)), (67, (.iload_n 3, 1)), (68, (.dup2, 1)), (69, (.iaload, 1)), (70, (.aload_n 2, 1)), (71, (.aload_n 1, 1)), (72, (.getfield 94, 3)), (75, (.iload_n 3, 1)), (76, (.iaload, 1)), (77, (.invokevirtual 97, 3)), (80, (.isub, 1)), (81, (.iastore, 1)), (82, (.iinc 3 1, 3)), (85, (.goto (-83), 3)), (88, (.return_, 1))] : List (Nat × (Instr × Nat))), decode cX2_sink q.1 = .ok q.2 := by decide +kernel
theorem dX2_sink_0 : decode cX2_sink 0 = .ok (.iconst 0, 1) := dAX2_sink (0, (.iconst 0, 1)) (List.mem_of_getElem? (i := 0) rfl)
theorem dX2_sink_1 : decode cX2_sink 1 = .ok (.istore_n 3, 1) := dAX2_sink (1, (.istore_n 3, 1)) (List.mem_of_getElem? (i := 1) rfl)
theorem dX2_sink_2 : decode cX2_sink 2 = .ok (.iload_n 3, 1) := dAX2_sink (2, (.iload_n 3, 1)) (List.mem_of_getElem? (i := 2) rfl)
theorem dX2_sink_3 : decode cX2_sink 3 = .ok (.aload_n 1, 1) := dAX2_sink (3, (.aload_n 1, 1)) (List.mem_of_getElem? (i := 3) rfl)
theorem dX2_sink_4 : decode cX2_sink 4 = .ok (.getfield 40, 3) := dAX2_sink (4, (.getfield 40, 3)) (List.mem_of_getElem? (i := 4) rfl)
theorem dX2_sink_7 : decode cX2_sink 7 = .ok (.if_icmp .ge 81, 3) := dAX2_sink (7, (.if_icmp .ge 81, 3)) (List.mem_of_getElem? (i := 5) rfl)
theorem dX2_sink_10 : decode cX2_sink 10 = .ok (.aload_n 1, 1) := dAX2_sink (10, (.aload_n 1, 1)) (List.mem_of_getElem? (i := 6) rfl)
theorem dX2_sink_11 : decode cX2_sink 11 = .ok (.getfield 77, 3) := dAX2_sink (11, (.getfield 77, 3)) (List.mem_of_getElem? (i := 7) rfl)
theorem dX2_sink_14 : decode cX2_sink 14 = .ok (.iload_n 3, 1) := dAX2_sink (14, (.iload_n 3, 1)) (List.mem_of_getElem? (i := 8) rfl)
theorem dX2_sink_15 : decode cX2_sink 15 = .ok (.iaload, 1) := dAX2_sink (15, (.iaload, 1)) (List.mem_of_getElem? (i := 9) rfl)
theorem dX2_sink_16 : decode cX2_sink 16 = .ok (.iconst 3, 1) := dAX2_sink (16, (.iconst 3, 1)) (List.mem_of_getElem? (i := 10) rfl)
theorem dX2_sink_17 : decode cX2_sink 17 = .ok (.if_icmp .eq 22, 3) := dAX2_sink (17, (.if_icmp .eq 22, 3)) (List.mem_of_getElem? (i := 11) rfl)
theorem dX2_sink_20 : decode cX2_sink 20 = .ok (.aload_n 1, 1) := dAX2_sink (20, (.aload_n 1, 1)) (List.mem_of_getElem? (i := 12) rfl)
theorem dX2_sink_21 : decode cX2_sink 21 = .ok (.getfield 77, 3) := dAX2_sink (21, (.getfield 77, 3)) (List.mem_of_getElem? (i := 13) rfl)
theorem dX2_sink_24 : decode cX2_sink 24 = .ok (.iload_n 3, 1) := dAX2_sink (24, (.iload_n 3, 1)) (List.mem_of_getElem? (i := 14) rfl)
theorem dX2_sink_25 : decode cX2_sink 25 = .ok (.iaload, 1) := dAX2_sink (25, (.iaload, 1)) (List.mem_of_getElem? (i := 15) rfl)
theorem dX2_sink_26 : decode cX2_sink 26 = .ok (.iconst 2, 1) := dAX2_sink (26, (.iconst 2, 1)) (List.mem_of_getElem? (i := 16) rfl)
theorem dX2_sink_27 : decode cX2_sink 27 = .ok (.if_icmp .ne 16, 3) := dAX2_sink (27, (.if_icmp .ne 16, 3)) (List.mem_of_getElem? (i := 17) rfl)
theorem dX2_sink_30 : decode cX2_sink 30 = .ok (.aload_n 0, 1) := dAX2_sink (30, (.aload_n 0, 1)) (List.mem_of_getElem? (i := 18) rfl)
theorem dX2_sink_31 : decode cX2_sink 31 = .ok (.getfield 9, 3) := dAX2_sink (31, (.getfield 9, 3)) (List.mem_of_getElem? (i := 19) rfl)
theorem dX2_sink_34 : decode cX2_sink 34 = .ok (.bipush 6, 2) := dAX2_sink (34, (.bipush 6, 2)) (List.mem_of_getElem? (i := 20) rfl)
theorem dX2_sink_36 : decode cX2_sink 36 = .ok (.if_icmp .ge 7, 3) := dAX2_sink (36, (.if_icmp .ge 7, 3)) (List.mem_of_getElem? (i := 21) rfl)
theorem dX2_sink_39 : decode cX2_sink 39 = .ok (.iconst 1, 1) := dAX2_sink (39, (.iconst 1, 1)) (List.mem_of_getElem? (i := 22) rfl)
theorem dX2_sink_40 : decode cX2_sink 40 = .ok (.goto 4, 3) := dAX2_sink (40, (.goto 4, 3)) (List.mem_of_getElem? (i := 23) rfl)
theorem dX2_sink_43 : decode cX2_sink 43 = .ok (.iconst 0, 1) := dAX2_sink (43, (.iconst 0, 1)) (List.mem_of_getElem? (i := 24) rfl)
theorem dX2_sink_44 : decode cX2_sink 44 = .ok (.istore 4, 2) := dAX2_sink (44, (.istore 4, 2)) (List.mem_of_getElem? (i := 25) rfl)
theorem dX2_sink_46 : decode cX2_sink 46 = .ok (.aload_n 0, 1) := dAX2_sink (46, (.aload_n 0, 1)) (List.mem_of_getElem? (i := 26) rfl)
theorem dX2_sink_47 : decode cX2_sink 47 = .ok (.getfield 15, 3) := dAX2_sink (47, (.getfield 15, 3)) (List.mem_of_getElem? (i := 27) rfl)
theorem dX2_sink_50 : decode cX2_sink 50 = .ok (.iload_n 3, 1) := dAX2_sink (50, (.iload_n 3, 1)) (List.mem_of_getElem? (i := 28) rfl)
theorem dX2_sink_51 : decode cX2_sink 51 = .ok (.ishr, 1) := dAX2_sink (51, (.ishr, 1)) (List.mem_of_getElem? (i := 29) rfl)
theorem dX2_sink_52 : decode cX2_sink 52 = .ok (.iconst 1, 1) := dAX2_sink (52, (.iconst 1, 1)) (List.mem_of_getElem? (i := 30) rfl)
theorem dX2_sink_53 : decode cX2_sink 53 = .ok (.iand, 1) := dAX2_sink (53, (.iand, 1)) (List.mem_of_getElem? (i := 31) rfl)
theorem dX2_sink_54 : decode cX2_sink 54 = .ok (.iconst 1, 1) := dAX2_sink (54, (.iconst 1, 1)) (List.mem_of_getElem? (i := 32) rfl)
theorem dX2_sink_55 : decode cX2_sink 55 = .ok (.if_icmp .ne 27, 3) := dAX2_sink (55, (.if_icmp .ne 27, 3)) (List.mem_of_getElem? (i := 33) rfl)
theorem dX2_sink_58 : decode cX2_sink 58 = .ok (.iload 4, 2) := dAX2_sink (58, (.iload 4, 2)) (List.mem_of_getElem? (i := 34) rfl)
theorem dX2_sink_60 : decode cX2_sink 60 = .ok (.ifCond .ne 22, 3) := dAX2_sink (60, (.ifCond .ne 22, 3)) (List.mem_of_getElem? (i := 35) rfl)
theorem dX2_sink_63 : decode cX2_sink 63 = .ok (.aload_n 0, 1) := dAX2_sink (63, (.aload_n 0, 1)) (List.mem_of_getElem? (i := 36) rfl)
theorem dX2_sink_64 : decode cX2_sink 64 = .ok (.getfield 30, 3) := dAX2_sink (64, (.getfield 30, 3)) (List.mem_of_getElem? (i := 37) rfl)
theorem dX2_sink_67 : decode cX2_sink 67 = .ok (.iload_n 3, 1) := dAX2_sink (67, (.iload_n 3, 1)) (List.mem_of_getElem? (i := 38) rfl)
theorem dX2_sink_68 : decode cX2_sink 68 = .ok (.dup2, 1) := dAX2_sink (68, (.dup2, 1)) (List.mem_of_getElem? (i := 39) rfl)
theorem dX2_sink_69 : decode cX2_sink 69 = .ok (.iaload, 1) := dAX2_sink (69, (.iaload, 1)) (List.mem_of_getElem? (i := 40) rfl)
theorem dX2_sink_70 : decode cX2_sink 70 = .ok (.aload_n 2, 1) := dAX2_sink (70, (.aload_n 2, 1)) (List.mem_of_getElem? (i := 41) rfl)
theorem dX2_sink_71 : decode cX2_sink 71 = .ok (.aload_n 1, 1) := dAX2_sink (71, (.aload_n 1, 1)) (List.mem_of_getElem? (i := 42) rfl)
theorem dX2_sink_72 : decode cX2_sink 72 = .ok (.getfield 94, 3) := dAX2_sink (72, (.getfield 94, 3)) (List.mem_of_getElem? (i := 43) rfl)
theorem dX2_sink_75 : decode cX2_sink 75 = .ok (.iload_n 3, 1) := dAX2_sink (75, (.iload_n 3, 1)) (List.mem_of_getElem? (i := 44) rfl)
theorem dX2_sink_76 : decode cX2_sink 76 = .ok (.iaload, 1) := dAX2_sink (76, (.iaload, 1)) (List.mem_of_getElem? (i := 45) rfl)
theorem dX2_sink_77 : decode cX2_sink 77 = .ok (.invokevirtual 97, 3) := dAX2_sink (77, (.invokevirtual 97, 3)) (List.mem_of_getElem? (i := 46) rfl)
theorem dX2_sink_80 : decode cX2_sink 80 = .ok (.isub, 1) := dAX2_sink (80, (.isub, 1)) (List.mem_of_getElem? (i := 47) rfl)
theorem dX2_sink_81 : decode cX2_sink 81 = .ok (.iastore, 1) := dAX2_sink (81, (.iastore, 1)) (List.mem_of_getElem? (i := 48) rfl)
theorem dX2_sink_82 : decode cX2_sink 82 = .ok (.iinc 3 1, 3) := dAX2_sink (82, (.iinc 3 1, 3)) (List.mem_of_getElem? (i := 49) rfl)
theorem dX2_sink_85 : decode cX2_sink 85 = .ok (.goto (-83), 3) := dAX2_sink (85, (.goto (-83), 3)) (List.mem_of_getElem? (i := 50) rfl)
theorem dX2_sink_88 : decode cX2_sink 88 = .ok (.return_, 1) := dAX2_sink (88, (.return_, 1)) (List.mem_of_getElem? (i := 51) rfl)
set_option maxRecDepth 20000 in
theorem ggX2_sink_X3_amount : GoodIn wsX2_sink wsX3_amount := goodIn_r _ [11, 12, 13, 14, 41, 42] rfl (by decide +kernel)
set_option maxRecDepth 20000 in
theorem gX2_sink_X3_amount : GoodIn wsX2_sink (wsV RX2 97 RX3 yX3_amount wsX3_amount) := goodIn_app (goodIn_of _ (by decide +kernel)) ggX2_sink_X3_amount
theorem kX2_sink_40 : Cond.fieldLink RX2 40 "EveningVow$House" "guests" "I" ∈ wsX2_sink := List.mem_of_getElem? (i := 1) rfl
theorem iX2_sink_X1 : ∀ w ∈ u_ws RX1 TX1 17, w ∈ wsX2_sink := fun w h => (List.mem_cons_of_mem _ (List.mem_append_left _ (List.mem_append_left _ (List.mem_append_right _ h))))
theorem kX2_sink_77 : Cond.fieldLink RX2 77 "EveningVow$House" "kind" "[I" ∈ wsX2_sink := List.mem_of_getElem? (i := 2) rfl
theorem kX2_sink_15 : Cond.fieldLink RX2 15 "EveningVow$Night" "there" "I" ∈ wsX2_sink := List.mem_of_getElem? (i := 4) rfl
theorem iX2_sink_X2 : ∀ w ∈ u_ws RX2 TX2 9, w ∈ wsX2_sink := fun w h => (List.mem_cons_of_mem _ (List.mem_append_left _ (List.mem_append_right _ h)))
theorem kX2_sink_30 : Cond.fieldLink RX2 30 "EveningVow$Night" "want" "[I" ∈ wsX2_sink := List.mem_of_getElem? (i := 5) rfl
theorem kX2_sink_94 : Cond.fieldLink RX2 94 "EveningVow$House" "sinks" "[I" ∈ wsX2_sink := List.mem_of_getElem? (i := 6) rfl
theorem kX2_sink_9 : Cond.fieldLink RX2 9 "EveningVow$Night" "clock" "I" ∈ wsX2_sink := List.mem_of_getElem? (i := 3) rfl
set_option maxHeartbeats 4000000 in
set_option maxRecDepth 100000 in
theorem wX2_sink_L2 {p : Program} {l : Launch} {e : Env} {s : State} {m : MethodId} {args : Array Value} {below : List Frame} {meth : Method} {c : Code} {g : GG} {A : Nat → Prop} (C0 : Cx p s m args meth c cX2_sink 5 none RX2 wsX2_sink g A) (a_t : Nat) (a_r1 : Nat) (a_r2 : Nat) (p_t : Nat → Nat) (p_r1 : Nat → Nat) (p_r2 : Nat → Nat) (n : Nat) (o_t : Nat → Int32) (o_r1 : Nat → Int32) (f_r1_4 : Nat → Int32) (f_r1_6 : Nat → Int32)  (f_t_6' : Nat → Int32) (o_r2' : Nat → Int32) (K : (Nat → Int32) → (Nat → Int32) → Option ((Nat → Int32) × (Nat → Int32))) (hKx : ∀ (f_t_6 : Nat → Int32) (o_r2 : Nat → Int32) (H : Heap) (locs : List Loc) (ls : Array Slot), K f_t_6 o_r2 = some (f_t_6', o_r2') → va_P g.1 vwCl [oX2 a_t p_t o_t, aI g (p_t 6) 7 f_t_6, oX1 a_r1 p_r1 o_r1, aI g (p_r1 4) 7 f_r1_4, aI g (p_r1 6) 7 f_r1_6, oX3 a_r2 p_r2 o_r2] H → va_D A [oX2 a_t p_t o_t, aI g (p_t 6) 7 f_t_6, oX1 a_r1 p_r1 o_r1, aI g (p_r1 4) 7 f_r1_4, aI g (p_r1 6) 7 f_r1_6, oX3 a_r2 p_r2 o_r2] → va_S A s.heap H locs → lv_has ls 5 [] → W p l e ({ frames := 1, cells := 0, slots := 0, locals := 22 } : Room) s m args below meth c H locs 0 0 (MQ below (EndV g [oX2 a_t p_t o_t, aI g (p_t 6) 7 f_t_6', oX1 a_r1 p_r1 o_r1, aI g (p_r1 4) 7 f_r1_4, aI g (p_r1 6) 7 f_r1_6, oX3 a_r2 p_r2 o_r2'] A) args s 0 0 A) (F0 m 88 ls [])) : ∀ (k : Nat) (x3 : Int32) (f_t_6 : Nat → Int32) (o_r2 : Nat → Int32), fX2_sink_L2 n o_t o_r1 f_r1_4 f_r1_6 K k x3 f_t_6 o_r2 = some (f_t_6', o_r2') → ∀ (H : Heap) (locs : List Loc) (ls : Array Slot), va_P g.1 vwCl [oX2 a_t p_t o_t, aI g (p_t 6) 7 f_t_6, oX1 a_r1 p_r1 o_r1, aI g (p_r1 4) 7 f_r1_4, aI g (p_r1 6) 7 f_r1_6, oX3 a_r2 p_r2 o_r2] H → va_D A [oX2 a_t p_t o_t, aI g (p_t 6) 7 f_t_6, oX1 a_r1 p_r1 o_r1, aI g (p_r1 4) 7 f_r1_4, aI g (p_r1 6) 7 f_r1_6, oX3 a_r2 p_r2 o_r2] → va_S A s.heap H locs → lv_has ls 5 [(0, .ref a_t), (1, .ref a_r1), (2, .ref a_r2), (3, .int x3)] → W p l e ({ frames := 1, cells := 0, slots := 0, locals := 22 } : Room) s m args below meth c H locs 0 0 (MQ below (EndV g [oX2 a_t p_t o_t, aI g (p_t 6) 7 f_t_6', oX1 a_r1 p_r1 o_r1, aI g (p_r1 4) 7 f_r1_4, aI g (p_r1 6) 7 f_r1_6, oX3 a_r2 p_r2 o_r2'] A) args s 0 0 A) (F0 m 2 ls []) := by
  obtain ⟨hx, hb, hml, hown, hts, hr, hlk, hK, hA, hSW⟩ := id C0
  intro k
  induction k with
  | zero =>
    intro x3 f_t_6 o_r2 hF
    exact absurd hF (by simp [fX2_sink_L2])
  | succ k ih =>
    intro x3 f_t_6 o_r2 hF H locs ls hP hD hS hl
    rw [fX2_sink_L2] at hF
    refine lv_iload_n hx hb dX2_sink_2 rfl (lv_at hl 3 rfl) ?_
    refine lv_aload_n hx hb dX2_sink_3 rfl (lv_at hl 1 rfl) ?_
    refine va_get (D := g.1) (ci := 1) (v := .int (o_r1 3)) (C := RX1) (T := TX1) (N := 17) hx hb hts iX2_sink_X1 hown hK.1 hP 2 rfl rfl 3 (by decide) (hts _ kX2_sink_40) (fun _ h9 => h9) rfl dX2_sink_4 ?_
    refine lv_icmp_ge (tgt := 88) hx hb dX2_sink_7 (by decide) (fun c_1 => ?_) (fun c_1 => ?_)
    · have hF := it_p c_1 hF
      exact hKx f_t_6 o_r2 _ _ _ hF (hP.sub [0, 1, 2, 3, 4, 5] rfl) (hD.sub [0, 1, 2, 3, 4, 5] rfl rfl) hS (lv_sub hl [] rfl)
    · have hF := it_n c_1 hF
      refine lv_aload_n hx hb dX2_sink_10 rfl (lv_at hl 1 rfl) ?_
      refine va_get (D := g.1) (ci := 1) (v := .ref (p_r1 4)) (C := RX1) (T := TX1) (N := 17) hx hb hts iX2_sink_X1 hown hK.1 hP 2 rfl rfl 4 (by decide) (hts _ kX2_sink_77) (fun _ h9 => h9) rfl dX2_sink_11 ?_
      refine lv_iload_n hx hb dX2_sink_14 rfl (lv_at hl 3 rfl) ?_
      obtain ⟨h_2, hF⟩ := it_ck hF
      refine va_iald hx hb hK.1 hP 3 0 rfl rfl h_2 dX2_sink_15 ?_
      refine lv_iconst (v := (3 : Int32)) hx hb dX2_sink_16 (by decide) ?_
      obtain ⟨J44, eJ44, hF⟩ := jn_some hF
      have hJ44 : ∀ (s0_44 : Int32) (H : Heap) (locs : List Loc) (ls : Array Slot), J44 s0_44 = some (f_t_6', o_r2') → va_P g.1 vwCl [oX2 a_t p_t o_t, aI g (p_t 6) 7 f_t_6, oX1 a_r1 p_r1 o_r1, aI g (p_r1 4) 7 f_r1_4, aI g (p_r1 6) 7 f_r1_6, oX3 a_r2 p_r2 o_r2] H → va_D A [oX2 a_t p_t o_t, aI g (p_t 6) 7 f_t_6, oX1 a_r1 p_r1 o_r1, aI g (p_r1 4) 7 f_r1_4, aI g (p_r1 6) 7 f_r1_6, oX3 a_r2 p_r2 o_r2] → va_S A s.heap H locs → lv_has ls 5 [(0, .ref a_t), (1, .ref a_r1), (2, .ref a_r2), (3, .int x3)] → W p l e ({ frames := 1, cells := 0, slots := 0, locals := 22 } : Room) s m args below meth c H locs 0 0 (MQ below (EndV g [oX2 a_t p_t o_t, aI g (p_t 6) 7 f_t_6', oX1 a_r1 p_r1 o_r1, aI g (p_r1 4) 7 f_r1_4, aI g (p_r1 6) 7 f_r1_6, oX3 a_r2 p_r2 o_r2'] A) args s 0 0 A) (F0 m 44 ls [.int s0_44]) := by
        intro s0_44 H locs ls hF hP hD hS hl
        have hF := jj1 eJ44 hF
        refine lv_istore (lv' := [(4, .int s0_44), (0, .ref a_t), (1, .ref a_r1), (2, .ref a_r2), (3, .int x3)]) hx hb dX2_sink_44 hl (by decide) rfl (fun ls hl => ?_)
        refine lv_aload_n hx hb dX2_sink_46 rfl (lv_at hl 1 rfl) ?_
        refine va_get (D := g.1) (ci := 2) (v := .int (o_t 1)) (C := RX2) (T := TX2) (N := 9) hx hb hts iX2_sink_X2 hown hK.1 hP 0 rfl rfl 1 (by decide) (hts _ kX2_sink_15) (fun _ h9 => h9) rfl dX2_sink_47 ?_
        refine lv_iload_n hx hb dX2_sink_50 rfl (lv_at hl 4 rfl) ?_
        refine lv_ishr hx hb dX2_sink_51 ?_
        refine lv_iconst (v := (1 : Int32)) hx hb dX2_sink_52 (by decide) ?_
        refine lv_iand hx hb dX2_sink_53 ?_
        refine lv_iconst (v := (1 : Int32)) hx hb dX2_sink_54 (by decide) ?_
        refine lv_icmp_ne (tgt := 82) hx hb dX2_sink_55 (by decide) (fun c_3 => ?_) (fun c_3 => ?_)
        · have hF := it_n c_3 hF
          refine lv_iinc (v := (x3 + (1 : Int32))) (lv' := [(3, .int (x3 + (1 : Int32))), (4, .int s0_44), (0, .ref a_t), (1, .ref a_r1), (2, .ref a_r2)]) hx hb dX2_sink_82 hl (k := 4) rfl rfl (by decide) rfl (fun ls hl => ?_)
          refine lv_goto (tgt := 2) hx hb dX2_sink_85 (by decide) ?_
          exact ih (x3 + (1 : Int32)) f_t_6 o_r2 hF _ _ _ (hP.sub [0, 1, 2, 3, 4, 5] rfl) (hD.sub [0, 1, 2, 3, 4, 5] rfl rfl) hS (lv_sub hl [2, 3, 4, 0] rfl)
        · have hF := it_p c_3 hF
          refine lv_iload hx hb dX2_sink_58 (lv_at hl 0 rfl) ?_
          refine lv_if_ne (tgt := 82) hx hb dX2_sink_60 (by decide) (fun c_4 => ?_) (fun c_4 => ?_)
          · have hF := it_n c_4 hF
            refine lv_iinc (v := (x3 + (1 : Int32))) (lv' := [(3, .int (x3 + (1 : Int32))), (4, .int s0_44), (0, .ref a_t), (1, .ref a_r1), (2, .ref a_r2)]) hx hb dX2_sink_82 hl (k := 4) rfl rfl (by decide) rfl (fun ls hl => ?_)
            refine lv_goto (tgt := 2) hx hb dX2_sink_85 (by decide) ?_
            exact ih (x3 + (1 : Int32)) f_t_6 o_r2 hF _ _ _ (hP.sub [0, 1, 2, 3, 4, 5] rfl) (hD.sub [0, 1, 2, 3, 4, 5] rfl rfl) hS (lv_sub hl [2, 3, 4, 0] rfl)
          · have hF := it_p c_4 hF
            refine lv_aload_n hx hb dX2_sink_63 rfl (lv_at hl 1 rfl) ?_
            refine va_get (D := g.1) (ci := 2) (v := .ref (p_t 6)) (C := RX2) (T := TX2) (N := 9) hx hb hts iX2_sink_X2 hown hK.1 hP 0 rfl rfl 6 (by decide) (hts _ kX2_sink_30) (fun _ h9 => h9) rfl dX2_sink_64 ?_
            refine lv_iload_n hx hb dX2_sink_67 rfl (lv_at hl 4 rfl) ?_
            refine lv_dup2_11 hx hb dX2_sink_68 rfl rfl ?_
            obtain ⟨h_5, hF⟩ := it_ck hF
            refine va_iald hx hb hK.1 hP 1 0 rfl rfl h_5 dX2_sink_69 ?_
            refine lv_aload_n hx hb dX2_sink_70 rfl (lv_at hl 3 rfl) ?_
            refine lv_aload_n hx hb dX2_sink_71 rfl (lv_at hl 2 rfl) ?_
            refine va_get (D := g.1) (ci := 1) (v := .ref (p_r1 6)) (C := RX1) (T := TX1) (N := 17) hx hb hts iX2_sink_X1 hown hK.1 hP 2 rfl rfl 6 (by decide) (hts _ kX2_sink_94) (fun _ h9 => h9) rfl dX2_sink_72 ?_
            refine lv_iload_n hx hb dX2_sink_75 rfl (lv_at hl 4 rfl) ?_
            obtain ⟨h_6, hF⟩ := it_ck hF
            refine va_iald hx hb hK.1 hP 4 0 rfl rfl h_6 dX2_sink_76 ?_
            obtain ⟨u_7, u_8, hu_9, hF⟩ := ob2_some hF
            refine call_i (wr := [oX2 a_t p_t o_t, aI g (p_t 6) 7 f_t_6, oX1 a_r1 p_r1 o_r1, aI g (p_r1 4) 7 f_r1_4, aI g (p_r1 6) 7 f_r1_6]) (As := [.int (f_r1_6 (x3).toNatClampNeg)]) (rest := [.int (f_t_6 (x3).toNatClampNeg), .int x3, .ref (p_t 6)]) (ci := 3) (q0 := 0) C0 (mX3_amount l g a_r2 p_r2 n (f_r1_6 (x3).toNatClampNeg) o_r2 u_7 u_8 hu_9) (cwV 1 hts gX2_sink_X3_amount rfl rfl rfl (by decide +kernel) ⟨Nat.le_of_ble_eq_true rfl, Nat.le_of_ble_eq_true rfl⟩) hP hD hS [5] [0, 1, 2, 3, 4] rfl rfl rfl rfl rfl (by decide) rfl rfl hl.1 rfl rfl (Nat.le_of_ble_eq_true rfl) ⟨Nat.zero_le _, Nat.zero_le _⟩ dX2_sink_77 ?_
            intro H locs hP hD hS
            refine lv_isub hx hb dX2_sink_80 ?_
            obtain ⟨h_10, hF⟩ := it_ck hF
            refine va_iast hx hb hK.1 hP hD hS 1 0 rfl rfl h_10 dX2_sink_81 (fun H locs hP hD hS => ?_)
            have hP : va_P g.1 vwCl [oX2 a_t p_t o_t, aI g (p_t 6) 7 (upd f_t_6 (x3).toNatClampNeg ((f_t_6 (x3).toNatClampNeg) - u_7)), oX1 a_r1 p_r1 o_r1, aI g (p_r1 4) 7 f_r1_4, aI g (p_r1 6) 7 f_r1_6, oX3 a_r2 p_r2 u_8] H := hP
            have hD : va_D A [oX2 a_t p_t o_t, aI g (p_t 6) 7 (upd f_t_6 (x3).toNatClampNeg ((f_t_6 (x3).toNatClampNeg) - u_7)), oX1 a_r1 p_r1 o_r1, aI g (p_r1 4) 7 f_r1_4, aI g (p_r1 6) 7 f_r1_6, oX3 a_r2 p_r2 u_8] := hD
            refine lv_iinc (v := (x3 + (1 : Int32))) (lv' := [(3, .int (x3 + (1 : Int32))), (4, .int s0_44), (0, .ref a_t), (1, .ref a_r1), (2, .ref a_r2)]) hx hb dX2_sink_82 hl (k := 4) rfl rfl (by decide) rfl (fun ls hl => ?_)
            refine lv_goto (tgt := 2) hx hb dX2_sink_85 (by decide) ?_
            exact ih (x3 + (1 : Int32)) (upd f_t_6 (x3).toNatClampNeg ((f_t_6 (x3).toNatClampNeg) - u_7)) u_8 hF _ _ _ (hP.sub [0, 1, 2, 3, 4, 5] rfl) (hD.sub [0, 1, 2, 3, 4, 5] rfl rfl) hS (lv_sub hl [2, 3, 4, 0] rfl)
      refine lv_icmp_eq (tgt := 39) hx hb dX2_sink_17 (by decide) (fun c_11 => ?_) (fun c_11 => ?_)
      · have hF := it_p c_11 hF
        refine lv_iconst (v := (1 : Int32)) hx hb dX2_sink_39 (by decide) ?_
        refine lv_goto (tgt := 44) hx hb dX2_sink_40 (by decide) ?_
        exact hJ44 (1 : Int32) _ _ _ hF (hP.sub [0, 1, 2, 3, 4, 5] rfl) (hD.sub [0, 1, 2, 3, 4, 5] rfl rfl) hS (lv_sub hl [0, 1, 2, 3] rfl)
      · have hF := it_n c_11 hF
        refine lv_aload_n hx hb dX2_sink_20 rfl (lv_at hl 1 rfl) ?_
        refine va_get (D := g.1) (ci := 1) (v := .ref (p_r1 4)) (C := RX1) (T := TX1) (N := 17) hx hb hts iX2_sink_X1 hown hK.1 hP 2 rfl rfl 4 (by decide) (hts _ kX2_sink_77) (fun _ h9 => h9) rfl dX2_sink_21 ?_
        refine lv_iload_n hx hb dX2_sink_24 rfl (lv_at hl 3 rfl) ?_
        obtain ⟨h_12, hF⟩ := it_ck hF
        refine va_iald hx hb hK.1 hP 3 0 rfl rfl h_12 dX2_sink_25 ?_
        refine lv_iconst (v := (2 : Int32)) hx hb dX2_sink_26 (by decide) ?_
        refine lv_icmp_ne (tgt := 43) hx hb dX2_sink_27 (by decide) (fun c_13 => ?_) (fun c_13 => ?_)
        · have hF := it_n c_13 hF
          refine lv_iconst (v := (0 : Int32)) hx hb dX2_sink_43 (by decide) ?_
          exact hJ44 (0 : Int32) _ _ _ hF (hP.sub [0, 1, 2, 3, 4, 5] rfl) (hD.sub [0, 1, 2, 3, 4, 5] rfl rfl) hS (lv_sub hl [0, 1, 2, 3] rfl)
        · have hF := it_p c_13 hF
          refine lv_aload_n hx hb dX2_sink_30 rfl (lv_at hl 0 rfl) ?_
          refine va_get (D := g.1) (ci := 2) (v := .int (o_t 0)) (C := RX2) (T := TX2) (N := 9) hx hb hts iX2_sink_X2 hown hK.1 hP 0 rfl rfl 0 (by decide) (hts _ kX2_sink_9) (fun _ h9 => h9) rfl dX2_sink_31 ?_
          refine lv_bipush (v := (6 : Int32)) hx hb dX2_sink_34 (by decide) ?_
          refine lv_icmp_ge (tgt := 43) hx hb dX2_sink_36 (by decide) (fun c_14 => ?_) (fun c_14 => ?_)
          · have hF := it_p c_14 hF
            refine lv_iconst (v := (0 : Int32)) hx hb dX2_sink_43 (by decide) ?_
            exact hJ44 (0 : Int32) _ _ _ hF (hP.sub [0, 1, 2, 3, 4, 5] rfl) (hD.sub [0, 1, 2, 3, 4, 5] rfl rfl) hS (lv_sub hl [0, 1, 2, 3] rfl)
          · have hF := it_n c_14 hF
            refine lv_iconst (v := (1 : Int32)) hx hb dX2_sink_39 (by decide) ?_
            refine lv_goto (tgt := 44) hx hb dX2_sink_40 (by decide) ?_
            exact hJ44 (1 : Int32) _ _ _ hF (hP.sub [0, 1, 2, 3, 4, 5] rfl) (hD.sub [0, 1, 2, 3, 4, 5] rfl rfl) hS (lv_sub hl [0, 1, 2, 3] rfl)
set_option maxHeartbeats 4000000 in
set_option maxRecDepth 100000 in
theorem mX2_sink (l : Launch) (g : GG) (a_t : Nat) (a_r1 : Nat) (a_r2 : Nat) (p_t : Nat → Nat) (p_r1 : Nat → Nat) (p_r2 : Nat → Nat) (n : Nat) (o_t : Nat → Int32) (f_t_6 : Nat → Int32) (o_r1 : Nat → Int32) (f_r1_4 : Nat → Int32) (f_r1_6 : Nat → Int32) (o_r2 : Nat → Int32) (f_t_6' : Nat → Int32) (o_r2' : Nat → Int32) (hF : fX2_sink n o_t f_t_6 o_r1 f_r1_4 f_r1_6 o_r2 = some (f_t_6', o_r2')) : MV l g yX2_sink wsX2_sink ({ frames := 1, cells := 0, slots := 0, locals := 22 } : Room) [.ref a_t, .ref a_r1, .ref a_r2] [oX2 a_t p_t o_t, aI g (p_t 6) 7 f_t_6, oX1 a_r1 p_r1 o_r1, aI g (p_r1 4) 7 f_r1_4, aI g (p_r1 6) 7 f_r1_6, oX3 a_r2 p_r2 o_r2] [oX2 a_t p_t o_t, aI g (p_t 6) 7 f_t_6', oX1 a_r1 p_r1 o_r1, aI g (p_r1 4) 7 f_r1_4, aI g (p_r1 6) 7 f_r1_6, oX3 a_r2 p_r2 o_r2'] := by
  refine MV.of (cc := cX2_sink) (maxL := 5) (own := RX2) rfl rfl (by decide) (Nat.le_of_ble_eq_true rfl) ?_
  intro p e s m args below meth c A C0 hP hD hS ls hl
  obtain ⟨hx, hb, hml, hown, hts, hr, hlk, hK, hA, hSW⟩ := id C0
  have hl : lv_has ls 5 [(0, .ref a_t), (1, .ref a_r1), (2, .ref a_r2)] := hl
  rw [fX2_sink] at hF
  refine lv_iconst (v := (0 : Int32)) hx hb dX2_sink_0 (by decide) ?_
  refine lv_istore_n (lv' := [(3, .int (0 : Int32)), (0, .ref a_t), (1, .ref a_r1), (2, .ref a_r2)]) hx hb dX2_sink_1 rfl hl (by decide) rfl (fun ls hl => ?_)
  refine wX2_sink_L2 C0 a_t a_r1 a_r2 p_t p_r1 p_r2 n o_t o_r1 f_r1_4 f_r1_6 f_t_6' o_r2' _ ?_ n (0 : Int32) f_t_6 o_r2 hF _ _ _ (hP.sub [0, 1, 2, 3, 4, 5] rfl) (hD.sub [0, 1, 2, 3, 4, 5] rfl rfl) hS (lv_sub hl [1, 2, 3, 0] rfl)
  · intro f_t_6_x2 o_r2_x2 H locs ls hF hP hD hS hl
    cases hF
    exact ret_v C0 hP hD hS [0, 1, 2, 3, 4, 5] rfl rfl rfl dX2_sink_88

theorem dAX2_pass : ∀ q ∈ ([(0, (.aload_n 0, 1)), (1, (.aload_n 1, 1)), (2, (.aload_n 2, 1)), (3, (.invokevirtual 103, 3)), (6, (.aload_n 0, 1)), (7, (.dup, 1)), (8, (.getfield 9, 3)), (11, (.iconst 1, 1)), (12, (.iadd, 1)), (13, (.putfield 9, 3)), (16, (.aload_n 0, 1)), (17, (.aload_n 1, 1)), (18, (.invokevirtual 107, 3)), (21, (.ireturn, 1))] : List (Nat × (Instr × Nat))), decode cX2_pass q.1 = .ok q.2 := by decide +kernel
theorem dX2_pass_0 : decode cX2_pass 0 = .ok (.aload_n 0, 1) := dAX2_pass (0, (.aload_n 0, 1)) (List.mem_of_getElem? (i := 0) rfl)
theorem dX2_pass_1 : decode cX2_pass 1 = .ok (.aload_n 1, 1) := dAX2_pass (1, (.aload_n 1, 1)) (List.mem_of_getElem? (i := 1) rfl)
theorem dX2_pass_2 : decode cX2_pass 2 = .ok (.aload_n 2, 1) := dAX2_pass (2, (.aload_n 2, 1)) (List.mem_of_getElem? (i := 2) rfl)
theorem dX2_pass_3 : decode cX2_pass 3 = .ok (.invokevirtual 103, 3) := dAX2_pass (3, (.invokevirtual 103, 3)) (List.mem_of_getElem? (i := 3) rfl)
theorem dX2_pass_6 : decode cX2_pass 6 = .ok (.aload_n 0, 1) := dAX2_pass (6, (.aload_n 0, 1)) (List.mem_of_getElem? (i := 4) rfl)
theorem dX2_pass_7 : decode cX2_pass 7 = .ok (.dup, 1) := dAX2_pass (7, (.dup, 1)) (List.mem_of_getElem? (i := 5) rfl)
theorem dX2_pass_8 : decode cX2_pass 8 = .ok (.getfield 9, 3) := dAX2_pass (8, (.getfield 9, 3)) (List.mem_of_getElem? (i := 6) rfl)
theorem dX2_pass_11 : decode cX2_pass 11 = .ok (.iconst 1, 1) := dAX2_pass (11, (.iconst 1, 1)) (List.mem_of_getElem? (i := 7) rfl)
theorem dX2_pass_12 : decode cX2_pass 12 = .ok (.iadd, 1) := dAX2_pass (12, (.iadd, 1)) (List.mem_of_getElem? (i := 8) rfl)
theorem dX2_pass_13 : decode cX2_pass 13 = .ok (.putfield 9, 3) := dAX2_pass (13, (.putfield 9, 3)) (List.mem_of_getElem? (i := 9) rfl)
theorem dX2_pass_16 : decode cX2_pass 16 = .ok (.aload_n 0, 1) := dAX2_pass (16, (.aload_n 0, 1)) (List.mem_of_getElem? (i := 10) rfl)
theorem dX2_pass_17 : decode cX2_pass 17 = .ok (.aload_n 1, 1) := dAX2_pass (17, (.aload_n 1, 1)) (List.mem_of_getElem? (i := 11) rfl)
theorem dX2_pass_18 : decode cX2_pass 18 = .ok (.invokevirtual 107, 3) := dAX2_pass (18, (.invokevirtual 107, 3)) (List.mem_of_getElem? (i := 12) rfl)
theorem dX2_pass_21 : decode cX2_pass 21 = .ok (.ireturn, 1) := dAX2_pass (21, (.ireturn, 1)) (List.mem_of_getElem? (i := 13) rfl)
set_option maxRecDepth 20000 in
theorem ggX2_pass_X2_sink : GoodIn wsX2_pass wsX2_sink := goodIn_r _ [6, 7, 8, 1, 9, 10, 11, 12, 13, 14, 15, 16, 17, 18, 19, 54, 55, 56, 57, 58, 59, 60, 61, 62, 63, 64, 65, 66, 67, 68, 69, 70, 45, 46, 47, 48, 49, 50, 51, 52, 53, 71, 72] rfl (by decide +kernel)
set_option maxRecDepth 20000 in
theorem gX2_pass_X2_sink : GoodIn wsX2_pass (wsV RX2 103 RX2 yX2_sink wsX2_sink) := goodIn_app (goodIn_of _ (by decide +kernel)) ggX2_pass_X2_sink
set_option maxRecDepth 20000 in
theorem ggX2_pass_X2_settle : GoodIn wsX2_pass wsX2_settle := goodIn_r _ [23, 24, 25, 26, 27, 5, 28, 7, 29, 10, 30, 31, 9, 32, 33, 34, 35, 36, 37, 8, 38, 39, 40, 41, 42, 1, 43, 44, 45, 46, 47, 48, 49, 50, 51, 52, 53, 54, 55, 56, 57, 58, 59, 60, 61, 62, 63, 64, 65, 66, 67, 68, 69, 70] rfl (by decide +kernel)
set_option maxRecDepth 20000 in
theorem gX2_pass_X2_settle : GoodIn wsX2_pass (wsV RX2 107 RX2 yX2_settle wsX2_settle) := goodIn_app (goodIn_of _ (by decide +kernel)) ggX2_pass_X2_settle
theorem kX2_pass_9 : Cond.fieldLink RX2 9 "EveningVow$Night" "clock" "I" ∈ wsX2_pass := List.mem_of_getElem? (i := 1) rfl
theorem iX2_pass_X2 : ∀ w ∈ u_ws RX2 TX2 9, w ∈ wsX2_pass := fun w h => (List.mem_cons_of_mem _ (List.mem_append_left _ (List.mem_append_left _ (List.mem_append_right _ h))))
set_option maxHeartbeats 4000000 in
set_option maxRecDepth 100000 in
theorem mX2_pass (l : Launch) (g : GG) (a_t : Nat) (a_r1 : Nat) (a_r2 : Nat) (p_t : Nat → Nat) (p_r1 : Nat → Nat) (p_r2 : Nat → Nat) (n : Nat) (o_t : Nat → Int32) (f_t_6 : Nat → Int32) (f_t_7 : Nat → Int32) (f_t_8 : Nat → Int32) (o_r1 : Nat → Int32) (f_r1_4 : Nat → Int32) (f_r1_6 : Nat → Int32) (f_r1_7 : Nat → Int32) (f_r1_10 : Nat → Int32) (f_r1_11 : Nat → Int32) (f_r1_12 : Nat → Int32) (o_r2 : Nat → Int32) (r : Int32) (o_t' : Nat → Int32) (f_t_6' : Nat → Int32) (f_t_7' : Nat → Int32) (f_t_8' : Nat → Int32) (o_r2' : Nat → Int32) (hF : fX2_pass n o_t f_t_6 f_t_7 f_t_8 o_r1 f_r1_4 f_r1_6 f_r1_7 f_r1_10 f_r1_11 f_r1_12 o_r2 = some (r, o_t', f_t_6', f_t_7', f_t_8', o_r2')) : MI l g yX2_pass wsX2_pass ({ frames := 2, cells := 0, slots := 0, locals := 49 } : Room) [.ref a_t, .ref a_r1, .ref a_r2] [oX2 a_t p_t o_t, aI g (p_t 6) 7 f_t_6, aI g (p_t 7) 7 f_t_7, aI g (p_t 8) 7 f_t_8, oX1 a_r1 p_r1 o_r1, aI g (p_r1 4) 7 f_r1_4, aI g (p_r1 6) 7 f_r1_6, aI g (p_r1 7) 7 f_r1_7, aI g (p_r1 10) 8 f_r1_10, aI g (p_r1 11) 8 f_r1_11, aI g (p_r1 12) 8 f_r1_12, oX3 a_r2 p_r2 o_r2] r [oX2 a_t p_t o_t', aI g (p_t 6) 7 f_t_6', aI g (p_t 7) 7 f_t_7', aI g (p_t 8) 7 f_t_8', oX1 a_r1 p_r1 o_r1, aI g (p_r1 4) 7 f_r1_4, aI g (p_r1 6) 7 f_r1_6, aI g (p_r1 7) 7 f_r1_7, aI g (p_r1 10) 8 f_r1_10, aI g (p_r1 11) 8 f_r1_11, aI g (p_r1 12) 8 f_r1_12, oX3 a_r2 p_r2 o_r2'] := by
  refine MI.of (cc := cX2_pass) (maxL := 3) (rt := .int) (own := RX2) rfl rfl (by decide) (Nat.le_of_ble_eq_true rfl) ?_
  intro p e s m args below meth c A C0 hP hD hS ls hl
  obtain ⟨hx, hb, hml, hown, hts, hr, hlk, hK, hA, hSW⟩ := id C0
  have hl : lv_has ls 3 [(0, .ref a_t), (1, .ref a_r1), (2, .ref a_r2)] := hl
  rw [fX2_pass] at hF
  refine lv_aload_n hx hb dX2_pass_0 rfl (lv_at hl 0 rfl) ?_
  refine lv_aload_n hx hb dX2_pass_1 rfl (lv_at hl 1 rfl) ?_
  refine lv_aload_n hx hb dX2_pass_2 rfl (lv_at hl 2 rfl) ?_
  obtain ⟨u_1, u_2, hu_3, hF⟩ := ob2_some hF
  refine call_v (wr := [aI g (p_t 7) 7 f_t_7, aI g (p_t 8) 7 f_t_8, aI g (p_r1 7) 7 f_r1_7, aI g (p_r1 10) 8 f_r1_10, aI g (p_r1 11) 8 f_r1_11, aI g (p_r1 12) 8 f_r1_12]) (As := [.ref a_r1, .ref a_r2]) (rest := []) (ci := 2) (q0 := 0) C0 (mX2_sink l g a_t a_r1 a_r2 p_t p_r1 p_r2 n o_t f_t_6 o_r1 f_r1_4 f_r1_6 o_r2 u_1 u_2 hu_3) (cwV 2 hts gX2_pass_X2_sink rfl rfl rfl (by decide +kernel) ⟨Nat.le_of_ble_eq_true rfl, Nat.le_of_ble_eq_true rfl⟩) hP hD hS [0, 1, 4, 5, 6, 11] [2, 3, 7, 8, 9, 10] rfl rfl rfl rfl rfl (by decide) rfl rfl hl.1 rfl rfl (Nat.le_of_ble_eq_true rfl) ⟨Nat.zero_le _, Nat.zero_le _⟩ dX2_pass_3 ?_
  intro H locs hP hD hS
  refine lv_aload_n hx hb dX2_pass_6 rfl (lv_at hl 0 rfl) ?_
  refine lv_dup hx hb dX2_pass_7 rfl ?_
  refine va_get (D := g.1) (ci := 2) (v := .int (o_t 0)) (C := RX2) (T := TX2) (N := 9) hx hb hts iX2_pass_X2 hown hK.1 hP 6 rfl rfl 0 (by decide) (hts _ kX2_pass_9) (fun _ h9 => h9) rfl dX2_pass_8 ?_
  refine lv_iconst (v := (1 : Int32)) hx hb dX2_pass_11 (by decide) ?_
  refine lv_iadd hx hb dX2_pass_12 ?_
  refine va_put (D := g.1) (ci := 2) (v := .int ((o_t 0) + (1 : Int32))) (ty := .int) (C := RX2) (T := TX2) (N := 9) hx hb hts iX2_pass_X2 tyX2 tyX2_ok nmX2 hown hK.1 hP hD hS 6 rfl rfl 0 (by decide) (hts _ kX2_pass_9) (fun _ h9 => h9) rfl (by decide +kernel) rfl rfl (Nat.le_of_ble_eq_true rfl) dX2_pass_13 (fun H locs hP hD hS => ?_)
  have hP : va_P g.1 vwCl [aI g (p_t 7) 7 f_t_7, aI g (p_t 8) 7 f_t_8, aI g (p_r1 7) 7 f_r1_7, aI g (p_r1 10) 8 f_r1_10, aI g (p_r1 11) 8 f_r1_11, aI g (p_r1 12) 8 f_r1_12, oX2 a_t p_t (upd o_t 0 ((o_t 0) + (1 : Int32))), aI g (p_t 6) 7 u_1, oX1 a_r1 p_r1 o_r1, aI g (p_r1 4) 7 f_r1_4, aI g (p_r1 6) 7 f_r1_6, oX3 a_r2 p_r2 u_2] H := hP
  have hD : va_D A [aI g (p_t 7) 7 f_t_7, aI g (p_t 8) 7 f_t_8, aI g (p_r1 7) 7 f_r1_7, aI g (p_r1 10) 8 f_r1_10, aI g (p_r1 11) 8 f_r1_11, aI g (p_r1 12) 8 f_r1_12, oX2 a_t p_t (upd o_t 0 ((o_t 0) + (1 : Int32))), aI g (p_t 6) 7 u_1, oX1 a_r1 p_r1 o_r1, aI g (p_r1 4) 7 f_r1_4, aI g (p_r1 6) 7 f_r1_6, oX3 a_r2 p_r2 u_2] := hD
  refine lv_aload_n hx hb dX2_pass_16 rfl (lv_at hl 0 rfl) ?_
  refine lv_aload_n hx hb dX2_pass_17 rfl (lv_at hl 1 rfl) ?_
  obtain ⟨u_4, u_5, u_6, u_7, u_8, hu_9, hF⟩ := ob5_some hF
  refine call_i (wr := [aI g (p_r1 6) 7 f_r1_6, oX3 a_r2 p_r2 u_2]) (As := [.ref a_r1]) (rest := []) (ci := 2) (q0 := 0) C0 (mX2_settle l g a_t a_r1 p_t p_r1 n (upd o_t 0 ((o_t 0) + (1 : Int32))) u_1 f_t_7 f_t_8 o_r1 f_r1_4 f_r1_7 f_r1_10 f_r1_11 f_r1_12 u_4 u_5 u_6 u_7 u_8 hu_9) (cwV 1 hts gX2_pass_X2_settle rfl rfl rfl (by decide +kernel) ⟨Nat.le_of_ble_eq_true rfl, Nat.le_of_ble_eq_true rfl⟩) hP hD hS [6, 7, 0, 1, 8, 9, 2, 3, 4, 5] [10, 11] rfl rfl rfl rfl rfl (by decide) rfl rfl hl.1 rfl rfl (Nat.le_of_ble_eq_true rfl) ⟨Nat.zero_le _, Nat.zero_le _⟩ dX2_pass_18 ?_
  intro H locs hP hD hS
  cases hF
  exact ret_i C0 hP hD hS [2, 3, 4, 5, 6, 7, 0, 8, 9, 10, 11, 1] rfl rfl rfl dX2_pass_21 rfl

theorem dAX2_passAll : ∀ q ∈ ([(0, (.iconst 0, 1)), (1, (.istore 4, 2)), (3, (.iconst 0, 1)), (4, (.istore 5, 2)), (6, (.iload 5, 2)), (8, (.iload_n 3, 1)), (9, (.if_icmp .ge 20, 3)), (12, (.iload 4, 2)), (14, (.aload_n 0, 1)), (15, (.aload_n 1, 1)), (16, (.aload_n 2, 1)), (17, (.invokevirtual 110, 3)), (20, (.ior, 1)), (21, (.istore 4, 2)), (23, (.iinc 5 1, 3)), (26, (.goto (-20), 3)), (29, (.iload 4, 2)), (31, (.ireturn, 1))] : List (Nat × (Instr × Nat))), decode cX2_passAll q.1 = .ok q.2 := by decide +kernel
theorem dX2_passAll_0 : decode cX2_passAll 0 = .ok (.iconst 0, 1) := dAX2_passAll (0, (.iconst 0, 1)) (List.mem_of_getElem? (i := 0) rfl)
theorem dX2_passAll_1 : decode cX2_passAll 1 = .ok (.istore 4, 2) := dAX2_passAll (1, (.istore 4, 2)) (List.mem_of_getElem? (i := 1) rfl)
theorem dX2_passAll_3 : decode cX2_passAll 3 = .ok (.iconst 0, 1) := dAX2_passAll (3, (.iconst 0, 1)) (List.mem_of_getElem? (i := 2) rfl)
theorem dX2_passAll_4 : decode cX2_passAll 4 = .ok (.istore 5, 2) := dAX2_passAll (4, (.istore 5, 2)) (List.mem_of_getElem? (i := 3) rfl)
theorem dX2_passAll_6 : decode cX2_passAll 6 = .ok (.iload 5, 2) := dAX2_passAll (6, (.iload 5, 2)) (List.mem_of_getElem? (i := 4) rfl)
theorem dX2_passAll_8 : decode cX2_passAll 8 = .ok (.iload_n 3, 1) := dAX2_passAll (8, (.iload_n 3, 1)) (List.mem_of_getElem? (i := 5) rfl)
theorem dX2_passAll_9 : decode cX2_passAll 9 = .ok (.if_icmp .ge 20, 3) := dAX2_passAll (9, (.if_icmp .ge 20, 3)) (List.mem_of_getElem? (i := 6) rfl)
theorem dX2_passAll_12 : decode cX2_passAll 12 = .ok (.iload 4, 2) := dAX2_passAll (12, (.iload 4, 2)) (List.mem_of_getElem? (i := 7) rfl)
theorem dX2_passAll_14 : decode cX2_passAll 14 = .ok (.aload_n 0, 1) := dAX2_passAll (14, (.aload_n 0, 1)) (List.mem_of_getElem? (i := 8) rfl)
theorem dX2_passAll_15 : decode cX2_passAll 15 = .ok (.aload_n 1, 1) := dAX2_passAll (15, (.aload_n 1, 1)) (List.mem_of_getElem? (i := 9) rfl)
theorem dX2_passAll_16 : decode cX2_passAll 16 = .ok (.aload_n 2, 1) := dAX2_passAll (16, (.aload_n 2, 1)) (List.mem_of_getElem? (i := 10) rfl)
theorem dX2_passAll_17 : decode cX2_passAll 17 = .ok (.invokevirtual 110, 3) := dAX2_passAll (17, (.invokevirtual 110, 3)) (List.mem_of_getElem? (i := 11) rfl)
theorem dX2_passAll_20 : decode cX2_passAll 20 = .ok (.ior, 1) := dAX2_passAll (20, (.ior, 1)) (List.mem_of_getElem? (i := 12) rfl)
theorem dX2_passAll_21 : decode cX2_passAll 21 = .ok (.istore 4, 2) := dAX2_passAll (21, (.istore 4, 2)) (List.mem_of_getElem? (i := 13) rfl)
theorem dX2_passAll_23 : decode cX2_passAll 23 = .ok (.iinc 5 1, 3) := dAX2_passAll (23, (.iinc 5 1, 3)) (List.mem_of_getElem? (i := 14) rfl)
theorem dX2_passAll_26 : decode cX2_passAll 26 = .ok (.goto (-20), 3) := dAX2_passAll (26, (.goto (-20), 3)) (List.mem_of_getElem? (i := 15) rfl)
theorem dX2_passAll_29 : decode cX2_passAll 29 = .ok (.iload 4, 2) := dAX2_passAll (29, (.iload 4, 2)) (List.mem_of_getElem? (i := 16) rfl)
theorem dX2_passAll_31 : decode cX2_passAll 31 = .ok (.ireturn, 1) := dAX2_passAll (31, (.ireturn, 1)) (List.mem_of_getElem? (i := 17) rfl)
set_option maxRecDepth 20000 in
theorem ggX2_passAll_X2_pass : GoodIn wsX2_passAll wsX2_pass := goodIn_r _ [5, 6, 7, 8, 9, 4, 10, 11, 12, 13, 14, 15, 16, 17, 18, 19, 20, 21, 22, 23, 24, 25, 26, 27, 28, 29, 30, 31, 32, 33, 34, 35, 36, 37, 38, 39, 40, 41, 42, 43, 44, 45, 46, 47, 48, 49, 50, 51, 52, 53, 54, 55, 56, 57, 58, 59, 60, 61, 62, 63, 64, 65, 66, 67, 68, 69, 70, 71, 72, 73, 74, 75, 76] rfl (by decide +kernel)
set_option maxRecDepth 20000 in
theorem gX2_passAll_X2_pass : GoodIn wsX2_passAll (wsV RX2 110 RX2 yX2_pass wsX2_pass) := goodIn_app (goodIn_of _ (by decide +kernel)) ggX2_passAll_X2_pass
set_option maxHeartbeats 4000000 in
set_option maxRecDepth 100000 in
theorem wX2_passAll_L6 {p : Program} {l : Launch} {e : Env} {s : State} {m : MethodId} {args : Array Value} {below : List Frame} {meth : Method} {c : Code} {g : GG} {A : Nat → Prop} (C0 : Cx p s m args meth c cX2_passAll 6 (some .int) RX2 wsX2_passAll g A) (a_t : Nat) (a_r1 : Nat) (a_r2 : Nat) (p_t : Nat → Nat) (p_r1 : Nat → Nat) (p_r2 : Nat → Nat) (n : Nat) (x3 : Int32) (o_r1 : Nat → Int32) (f_r1_4 : Nat → Int32) (f_r1_6 : Nat → Int32) (f_r1_7 : Nat → Int32) (f_r1_10 : Nat → Int32) (f_r1_11 : Nat → Int32) (f_r1_12 : Nat → Int32)  (r : Int32) (o_t' : Nat → Int32) (f_t_6' : Nat → Int32) (f_t_7' : Nat → Int32) (f_t_8' : Nat → Int32) (o_r2' : Nat → Int32) (K : Int32 → (Nat → Int32) → (Nat → Int32) → (Nat → Int32) → (Nat → Int32) → (Nat → Int32) → Option (Int32 × (Nat → Int32) × (Nat → Int32) × (Nat → Int32) × (Nat → Int32) × (Nat → Int32))) (hKx : ∀ (x4 : Int32) (o_t : Nat → Int32) (f_t_6 : Nat → Int32) (f_t_7 : Nat → Int32) (f_t_8 : Nat → Int32) (o_r2 : Nat → Int32) (H : Heap) (locs : List Loc) (ls : Array Slot), K x4 o_t f_t_6 f_t_7 f_t_8 o_r2 = some (r, o_t', f_t_6', f_t_7', f_t_8', o_r2') → va_P g.1 vwCl [oX2 a_t p_t o_t, aI g (p_t 6) 7 f_t_6, aI g (p_t 7) 7 f_t_7, aI g (p_t 8) 7 f_t_8, oX1 a_r1 p_r1 o_r1, aI g (p_r1 4) 7 f_r1_4, aI g (p_r1 6) 7 f_r1_6, aI g (p_r1 7) 7 f_r1_7, aI g (p_r1 10) 8 f_r1_10, aI g (p_r1 11) 8 f_r1_11, aI g (p_r1 12) 8 f_r1_12, oX3 a_r2 p_r2 o_r2] H → va_D A [oX2 a_t p_t o_t, aI g (p_t 6) 7 f_t_6, aI g (p_t 7) 7 f_t_7, aI g (p_t 8) 7 f_t_8, oX1 a_r1 p_r1 o_r1, aI g (p_r1 4) 7 f_r1_4, aI g (p_r1 6) 7 f_r1_6, aI g (p_r1 7) 7 f_r1_7, aI g (p_r1 10) 8 f_r1_10, aI g (p_r1 11) 8 f_r1_11, aI g (p_r1 12) 8 f_r1_12, oX3 a_r2 p_r2 o_r2] → va_S A s.heap H locs → lv_has ls 6 [(4, .int x4)] → W p l e ({ frames := 3, cells := 0, slots := 0, locals := 71 } : Room) s m args below meth c H locs 0 0 (MQ below (EndI g r [oX2 a_t p_t o_t', aI g (p_t 6) 7 f_t_6', aI g (p_t 7) 7 f_t_7', aI g (p_t 8) 7 f_t_8', oX1 a_r1 p_r1 o_r1, aI g (p_r1 4) 7 f_r1_4, aI g (p_r1 6) 7 f_r1_6, aI g (p_r1 7) 7 f_r1_7, aI g (p_r1 10) 8 f_r1_10, aI g (p_r1 11) 8 f_r1_11, aI g (p_r1 12) 8 f_r1_12, oX3 a_r2 p_r2 o_r2'] A) args s 0 0 A) (F0 m 29 ls [])) : ∀ (k : Nat) (x4 : Int32) (x5 : Int32) (o_t : Nat → Int32) (f_t_6 : Nat → Int32) (f_t_7 : Nat → Int32) (f_t_8 : Nat → Int32) (o_r2 : Nat → Int32), fX2_passAll_L6 n x3 o_r1 f_r1_4 f_r1_6 f_r1_7 f_r1_10 f_r1_11 f_r1_12 K k x4 x5 o_t f_t_6 f_t_7 f_t_8 o_r2 = some (r, o_t', f_t_6', f_t_7', f_t_8', o_r2') → ∀ (H : Heap) (locs : List Loc) (ls : Array Slot), va_P g.1 vwCl [oX2 a_t p_t o_t, aI g (p_t 6) 7 f_t_6, aI g (p_t 7) 7 f_t_7, aI g (p_t 8) 7 f_t_8, oX1 a_r1 p_r1 o_r1, aI g (p_r1 4) 7 f_r1_4, aI g (p_r1 6) 7 f_r1_6, aI g (p_r1 7) 7 f_r1_7, aI g (p_r1 10) 8 f_r1_10, aI g (p_r1 11) 8 f_r1_11, aI g (p_r1 12) 8 f_r1_12, oX3 a_r2 p_r2 o_r2] H → va_D A [oX2 a_t p_t o_t, aI g (p_t 6) 7 f_t_6, aI g (p_t 7) 7 f_t_7, aI g (p_t 8) 7 f_t_8, oX1 a_r1 p_r1 o_r1, aI g (p_r1 4) 7 f_r1_4, aI g (p_r1 6) 7 f_r1_6, aI g (p_r1 7) 7 f_r1_7, aI g (p_r1 10) 8 f_r1_10, aI g (p_r1 11) 8 f_r1_11, aI g (p_r1 12) 8 f_r1_12, oX3 a_r2 p_r2 o_r2] → va_S A s.heap H locs → lv_has ls 6 [(0, .ref a_t), (1, .ref a_r1), (2, .ref a_r2), (3, .int x3), (4, .int x4), (5, .int x5)] → W p l e ({ frames := 3, cells := 0, slots := 0, locals := 71 } : Room) s m args below meth c H locs 0 0 (MQ below (EndI g r [oX2 a_t p_t o_t', aI g (p_t 6) 7 f_t_6', aI g (p_t 7) 7 f_t_7', aI g (p_t 8) 7 f_t_8', oX1 a_r1 p_r1 o_r1, aI g (p_r1 4) 7 f_r1_4, aI g (p_r1 6) 7 f_r1_6, aI g (p_r1 7) 7 f_r1_7, aI g (p_r1 10) 8 f_r1_10, aI g (p_r1 11) 8 f_r1_11, aI g (p_r1 12) 8 f_r1_12, oX3 a_r2 p_r2 o_r2'] A) args s 0 0 A) (F0 m 6 ls []) := by
  obtain ⟨hx, hb, hml, hown, hts, hr, hlk, hK, hA, hSW⟩ := id C0
  intro k
  induction k with
  | zero =>
    intro x4 x5 o_t f_t_6 f_t_7 f_t_8 o_r2 hF
    exact absurd hF (by simp [fX2_passAll_L6])
  | succ k ih =>
    intro x4 x5 o_t f_t_6 f_t_7 f_t_8 o_r2 hF H locs ls hP hD hS hl
    rw [fX2_passAll_L6] at hF
    refine lv_iload hx hb dX2_passAll_6 (lv_at hl 5 rfl) ?_
    refine lv_iload_n hx hb dX2_passAll_8 rfl (lv_at hl 3 rfl) ?_
    refine lv_icmp_ge (tgt := 29) hx hb dX2_passAll_9 (by decide) (fun c_1 => ?_) (fun c_1 => ?_)
    · have hF := it_p c_1 hF
      exact hKx x4 o_t f_t_6 f_t_7 f_t_8 o_r2 _ _ _ hF (hP.sub [0, 1, 2, 3, 4, 5, 6, 7, 8, 9, 10, 11] rfl) (hD.sub [0, 1, 2, 3, 4, 5, 6, 7, 8, 9, 10, 11] rfl rfl) hS (lv_sub hl [4] rfl)
    · have hF := it_n c_1 hF
      refine lv_iload hx hb dX2_passAll_12 (lv_at hl 4 rfl) ?_
      refine lv_aload_n hx hb dX2_passAll_14 rfl (lv_at hl 0 rfl) ?_
      refine lv_aload_n hx hb dX2_passAll_15 rfl (lv_at hl 1 rfl) ?_
      refine lv_aload_n hx hb dX2_passAll_16 rfl (lv_at hl 2 rfl) ?_
      obtain ⟨u_2, u_3, u_4, u_5, u_6, u_7, hu_8, hF⟩ := ob6_some hF
      refine call_i (wr := []) (As := [.ref a_r1, .ref a_r2]) (rest := [.int x4]) (ci := 2) (q0 := 0) C0 (mX2_pass l g a_t a_r1 a_r2 p_t p_r1 p_r2 n o_t f_t_6 f_t_7 f_t_8 o_r1 f_r1_4 f_r1_6 f_r1_7 f_r1_10 f_r1_11 f_r1_12 o_r2 u_2 u_3 u_4 u_5 u_6 u_7 hu_8) (cwV 2 hts gX2_passAll_X2_pass rfl rfl rfl (by decide +kernel) ⟨Nat.le_of_ble_eq_true rfl, Nat.le_of_ble_eq_true rfl⟩) hP hD hS [0, 1, 2, 3, 4, 5, 6, 7, 8, 9, 10, 11] [] rfl rfl rfl rfl rfl (by decide) rfl rfl hl.1 rfl rfl (Nat.le_of_ble_eq_true rfl) ⟨Nat.zero_le _, Nat.zero_le _⟩ dX2_passAll_17 ?_
      intro H locs hP hD hS
      refine lv_ior hx hb dX2_passAll_20 ?_
      refine lv_istore (lv' := [(4, .int (x4 ||| u_2)), (0, .ref a_t), (1, .ref a_r1), (2, .ref a_r2), (3, .int x3), (5, .int x5)]) hx hb dX2_passAll_21 hl (by decide) rfl (fun ls hl => ?_)
      refine lv_iinc (v := (x5 + (1 : Int32))) (lv' := [(5, .int (x5 + (1 : Int32))), (4, .int (x4 ||| u_2)), (0, .ref a_t), (1, .ref a_r1), (2, .ref a_r2), (3, .int x3)]) hx hb dX2_passAll_23 hl (k := 5) rfl rfl (by decide) rfl (fun ls hl => ?_)
      refine lv_goto (tgt := 6) hx hb dX2_passAll_26 (by decide) ?_
      exact ih (x4 ||| u_2) (x5 + (1 : Int32)) u_3 u_4 u_5 u_6 u_7 hF _ _ _ (hP.sub [0, 1, 2, 3, 4, 5, 6, 7, 8, 9, 10, 11] rfl) (hD.sub [0, 1, 2, 3, 4, 5, 6, 7, 8, 9, 10, 11] rfl rfl) hS (lv_sub hl [2, 3, 4, 5, 1, 0] rfl)
set_option maxHeartbeats 4000000 in
set_option maxRecDepth 100000 in
theorem mX2_passAll (l : Launch) (g : GG) (a_t : Nat) (a_r1 : Nat) (a_r2 : Nat) (p_t : Nat → Nat) (p_r1 : Nat → Nat) (p_r2 : Nat → Nat) (n : Nat) (x3 : Int32) (o_t : Nat → Int32) (f_t_6 : Nat → Int32) (f_t_7 : Nat → Int32) (f_t_8 : Nat → Int32) (o_r1 : Nat → Int32) (f_r1_4 : Nat → Int32) (f_r1_6 : Nat → Int32) (f_r1_7 : Nat → Int32) (f_r1_10 : Nat → Int32) (f_r1_11 : Nat → Int32) (f_r1_12 : Nat → Int32) (o_r2 : Nat → Int32) (r : Int32) (o_t' : Nat → Int32) (f_t_6' : Nat → Int32) (f_t_7' : Nat → Int32) (f_t_8' : Nat → Int32) (o_r2' : Nat → Int32) (hF : fX2_passAll n x3 o_t f_t_6 f_t_7 f_t_8 o_r1 f_r1_4 f_r1_6 f_r1_7 f_r1_10 f_r1_11 f_r1_12 o_r2 = some (r, o_t', f_t_6', f_t_7', f_t_8', o_r2')) : MI l g yX2_passAll wsX2_passAll ({ frames := 3, cells := 0, slots := 0, locals := 71 } : Room) [.ref a_t, .ref a_r1, .ref a_r2, .int x3] [oX2 a_t p_t o_t, aI g (p_t 6) 7 f_t_6, aI g (p_t 7) 7 f_t_7, aI g (p_t 8) 7 f_t_8, oX1 a_r1 p_r1 o_r1, aI g (p_r1 4) 7 f_r1_4, aI g (p_r1 6) 7 f_r1_6, aI g (p_r1 7) 7 f_r1_7, aI g (p_r1 10) 8 f_r1_10, aI g (p_r1 11) 8 f_r1_11, aI g (p_r1 12) 8 f_r1_12, oX3 a_r2 p_r2 o_r2] r [oX2 a_t p_t o_t', aI g (p_t 6) 7 f_t_6', aI g (p_t 7) 7 f_t_7', aI g (p_t 8) 7 f_t_8', oX1 a_r1 p_r1 o_r1, aI g (p_r1 4) 7 f_r1_4, aI g (p_r1 6) 7 f_r1_6, aI g (p_r1 7) 7 f_r1_7, aI g (p_r1 10) 8 f_r1_10, aI g (p_r1 11) 8 f_r1_11, aI g (p_r1 12) 8 f_r1_12, oX3 a_r2 p_r2 o_r2'] := by
  refine MI.of (cc := cX2_passAll) (maxL := 6) (rt := .int) (own := RX2) rfl rfl (by decide) (Nat.le_of_ble_eq_true rfl) ?_
  intro p e s m args below meth c A C0 hP hD hS ls hl
  obtain ⟨hx, hb, hml, hown, hts, hr, hlk, hK, hA, hSW⟩ := id C0
  have hl : lv_has ls 6 [(0, .ref a_t), (1, .ref a_r1), (2, .ref a_r2), (3, .int x3)] := hl
  rw [fX2_passAll] at hF
  refine lv_iconst (v := (0 : Int32)) hx hb dX2_passAll_0 (by decide) ?_
  refine lv_istore (lv' := [(4, .int (0 : Int32)), (0, .ref a_t), (1, .ref a_r1), (2, .ref a_r2), (3, .int x3)]) hx hb dX2_passAll_1 hl (by decide) rfl (fun ls hl => ?_)
  refine lv_iconst (v := (0 : Int32)) hx hb dX2_passAll_3 (by decide) ?_
  refine lv_istore (lv' := [(5, .int (0 : Int32)), (4, .int (0 : Int32)), (0, .ref a_t), (1, .ref a_r1), (2, .ref a_r2), (3, .int x3)]) hx hb dX2_passAll_4 hl (by decide) rfl (fun ls hl => ?_)
  refine wX2_passAll_L6 C0 a_t a_r1 a_r2 p_t p_r1 p_r2 n x3 o_r1 f_r1_4 f_r1_6 f_r1_7 f_r1_10 f_r1_11 f_r1_12 r o_t' f_t_6' f_t_7' f_t_8' o_r2' _ ?_ n (0 : Int32) (0 : Int32) o_t f_t_6 f_t_7 f_t_8 o_r2 hF _ _ _ (hP.sub [0, 1, 2, 3, 4, 5, 6, 7, 8, 9, 10, 11] rfl) (hD.sub [0, 1, 2, 3, 4, 5, 6, 7, 8, 9, 10, 11] rfl rfl) hS (lv_sub hl [2, 3, 4, 5, 1, 0] rfl)
  · intro x4_x6 o_t_x6 f_t_6_x6 f_t_7_x6 f_t_8_x6 o_r2_x6 H locs ls hF hP hD hS hl
    refine lv_iload hx hb dX2_passAll_29 (lv_at hl 0 rfl) ?_
    cases hF
    exact ret_i C0 hP hD hS [0, 1, 2, 3, 4, 5, 6, 7, 8, 9, 10, 11] rfl rfl rfl dX2_passAll_31 rfl

theorem dAX2_runOut : ∀ q ∈ ([(0, (.aload_n 0, 1)), (1, (.iconst 0, 1)), (2, (.putfield 27, 3)), (5, (.iconst 0, 1)), (6, (.istore 4, 2)), (8, (.aload_n 0, 1)), (9, (.getfield 15, 3)), (12, (.ifCond .eq 25, 3)), (15, (.iload 4, 2)), (17, (.iload_n 3, 1)), (18, (.if_icmp .ge 19, 3)), (21, (.aload_n 0, 1)), (22, (.aload_n 0, 1)), (23, (.aload_n 1, 1)), (24, (.aload_n 2, 1)), (25, (.invokevirtual 110, 3)), (28, (.putfield 27, 3)), (31, (.iinc 4 1, 3)), (34, (.goto (-26), 3)), (37, (.aload_n 0, 1)), (38, (.getfield 15, 3)), (41, (.ifCond .ne 8, 3)), (44, (.iload 4, 2)), (46, (.goto 5, 3)), (49, (.bipush 61, 2)), (51, (.ireturn, 1))] : List (Nat × (Instr × Nat))), decode cX2_runOut q.1 = .ok q.2 := by decide +kernel
theorem dX2_runOut_0 : decode cX2_runOut 0 = .ok (.aload_n 0, 1) := dAX2_runOut (0, (.aload_n 0, 1)) (List.mem_of_getElem? (i := 0) rfl)
theorem dX2_runOut_1 : decode cX2_runOut 1 = .ok (.iconst 0, 1) := dAX2_runOut (1, (.iconst 0, 1)) (List.mem_of_getElem? (i := 1) rfl)
theorem dX2_runOut_2 : decode cX2_runOut 2 = .ok (.putfield 27, 3) := dAX2_runOut (2, (.putfield 27, 3)) (List.mem_of_getElem? (i := 2) rfl)
theorem dX2_runOut_5 : decode cX2_runOut 5 = .ok (.iconst 0, 1) := dAX2_runOut (5, (.iconst 0, 1)) (List.mem_of_getElem? (i := 3) rfl)
theorem dX2_runOut_6 : decode cX2_runOut 6 = .ok (.istore 4, 2) := dAX2_runOut (6, (.istore 4, 2)) (List.mem_of_getElem? (i := 4) rfl)
theorem dX2_runOut_8 : decode cX2_runOut 8 = .ok (.aload_n 0, 1) := dAX2_runOut (8, (.aload_n 0, 1)) (List.mem_of_getElem? (i := 5) rfl)
theorem dX2_runOut_9 : decode cX2_runOut 9 = .ok (.getfield 15, 3) := dAX2_runOut (9, (.getfield 15, 3)) (List.mem_of_getElem? (i := 6) rfl)
theorem dX2_runOut_12 : decode cX2_runOut 12 = .ok (.ifCond .eq 25, 3) := dAX2_runOut (12, (.ifCond .eq 25, 3)) (List.mem_of_getElem? (i := 7) rfl)
theorem dX2_runOut_15 : decode cX2_runOut 15 = .ok (.iload 4, 2) := dAX2_runOut (15, (.iload 4, 2)) (List.mem_of_getElem? (i := 8) rfl)
theorem dX2_runOut_17 : decode cX2_runOut 17 = .ok (.iload_n 3, 1) := dAX2_runOut (17, (.iload_n 3, 1)) (List.mem_of_getElem? (i := 9) rfl)
theorem dX2_runOut_18 : decode cX2_runOut 18 = .ok (.if_icmp .ge 19, 3) := dAX2_runOut (18, (.if_icmp .ge 19, 3)) (List.mem_of_getElem? (i := 10) rfl)
theorem dX2_runOut_21 : decode cX2_runOut 21 = .ok (.aload_n 0, 1) := dAX2_runOut (21, (.aload_n 0, 1)) (List.mem_of_getElem? (i := 11) rfl)
theorem dX2_runOut_22 : decode cX2_runOut 22 = .ok (.aload_n 0, 1) := dAX2_runOut (22, (.aload_n 0, 1)) (List.mem_of_getElem? (i := 12) rfl)
theorem dX2_runOut_23 : decode cX2_runOut 23 = .ok (.aload_n 1, 1) := dAX2_runOut (23, (.aload_n 1, 1)) (List.mem_of_getElem? (i := 13) rfl)
theorem dX2_runOut_24 : decode cX2_runOut 24 = .ok (.aload_n 2, 1) := dAX2_runOut (24, (.aload_n 2, 1)) (List.mem_of_getElem? (i := 14) rfl)
theorem dX2_runOut_25 : decode cX2_runOut 25 = .ok (.invokevirtual 110, 3) := dAX2_runOut (25, (.invokevirtual 110, 3)) (List.mem_of_getElem? (i := 15) rfl)
theorem dX2_runOut_28 : decode cX2_runOut 28 = .ok (.putfield 27, 3) := dAX2_runOut (28, (.putfield 27, 3)) (List.mem_of_getElem? (i := 16) rfl)
theorem dX2_runOut_31 : decode cX2_runOut 31 = .ok (.iinc 4 1, 3) := dAX2_runOut (31, (.iinc 4 1, 3)) (List.mem_of_getElem? (i := 17) rfl)
theorem dX2_runOut_34 : decode cX2_runOut 34 = .ok (.goto (-26), 3) := dAX2_runOut (34, (.goto (-26), 3)) (List.mem_of_getElem? (i := 18) rfl)
theorem dX2_runOut_37 : decode cX2_runOut 37 = .ok (.aload_n 0, 1) := dAX2_runOut (37, (.aload_n 0, 1)) (List.mem_of_getElem? (i := 19) rfl)
theorem dX2_runOut_38 : decode cX2_runOut 38 = .ok (.getfield 15, 3) := dAX2_runOut (38, (.getfield 15, 3)) (List.mem_of_getElem? (i := 20) rfl)
theorem dX2_runOut_41 : decode cX2_runOut 41 = .ok (.ifCond .ne 8, 3) := dAX2_runOut (41, (.ifCond .ne 8, 3)) (List.mem_of_getElem? (i := 21) rfl)
theorem dX2_runOut_44 : decode cX2_runOut 44 = .ok (.iload 4, 2) := dAX2_runOut (44, (.iload 4, 2)) (List.mem_of_getElem? (i := 22) rfl)
theorem dX2_runOut_46 : decode cX2_runOut 46 = .ok (.goto 5, 3) := dAX2_runOut (46, (.goto 5, 3)) (List.mem_of_getElem? (i := 23) rfl)
theorem dX2_runOut_49 : decode cX2_runOut 49 = .ok (.bipush 61, 2) := dAX2_runOut (49, (.bipush 61, 2)) (List.mem_of_getElem? (i := 24) rfl)
theorem dX2_runOut_51 : decode cX2_runOut 51 = .ok (.ireturn, 1) := dAX2_runOut (51, (.ireturn, 1)) (List.mem_of_getElem? (i := 25) rfl)
set_option maxRecDepth 20000 in
theorem ggX2_runOut_X2_pass : GoodIn wsX2_runOut wsX2_pass := goodIn_r _ [7, 8, 9, 10, 11, 6, 12, 13, 14, 2, 15, 16, 17, 18, 19, 20, 21, 22, 23, 24, 25, 26, 27, 28, 29, 30, 31, 32, 33, 34, 35, 36, 37, 38, 39, 40, 41, 42, 43, 44, 45, 46, 47, 48, 49, 50, 51, 52, 53, 54, 55, 56, 57, 58, 59, 60, 61, 62, 63, 64, 65, 66, 67, 68, 69, 70, 71, 72, 73, 74, 75, 76, 77] rfl (by decide +kernel)
set_option maxRecDepth 20000 in
theorem gX2_runOut_X2_pass : GoodIn wsX2_runOut (wsV RX2 110 RX2 yX2_pass wsX2_pass) := goodIn_app (goodIn_of _ (by decide +kernel)) ggX2_runOut_X2_pass
theorem kX2_runOut_27 : Cond.fieldLink RX2 27 "EveningVow$Night" "leftLatest" "I" ∈ wsX2_runOut := List.mem_of_getElem? (i := 1) rfl
theorem iX2_runOut_X2 : ∀ w ∈ u_ws RX2 TX2 9, w ∈ wsX2_runOut := fun w h => (List.mem_cons_of_mem _ (List.mem_append_left _ (List.mem_append_left _ (List.mem_append_right _ h))))
theorem kX2_runOut_15 : Cond.fieldLink RX2 15 "EveningVow$Night" "there" "I" ∈ wsX2_runOut := List.mem_of_getElem? (i := 2) rfl
set_option maxHeartbeats 4000000 in
set_option maxRecDepth 100000 in
theorem wX2_runOut_L8 {p : Program} {l : Launch} {e : Env} {s : State} {m : MethodId} {args : Array Value} {below : List Frame} {meth : Method} {c : Code} {g : GG} {A : Nat → Prop} (C0 : Cx p s m args meth c cX2_runOut 5 (some .int) RX2 wsX2_runOut g A) (a_t : Nat) (a_r1 : Nat) (a_r2 : Nat) (p_t : Nat → Nat) (p_r1 : Nat → Nat) (p_r2 : Nat → Nat) (n : Nat) (x3 : Int32) (o_r1 : Nat → Int32) (f_r1_4 : Nat → Int32) (f_r1_6 : Nat → Int32) (f_r1_7 : Nat → Int32) (f_r1_10 : Nat → Int32) (f_r1_11 : Nat → Int32) (f_r1_12 : Nat → Int32)  (r : Int32) (o_t' : Nat → Int32) (f_t_6' : Nat → Int32) (f_t_7' : Nat → Int32) (f_t_8' : Nat → Int32) (o_r2' : Nat → Int32) (K : Int32 → (Nat → Int32) → (Nat → Int32) → (Nat → Int32) → (Nat → Int32) → (Nat → Int32) → Option (Int32 × (Nat → Int32) × (Nat → Int32) × (Nat → Int32) × (Nat → Int32) × (Nat → Int32))) (hKx : ∀ (x4 : Int32) (o_t : Nat → Int32) (f_t_6 : Nat → Int32) (f_t_7 : Nat → Int32) (f_t_8 : Nat → Int32) (o_r2 : Nat → Int32) (H : Heap) (locs : List Loc) (ls : Array Slot), K x4 o_t f_t_6 f_t_7 f_t_8 o_r2 = some (r, o_t', f_t_6', f_t_7', f_t_8', o_r2') → va_P g.1 vwCl [oX2 a_t p_t o_t, aI g (p_t 6) 7 f_t_6, aI g (p_t 7) 7 f_t_7, aI g (p_t 8) 7 f_t_8, oX1 a_r1 p_r1 o_r1, aI g (p_r1 4) 7 f_r1_4, aI g (p_r1 6) 7 f_r1_6, aI g (p_r1 7) 7 f_r1_7, aI g (p_r1 10) 8 f_r1_10, aI g (p_r1 11) 8 f_r1_11, aI g (p_r1 12) 8 f_r1_12, oX3 a_r2 p_r2 o_r2] H → va_D A [oX2 a_t p_t o_t, aI g (p_t 6) 7 f_t_6, aI g (p_t 7) 7 f_t_7, aI g (p_t 8) 7 f_t_8, oX1 a_r1 p_r1 o_r1, aI g (p_r1 4) 7 f_r1_4, aI g (p_r1 6) 7 f_r1_6, aI g (p_r1 7) 7 f_r1_7, aI g (p_r1 10) 8 f_r1_10, aI g (p_r1 11) 8 f_r1_11, aI g (p_r1 12) 8 f_r1_12, oX3 a_r2 p_r2 o_r2] → va_S A s.heap H locs → lv_has ls 5 [(0, .ref a_t), (4, .int x4)] → W p l e ({ frames := 3, cells := 0, slots := 0, locals := 71 } : Room) s m args below meth c H locs 0 0 (MQ below (EndI g r [oX2 a_t p_t o_t', aI g (p_t 6) 7 f_t_6', aI g (p_t 7) 7 f_t_7', aI g (p_t 8) 7 f_t_8', oX1 a_r1 p_r1 o_r1, aI g (p_r1 4) 7 f_r1_4, aI g (p_r1 6) 7 f_r1_6, aI g (p_r1 7) 7 f_r1_7, aI g (p_r1 10) 8 f_r1_10, aI g (p_r1 11) 8 f_r1_11, aI g (p_r1 12) 8 f_r1_12, oX3 a_r2 p_r2 o_r2'] A) args s 0 0 A) (F0 m 37 ls [])) : ∀ (k : Nat) (x4 : Int32) (o_t : Nat → Int32) (f_t_6 : Nat → Int32) (f_t_7 : Nat → Int32) (f_t_8 : Nat → Int32) (o_r2 : Nat → Int32), fX2_runOut_L8 n x3 o_r1 f_r1_4 f_r1_6 f_r1_7 f_r1_10 f_r1_11 f_r1_12 K k x4 o_t f_t_6 f_t_7 f_t_8 o_r2 = some (r, o_t', f_t_6', f_t_7', f_t_8', o_r2') → ∀ (H : Heap) (locs : List Loc) (ls : Array Slot), va_P g.1 vwCl [oX2 a_t p_t o_t, aI g (p_t 6) 7 f_t_6, aI g (p_t 7) 7 f_t_7, aI g (p_t 8) 7 f_t_8, oX1 a_r1 p_r1 o_r1, aI g (p_r1 4) 7 f_r1_4, aI g (p_r1 6) 7 f_r1_6, aI g (p_r1 7) 7 f_r1_7, aI g (p_r1 10) 8 f_r1_10, aI g (p_r1 11) 8 f_r1_11, aI g (p_r1 12) 8 f_r1_12, oX3 a_r2 p_r2 o_r2] H → va_D A [oX2 a_t p_t o_t, aI g (p_t 6) 7 f_t_6, aI g (p_t 7) 7 f_t_7, aI g (p_t 8) 7 f_t_8, oX1 a_r1 p_r1 o_r1, aI g (p_r1 4) 7 f_r1_4, aI g (p_r1 6) 7 f_r1_6, aI g (p_r1 7) 7 f_r1_7, aI g (p_r1 10) 8 f_r1_10, aI g (p_r1 11) 8 f_r1_11, aI g (p_r1 12) 8 f_r1_12, oX3 a_r2 p_r2 o_r2] → va_S A s.heap H locs → lv_has ls 5 [(0, .ref a_t), (1, .ref a_r1), (2, .ref a_r2), (3, .int x3), (4, .int x4)] → W p l e ({ frames := 3, cells := 0, slots := 0, locals := 71 } : Room) s m args below meth c H locs 0 0 (MQ below (EndI g r [oX2 a_t p_t o_t', aI g (p_t 6) 7 f_t_6', aI g (p_t 7) 7 f_t_7', aI g (p_t 8) 7 f_t_8', oX1 a_r1 p_r1 o_r1, aI g (p_r1 4) 7 f_r1_4, aI g (p_r1 6) 7 f_r1_6, aI g (p_r1 7) 7 f_r1_7, aI g (p_r1 10) 8 f_r1_10, aI g (p_r1 11) 8 f_r1_11, aI g (p_r1 12) 8 f_r1_12, oX3 a_r2 p_r2 o_r2'] A) args s 0 0 A) (F0 m 8 ls []) := by
  obtain ⟨hx, hb, hml, hown, hts, hr, hlk, hK, hA, hSW⟩ := id C0
  intro k
  induction k with
  | zero =>
    intro x4 o_t f_t_6 f_t_7 f_t_8 o_r2 hF
    exact absurd hF (by simp [fX2_runOut_L8])
  | succ k ih =>
    intro x4 o_t f_t_6 f_t_7 f_t_8 o_r2 hF H locs ls hP hD hS hl
    rw [fX2_runOut_L8] at hF
    refine lv_aload_n hx hb dX2_runOut_8 rfl (lv_at hl 0 rfl) ?_
    refine va_get (D := g.1) (ci := 2) (v := .int (o_t 1)) (C := RX2) (T := TX2) (N := 9) hx hb hts iX2_runOut_X2 hown hK.1 hP 0 rfl rfl 1 (by decide) (hts _ kX2_runOut_15) (fun _ h9 => h9) rfl dX2_runOut_9 ?_
    refine lv_if_eq (tgt := 37) hx hb dX2_runOut_12 (by decide) (fun c_1 => ?_) (fun c_1 => ?_)
    · have hF := it_p c_1 hF
      exact hKx x4 o_t f_t_6 f_t_7 f_t_8 o_r2 _ _ _ hF (hP.sub [0, 1, 2, 3, 4, 5, 6, 7, 8, 9, 10, 11] rfl) (hD.sub [0, 1, 2, 3, 4, 5, 6, 7, 8, 9, 10, 11] rfl rfl) hS (lv_sub hl [0, 4] rfl)
    · have hF := it_n c_1 hF
      refine lv_iload hx hb dX2_runOut_15 (lv_at hl 4 rfl) ?_
      refine lv_iload_n hx hb dX2_runOut_17 rfl (lv_at hl 3 rfl) ?_
      refine lv_icmp_ge (tgt := 37) hx hb dX2_runOut_18 (by decide) (fun c_2 => ?_) (fun c_2 => ?_)
      · have hF := it_p c_2 hF
        exact hKx x4 o_t f_t_6 f_t_7 f_t_8 o_r2 _ _ _ hF (hP.sub [0, 1, 2, 3, 4, 5, 6, 7, 8, 9, 10, 11] rfl) (hD.sub [0, 1, 2, 3, 4, 5, 6, 7, 8, 9, 10, 11] rfl rfl) hS (lv_sub hl [0, 4] rfl)
      · have hF := it_n c_2 hF
        refine lv_aload_n hx hb dX2_runOut_21 rfl (lv_at hl 0 rfl) ?_
        refine lv_aload_n hx hb dX2_runOut_22 rfl (lv_at hl 0 rfl) ?_
        refine lv_aload_n hx hb dX2_runOut_23 rfl (lv_at hl 1 rfl) ?_
        refine lv_aload_n hx hb dX2_runOut_24 rfl (lv_at hl 2 rfl) ?_
        obtain ⟨u_3, u_4, u_5, u_6, u_7, u_8, hu_9, hF⟩ := ob6_some hF
        refine call_i (wr := []) (As := [.ref a_r1, .ref a_r2]) (rest := [.ref a_t]) (ci := 2) (q0 := 0) C0 (mX2_pass l g a_t a_r1 a_r2 p_t p_r1 p_r2 n o_t f_t_6 f_t_7 f_t_8 o_r1 f_r1_4 f_r1_6 f_r1_7 f_r1_10 f_r1_11 f_r1_12 o_r2 u_3 u_4 u_5 u_6 u_7 u_8 hu_9) (cwV 2 hts gX2_runOut_X2_pass rfl rfl rfl (by decide +kernel) ⟨Nat.le_of_ble_eq_true rfl, Nat.le_of_ble_eq_true rfl⟩) hP hD hS [0, 1, 2, 3, 4, 5, 6, 7, 8, 9, 10, 11] [] rfl rfl rfl rfl rfl (by decide) rfl rfl hl.1 rfl rfl (Nat.le_of_ble_eq_true rfl) ⟨Nat.zero_le _, Nat.zero_le _⟩ dX2_runOut_25 ?_
        intro H locs hP hD hS
        refine va_put (D := g.1) (ci := 2) (v := .int u_3) (ty := .int) (C := RX2) (T := TX2) (N := 9) hx hb hts iX2_runOut_X2 tyX2 tyX2_ok nmX2 hown hK.1 hP hD hS 0 rfl rfl 5 (by decide) (hts _ kX2_runOut_27) (fun _ h9 => h9) rfl (by decide +kernel) rfl rfl (Nat.le_of_ble_eq_true rfl) dX2_runOut_28 (fun H locs hP hD hS => ?_)
        have hP : va_P g.1 vwCl [oX2 a_t p_t (upd u_4 5 u_3), aI g (p_t 6) 7 u_5, aI g (p_t 7) 7 u_6, aI g (p_t 8) 7 u_7, oX1 a_r1 p_r1 o_r1, aI g (p_r1 4) 7 f_r1_4, aI g (p_r1 6) 7 f_r1_6, aI g (p_r1 7) 7 f_r1_7, aI g (p_r1 10) 8 f_r1_10, aI g (p_r1 11) 8 f_r1_11, aI g (p_r1 12) 8 f_r1_12, oX3 a_r2 p_r2 u_8] H := hP
        have hD : va_D A [oX2 a_t p_t (upd u_4 5 u_3), aI g (p_t 6) 7 u_5, aI g (p_t 7) 7 u_6, aI g (p_t 8) 7 u_7, oX1 a_r1 p_r1 o_r1, aI g (p_r1 4) 7 f_r1_4, aI g (p_r1 6) 7 f_r1_6, aI g (p_r1 7) 7 f_r1_7, aI g (p_r1 10) 8 f_r1_10, aI g (p_r1 11) 8 f_r1_11, aI g (p_r1 12) 8 f_r1_12, oX3 a_r2 p_r2 u_8] := hD
        refine lv_iinc (v := (x4 + (1 : Int32))) (lv' := [(4, .int (x4 + (1 : Int32))), (0, .ref a_t), (1, .ref a_r1), (2, .ref a_r2), (3, .int x3)]) hx hb dX2_runOut_31 hl (k := 4) rfl rfl (by decide) rfl (fun ls hl => ?_)
        refine lv_goto (tgt := 8) hx hb dX2_runOut_34 (by decide) ?_
        exact ih (x4 + (1 : Int32)) (upd u_4 5 u_3) u_5 u_6 u_7 u_8 hF _ _ _ (hP.sub [0, 1, 2, 3, 4, 5, 6, 7, 8, 9, 10, 11] rfl) (hD.sub [0, 1, 2, 3, 4, 5, 6, 7, 8, 9, 10, 11] rfl rfl) hS (lv_sub hl [1, 2, 3, 4, 0] rfl)
set_option maxHeartbeats 4000000 in
set_option maxRecDepth 100000 in
theorem mX2_runOut (l : Launch) (g : GG) (a_t : Nat) (a_r1 : Nat) (a_r2 : Nat) (p_t : Nat → Nat) (p_r1 : Nat → Nat) (p_r2 : Nat → Nat) (n : Nat) (x3 : Int32) (o_t : Nat → Int32) (f_t_6 : Nat → Int32) (f_t_7 : Nat → Int32) (f_t_8 : Nat → Int32) (o_r1 : Nat → Int32) (f_r1_4 : Nat → Int32) (f_r1_6 : Nat → Int32) (f_r1_7 : Nat → Int32) (f_r1_10 : Nat → Int32) (f_r1_11 : Nat → Int32) (f_r1_12 : Nat → Int32) (o_r2 : Nat → Int32) (r : Int32) (o_t' : Nat → Int32) (f_t_6' : Nat → Int32) (f_t_7' : Nat → Int32) (f_t_8' : Nat → Int32) (o_r2' : Nat → Int32) (hF : fX2_runOut n x3 o_t f_t_6 f_t_7 f_t_8 o_r1 f_r1_4 f_r1_6 f_r1_7 f_r1_10 f_r1_11 f_r1_12 o_r2 = some (r, o_t', f_t_6', f_t_7', f_t_8', o_r2')) : MI l g yX2_runOut wsX2_runOut ({ frames := 3, cells := 0, slots := 0, locals := 71 } : Room) [.ref a_t, .ref a_r1, .ref a_r2, .int x3] [oX2 a_t p_t o_t, aI g (p_t 6) 7 f_t_6, aI g (p_t 7) 7 f_t_7, aI g (p_t 8) 7 f_t_8, oX1 a_r1 p_r1 o_r1, aI g (p_r1 4) 7 f_r1_4, aI g (p_r1 6) 7 f_r1_6, aI g (p_r1 7) 7 f_r1_7, aI g (p_r1 10) 8 f_r1_10, aI g (p_r1 11) 8 f_r1_11, aI g (p_r1 12) 8 f_r1_12, oX3 a_r2 p_r2 o_r2] r [oX2 a_t p_t o_t', aI g (p_t 6) 7 f_t_6', aI g (p_t 7) 7 f_t_7', aI g (p_t 8) 7 f_t_8', oX1 a_r1 p_r1 o_r1, aI g (p_r1 4) 7 f_r1_4, aI g (p_r1 6) 7 f_r1_6, aI g (p_r1 7) 7 f_r1_7, aI g (p_r1 10) 8 f_r1_10, aI g (p_r1 11) 8 f_r1_11, aI g (p_r1 12) 8 f_r1_12, oX3 a_r2 p_r2 o_r2'] := by
  refine MI.of (cc := cX2_runOut) (maxL := 5) (rt := .int) (own := RX2) rfl rfl (by decide) (Nat.le_of_ble_eq_true rfl) ?_
  intro p e s m args below meth c A C0 hP hD hS ls hl
  obtain ⟨hx, hb, hml, hown, hts, hr, hlk, hK, hA, hSW⟩ := id C0
  have hl : lv_has ls 5 [(0, .ref a_t), (1, .ref a_r1), (2, .ref a_r2), (3, .int x3)] := hl
  rw [fX2_runOut] at hF
  refine lv_aload_n hx hb dX2_runOut_0 rfl (lv_at hl 0 rfl) ?_
  refine lv_iconst (v := (0 : Int32)) hx hb dX2_runOut_1 (by decide) ?_
  refine va_put (D := g.1) (ci := 2) (v := .int (0 : Int32)) (ty := .int) (C := RX2) (T := TX2) (N := 9) hx hb hts iX2_runOut_X2 tyX2 tyX2_ok nmX2 hown hK.1 hP hD hS 0 rfl rfl 5 (by decide) (hts _ kX2_runOut_27) (fun _ h9 => h9) rfl (by decide +kernel) rfl rfl (Nat.le_of_ble_eq_true rfl) dX2_runOut_2 (fun H locs hP hD hS => ?_)
  have hP : va_P g.1 vwCl [oX2 a_t p_t (upd o_t 5 (0 : Int32)), aI g (p_t 6) 7 f_t_6, aI g (p_t 7) 7 f_t_7, aI g (p_t 8) 7 f_t_8, oX1 a_r1 p_r1 o_r1, aI g (p_r1 4) 7 f_r1_4, aI g (p_r1 6) 7 f_r1_6, aI g (p_r1 7) 7 f_r1_7, aI g (p_r1 10) 8 f_r1_10, aI g (p_r1 11) 8 f_r1_11, aI g (p_r1 12) 8 f_r1_12, oX3 a_r2 p_r2 o_r2] H := hP
  have hD : va_D A [oX2 a_t p_t (upd o_t 5 (0 : Int32)), aI g (p_t 6) 7 f_t_6, aI g (p_t 7) 7 f_t_7, aI g (p_t 8) 7 f_t_8, oX1 a_r1 p_r1 o_r1, aI g (p_r1 4) 7 f_r1_4, aI g (p_r1 6) 7 f_r1_6, aI g (p_r1 7) 7 f_r1_7, aI g (p_r1 10) 8 f_r1_10, aI g (p_r1 11) 8 f_r1_11, aI g (p_r1 12) 8 f_r1_12, oX3 a_r2 p_r2 o_r2] := hD
  refine lv_iconst (v := (0 : Int32)) hx hb dX2_runOut_5 (by decide) ?_
  refine lv_istore (lv' := [(4, .int (0 : Int32)), (0, .ref a_t), (1, .ref a_r1), (2, .ref a_r2), (3, .int x3)]) hx hb dX2_runOut_6 hl (by decide) rfl (fun ls hl => ?_)
  refine wX2_runOut_L8 C0 a_t a_r1 a_r2 p_t p_r1 p_r2 n x3 o_r1 f_r1_4 f_r1_6 f_r1_7 f_r1_10 f_r1_11 f_r1_12 r o_t' f_t_6' f_t_7' f_t_8' o_r2' _ ?_ n (0 : Int32) (upd o_t 5 (0 : Int32)) f_t_6 f_t_7 f_t_8 o_r2 hF _ _ _ (hP.sub [0, 1, 2, 3, 4, 5, 6, 7, 8, 9, 10, 11] rfl) (hD.sub [0, 1, 2, 3, 4, 5, 6, 7, 8, 9, 10, 11] rfl rfl) hS (lv_sub hl [1, 2, 3, 4, 0] rfl)
  · intro x4_x8 o_t_x8 f_t_6_x8 f_t_7_x8 f_t_8_x8 o_r2_x8 H locs ls hF hP hD hS hl
    refine lv_aload_n hx hb dX2_runOut_37 rfl (lv_at hl 0 rfl) ?_
    refine va_get (D := g.1) (ci := 2) (v := .int (o_t_x8 1)) (C := RX2) (T := TX2) (N := 9) hx hb hts iX2_runOut_X2 hown hK.1 hP 0 rfl rfl 1 (by decide) (hts _ kX2_runOut_15) (fun _ h9 => h9) rfl dX2_runOut_38 ?_
    refine lv_if_ne (tgt := 49) hx hb dX2_runOut_41 (by decide) (fun c_10 => ?_) (fun c_10 => ?_)
    · have hF := it_n c_10 hF
      refine lv_bipush (v := (61 : Int32)) hx hb dX2_runOut_49 (by decide) ?_
      cases hF
      exact ret_i C0 hP hD hS [0, 1, 2, 3, 4, 5, 6, 7, 8, 9, 10, 11] rfl rfl rfl dX2_runOut_51 rfl
    · have hF := it_p c_10 hF
      refine lv_iload hx hb dX2_runOut_44 (lv_at hl 1 rfl) ?_
      refine lv_goto (tgt := 51) hx hb dX2_runOut_46 (by decide) ?_
      cases hF
      exact ret_i C0 hP hD hS [0, 1, 2, 3, 4, 5, 6, 7, 8, 9, 10, 11] rfl rfl rfl dX2_runOut_51 rfl

theorem dAX2_dismiss : ∀ q ∈ ([(0, (.aload_n 0, 1)), (1, (.aload_n 1, 1)), (2, (.iload_n 2, 1)), (3, (.invokevirtual 90, 3)), (6, (.iload_n 2, 1)), (7, (.aload_n 0, 1)), (8, (.aload_n 1, 1)), (9, (.invokevirtual 107, 3)), (12, (.ior, 1)), (13, (.ireturn, 1))] : List (Nat × (Instr × Nat))), decode cX2_dismiss q.1 = .ok q.2 := by decide +kernel
theorem dX2_dismiss_0 : decode cX2_dismiss 0 = .ok (.aload_n 0, 1) := dAX2_dismiss (0, (.aload_n 0, 1)) (List.mem_of_getElem? (i := 0) rfl)
theorem dX2_dismiss_1 : decode cX2_dismiss 1 = .ok (.aload_n 1, 1) := dAX2_dismiss (1, (.aload_n 1, 1)) (List.mem_of_getElem? (i := 1) rfl)
theorem dX2_dismiss_2 : decode cX2_dismiss 2 = .ok (.iload_n 2, 1) := dAX2_dismiss (2, (.iload_n 2, 1)) (List.mem_of_getElem? (i := 2) rfl)
theorem dX2_dismiss_3 : decode cX2_dismiss 3 = .ok (.invokevirtual 90, 3) := dAX2_dismiss (3, (.invokevirtual 90, 3)) (List.mem_of_getElem? (i := 3) rfl)
theorem dX2_dismiss_6 : decode cX2_dismiss 6 = .ok (.iload_n 2, 1) := dAX2_dismiss (6, (.iload_n 2, 1)) (List.mem_of_getElem? (i := 4) rfl)
theorem dX2_dismiss_7 : decode cX2_dismiss 7 = .ok (.aload_n 0, 1) := dAX2_dismiss (7, (.aload_n 0, 1)) (List.mem_of_getElem? (i := 5) rfl)
theorem dX2_dismiss_8 : decode cX2_dismiss 8 = .ok (.aload_n 1, 1) := dAX2_dismiss (8, (.aload_n 1, 1)) (List.mem_of_getElem? (i := 6) rfl)
theorem dX2_dismiss_9 : decode cX2_dismiss 9 = .ok (.invokevirtual 107, 3) := dAX2_dismiss (9, (.invokevirtual 107, 3)) (List.mem_of_getElem? (i := 7) rfl)
theorem dX2_dismiss_12 : decode cX2_dismiss 12 = .ok (.ior, 1) := dAX2_dismiss (12, (.ior, 1)) (List.mem_of_getElem? (i := 8) rfl)
theorem dX2_dismiss_13 : decode cX2_dismiss 13 = .ok (.ireturn, 1) := dAX2_dismiss (13, (.ireturn, 1)) (List.mem_of_getElem? (i := 9) rfl)
set_option maxRecDepth 20000 in
theorem ggX2_dismiss_X2_release : GoodIn wsX2_dismiss wsX2_release := goodIn_r _ [5, 6, 7, 8, 9, 10, 11, 12, 32, 33, 34, 35, 36, 37, 38, 39, 40, 41, 42, 43, 44, 45, 46, 47, 48, 49, 50, 51, 52, 53, 54, 55, 56, 57] rfl (by decide +kernel)
set_option maxRecDepth 20000 in
theorem gX2_dismiss_X2_release : GoodIn wsX2_dismiss (wsV RX2 90 RX2 yX2_release wsX2_release) := goodIn_app (goodIn_of _ (by decide +kernel)) ggX2_dismiss_X2_release
set_option maxRecDepth 20000 in
theorem ggX2_dismiss_X2_settle : GoodIn wsX2_dismiss wsX2_settle := goodIn_r _ [16, 17, 18, 19, 20, 4, 21, 7, 22, 11, 23, 24, 6, 25, 26, 27, 28, 29, 30, 31, 1, 2, 3, 5, 8, 9, 10, 12, 32, 33, 34, 35, 36, 37, 38, 39, 40, 41, 42, 43, 44, 45, 46, 47, 48, 49, 50, 51, 52, 53, 54, 55, 56, 57] rfl (by decide +kernel)
set_option maxRecDepth 20000 in
theorem gX2_dismiss_X2_settle : GoodIn wsX2_dismiss (wsV RX2 107 RX2 yX2_settle wsX2_settle) := goodIn_app (goodIn_of _ (by decide +kernel)) ggX2_dismiss_X2_settle
set_option maxHeartbeats 4000000 in
set_option maxRecDepth 100000 in
theorem mX2_dismiss (l : Launch) (g : GG) (a_t : Nat) (a_r1 : Nat) (p_t : Nat → Nat) (p_r1 : Nat → Nat) (n : Nat) (x2 : Int32) (o_t : Nat → Int32) (f_t_6 : Nat → Int32) (f_t_7 : Nat → Int32) (f_t_8 : Nat → Int32) (o_r1 : Nat → Int32) (f_r1_4 : Nat → Int32) (f_r1_7 : Nat → Int32) (f_r1_10 : Nat → Int32) (f_r1_11 : Nat → Int32) (f_r1_12 : Nat → Int32) (r : Int32) (o_t' : Nat → Int32) (f_t_6' : Nat → Int32) (f_t_7' : Nat → Int32) (f_t_8' : Nat → Int32) (hF : fX2_dismiss n x2 o_t f_t_6 f_t_7 f_t_8 o_r1 f_r1_4 f_r1_7 f_r1_10 f_r1_11 f_r1_12 = some (r, o_t', f_t_6', f_t_7', f_t_8')) : MI l g yX2_dismiss wsX2_dismiss ({ frames := 2, cells := 0, slots := 0, locals := 49 } : Room) [.ref a_t, .ref a_r1, .int x2] [oX2 a_t p_t o_t, aI g (p_t 6) 7 f_t_6, aI g (p_t 7) 7 f_t_7, aI g (p_t 8) 7 f_t_8, oX1 a_r1 p_r1 o_r1, aI g (p_r1 4) 7 f_r1_4, aI g (p_r1 7) 7 f_r1_7, aI g (p_r1 10) 8 f_r1_10, aI g (p_r1 11) 8 f_r1_11, aI g (p_r1 12) 8 f_r1_12] r [oX2 a_t p_t o_t', aI g (p_t 6) 7 f_t_6', aI g (p_t 7) 7 f_t_7', aI g (p_t 8) 7 f_t_8', oX1 a_r1 p_r1 o_r1, aI g (p_r1 4) 7 f_r1_4, aI g (p_r1 7) 7 f_r1_7, aI g (p_r1 10) 8 f_r1_10, aI g (p_r1 11) 8 f_r1_11, aI g (p_r1 12) 8 f_r1_12] := by
  refine MI.of (cc := cX2_dismiss) (maxL := 3) (rt := .int) (own := RX2) rfl rfl (by decide) (Nat.le_of_ble_eq_true rfl) ?_
  intro p e s m args below meth c A C0 hP hD hS ls hl
  obtain ⟨hx, hb, hml, hown, hts, hr, hlk, hK, hA, hSW⟩ := id C0
  have hl : lv_has ls 3 [(0, .ref a_t), (1, .ref a_r1), (2, .int x2)] := hl
  rw [fX2_dismiss] at hF
  refine lv_aload_n hx hb dX2_dismiss_0 rfl (lv_at hl 0 rfl) ?_
  refine lv_aload_n hx hb dX2_dismiss_1 rfl (lv_at hl 1 rfl) ?_
  refine lv_iload_n hx hb dX2_dismiss_2 rfl (lv_at hl 2 rfl) ?_
  obtain ⟨u_1, u_2, u_3, hu_4, hF⟩ := ob3_some hF
  refine call_v (wr := [aI g (p_t 8) 7 f_t_8, aI g (p_r1 4) 7 f_r1_4, aI g (p_r1 10) 8 f_r1_10, aI g (p_r1 11) 8 f_r1_11, aI g (p_r1 12) 8 f_r1_12]) (As := [.ref a_r1, .int x2]) (rest := []) (ci := 2) (q0 := 0) C0 (mX2_release l g a_t a_r1 p_t p_r1 n x2 o_t f_t_6 f_t_7 o_r1 f_r1_7 u_1 u_2 u_3 hu_4) (cwV 2 hts gX2_dismiss_X2_release rfl rfl rfl (by decide +kernel) ⟨Nat.le_of_ble_eq_true rfl, Nat.le_of_ble_eq_true rfl⟩) hP hD hS [0, 1, 2, 4, 6] [3, 5, 7, 8, 9] rfl rfl rfl rfl rfl (by decide) rfl rfl hl.1 rfl rfl (Nat.le_of_ble_eq_true rfl) ⟨Nat.zero_le _, Nat.zero_le _⟩ dX2_dismiss_3 ?_
  intro H locs hP hD hS
  refine lv_iload_n hx hb dX2_dismiss_6 rfl (lv_at hl 2 rfl) ?_
  refine lv_aload_n hx hb dX2_dismiss_7 rfl (lv_at hl 0 rfl) ?_
  refine lv_aload_n hx hb dX2_dismiss_8 rfl (lv_at hl 1 rfl) ?_
  obtain ⟨u_5, u_6, u_7, u_8, u_9, hu_10, hF⟩ := ob5_some hF
  refine call_i (wr := []) (As := [.ref a_r1]) (rest := [.int x2]) (ci := 2) (q0 := 0) C0 (mX2_settle l g a_t a_r1 p_t p_r1 n u_1 u_2 u_3 f_t_8 o_r1 f_r1_4 f_r1_7 f_r1_10 f_r1_11 f_r1_12 u_5 u_6 u_7 u_8 u_9 hu_10) (cwV 1 hts gX2_dismiss_X2_settle rfl rfl rfl (by decide +kernel) ⟨Nat.le_of_ble_eq_true rfl, Nat.le_of_ble_eq_true rfl⟩) hP hD hS [5, 6, 7, 0, 8, 1, 9, 2, 3, 4] [] rfl rfl rfl rfl rfl (by decide) rfl rfl hl.1 rfl rfl (Nat.le_of_ble_eq_true rfl) ⟨Nat.zero_le _, Nat.zero_le _⟩ dX2_dismiss_9 ?_
  intro H locs hP hD hS
  refine lv_ior hx hb dX2_dismiss_12 ?_
  cases hF
  exact ret_i C0 hP hD hS [0, 1, 2, 3, 4, 5, 6, 7, 8, 9] rfl rfl rfl dX2_dismiss_13 rfl

theorem dAX2_tire : ∀ q ∈ ([(0, (.iconst 0, 1)), (1, (.istore_n 3, 1)), (2, (.iload_n 3, 1)), (3, (.aload_n 1, 1)), (4, (.getfield 40, 3)), (7, (.if_icmp .ge 27, 3)), (10, (.aload_n 0, 1)), (11, (.iload_n 3, 1)), (12, (.invokevirtual 114, 3)), (15, (.ifCond .eq 13, 3)), (18, (.aload_n 0, 1)), (19, (.getfield 30, 3)), (22, (.iload_n 3, 1)), (23, (.dup2, 1)), (24, (.iaload, 1)), (25, (.iload_n 2, 1)), (26, (.isub, 1)), (27, (.iastore, 1)), (28, (.iinc 3 1, 3)), (31, (.goto (-29), 3)), (34, (.return_, 1))] : List (Nat × (Instr × Nat))), decode cX2_tire q.1 = .ok q.2 := by decide +kernel
theorem dX2_tire_0 : decode cX2_tire 0 = .ok (.iconst 0, 1) := dAX2_tire (0, (.iconst 0, 1)) (List.mem_of_getElem? (i := 0) rfl)
theorem dX2_tire_1 : decode cX2_tire 1 = .ok (.istore_n 3, 1) := dAX2_tire (1, (.istore_n 3, 1)) (List.mem_of_getElem? (i := 1) rfl)
theorem dX2_tire_2 : decode cX2_tire 2 = .ok (.iload_n 3, 1) := dAX2_tire (2, (.iload_n 3, 1)) (List.mem_of_getElem? (i := 2) rfl)
theorem dX2_tire_3 : decode cX2_tire 3 = .ok (.aload_n 1, 1) := dAX2_tire (3, (.aload_n 1, 1)) (List.mem_of_getElem? (i := 3) rfl)
theorem dX2_tire_4 : decode cX2_tire 4 = .ok (.getfield 40, 3) := dAX2_tire (4, (.getfield 40, 3)) (List.mem_of_getElem? (i := 4) rfl)
theorem dX2_tire_7 : decode cX2_tire 7 = .ok (.if_icmp .ge 27, 3) := dAX2_tire (7, (.if_icmp .ge 27, 3)) (List.mem_of_getElem? (i := 5) rfl)
theorem dX2_tire_10 : decode cX2_tire 10 = .ok (.aload_n 0, 1) := dAX2_tire (10, (.aload_n 0, 1)) (List.mem_of_getElem? (i := 6) rfl)
theorem dX2_tire_11 : decode cX2_tire 11 = .ok (.iload_n 3, 1) := dAX2_tire (11, (.iload_n 3, 1)) (List.mem_of_getElem? (i := 7) rfl)
theorem dX2_tire_12 : decode cX2_tire 12 = .ok (.invokevirtual 114, 3) := dAX2_tire (12, (.invokevirtual 114, 3)) (List.mem_of_getElem? (i := 8) rfl)
theorem dX2_tire_15 : decode cX2_tire 15 = .ok (.ifCond .eq 13, 3) := dAX2_tire (15, (.ifCond .eq 13, 3)) (List.mem_of_getElem? (i := 9) rfl)
theorem dX2_tire_18 : decode cX2_tire 18 = .ok (.aload_n 0, 1) := dAX2_tire (18, (.aload_n 0, 1)) (List.mem_of_getElem? (i := 10) rfl)
theorem dX2_tire_19 : decode cX2_tire 19 = .ok (.getfield 30, 3) := dAX2_tire (19, (.getfield 30, 3)) (List.mem_of_getElem? (i := 11) rfl)
theorem dX2_tire_22 : decode cX2_tire 22 = .ok (.iload_n 3, 1) := dAX2_tire (22, (.iload_n 3, 1)) (List.mem_of_getElem? (i := 12) rfl)
theorem dX2_tire_23 : decode cX2_tire 23 = .ok (.dup2, 1) := dAX2_tire (23, (.dup2, 1)) (List.mem_of_getElem? (i := 13) rfl)
theorem dX2_tire_24 : decode cX2_tire 24 = .ok (.iaload, 1) := dAX2_tire (24, (.iaload, 1)) (List.mem_of_getElem? (i := 14) rfl)
theorem dX2_tire_25 : decode cX2_tire 25 = .ok (.iload_n 2, 1) := dAX2_tire (25, (.iload_n 2, 1)) (List.mem_of_getElem? (i := 15) rfl)
theorem dX2_tire_26 : decode cX2_tire 26 = .ok (.isub, 1) := dAX2_tire (26, (.isub, 1)) (List.mem_of_getElem? (i := 16) rfl)
theorem dX2_tire_27 : decode cX2_tire 27 = .ok (.iastore, 1) := dAX2_tire (27, (.iastore, 1)) (List.mem_of_getElem? (i := 17) rfl)
theorem dX2_tire_28 : decode cX2_tire 28 = .ok (.iinc 3 1, 3) := dAX2_tire (28, (.iinc 3 1, 3)) (List.mem_of_getElem? (i := 18) rfl)
theorem dX2_tire_31 : decode cX2_tire 31 = .ok (.goto (-29), 3) := dAX2_tire (31, (.goto (-29), 3)) (List.mem_of_getElem? (i := 19) rfl)
theorem dX2_tire_34 : decode cX2_tire 34 = .ok (.return_, 1) := dAX2_tire (34, (.return_, 1)) (List.mem_of_getElem? (i := 20) rfl)
set_option maxRecDepth 20000 in
theorem ggX2_tire_X2_has : GoodIn wsX2_tire wsX2_has := goodIn_r _ [7, 8, 9, 10, 11, 29, 30, 31, 32, 33, 34, 35, 36, 37] rfl (by decide +kernel)
set_option maxRecDepth 20000 in
theorem gX2_tire_X2_has : GoodIn wsX2_tire (wsV RX2 114 RX2 yX2_has wsX2_has) := goodIn_app (goodIn_of _ (by decide +kernel)) ggX2_tire_X2_has
theorem kX2_tire_40 : Cond.fieldLink RX2 40 "EveningVow$House" "guests" "I" ∈ wsX2_tire := List.mem_of_getElem? (i := 1) rfl
theorem iX2_tire_X1 : ∀ w ∈ u_ws RX1 TX1 17, w ∈ wsX2_tire := fun w h => (List.mem_cons_of_mem _ (List.mem_append_left _ (List.mem_append_right _ h)))
theorem kX2_tire_30 : Cond.fieldLink RX2 30 "EveningVow$Night" "want" "[I" ∈ wsX2_tire := List.mem_of_getElem? (i := 2) rfl
theorem iX2_tire_X2 : ∀ w ∈ u_ws RX2 TX2 9, w ∈ wsX2_tire := fun w h => (List.mem_cons_of_mem _ (List.mem_append_right _ h))
set_option maxHeartbeats 4000000 in
set_option maxRecDepth 100000 in
theorem wX2_tire_L2 {p : Program} {l : Launch} {e : Env} {s : State} {m : MethodId} {args : Array Value} {below : List Frame} {meth : Method} {c : Code} {g : GG} {A : Nat → Prop} (C0 : Cx p s m args meth c cX2_tire 4 none RX2 wsX2_tire g A) (a_t : Nat) (a_r1 : Nat) (p_t : Nat → Nat) (p_r1 : Nat → Nat) (n : Nat) (x2 : Int32) (o_t : Nat → Int32) (o_r1 : Nat → Int32)  (f_t_6' : Nat → Int32) (K : (Nat → Int32) → Option ((Nat → Int32))) (hKx : ∀ (f_t_6 : Nat → Int32) (H : Heap) (locs : List Loc) (ls : Array Slot), K f_t_6 = some (f_t_6') → va_P g.1 vwCl [oX2 a_t p_t o_t, aI g (p_t 6) 7 f_t_6, oX1 a_r1 p_r1 o_r1] H → va_D A [oX2 a_t p_t o_t, aI g (p_t 6) 7 f_t_6, oX1 a_r1 p_r1 o_r1] → va_S A s.heap H locs → lv_has ls 4 [] → W p l e ({ frames := 2, cells := 0, slots := 0, locals := 42 } : Room) s m args below meth c H locs 0 0 (MQ below (EndV g [oX2 a_t p_t o_t, aI g (p_t 6) 7 f_t_6', oX1 a_r1 p_r1 o_r1] A) args s 0 0 A) (F0 m 34 ls [])) : ∀ (k : Nat) (x3 : Int32) (f_t_6 : Nat → Int32), fX2_tire_L2 n x2 o_t o_r1 K k x3 f_t_6 = some (f_t_6') → ∀ (H : Heap) (locs : List Loc) (ls : Array Slot), va_P g.1 vwCl [oX2 a_t p_t o_t, aI g (p_t 6) 7 f_t_6, oX1 a_r1 p_r1 o_r1] H → va_D A [oX2 a_t p_t o_t, aI g (p_t 6) 7 f_t_6, oX1 a_r1 p_r1 o_r1] → va_S A s.heap H locs → lv_has ls 4 [(0, .ref a_t), (1, .ref a_r1), (2, .int x2), (3, .int x3)] → W p l e ({ frames := 2, cells := 0, slots := 0, locals := 42 } : Room) s m args below meth c H locs 0 0 (MQ below (EndV g [oX2 a_t p_t o_t, aI g (p_t 6) 7 f_t_6', oX1 a_r1 p_r1 o_r1] A) args s 0 0 A) (F0 m 2 ls []) := by
  obtain ⟨hx, hb, hml, hown, hts, hr, hlk, hK, hA, hSW⟩ := id C0
  intro k
  induction k with
  | zero =>
    intro x3 f_t_6 hF
    exact absurd hF (by simp [fX2_tire_L2])
  | succ k ih =>
    intro x3 f_t_6 hF H locs ls hP hD hS hl
    rw [fX2_tire_L2] at hF
    refine lv_iload_n hx hb dX2_tire_2 rfl (lv_at hl 3 rfl) ?_
    refine lv_aload_n hx hb dX2_tire_3 rfl (lv_at hl 1 rfl) ?_
    refine va_get (D := g.1) (ci := 1) (v := .int (o_r1 3)) (C := RX1) (T := TX1) (N := 17) hx hb hts iX2_tire_X1 hown hK.1 hP 2 rfl rfl 3 (by decide) (hts _ kX2_tire_40) (fun _ h9 => h9) rfl dX2_tire_4 ?_
    refine lv_icmp_ge (tgt := 34) hx hb dX2_tire_7 (by decide) (fun c_1 => ?_) (fun c_1 => ?_)
    · have hF := it_p c_1 hF
      exact hKx f_t_6 _ _ _ hF (hP.sub [0, 1, 2] rfl) (hD.sub [0, 1, 2] rfl rfl) hS (lv_sub hl [] rfl)
    · have hF := it_n c_1 hF
      refine lv_aload_n hx hb dX2_tire_10 rfl (lv_at hl 0 rfl) ?_
      refine lv_iload_n hx hb dX2_tire_11 rfl (lv_at hl 3 rfl) ?_
      obtain ⟨u_2, hu_3, hF⟩ := ob1_some hF
      refine call_i (wr := [aI g (p_t 6) 7 f_t_6, oX1 a_r1 p_r1 o_r1]) (As := [.int x3]) (rest := []) (ci := 2) (q0 := 0) C0 (mX2_has l g a_t p_t n x3 o_t u_2 hu_3) (cwV 1 hts gX2_tire_X2_has rfl rfl rfl (by decide +kernel) ⟨Nat.le_of_ble_eq_true rfl, Nat.le_of_ble_eq_true rfl⟩) hP hD hS [0] [1, 2] rfl rfl rfl rfl rfl (by decide) rfl rfl hl.1 rfl rfl (Nat.le_of_ble_eq_true rfl) ⟨Nat.zero_le _, Nat.zero_le _⟩ dX2_tire_12 ?_
      intro H locs hP hD hS
      refine lv_if_eq (tgt := 28) hx hb dX2_tire_15 (by decide) (fun c_4 => ?_) (fun c_4 => ?_)
      · have hF := it_p c_4 hF
        refine lv_iinc (v := (x3 + (1 : Int32))) (lv' := [(3, .int (x3 + (1 : Int32))), (0, .ref a_t), (1, .ref a_r1), (2, .int x2)]) hx hb dX2_tire_28 hl (k := 3) rfl rfl (by decide) rfl (fun ls hl => ?_)
        refine lv_goto (tgt := 2) hx hb dX2_tire_31 (by decide) ?_
        exact ih (x3 + (1 : Int32)) f_t_6 hF _ _ _ (hP.sub [2, 0, 1] rfl) (hD.sub [2, 0, 1] rfl rfl) hS (lv_sub hl [1, 2, 3, 0] rfl)
      · have hF := it_n c_4 hF
        refine lv_aload_n hx hb dX2_tire_18 rfl (lv_at hl 0 rfl) ?_
        refine va_get (D := g.1) (ci := 2) (v := .ref (p_t 6)) (C := RX2) (T := TX2) (N := 9) hx hb hts iX2_tire_X2 hown hK.1 hP 2 rfl rfl 6 (by decide) (hts _ kX2_tire_30) (fun _ h9 => h9) rfl dX2_tire_19 ?_
        refine lv_iload_n hx hb dX2_tire_22 rfl (lv_at hl 3 rfl) ?_
        refine lv_dup2_11 hx hb dX2_tire_23 rfl rfl ?_
        obtain ⟨h_5, hF⟩ := it_ck hF
        refine va_iald hx hb hK.1 hP 0 0 rfl rfl h_5 dX2_tire_24 ?_
        refine lv_iload_n hx hb dX2_tire_25 rfl (lv_at hl 2 rfl) ?_
        refine lv_isub hx hb dX2_tire_26 ?_
        obtain ⟨h_6, hF⟩ := it_ck hF
        refine va_iast hx hb hK.1 hP hD hS 0 0 rfl rfl h_6 dX2_tire_27 (fun H locs hP hD hS => ?_)
        have hP : va_P g.1 vwCl [aI g (p_t 6) 7 (upd f_t_6 (x3).toNatClampNeg ((f_t_6 (x3).toNatClampNeg) - x2)), oX1 a_r1 p_r1 o_r1, oX2 a_t p_t o_t] H := hP
        have hD : va_D A [aI g (p_t 6) 7 (upd f_t_6 (x3).toNatClampNeg ((f_t_6 (x3).toNatClampNeg) - x2)), oX1 a_r1 p_r1 o_r1, oX2 a_t p_t o_t] := hD
        refine lv_iinc (v := (x3 + (1 : Int32))) (lv' := [(3, .int (x3 + (1 : Int32))), (0, .ref a_t), (1, .ref a_r1), (2, .int x2)]) hx hb dX2_tire_28 hl (k := 3) rfl rfl (by decide) rfl (fun ls hl => ?_)
        refine lv_goto (tgt := 2) hx hb dX2_tire_31 (by decide) ?_
        exact ih (x3 + (1 : Int32)) (upd f_t_6 (x3).toNatClampNeg ((f_t_6 (x3).toNatClampNeg) - x2)) hF _ _ _ (hP.sub [2, 0, 1] rfl) (hD.sub [2, 0, 1] rfl rfl) hS (lv_sub hl [1, 2, 3, 0] rfl)
set_option maxHeartbeats 4000000 in
set_option maxRecDepth 100000 in
theorem mX2_tire (l : Launch) (g : GG) (a_t : Nat) (a_r1 : Nat) (p_t : Nat → Nat) (p_r1 : Nat → Nat) (n : Nat) (x2 : Int32) (o_t : Nat → Int32) (f_t_6 : Nat → Int32) (o_r1 : Nat → Int32) (f_t_6' : Nat → Int32) (hF : fX2_tire n x2 o_t f_t_6 o_r1 = some (f_t_6')) : MV l g yX2_tire wsX2_tire ({ frames := 2, cells := 0, slots := 0, locals := 42 } : Room) [.ref a_t, .ref a_r1, .int x2] [oX2 a_t p_t o_t, aI g (p_t 6) 7 f_t_6, oX1 a_r1 p_r1 o_r1] [oX2 a_t p_t o_t, aI g (p_t 6) 7 f_t_6', oX1 a_r1 p_r1 o_r1] := by
  refine MV.of (cc := cX2_tire) (maxL := 4) (own := RX2) rfl rfl (by decide) (Nat.le_of_ble_eq_true rfl) ?_
  intro p e s m args below meth c A C0 hP hD hS ls hl
  obtain ⟨hx, hb, hml, hown, hts, hr, hlk, hK, hA, hSW⟩ := id C0
  have hl : lv_has ls 4 [(0, .ref a_t), (1, .ref a_r1), (2, .int x2)] := hl
  rw [fX2_tire] at hF
  refine lv_iconst (v := (0 : Int32)) hx hb dX2_tire_0 (by decide) ?_
  refine lv_istore_n (lv' := [(3, .int (0 : Int32)), (0, .ref a_t), (1, .ref a_r1), (2, .int x2)]) hx hb dX2_tire_1 rfl hl (by decide) rfl (fun ls hl => ?_)
  refine wX2_tire_L2 C0 a_t a_r1 p_t p_r1 n x2 o_t o_r1 f_t_6' _ ?_ n (0 : Int32) f_t_6 hF _ _ _ (hP.sub [0, 1, 2] rfl) (hD.sub [0, 1, 2] rfl rfl) hS (lv_sub hl [1, 2, 3, 0] rfl)
  · intro f_t_6_x2 H locs ls hF hP hD hS hl
    cases hF
    exact ret_v C0 hP hD hS [0, 1, 2] rfl rfl rfl dX2_tire_34

theorem dAX2_narrate : ∀ q ∈ ([(0, (.aload_n 0, 1)), (1, (.dup, 1)), (2, (.getfield 21, 3)), (5, (.iconst 1, 1)), (6, (.iload_n 2, 1)), (7, (.ishl, 1)), (8, (.ior, 1)), (9, (.putfield 21, 3)), (12, (.aload_n 0, 1)), (13, (.aload_n 1, 1)), (14, (.aload_n 1, 1)), (15, (.getfield 118, 3)), (18, (.iload_n 2, 1)), (19, (.iaload, 1)), (20, (.invokevirtual 121, 3)), (23, (.aload_n 0, 1)), (24, (.aload_n 1, 1)), (25, (.aload_n 3, 1)), (26, (.aload_n 1, 1)), (27, (.getfield 124, 3)), (30, (.iload_n 2, 1)), (31, (.iaload, 1)), (32, (.invokevirtual 127, 3)), (35, (.ireturn, 1))] : List (Nat × (Instr × Nat))), decode cX2_narrate q.1 = .ok q.2 := by decide +kernel
theorem dX2_narrate_0 : decode cX2_narrate 0 = .ok (.aload_n 0, 1) := dAX2_narrate (0, (.aload_n 0, 1)) (List.mem_of_getElem? (i := 0) rfl)
theorem dX2_narrate_1 : decode cX2_narrate 1 = .ok (.dup, 1) := dAX2_narrate (1, (.dup, 1)) (List.mem_of_getElem? (i := 1) rfl)
theorem dX2_narrate_2 : decode cX2_narrate 2 = .ok (.getfield 21, 3) := dAX2_narrate (2, (.getfield 21, 3)) (List.mem_of_getElem? (i := 2) rfl)
theorem dX2_narrate_5 : decode cX2_narrate 5 = .ok (.iconst 1, 1) := dAX2_narrate (5, (.iconst 1, 1)) (List.mem_of_getElem? (i := 3) rfl)
theorem dX2_narrate_6 : decode cX2_narrate 6 = .ok (.iload_n 2, 1) := dAX2_narrate (6, (.iload_n 2, 1)) (List.mem_of_getElem? (i := 4) rfl)
theorem dX2_narrate_7 : decode cX2_narrate 7 = .ok (.ishl, 1) := dAX2_narrate (7, (.ishl, 1)) (List.mem_of_getElem? (i := 5) rfl)
theorem dX2_narrate_8 : decode cX2_narrate 8 = .ok (.ior, 1) := dAX2_narrate (8, (.ior, 1)) (List.mem_of_getElem? (i := 6) rfl)
theorem dX2_narrate_9 : decode cX2_narrate 9 = .ok (.putfield 21, 3) := dAX2_narrate (9, (.putfield 21, 3)) (List.mem_of_getElem? (i := 7) rfl)
theorem dX2_narrate_12 : decode cX2_narrate 12 = .ok (.aload_n 0, 1) := dAX2_narrate (12, (.aload_n 0, 1)) (List.mem_of_getElem? (i := 8) rfl)
theorem dX2_narrate_13 : decode cX2_narrate 13 = .ok (.aload_n 1, 1) := dAX2_narrate (13, (.aload_n 1, 1)) (List.mem_of_getElem? (i := 9) rfl)
theorem dX2_narrate_14 : decode cX2_narrate 14 = .ok (.aload_n 1, 1) := dAX2_narrate (14, (.aload_n 1, 1)) (List.mem_of_getElem? (i := 10) rfl)
theorem dX2_narrate_15 : decode cX2_narrate 15 = .ok (.getfield 118, 3) := dAX2_narrate (15, (.getfield 118, 3)) (List.mem_of_getElem? (i := 11) rfl)
theorem dX2_narrate_18 : decode cX2_narrate 18 = .ok (.iload_n 2, 1) := dAX2_narrate (18, (.iload_n 2, 1)) (List.mem_of_getElem? (i := 12) rfl)
theorem dX2_narrate_19 : decode cX2_narrate 19 = .ok (.iaload, 1) := dAX2_narrate (19, (.iaload, 1)) (List.mem_of_getElem? (i := 13) rfl)
theorem dX2_narrate_20 : decode cX2_narrate 20 = .ok (.invokevirtual 121, 3) := dAX2_narrate (20, (.invokevirtual 121, 3)) (List.mem_of_getElem? (i := 14) rfl)
theorem dX2_narrate_23 : decode cX2_narrate 23 = .ok (.aload_n 0, 1) := dAX2_narrate (23, (.aload_n 0, 1)) (List.mem_of_getElem? (i := 15) rfl)
theorem dX2_narrate_24 : decode cX2_narrate 24 = .ok (.aload_n 1, 1) := dAX2_narrate (24, (.aload_n 1, 1)) (List.mem_of_getElem? (i := 16) rfl)
theorem dX2_narrate_25 : decode cX2_narrate 25 = .ok (.aload_n 3, 1) := dAX2_narrate (25, (.aload_n 3, 1)) (List.mem_of_getElem? (i := 17) rfl)
theorem dX2_narrate_26 : decode cX2_narrate 26 = .ok (.aload_n 1, 1) := dAX2_narrate (26, (.aload_n 1, 1)) (List.mem_of_getElem? (i := 18) rfl)
theorem dX2_narrate_27 : decode cX2_narrate 27 = .ok (.getfield 124, 3) := dAX2_narrate (27, (.getfield 124, 3)) (List.mem_of_getElem? (i := 19) rfl)
theorem dX2_narrate_30 : decode cX2_narrate 30 = .ok (.iload_n 2, 1) := dAX2_narrate (30, (.iload_n 2, 1)) (List.mem_of_getElem? (i := 20) rfl)
theorem dX2_narrate_31 : decode cX2_narrate 31 = .ok (.iaload, 1) := dAX2_narrate (31, (.iaload, 1)) (List.mem_of_getElem? (i := 21) rfl)
theorem dX2_narrate_32 : decode cX2_narrate 32 = .ok (.invokevirtual 127, 3) := dAX2_narrate (32, (.invokevirtual 127, 3)) (List.mem_of_getElem? (i := 22) rfl)
theorem dX2_narrate_35 : decode cX2_narrate 35 = .ok (.ireturn, 1) := dAX2_narrate (35, (.ireturn, 1)) (List.mem_of_getElem? (i := 23) rfl)
set_option maxRecDepth 20000 in
theorem ggX2_narrate_X2_tire : GoodIn wsX2_narrate wsX2_tire := goodIn_r _ [8, 9, 10, 11, 12, 13, 7, 14, 15, 16, 17, 18, 76, 77, 78, 79, 80, 81, 82, 83, 84, 85, 86, 87, 88, 89, 90, 91, 92, 67, 68, 69, 70, 71, 72, 73, 74, 75] rfl (by decide +kernel)
set_option maxRecDepth 20000 in
theorem gX2_narrate_X2_tire : GoodIn wsX2_narrate (wsV RX2 121 RX2 yX2_tire wsX2_tire) := goodIn_app (goodIn_of _ (by decide +kernel)) ggX2_narrate_X2_tire
set_option maxRecDepth 20000 in
theorem ggX2_narrate_X2_passAll : GoodIn wsX2_narrate wsX2_passAll := goodIn_r _ [22, 23, 24, 25, 7, 26, 27, 28, 29, 30, 31, 9, 32, 15, 10, 33, 34, 35, 36, 37, 38, 39, 40, 41, 42, 43, 44, 45, 46, 47, 48, 49, 50, 51, 52, 53, 54, 55, 56, 57, 58, 59, 60, 61, 62, 63, 64, 65, 66, 67, 68, 69, 70, 71, 72, 73, 74, 75, 76, 77, 78, 79, 80, 81, 82, 83, 84, 85, 86, 87, 88, 89, 90, 91, 92, 93, 94] rfl (by decide +kernel)
set_option maxRecDepth 20000 in
theorem gX2_narrate_X2_passAll : GoodIn wsX2_narrate (wsV RX2 127 RX2 yX2_passAll wsX2_passAll) := goodIn_app (goodIn_of _ (by decide +kernel)) ggX2_narrate_X2_passAll
theorem kX2_narrate_21 : Cond.fieldLink RX2 21 "EveningVow$Night" "toldTales" "I" ∈ wsX2_narrate := List.mem_of_getElem? (i := 1) rfl
theorem iX2_narrate_X2 : ∀ w ∈ u_ws RX2 TX2 9, w ∈ wsX2_narrate := fun w h => (List.mem_cons_of_mem _ (List.mem_append_left _ (List.mem_append_left _ (List.mem_append_right _ h))))
theorem kX2_narrate_118 : Cond.fieldLink RX2 118 "EveningVow$House" "taleTires" "[I" ∈ wsX2_narrate := List.mem_of_getElem? (i := 2) rfl
theorem iX2_narrate_X1 : ∀ w ∈ u_ws RX1 TX1 17, w ∈ wsX2_narrate := fun w h => (List.mem_cons_of_mem _ (List.mem_append_left _ (List.mem_append_right _ h)))
theorem kX2_narrate_124 : Cond.fieldLink RX2 124 "EveningVow$House" "taleHours" "[I" ∈ wsX2_narrate := List.mem_of_getElem? (i := 3) rfl
set_option maxHeartbeats 4000000 in
set_option maxRecDepth 100000 in
theorem mX2_narrate (l : Launch) (g : GG) (a_t : Nat) (a_r1 : Nat) (a_r3 : Nat) (p_t : Nat → Nat) (p_r1 : Nat → Nat) (p_r3 : Nat → Nat) (n : Nat) (x2 : Int32) (o_t : Nat → Int32) (f_t_6 : Nat → Int32) (f_t_7 : Nat → Int32) (f_t_8 : Nat → Int32) (o_r1 : Nat → Int32) (f_r1_4 : Nat → Int32) (f_r1_6 : Nat → Int32) (f_r1_7 : Nat → Int32) (f_r1_10 : Nat → Int32) (f_r1_11 : Nat → Int32) (f_r1_12 : Nat → Int32) (f_r1_14 : Nat → Int32) (f_r1_15 : Nat → Int32) (o_r3 : Nat → Int32) (r : Int32) (o_t' : Nat → Int32) (f_t_6' : Nat → Int32) (f_t_7' : Nat → Int32) (f_t_8' : Nat → Int32) (o_r3' : Nat → Int32) (hF : fX2_narrate n x2 o_t f_t_6 f_t_7 f_t_8 o_r1 f_r1_4 f_r1_6 f_r1_7 f_r1_10 f_r1_11 f_r1_12 f_r1_14 f_r1_15 o_r3 = some (r, o_t', f_t_6', f_t_7', f_t_8', o_r3')) : MI l g yX2_narrate wsX2_narrate ({ frames := 4, cells := 0, slots := 0, locals := 96 } : Room) [.ref a_t, .ref a_r1, .int x2, .ref a_r3] [oX2 a_t p_t o_t, aI g (p_t 6) 7 f_t_6, aI g (p_t 7) 7 f_t_7, aI g (p_t 8) 7 f_t_8, oX1 a_r1 p_r1 o_r1, aI g (p_r1 4) 7 f_r1_4, aI g (p_r1 6) 7 f_r1_6, aI g (p_r1 7) 7 f_r1_7, aI g (p_r1 10) 8 f_r1_10, aI g (p_r1 11) 8 f_r1_11, aI g (p_r1 12) 8 f_r1_12, aI g (p_r1 14) 4 f_r1_14, aI g (p_r1 15) 4 f_r1_15, oX3 a_r3 p_r3 o_r3] r [oX2 a_t p_t o_t', aI g (p_t 6) 7 f_t_6', aI g (p_t 7) 7 f_t_7', aI g (p_t 8) 7 f_t_8', oX1 a_r1 p_r1 o_r1, aI g (p_r1 4) 7 f_r1_4, aI g (p_r1 6) 7 f_r1_6, aI g (p_r1 7) 7 f_r1_7, aI g (p_r1 10) 8 f_r1_10, aI g (p_r1 11) 8 f_r1_11, aI g (p_r1 12) 8 f_r1_12, aI g (p_r1 14) 4 f_r1_14, aI g (p_r1 15) 4 f_r1_15, oX3 a_r3 p_r3 o_r3'] := by
  refine MI.of (cc := cX2_narrate) (maxL := 4) (rt := .int) (own := RX2) rfl rfl (by decide) (Nat.le_of_ble_eq_true rfl) ?_
  intro p e s m args below meth c A C0 hP hD hS ls hl
  obtain ⟨hx, hb, hml, hown, hts, hr, hlk, hK, hA, hSW⟩ := id C0
  have hl : lv_has ls 4 [(0, .ref a_t), (1, .ref a_r1), (2, .int x2), (3, .ref a_r3)] := hl
  rw [fX2_narrate] at hF
  refine lv_aload_n hx hb dX2_narrate_0 rfl (lv_at hl 0 rfl) ?_
  refine lv_dup hx hb dX2_narrate_1 rfl ?_
  refine va_get (D := g.1) (ci := 2) (v := .int (o_t 3)) (C := RX2) (T := TX2) (N := 9) hx hb hts iX2_narrate_X2 hown hK.1 hP 0 rfl rfl 3 (by decide) (hts _ kX2_narrate_21) (fun _ h9 => h9) rfl dX2_narrate_2 ?_
  refine lv_iconst (v := (1 : Int32)) hx hb dX2_narrate_5 (by decide) ?_
  refine lv_iload_n hx hb dX2_narrate_6 rfl (lv_at hl 2 rfl) ?_
  refine lv_ishl hx hb dX2_narrate_7 ?_
  refine lv_ior hx hb dX2_narrate_8 ?_
  refine va_put (D := g.1) (ci := 2) (v := .int ((o_t 3) ||| ((1 : Int32) <<< (x2 &&& 31)))) (ty := .int) (C := RX2) (T := TX2) (N := 9) hx hb hts iX2_narrate_X2 tyX2 tyX2_ok nmX2 hown hK.1 hP hD hS 0 rfl rfl 3 (by decide) (hts _ kX2_narrate_21) (fun _ h9 => h9) rfl (by decide +kernel) rfl rfl (Nat.le_of_ble_eq_true rfl) dX2_narrate_9 (fun H locs hP hD hS => ?_)
  have hP : va_P g.1 vwCl [oX2 a_t p_t (upd o_t 3 ((o_t 3) ||| ((1 : Int32) <<< (x2 &&& 31)))), aI g (p_t 6) 7 f_t_6, aI g (p_t 7) 7 f_t_7, aI g (p_t 8) 7 f_t_8, oX1 a_r1 p_r1 o_r1, aI g (p_r1 4) 7 f_r1_4, aI g (p_r1 6) 7 f_r1_6, aI g (p_r1 7) 7 f_r1_7, aI g (p_r1 10) 8 f_r1_10, aI g (p_r1 11) 8 f_r1_11, aI g (p_r1 12) 8 f_r1_12, aI g (p_r1 14) 4 f_r1_14, aI g (p_r1 15) 4 f_r1_15, oX3 a_r3 p_r3 o_r3] H := hP
  have hD : va_D A [oX2 a_t p_t (upd o_t 3 ((o_t 3) ||| ((1 : Int32) <<< (x2 &&& 31)))), aI g (p_t 6) 7 f_t_6, aI g (p_t 7) 7 f_t_7, aI g (p_t 8) 7 f_t_8, oX1 a_r1 p_r1 o_r1, aI g (p_r1 4) 7 f_r1_4, aI g (p_r1 6) 7 f_r1_6, aI g (p_r1 7) 7 f_r1_7, aI g (p_r1 10) 8 f_r1_10, aI g (p_r1 11) 8 f_r1_11, aI g (p_r1 12) 8 f_r1_12, aI g (p_r1 14) 4 f_r1_14, aI g (p_r1 15) 4 f_r1_15, oX3 a_r3 p_r3 o_r3] := hD
  refine lv_aload_n hx hb dX2_narrate_12 rfl (lv_at hl 0 rfl) ?_
  refine lv_aload_n hx hb dX2_narrate_13 rfl (lv_at hl 1 rfl) ?_
  refine lv_aload_n hx hb dX2_narrate_14 rfl (lv_at hl 1 rfl) ?_
  refine va_get (D := g.1) (ci := 1) (v := .ref (p_r1 15)) (C := RX1) (T := TX1) (N := 17) hx hb hts iX2_narrate_X1 hown hK.1 hP 4 rfl rfl 15 (by decide) (hts _ kX2_narrate_118) (fun _ h9 => h9) rfl dX2_narrate_15 ?_
  refine lv_iload_n hx hb dX2_narrate_18 rfl (lv_at hl 2 rfl) ?_
  obtain ⟨h_1, hF⟩ := it_ck hF
  refine va_iald hx hb hK.1 hP 12 0 rfl rfl h_1 dX2_narrate_19 ?_
  obtain ⟨u_2, hu_3, hF⟩ := ob1_some hF
  refine call_v (wr := [aI g (p_t 7) 7 f_t_7, aI g (p_t 8) 7 f_t_8, aI g (p_r1 4) 7 f_r1_4, aI g (p_r1 6) 7 f_r1_6, aI g (p_r1 7) 7 f_r1_7, aI g (p_r1 10) 8 f_r1_10, aI g (p_r1 11) 8 f_r1_11, aI g (p_r1 12) 8 f_r1_12, aI g (p_r1 14) 4 f_r1_14, aI g (p_r1 15) 4 f_r1_15, oX3 a_r3 p_r3 o_r3]) (As := [.ref a_r1, .int (f_r1_15 (x2).toNatClampNeg)]) (rest := []) (ci := 2) (q0 := 0) C0 (mX2_tire l g a_t a_r1 p_t p_r1 n (f_r1_15 (x2).toNatClampNeg) (upd o_t 3 ((o_t 3) ||| ((1 : Int32) <<< (x2 &&& 31)))) f_t_6 o_r1 u_2 hu_3) (cwV 2 hts gX2_narrate_X2_tire rfl rfl rfl (by decide +kernel) ⟨Nat.le_of_ble_eq_true rfl, Nat.le_of_ble_eq_true rfl⟩) hP hD hS [0, 1, 4] [2, 3, 5, 6, 7, 8, 9, 10, 11, 12, 13] rfl rfl rfl rfl rfl (by decide) rfl rfl hl.1 rfl rfl (Nat.le_of_ble_eq_true rfl) ⟨Nat.zero_le _, Nat.zero_le _⟩ dX2_narrate_20 ?_
  intro H locs hP hD hS
  refine lv_aload_n hx hb dX2_narrate_23 rfl (lv_at hl 0 rfl) ?_
  refine lv_aload_n hx hb dX2_narrate_24 rfl (lv_at hl 1 rfl) ?_
  refine lv_aload_n hx hb dX2_narrate_25 rfl (lv_at hl 3 rfl) ?_
  refine lv_aload_n hx hb dX2_narrate_26 rfl (lv_at hl 1 rfl) ?_
  refine va_get (D := g.1) (ci := 1) (v := .ref (p_r1 14)) (C := RX1) (T := TX1) (N := 17) hx hb hts iX2_narrate_X1 hown hK.1 hP 13 rfl rfl 14 (by decide) (hts _ kX2_narrate_124) (fun _ h9 => h9) rfl dX2_narrate_27 ?_
  refine lv_iload_n hx hb dX2_narrate_30 rfl (lv_at hl 2 rfl) ?_
  obtain ⟨h_4, hF⟩ := it_ck hF
  refine va_iald hx hb hK.1 hP 8 0 rfl rfl h_4 dX2_narrate_31 ?_
  obtain ⟨u_5, u_6, u_7, u_8, u_9, u_10, hu_11, hF⟩ := ob6_some hF
  refine call_i (wr := [aI g (p_r1 14) 4 f_r1_14, aI g (p_r1 15) 4 f_r1_15]) (As := [.ref a_r1, .ref a_r3, .int (f_r1_14 (x2).toNatClampNeg)]) (rest := []) (ci := 2) (q0 := 0) C0 (mX2_passAll l g a_t a_r1 a_r3 p_t p_r1 p_r3 n (f_r1_14 (x2).toNatClampNeg) (upd o_t 3 ((o_t 3) ||| ((1 : Int32) <<< (x2 &&& 31)))) u_2 f_t_7 f_t_8 o_r1 f_r1_4 f_r1_6 f_r1_7 f_r1_10 f_r1_11 f_r1_12 o_r3 u_5 u_6 u_7 u_8 u_9 u_10 hu_11) (cwV 3 hts gX2_narrate_X2_passAll rfl rfl rfl (by decide +kernel) ⟨Nat.le_of_ble_eq_true rfl, Nat.le_of_ble_eq_true rfl⟩) hP hD hS [11, 12, 0, 1, 13, 2, 3, 4, 5, 6, 7, 10] [8, 9] rfl rfl rfl rfl rfl (by decide) rfl rfl hl.1 rfl rfl (Nat.le_of_ble_eq_true rfl) ⟨Nat.zero_le _, Nat.zero_le _⟩ dX2_narrate_32 ?_
  intro H locs hP hD hS
  cases hF
  exact ret_i C0 hP hD hS [2, 3, 4, 5, 6, 7, 8, 9, 10, 11, 12, 0, 1, 13] rfl rfl rfl dX2_narrate_35 rfl

