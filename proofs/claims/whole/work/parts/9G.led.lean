/-! led: the class's (it may throw), the law's own (it catches) -/
theorem met_vx {l : Launch} {y : MethodName} {ws : List Cond} {rm : Room} {Pc : Array Value → State → Prop} {Qc : Array Value → State → Outcome → State → Prop} {mc ms : Nat} {free : Addr → Prop} (h : vx_Met l y ws rm Pc Qc (fun _ _ _ => False) mc ms free) : Met l y ws rm Pc Qc mc ms free := by
  intro p e ha hc hk s m args below hf hs hP hK
  obtain ⟨n, o, h1, h2, h3, h4⟩ := h p e ha hc hk s m args below hf hs hP hK
  refine ⟨n, o, h1, h2, h3, ?_⟩
  rcases h4 with h4 | ⟨q, -, E, ce, L, hx, -⟩
  · exact h4
  · exact hx.elim
abbrev NSE : String := "java/util/NoSuchElementException"
def ledB : List Cond := [.declares (Bundle.init0 "java/lang/RuntimeException"), .declares (Bundle.init0 "java/lang/Exception"), .declares (Bundle.init0 "java/lang/Throwable"), .castable NSE NSE]
def FA (U : State) : Prop := ∀ w ∈ ledB, ∀ a : Array Value, w.before a U = true
theorem FA.moved {s U : State} (hvm : s.vm.Alike U.vm) (h : FA s) : FA U := by
  intro w hw a
  have h1 := h w hw a
  simp only [ledB, List.mem_cons, List.not_mem_nil, or_false] at hw
  rcases hw with rfl | rfl | rfl | rfl
  · exact va_tabs (A := a) (u := s.setVm U.vm) rfl rfl (by rw [Cond.declares_setVm hvm]; exact h1)
  · exact va_tabs (A := a) (u := s.setVm U.vm) rfl rfl (by rw [Cond.declares_setVm hvm]; exact h1)
  · exact va_tabs (A := a) (u := s.setVm U.vm) rfl rfl (by rw [Cond.declares_setVm hvm]; exact h1)
  · exact va_tabs (A := a) (u := s.setVm U.vm) rfl rfl (by rw [Cond.castable_setVm hvm]; exact h1)
/-- what a throw asks of the start, beyond the words -/
def TT (A : Nat → Prop) (U : State) (H : Heap) : Prop := vx_Zq Bundle.tN "UNASSIGNED_STACK" Bundle.steD A U H ∧ vx_Zq Bundle.tN "SUPPRESSED_SENTINEL" Bundle.listD A U H ∧ FA U
theorem TT.to {A B : Nat → Prop} {s U : State} {H H1 : Heap} (h : TT A s H) (hvm : s.vm.Alike U.vm) (hq : ∀ a : Nat, a < H.size → ¬ A a → H1[a]? = H[a]?) (hAB : ∀ q, B q → A q) : TT B U H1 := ⟨(vx_Zq.moved hvm (h.1.kept hq)).narrow hAB, (vx_Zq.moved hvm (h.2.1.kept hq)).narrow hAB, FA.moved hvm h.2.2⟩
def PreT (g : GG) (as : List Value) (w0 : va_W) (sz : Nat) : Array Value → State → Prop := va_Pc as (fun U => U.heap.size = sz ∧ va_P g.1 vwCl w0 U.heap ∧ KB g U ∧ va_D (fun _ => True) w0 ∧ SW g (va_A w0 sz) U U.heap ∧ TT (va_A w0 sz) U U.heap)
theorem PreT.blind {g : GG} {as : List Value} {w0 : va_W} {sz : Nat} : FrameBlind (PreT g as w0 sz) := fun a U f mk q => by
  obtain ⟨q0, q1, qP, qK, qD, qS, qT⟩ := q
  exact ⟨q0, q1, qP, qK.calling, qD, qS.to (U := U.calling f mk a) (H1 := (U.calling f mk a).heap) (Vm.Alike.refl U.vm) (fun _ _ _ => rfl) (fun _ h => h), qT.to (U := U.calling f mk a) (H1 := (U.calling f mk a).heap) (Vm.Alike.refl U.vm) (fun _ _ _ => rfl) (fun _ h => h)⟩
abbrev QcL (g : GG) (th v : Int32) (w0 : va_W) (A : Nat → Prop) : Array Value → State → Outcome → State → Prop := va_Qi (fun (r' : Int32) (_ : Unit) => th = 0 ∧ r' = v) (fun _ t => va_P g.1 vwCl w0 t.heap ∧ va_D A w0) A
abbrev XcL (g : GG) (th : Int32) (w0 : va_W) (A : Nat → Prop) : String → State → State → Prop := vx_X (fun (_ : Unit) => th = 1) (fun E _ t => E = NSE ∧ va_P g.1 vwCl w0 t.heap) A
abbrev rmX9_led : Room := { frames := 6, cells := 1, slots := 6, locals := 81 }
theorem iX9_led_X9 : ∀ w ∈ u_ws RX9 TX9 15, w ∈ wsX9_led := fun w h => List.mem_cons_of_mem _ (List.mem_append_left _ (List.mem_append_left _ (List.mem_append_left _ (List.mem_append_right _ h))))
theorem iX9_led_X1 : ∀ w ∈ u_ws RX1 TX1 17, w ∈ wsX9_led := fun w h => List.mem_cons_of_mem _ (List.mem_append_left _ (List.mem_append_left _ (List.mem_append_right _ h)))
theorem iX9_led_x : ∀ w ∈ (vx_at0 RX9 332 "java/util/NoSuchElementException" ["java/lang/RuntimeException", "java/lang/Exception"]).filter goodWord, w ∈ wsX9_led := fun w h => List.mem_cons_of_mem _ (List.mem_append_right _ h)
theorem ledat_bad : ∀ w ∈ (vx_at0 RX9 332 "java/util/NoSuchElementException" ["java/lang/RuntimeException", "java/lang/Exception"]).filter (fun w => !goodWord w), w ∈ ledB := by decide +kernel
theorem ledat_ot : ∀ w ∈ Cond.classLink RX9 330 NSE :: Cond.initialized NSE :: vx_at0 RX9 332 "java/util/NoSuchElementException" ["java/lang/RuntimeException", "java/lang/Exception"], vx_ot w = true := by decide +kernel
set_option maxHeartbeats 4000000 in
set_option maxRecDepth 100000 in
theorem wX9_led_L4 {p : Program} {l : Launch} {e : Env} {s : State} {m : MethodId} {args : Array Value} {below : List Frame} {meth : Method} {c : Code} {g : GG} {A : Nat → Prop} (C0 : Cx p s m args meth c cX9_led 4 (some .int) RX9 wsX9_led g A) (hT : TT A s s.heap) (hlt : l.stackTraces = false) (hex : ∀ x ∈ c.exceptionTable.toList, False) (a n : Nat) (pt p1 p5 : Nat → Nat) (x1 : Int32) (o h5 o37 : Nat → Int32) (th v : Int32) : ∀ (k : Nat) (b t : Int32) (H : Heap) (locs : List Loc) (ls : Array Slot), fX9_led_L4 n x1 h5 o37 k b t = some (th, v) → va_P g.1 vwCl [oX9 a pt o, oX1 (pt 1) p1 h5, oX2 (pt 5) p5 o37] H → va_D A [oX9 a pt o, oX1 (pt 1) p1 h5, oX2 (pt 5) p5 o37] → va_S A s.heap H locs → lv_has ls 4 [(3, .int t), (2, .int b), (0, .ref a), (1, .int x1)] →
      W p l e rmX9_led s m args below meth c H locs 0 0 (vx_MQ below (QcL g th v [oX9 a pt o, oX1 (pt 1) p1 h5, oX2 (pt 5) p5 o37] A) (XcL g th [oX9 a pt o, oX1 (pt 1) p1 h5, oX2 (pt 5) p5 o37] A) args s 1 6 A) (F0 m 4 ls [])
  | 0, b, t, H, locs, ls, hF, hP, hD, hS, hl => by rw [fX9_led_L4] at hF; cases hF
  | k + 1, b, t, H, locs, ls, hF, hP, hD, hS, hl => by
    obtain ⟨hx, hb, hml, hown, hts, hr, hlk, hK, hA, hSW⟩ := id C0
    rw [fX9_led_L4] at hF
    refine lv_iload_n hx hb dX9_led_4 rfl (lv_at hl 0 rfl) ?_
    refine lv_aload_n hx hb dX9_led_5 rfl (lv_at hl 2 rfl) ?_
    refine va_get (D := g.1) (ci := 9) (v := .ref (pt 1)) (C := RX9) (T := TX9) (N := 15) hx hb hts iX9_led_X9 hown hK.1 hP 0 rfl rfl 1 (by decide) (hts _ (List.mem_of_getElem? (i := 3) rfl)) (fun _ h9 => h9) rfl dX9_led_6 ?_
    refine va_get (D := g.1) (ci := 1) (v := .int (h5 13)) (C := RX1) (T := TX1) (N := 17) hx hb hts iX9_led_X1 hown hK.1 hP 1 rfl rfl 13 (by decide) (hts _ (List.mem_of_getElem? (i := 4) rfl)) (fun _ h9 => h9) rfl dX9_led_9 ?_
    refine lv_icmp_ge (tgt := 42) hx hb dX9_led_12 (by decide) (fun c1 => ?_) (fun c1 => ?_)
    · have hF := it_p c1 hF
      cases hF
      refine vx_throw0 (own := RX9) (cls := NSE) (names := ["java/lang/RuntimeException", "java/lang/Exception"]) (ik := 330) (ic := 332) (A := A) hx hb hlt hown (by decide +kernel) (by decide +kernel) (hts _ (List.mem_of_getElem? (i := 1) rfl)) (hts _ (List.mem_of_getElem? (i := 2) rfl)) (vx_hat (fun w h => hts w (iX9_led_x w h)) ledat_bad (fun w hw => hT.2.2 w hw args)) ledat_ot hT.1 hT.2.1 hS (hl.1.trans hml.symm) dX9_led_42 dX9_led_45 dX9_led_46 dX9_led_49 (fun x hx => (hex x hx).elim) (by decide) (by decide) (by decide) (by decide) hlk (fun t hvm hz hq => ?_) hS.2.2 (by decide) (by decide)
      refine ⟨(), rfl, ⟨rfl, fun k q h => (hP k q h).kept (hq q.1 (hP k q h).lt)⟩, Nat.le_trans hS.1 hz, fun q h1 h2 => ?_⟩
      rw [hq q (Nat.lt_of_lt_of_le h1 hS.1)]
      exact hS.2.1 q h1 h2
    · have hF := it_n c1 hF
      refine lv_aload_n hx hb dX9_led_15 rfl (lv_at hl 2 rfl) ?_
      refine va_get (D := g.1) (ci := 9) (v := .ref (pt 5)) (C := RX9) (T := TX9) (N := 15) hx hb hts iX9_led_X9 hown hK.1 hP 0 rfl rfl 5 (by decide) (hts _ (List.mem_of_getElem? (i := 5) rfl)) (fun _ h9 => h9) rfl dX9_led_16 ?_
      refine lv_iload_n hx hb dX9_led_19 rfl (lv_at hl 0 rfl) ?_
      obtain ⟨u, hu, hF⟩ := ob1_some hF
      refine call_i (wr := [oX9 a pt o, oX1 (pt 1) p1 h5]) (As := [.int t]) (rest := []) (ci := 2) (q0 := 0) C0 (mX2_wasTold l g (pt 5) p5 n t o37 u hu) (cwV 1 hts gX9_led_X2_wasTold rfl rfl rfl (by decide +kernel) ⟨Nat.le_of_ble_eq_true rfl, Nat.le_of_ble_eq_true rfl⟩) hP hD hS [2] [0, 1] rfl rfl rfl rfl rfl (by decide) rfl rfl hl.1 rfl rfl (Nat.le_of_ble_eq_true rfl) ⟨Nat.zero_le _, Nat.zero_le _⟩ dX9_led_20 ?_
      intro H locs hP hD hS
      have hP : va_P g.1 vwCl [oX9 a pt o, oX1 (pt 1) p1 h5, oX2 (pt 5) p5 o37] H := hP
      have hD : va_D A [oX9 a pt o, oX1 (pt 1) p1 h5, oX2 (pt 5) p5 o37] := hD
      refine lv_if_eq (tgt := 36) hx hb dX9_led_23 (by decide) (fun c2 => ?_) (fun c2 => ?_)
      · have hF := it_p c2 hF
        refine lv_iinc (v := (t + (1 : Int32))) (lv' := [(3, .int (t + (1 : Int32))), (2, .int b), (0, .ref a), (1, .int x1)]) hx hb dX9_led_36 hl (k := 0) rfl rfl (by decide) rfl (fun ls hl => ?_)
        refine lv_goto (tgt := 4) hx hb dX9_led_39 (by decide) ?_
        exact wX9_led_L4 C0 hT hlt hex a n pt p1 p5 x1 o h5 o37 th v k b (t + 1) H locs ls hF hP hD hS hl
      · have hF := it_n c2 hF
        refine lv_iload_n hx hb dX9_led_26 rfl (lv_at hl 1 rfl) ?_
        refine lv_iload_n hx hb dX9_led_27 rfl (lv_at hl 3 rfl) ?_
        refine lv_icmp_ne (tgt := 33) hx hb dX9_led_28 (by decide) (fun c3 => ?_) (fun c3 => ?_)
        · have hF := it_n c3 hF
          refine lv_iinc (v := (b + (1 : Int32))) (lv' := [(2, .int (b + (1 : Int32))), (3, .int t), (0, .ref a), (1, .int x1)]) hx hb dX9_led_33 hl (k := 1) rfl rfl (by decide) rfl (fun ls hl => ?_)
          refine lv_iinc (v := (t + (1 : Int32))) (lv' := [(3, .int (t + (1 : Int32))), (2, .int (b + (1 : Int32))), (0, .ref a), (1, .int x1)]) hx hb dX9_led_36 hl (k := 1) rfl rfl (by decide) rfl (fun ls hl => ?_)
          refine lv_goto (tgt := 4) hx hb dX9_led_39 (by decide) ?_
          exact wX9_led_L4 C0 hT hlt hex a n pt p1 p5 x1 o h5 o37 th v k (b + 1) (t + 1) H locs ls hF hP hD hS hl
        · have hF := it_p c3 hF
          cases hF
          refine lv_iload_n hx hb dX9_led_31 rfl (lv_at hl 0 rfl) ?_
          refine vx_ret (W.widen (k := 1) (n := 6) (by decide) (by decide) ?_)
          exact W.iret (v := v) hx hb hr (fun t' ht hW => ⟨⟨v, (), rfl, ⟨rfl, rfl⟩, by rw [ht]; exact hP, hD⟩, hS.F ht⟩) hS.2.2 dX9_led_32 hlk
set_option maxHeartbeats 4000000 in
set_option maxRecDepth 100000 in
theorem mX9_led (l : Launch) (hlt : l.stackTraces = false) (g : GG) (a n : Nat) (pt p1 p5 : Nat → Nat) (x1 : Int32) (o h5 o37 : Nat → Int32) (th v : Int32) (hF : fX9_led n x1 h5 o37 = some (th, v)) (sz : Nat) :
    vx_Met l yX9_led wsX9_led rmX9_led (PreT g [.ref a, .int x1] [oX9 a pt o, oX1 (pt 1) p1 h5, oX2 (pt 5) p5 o37] sz) (QcL g th v [oX9 a pt o, oX1 (pt 1) p1 h5, oX2 (pt 5) p5 o37] (va_A [oX9 a pt o, oX1 (pt 1) p1 h5, oX2 (pt 5) p5 o37] sz)) (XcL g th [oX9 a pt o, oX1 (pt 1) p1 h5, oX2 (pt 5) p5 o37] (va_A [oX9 a pt o, oX1 (pt 1) p1 h5, oX2 (pt 5) p5 o37] sz)) 1 6 (va_A [oX9 a pt o, oX1 (pt 1) p1 h5, oX2 (pt 5) p5 o37] sz) := by
  refine vx_ofW (cc := cX9_led) (maxL := 4) (ret := some .int) (by decide) rfl ?_
  intro p e s m args below meth c s₁ B hml hex hv
  obtain ⟨rfl, hsz, hP, hK, hD0, hW0, hT0⟩ := hv
  subst hsz
  have hl2 := lv_entry [.ref a, .int x1] (n := 4) (Nat.le_of_ble_eq_true rfl)
  rw [lg_entry_eq]
  generalize hls : (lg_sl [Value.ref a, Value.int x1] ++ List.replicate (4 - (lg_sl [Value.ref a, Value.int x1]).length) Slot.unset).toArray = ls at hl2
  have C0 : Cx p s m [Value.ref a, Value.int x1].toArray meth c cX9_led 4 (some .int) RX9 wsX9_led g (va_A [oX9 a pt o, oX1 (pt 1) p1 h5, oX2 (pt 5) p5 o37] s.heap.size) := ⟨B.exec, B.bytes, hml, findClass_of_methodNamed B.named, atoms_spec (ws := wsX9_led) B.pre, B.returns, B.notSynchronized, hK, fun q h => Or.inr h, hW0⟩
  obtain ⟨hx, hb, -, hown, hts, hr, hlk, -, hA, hSW⟩ := id C0
  have hl : lv_has ls 4 [(0, .ref a), (1, .int x1)] := hl2
  refine lv_iconst (v := 0) hx hb dX9_led_0 (by decide) ?_
  refine lv_istore_n (lv' := [(2, .int (0 : Int32)), (0, .ref a), (1, .int x1)]) hx hb dX9_led_1 rfl hl (by decide) rfl (fun ls hl => ?_)
  refine lv_iconst (v := 0) hx hb dX9_led_2 (by decide) ?_
  refine lv_istore_n (lv' := [(3, .int (0 : Int32)), (2, .int (0 : Int32)), (0, .ref a), (1, .int x1)]) hx hb dX9_led_3 rfl hl (by decide) rfl (fun ls hl => ?_)
  exact wX9_led_L4 C0 hT0 hlt hex a n pt p1 p5 x1 o h5 o37 th v n 0 0 s.heap [] ls hF hP hD0.self va_S.rf hl
abbrev rmL_led : Room := { frames := 7, cells := 1, slots := 6, locals := 104 }
abbrev ledJ (th v : Int32) (J : Nat → Int64) : Nat → Int64 := if th = 0 then vp_updL J (0 : Int32).toNatClampNeg v.toInt64 else J
set_option maxHeartbeats 4000000 in
set_option maxRecDepth 100000 in
theorem mL_led (l : Launch) (hlt : l.stackTraces = false) (g : GG) (a ao n : Nat) (pt p1 p5 : Nat → Nat) (x1 : Int32) (o h5 o37 : Nat → Int32) (J : Nat → Int64) (th v : Int32) (hF : fX9_led n x1 h5 o37 = some (th, v)) (sz : Nat) :
    Met l yL_led wsL_led rmL_led (PreT g [.ref a, .int x1, .ref ao] [oX9 a pt o, oX1 (pt 1) p1 h5, oX2 (pt 5) p5 o37, aJ g ao 1 J] sz) (EndI g th [oX9 a pt o, oX1 (pt 1) p1 h5, oX2 (pt 5) p5 o37, aJ g ao 1 (ledJ th v J)] (va_A [oX9 a pt o, oX1 (pt 1) p1 h5, oX2 (pt 5) p5 o37, aJ g ao 1 J] sz)) 1 6 (va_A [oX9 a pt o, oX1 (pt 1) p1 h5, oX2 (pt 5) p5 o37, aJ g ao 1 J] sz) := by
  refine met_vx (vx_ofWH (cc := cL_led) (maxL := 4) (ret := some .int) (hh := [(0, 9, 12, 13)]) (by decide) rfl ?_)
  intro p e s m args below meth c s₁ B hml hv
  obtain ⟨rfl, hsz, hP, hK, hD0, hW0, hT0⟩ := hv
  subst hsz
  have hl2 := lv_entry [.ref a, .int x1, .ref ao] (n := 4) (Nat.le_of_ble_eq_true rfl)
  rw [lg_entry_eq]
  generalize hls : (lg_sl [Value.ref a, Value.int x1, Value.ref ao] ++ List.replicate (4 - (lg_sl [Value.ref a, Value.int x1, Value.ref ao]).length) Slot.unset).toArray = ls at hl2
  have hl : lv_has ls 4 [(0, .ref a), (1, .int x1), (2, .ref ao)] := hl2
  have C0 : Cx p s m [Value.ref a, Value.int x1, Value.ref ao].toArray meth c cL_led 4 (some .int) RL wsL_led g (va_A [oX9 a pt o, oX1 (pt 1) p1 h5, oX2 (pt 5) p5 o37, aJ g ao 1 J] s.heap.size) := ⟨B.exec, B.bytes, hml, findClass_of_methodNamed B.named, atoms_spec (ws := wsL_led) B.pre, B.returns, B.notSynchronized, hK, fun q h => Or.inr h, hW0⟩
  obtain ⟨hx, hb, -, hown, hts, hr, hlk, -, hA, hSW⟩ := id C0
  have htab : c.exceptionTable.toList = [{ startPc := 0, endPc := 9, handlerPc := 12, catchType := 13 }] := vx_table (x := yL_led) B (hts _ List.mem_cons_self)
  have hD := hD0.self (sz := s.heap.size)
  have hS : va_S (va_A [oX9 a pt o, oX1 (pt 1) p1 h5, oX2 (pt 5) p5 o37, aJ g ao 1 J] s.heap.size) s.heap s.heap [] := va_S.rf
  generalize va_A [oX9 a pt o, oX1 (pt 1) p1 h5, oX2 (pt 5) p5 o37, aJ g ao 1 J] s.heap.size = A at *
  refine lv_aload_n hx hb dL_led_0 rfl (lv_at hl 2 rfl) ?_
  refine lv_iconst (v := 0) hx hb dL_led_1 (by decide) ?_
  refine lv_aload_n hx hb dL_led_2 rfl (lv_at hl 0 rfl) ?_
  refine lv_iload_n hx hb dL_led_3 rfl (lv_at hl 1 rfl) ?_
  have hC : [0, 1, 2].map (fun i => ([oX9 a pt o, oX1 (pt 1) p1 h5, oX2 (pt 5) p5 o37, aJ g ao 1 J] : va_W)[i]?) = ([oX9 a pt o, oX1 (pt 1) p1 h5, oX2 (pt 5) p5 o37] : va_W).map some := rfl
  have hFr := va_free (wc := [oX9 a pt o, oX1 (pt 1) p1 h5, oX2 (pt 5) p5 o37]) hD hS hA [0, 1, 2] hC
  have hP9 := hP.sub [0, 1, 2] (mfil hC)
  have hpre : ∀ U : State, U.heap = s.heap → s.WarmedH U.vm → PreT g [.ref a, .int x1] [oX9 a pt o, oX1 (pt 1) p1 h5, oX2 (pt 5) p5 o37] s.heap.size [Value.ref a, Value.int x1].toArray U := by
    intro U hU hW
    exact ⟨rfl, by rw [hU], by rw [hU]; exact hP9, hK.warm hW, (hD.sub [0, 1, 2] rfl hC).weaken (fun _ _ _ _ => trivial), hSW.to hW.alike (by rw [hU]; exact hS.2.1) hFr, hT0.to hW.alike (by rw [hU]; exact hS.2.1) hFr⟩
  refine vx_calli (vx_runV (As := [.int x1]) (rest := [.int 0, .ref ao]) ⟨hx, hb, hml, hown, hts⟩ (mX9_led l hlt g a n pt p1 p5 x1 o h5 o37 th v hF s.heap.size) (cwV 1 hts gL_led_X9_led rfl rfl rfl (by decide +kernel) ⟨Nat.le_of_ble_eq_true rfl, Nat.le_of_ble_eq_true rfl⟩) ⟨PreT.blind, va_recv hK.1 hP9 (ci := 9) (q0 := 0) rfl rfl, hpre⟩ rfl rfl hl.1 rfl (lv_room (m := m) (pc := 4) (ls := ls) (Nat.le_of_ble_eq_true rfl)) dL_led_4 ⟨by decide, by decide⟩) hS (fun q _ h => hFr q h) hFr (fun q _ h => hFr q h) (fun E ce q9 u t H1 locs1 ht hvm hpx hBX hz hq hS1 hcell hcv hcl => ?_) (fun r u t H1 locs1 ht hvm hp hB hz hq hS1 => ?_)
  · obtain ⟨rfl, hP1⟩ := hBX
    rw [ht] at hP1
    obtain ⟨hP2, hD2⟩ := put_PD hP hD [0, 1, 2] hC rfl hq hP1
    have hP2 : va_P g.1 vwCl [oX9 a pt o, oX1 (pt 1) p1 h5, oX2 (pt 5) p5 o37, aJ g ao 1 J] H1 := hP2
    have hth : ledJ th v J = J := if_neg (by rw [hpx]; decide)
    refine catch_w (E := NSE) (name := NSE) hown htab (by decide) (by decide) (hts _ (List.mem_of_getElem? (i := 1) rfl)) (hT0.2.2 _ (List.mem_of_getElem? (i := 3) rfl) _) hcell hcv hcl ?_
    refine lv_astore_n (lv' := [(3, .ref q9), (0, .ref a), (1, .int x1), (2, .ref ao)]) hx hb dL_led_12 rfl hl (by decide) rfl (fun ls hl => ?_)
    refine lv_iconst (v := 1) hx hb dL_led_13 (by decide) ?_
    rw [hth]
    exact vx_ret (W.iret (v := 1) hx hb hr (fun t' ht hW => ⟨⟨1, (), rfl, hpx.symm, by rw [ht]; exact hP2, hD⟩, hS1.F ht⟩) hS1.2.2 dL_led_14 hlk)
  · obtain ⟨hP1, -⟩ := hB
    obtain ⟨hth, rfl⟩ := hp
    rw [ht] at hP1
    obtain ⟨hP2, hD2⟩ := put_PD hP hD [0, 1, 2] hC rfl hq hP1
    have hP2 : va_P g.1 vwCl [oX9 a pt o, oX1 (pt 1) p1 h5, oX2 (pt 5) p5 o37, aJ g ao 1 J] H1 := hP2
    refine lv_i2l hx hb dL_led_7 rfl ?_
    refine va_last hx hb hK.1 hP2 hD hS1 3 1 rfl rfl (show vp_in 0 1 by unfold vp_in; decide) dL_led_8 (fun H2 locs2 hP3 hD3 hS3 => ?_)
    refine lv_goto (tgt := 15) hx hb dL_led_9 (by decide) ?_
    refine lv_iconst (v := 0) hx hb dL_led_15 (by decide) ?_
    have hJ : ledJ th r J = vp_updL J (0 : Int32).toNatClampNeg r.toInt64 := if_pos hth
    rw [hJ]
    exact vx_ret (W.iret (v := 0) hx hb hr (fun t' ht hW => ⟨⟨0, (), rfl, hth.symm, by rw [ht]; exact hP3, hD3⟩, hS3.F ht⟩) hS3.2.2 dL_led_16 hlk)
