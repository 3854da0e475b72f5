/-! an exception caught by the one row of the method's table: the class that the row names may be resolved there for the first time -/
theorem ct_step {e : Env} {s : State} {a : Addr} {f : JFrame} {r : List Frame} {pc : Nat} {vm' : Vm} (hf : ∀ (Q : Handler → Jvm.Pre) (E : CtlPost) (d : Bool) (acts : List Action), wp (findHandler f a) Q E e d acts s ↔ Q (.found pc) d acts (s.setVm vm')) :
    (stepThrowing e s a (.java f :: r)).Is ((s.setVm vm').setFrames (.java { f with pc := pc, stack := [.ref a] } :: r)) [] := by
  simp only [stepThrowing, searchFrame, vmDo]
  generalize hr : Sem.go _ e false [] s = res
  obtain ⟨as, rfl, ha⟩ := Sem.eq_ok_of hr (a := Handler.found pc) (s' := s.setVm vm') (acts' := []) (by simp [hf _ _ _ _])
  exact ⟨rfl, ha⟩
theorem catch_w {p : Program} {l : Launch} {e : Env} {R : Room} {s : State} {m : MethodId} {args : Array Value} {below : List Frame} {meth : Method} {c : Code} {H : Heap} {locs : List Loc} {cells slots : Nat} {Q : State → Prop} {pc : Nat} {ls : Array Slot} {rest : List Value} {own name E : String} {ce : Cell} {q : Addr} {x : ExceptionTableEntry} (hown : s.vm.findClass own = some m.cls) (hsplit : c.exceptionTable.toList = [x]) (hx : covers x pc = true) (h0 : x.catchType ≠ 0)
    (hlink : (Cond.classLink own x.catchType name).before args s = true) (hcast : (Cond.castable E name).before args s = true) (hcell : H[q]? = some ce) (hv : ce.vm = .none) (hcl : s.vm.findClass E = some ce.cls)
    (kk : W p l e R s m args below meth c H locs cells slots Q (F0 m x.handlerPc ls [.ref q])) : vx_W p l e R s m args below meth c H locs cells slots Q (F0 m pc ls rest) q := by
  intro T hT X
  have hpl : e.platform.magicAccessors = ({} : Platform).magicAccessors := by rw [X.admits.platform]
  obtain ⟨c3, c4, hc3, hc4, hasg⟩ := Cond.castable_spec hcast
  cases Option.some.inj (hc3.symm.trans hcl)
  obtain ⟨c5, hc5, hL⟩ := Cond.classLink_spec hown hlink e.platform hpl
  cases Option.some.inj (hc4.symm.trans hc5)
  obtain ⟨dk, _, _, kt, hd, _, _, _, _, hkt, _, hopen⟩ := hL.here
  have hW' : s.WarmedH (T.vm.noted m.cls x.catchType (.cls c4)) := X.warmed.noted hd hopen (State.rightAt_cls hL)
  obtain ⟨k9, h9, -⟩ := Vm.findClass_spec hcl
  obtain ⟨t, a1, b1⟩ := kk (T.setVm (T.vm.noted m.cls x.catchType (.cls c4))) hT (X.noted hW')
  refine ⟨t, ?_, b1⟩
  have hcT : ((T.setTop (F0 m pc ls rest)).pushFrame (.throwing q)).heap[q]? = some ce := by rw [Stand.throwing_heap, hT]; exact hcell
  have hvm : ((T.setTop (F0 m pc ls rest)).pushFrame (.throwing q)).vm = T.vm := Stand.throwing_vm _ _ _
  have hal : s.vm.Alike (T.vm.noted m.cls x.catchType (.cls c4)) := hW'.alike
  obtain ⟨k1, hk1, -⟩ := hal.2.2 _ _ h9
  obtain ⟨k2, hk2, -⟩ := hal.2.2 _ _ hkt
  have hfit : (T.vm.noted m.cls x.catchType (.cls c4)).assignable ce.cls c4 = true := by rw [hal.assignable]; exact hasg
  have hobj : ∀ k, ce.vm ≠ .statics k := fun k z => by rw [hv] at z; cases z
  have hLT : T.vm.ClassLinks e.platform m.cls x.catchType c4 := X.warmed.classLinks hL
  have hf : ∀ (Q : Handler → Jvm.Pre) (E : CtlPost) (d : Bool) (acts : List Action), wp (findHandler (F0 m pc ls rest) q) Q E e d acts ((T.setTop (F0 m pc ls rest)).pushFrame (.throwing q)) ↔ Q (.found x.handlerPc) d acts (((T.setTop (F0 m pc ls rest)).pushFrame (.throwing q)).setVm (T.vm.noted m.cls x.catchType (.cls c4))) := by
    intro Q E d acts
    have hm : ((T.setTop (F0 m pc ls rest)).pushFrame (.throwing q)).vm.method? (F0 m pc ls rest).method = some meth := by rw [hvm]; exact X.method'
    rw [Jvm.W.findHandler_eq hm X.code, hsplit]
    have hx' := hx
    simp only [covers] at hx'
    obtain ⟨ha, ht⟩ := (resolveClass_links e.toSetting (show ((T.setTop (F0 m pc ls rest)).pushFrame (.throwing q)).vm.ClassLinks e.platform m.cls x.catchType c4 by rw [hvm]; exact hLT)).op (op := VmOp.resolveClass m.cls x.catchType) rfl
    rw [hvm] at ha ht
    simp [findHandler.go, hx', h0, ha, ht, hcT, hvm, hobj, hk1, hk2, hfit, VmOp.dirties, VmOp.acts]
  obtain ⟨hgo, hw⟩ := (show At T (F0 m pc ls rest).method c below from X.here).throwing q
  refine Steps.head hgo hw ?_
  rw [stepThread_throwing (frames_entered X.here.top _), (ct_step hf).1]
  obtain ⟨g₀, hg⟩ := Option.isSome_iff_exists.mp X.here.top
  obtain ⟨r, hr⟩ := State.topJava?_eq_some.mp hg
  have hr' : (T.setVm (T.vm.noted m.cls x.catchType (.cls c4))).frames = .java g₀ :: r := hr
  rw [State.setTop_of_frames _ hr'] at a1
  have sw : ∀ (u : State) (vm' : Vm) (F G : List Frame), ((u.setFrames F).setVm vm').setFrames G = (u.setVm vm').setFrames G := fun u vm' F G => by
    rw [show (u.setFrames F).setVm vm' = (u.setVm vm').setFrames F from rfl, State.setFrames_setFrames]
  rw [hr, List.tail_cons, State.pushFrame, sw, State.setTop_of_frames _ hr, sw]
  exact a1
