/-! constructors: what they make, by the addresses that come -/
theorem fit01 {v : Int32} (h : ¬ ¬ (v = 0 ∨ v = 1)) : fits .boolean (.int v) = true := by
  rcases Classical.not_not.mp h with rfl | rfl <;> rfl
abbrev zR : Nat → Int32 := fun _ => 0
abbrev zN (g : GG) (a n : Nat) (f : Nat → Option Nat) : Nat × va_E := (a, .inl (g.2.2.2.1, n, .inr (.inr (.inr (.inr f)))))
def EndC {σ : Type} (g : GG) (B : σ → va_W) (A : Nat → Prop) : Array Value → State → Outcome → State → Prop := va_Qv (fun (_ : σ) => True) (fun u t => va_P g.1 vwCl (B u) t.heap ∧ va_D A (B u)) A
def MC {σ : Type} (l : Launch) (g : GG) (y : MethodName) (ws : List Cond) (rm : Room) (mc ms : Nat) (as : List Value) (w0 : va_W) (B : σ → va_W) : Prop := ∀ sz : Nat, Met l y ws rm (Pre g as w0 sz) (EndC g B (va_A w0 sz)) mc ms (va_A w0 sz)
theorem MC.of {σ : Type} {B : σ → va_W} {l : Launch} {g : GG} {y : MethodName} {ws ws' : List Cond} {rm : Room} {as : List Value} {w0 : va_W} {cc : ByteArray} {maxL mc ms : Nat} {own : String} (ho : y.cls = own) (hi : y.name = "<init>") (hw : ws = Cond.code y cc maxL none :: ws') (hy : plainName y.cls = true) (hl : (lg_sl as).length ≤ maxL)
    (body : ∀ (p : Program) (e : Env) (s : State) (m : MethodId) (args : Array Value) (below : List Frame) (meth : Method) (c : Code) (A : Nat → Prop), Cx p s m args meth c cc maxL none own ws g A → meth.name = "<init>" → va_P g.1 vwCl w0 s.heap → va_D A w0 → va_S A s.heap s.heap [] → ∀ ls : Array Slot, lv_has ls maxL (lv_args 0 as) →
      W p l e rm s m args below meth c s.heap [] 0 0 (MQ below (EndC g B A) args s mc ms A) (F0 m 0 ls [])) : MC l g y ws rm mc ms as w0 B := by
  intro sz
  refine Met.ofW (cc := cc) (maxL := maxL) (ret := none) hy hw ?_
  intro p e s m args below meth c s₁ B0 hml hv
  obtain ⟨rfl, hsz, hP, hK, hD0, hW0⟩ := hv
  subst hsz
  subst ho
  have hl2 := lv_entry as (n := maxL) hl
  rw [lg_entry_eq]
  have hin : meth.name = y.name := (name_of_methodNamed B0.named B0.method).1
  exact body p e s m _ below meth c _ ⟨B0.exec, B0.bytes, hml, findClass_of_methodNamed B0.named, atoms_spec (ws := ws) B0.pre, B0.returns, B0.notSynchronized, hK, fun q h => Or.inr h, hW0⟩ (hin.trans hi) hP hD0.self va_S.rf _ hl2
section CB
variable {p : Program} {l : Launch} {e : Env} {R : Room} {s : State} {m : MethodId} {args : Array Value} {below : List Frame} {meth : Method} {c : Code} {H : Heap} {locs : List Loc} {cells slots : Nat} {Q : State → Prop}
variable {g : GG} {cc : ByteArray} {nL : Nat} {ret : Option FieldType} {own : String} {Ts : List Cond} {A : Nat → Prop} {ws : va_W} {pc : Nat} {ls : Array Slot} {rest : List Value}
theorem ret_c {σ : Type} {B : σ → va_W} {mc ms : Nat} (u : σ) (C0 : Cx p s m args meth c cc nL none own Ts g A) (hP : va_P g.1 vwCl ws H) (hD : va_D A ws) (hS : va_S A s.heap H locs) (is : List Nat) (h1 : is.filterMap (fun i => ws[i]?) = B u) (h2 : va_nd is = true) (h3 : is.map (fun i => ws[i]?) = (B u).map some) (hdg : decode cc pc = .ok (.return_, 1)) :
    W p l e R s m args below meth c H locs mc ms (MQ below (EndC g B A) args s mc ms A) (F0 m pc ls []) := by
  obtain ⟨hx, hb, hml, hown, hts, hr, hlk, hK, hA, hSW⟩ := C0
  have hP9 := hP.sub (ws' := B u) is h1
  have hD9 := hD.sub (ws' := B u) is h2 h3
  exact W.vret hx hb hr (fun t ht hW => ⟨⟨u, rfl, trivial, by rw [ht]; exact hP9, hD9⟩, hS.F ht⟩) hS.2.2 hdg hlk
theorem newI (C0 : Cx p s m args meth c cc nL ret own Ts g A) (hw : Cond.arrayClass .int ∈ Ts) (hP : va_P g.1 vwCl ws H) (hD : va_D A ws) (hS : va_S A s.heap H locs) {n : Int32} {N : Nat} (hn : ¬ n < 0) (hN : n.toNatClampNeg = N) (hbt : N * 4 ≤ 536870912) (hc : cells + 1 ≤ R.cells) (hs : slots + N ≤ R.slots) (hdg : decode cc pc = .ok (.newarray .int, 2))
    (kk : ∀ (q : Nat) (H1 : Heap), va_P g.1 vwCl (ws ++ [aI g q N zR]) H1 → va_D A (ws ++ [aI g q N zR]) → va_S A s.heap H1 locs → W p l e R s m args below meth c H1 locs (cells + 1) (slots + N) Q (F0 m (pc + 2) ls (.ref q :: rest))) : W p l e R s m args below meth c H locs cells slots Q (F0 m pc ls (.int n :: rest)) := by
  obtain ⟨hx, hb, hml, hown, hts, hr, hlk, hK, hA, hSW⟩ := C0
  refine va_newa (atype := .int) (a0 := (N, .inl zR)) (ty := .int) hx hb (hts _ hw) rfl hK.1 hP hD hS hA (fun _ => rfl) hn hN hbt hc hs hdg (fun q cA H1 hK1 hP1 hD1 hS1 => ?_)
  have e1 : va_RA s cA .int := (hK1.2 3 (cA, .int) rfl).2
  have e2 : va_RA s g.2.1 .int := (hK.1.2 0 (g.2.1, .int) rfl).2
  have e : cA = g.2.1 := Option.some.inj (e1.symm.trans e2)
  subst e
  exact kk q H1 hP1 hD1 hS1
theorem newJ (C0 : Cx p s m args meth c cc nL ret own Ts g A) (hw : Cond.arrayClass .long ∈ Ts) (hP : va_P g.1 vwCl ws H) (hD : va_D A ws) (hS : va_S A s.heap H locs) {n : Int32} {N : Nat} (hn : ¬ n < 0) (hN : n.toNatClampNeg = N) (hbt : N * 8 ≤ 536870912) (hc : cells + 1 ≤ R.cells) (hs : slots + N ≤ R.slots) (hdg : decode cc pc = .ok (.newarray .long, 2))
    (kk : ∀ (q : Nat) (H1 : Heap), va_P g.1 vwCl (ws ++ [aJ g q N (fun _ => 0)]) H1 → va_D A (ws ++ [aJ g q N (fun _ => 0)]) → va_S A s.heap H1 locs → W p l e R s m args below meth c H1 locs (cells + 1) (slots + N) Q (F0 m (pc + 2) ls (.ref q :: rest))) : W p l e R s m args below meth c H locs cells slots Q (F0 m pc ls (.int n :: rest)) := by
  obtain ⟨hx, hb, hml, hown, hts, hr, hlk, hK, hA, hSW⟩ := C0
  refine va_newa (atype := .long) (a0 := (N, .inr (.inl (fun _ => 0)))) (ty := .long) hx hb (hts _ hw) rfl hK.1 hP hD hS hA (fun _ => rfl) hn hN hbt hc hs hdg (fun q cA H1 hK1 hP1 hD1 hS1 => ?_)
  have e1 : va_RA s cA .long := (hK1.2 3 (cA, .long) rfl).2
  have e2 : va_RA s g.2.2.1 .long := (hK.1.2 1 (g.2.2.1, .long) rfl).2
  have e : cA = g.2.2.1 := Option.some.inj (e1.symm.trans e2)
  subst e
  exact kk q H1 hP1 hD1 hS1
theorem newN {index : Nat} (C0 : Cx p s m args meth c cc nL ret own Ts g A) (hcl : (Cond.classLink own index "EveningVow$Night").before args s = true) (hP : va_P g.1 vwCl ws H) (hD : va_D A ws) (hS : va_S A s.heap H locs) {n : Int32} {N : Nat} (hn : ¬ n < 0) (hN : n.toNatClampNeg = N) (hbt : N * 4 ≤ 536870912) (hc : cells + 1 ≤ R.cells) (hs : slots + N ≤ R.slots) (hdg : decode cc pc = .ok (.anewarray index, 3))
    (kk : ∀ (q : Nat) (H1 : Heap), va_P g.1 vwCl (ws ++ [zN g q N (fun _ => none)]) H1 → va_D A (ws ++ [zN g q N (fun _ => none)]) → va_S A s.heap H1 locs → W p l e R s m args below meth c H1 locs (cells + 1) (slots + N) Q (F0 m (pc + 3) ls (.ref q :: rest))) : W p l e R s m args below meth c H locs cells slots Q (F0 m pc ls (.int n :: rest)) := by
  obtain ⟨hx, hb, hml, hown, hts, hr, hlk, hK, hA, hSW⟩ := C0
  refine va_newq hx hb hown hcl hK.2.1.2 hK.1 hP hD hS hA hn hN hbt hc hs hdg (fun q cA H1 hK1 hP1 hD1 hS1 => ?_)
  obtain ⟨-, -, -, -, -, e1⟩ : va_RA s cA (.object "EveningVow$Night") := (hK1.2 3 (cA, .object "EveningVow$Night") rfl).2
  obtain ⟨-, -, -, -, -, e2⟩ : va_RA s g.2.2.2.1 (.object "EveningVow$Night") := (hK.1.2 2 (g.2.2.2.1, .object "EveningVow$Night") rfl).2
  have e : cA = g.2.2.2.1 := Option.some.inj (e1.symm.trans e2)
  subst e
  exact kk q H1 hP1 hD1 hS1
variable {y : MethodName} {wy : List Cond} {rmy : Room} {As st : List Value} {bytes : ByteArray} {maxLy n index mc ms b : Nat} {wcell : Nat × va_E} {W0 : va_W} {host : String}
theorem last_C (W0 : va_W) (wcell : Nat × va_E) : [W0.length].map (fun i => (W0 ++ [wcell])[i]?) = [wcell].map some := by simp
theorem last_F (W0 : va_W) (wcell : Nat × va_E) : [W0.length].filterMap (fun i => (W0 ++ [wcell])[i]?) = [wcell] := by simp
/-- a constructor of the newest cell -/
theorem run_cl {σ : Type} {B : σ → va_W} {as : List Value} (hP : va_P g.1 vwCl (W0 ++ [wcell]) H) (hD : va_D A (W0 ++ [wcell])) (hS : va_S A s.heap H locs) (hA : ∀ q : Nat, s.heap.size ≤ q → A q)
    (hr : va_Run p l e R s m args below meth c H locs cells slots mc ms (F0 m pc ls st) rest (EndC g B (va_A [wcell] H.size) as.toArray) (va_A [wcell] H.size))
    (k : ∀ (u : σ) (H1 : Heap) (locs1 : List Loc), va_P g.1 vwCl (W0 ++ B u) H1 → va_D A (W0 ++ B u) → va_S A s.heap H1 locs1 → W p l e R s m args below meth c H1 locs1 (cells + mc) (slots + ms) Q (F0 m (pc + 3) ls rest)) : W p l e R s m args below meth c H locs cells slots Q (F0 m pc ls st) := by
  have hF := va_free (wc := [wcell]) hD hS hA [W0.length] (last_C W0 wcell)
  refine va_callv hr hS (fun q _ h => hF q h) hF (fun u t H1 locs1 ht hvm hw hB hz1 hk1 hS1 => ?_)
  obtain ⟨hP1, hD1⟩ := hB
  rw [ht] at hP1
  have hl : (W0 ++ [wcell])[W0.length]? = some wcell := by simp
  have hi : ∀ (i : Nat) (q : Nat × va_E), W0[i]? = some q → (W0 ++ [wcell])[i]? = some q := fun i q h => by
    rw [List.getElem?_append_left ((List.getElem?_eq_some_iff.mp h).1)]; exact h
  have hout : ∀ (i : Nat) (q : Nat × va_E), W0[i]? = some q → q.1 < H.size ∧ ¬ va_A [wcell] H.size q.1 := by
    intro i q h
    have h1 := (hP i q (hi i q h)).lt
    refine ⟨h1, ?_⟩
    rintro (⟨j, e, h2⟩ | h2)
    · have hj : j = 0 := by
        have := (List.getElem?_eq_some_iff.mp h2).1
        simp at this; omega
      subst hj
      have e2 : wcell = (q.1, e) := by simpa using h2
      have := hD.1 i W0.length q wcell (hi i q h) hl (by rw [e2])
      have := (List.getElem?_eq_some_iff.mp h).1
      omega
    · omega
  refine k u H1 locs1 (va_P.app (fun i q h => (hP i q (hi i q h)).kept (hk1 q.1 (hout i q h).1 (hout i q h).2)) hP1) (va_D.app ⟨fun i j x y hx hy hxy => hD.1 i j x y (hi i x hx) (hi j y hy) hxy, fun i q h => hD.2 i q (hi i q h)⟩ (hD1.weaken (fun i q _ h => hF q.1 h)) (fun i j x y hx hy hxy => (hout i x hx).2 (by rw [hxy]; exact hD1.2 j y hy))) hS1
theorem call_cI {σ : Type} {B : σ → va_W} (C0 : Cx p s m args meth c cc nL ret own Ts g A) (hM : MC l g y wy rmy mc ms (.ref b :: As) [wcell] B) (cw : CallB R s args own index y bytes maxLy none wy rmy mc ms n ∧ y.name = "<init>" ∧ (Cond.instanceMethod y).before args s = true) (hP : va_P g.1 vwCl (W0 ++ [wcell]) H) (hD : va_D A (W0 ++ [wcell])) (hS : va_S A s.heap H locs)
    (hsz : ls.size = nL) (hlen : As.length = n) (hst : st = As.reverse ++ .ref b :: rest) (hroom : (rest.map fun v => v.category).sum ≤ 8) (hf : cells + mc ≤ R.cells ∧ slots + ms ≤ R.slots) (hdg : decode cc pc = .ok (.invokespecial index, 3))
    (k : ∀ (u : σ) (H1 : Heap) (locs1 : List Loc), va_P g.1 vwCl (W0 ++ B u) H1 → va_D A (W0 ++ B u) → va_S A s.heap H1 locs1 → W p l e R s m args below meth c H1 locs1 (cells + mc) (slots + ms) Q (F0 m (pc + 3) ls rest)) : W p l e R s m args below meth c H locs cells slots Q (F0 m pc ls st) := by
  have hpre := pre_of (wc := [wcell]) C0 hP hD hS [W0.length] (last_F W0 wcell) rfl (last_C W0 wcell) (.ref b :: As)
  obtain ⟨hx, hb, hml, hown, hts, hr, hlk, hK, hA, hSW⟩ := C0
  exact run_cl hP hD hS hA (va_runI (As := As) (rest := rest) ⟨hx, hb, hml, hown, hts⟩ (hM H.size) cw ⟨Pre.blind, hpre⟩ rfl hlen hsz hst (lv_room (m := m) (pc := pc) (ls := ls) hroom) hdg hf) k
theorem call_cN {σ : Type} {B : σ → va_W} (C0 : Cx p s m args meth c cc nL ret own Ts g A) (hM : MC l g y wy rmy mc ms (.ref b :: As) [wcell] B) (cw : va_CN R s args own index y host bytes maxLy none wy rmy mc ms n ∧ y.name = "<init>" ∧ (Cond.instanceMethod y).before args s = true) (hP : va_P g.1 vwCl (W0 ++ [wcell]) H) (hD : va_D A (W0 ++ [wcell])) (hS : va_S A s.heap H locs)
    (hsz : ls.size = nL) (hlen : As.length = n) (hst : st = As.reverse ++ .ref b :: rest) (hroom : (rest.map fun v => v.category).sum ≤ 8) (hf : cells + mc ≤ R.cells ∧ slots + ms ≤ R.slots) (hdg : decode cc pc = .ok (.invokespecial index, 3))
    (k : ∀ (u : σ) (H1 : Heap) (locs1 : List Loc), va_P g.1 vwCl (W0 ++ B u) H1 → va_D A (W0 ++ B u) → va_S A s.heap H1 locs1 → W p l e R s m args below meth c H1 locs1 (cells + mc) (slots + ms) Q (F0 m (pc + 3) ls rest)) : W p l e R s m args below meth c H locs cells slots Q (F0 m pc ls st) := by
  have hpre := pre_of (wc := [wcell]) C0 hP hD hS [W0.length] (last_F W0 wcell) rfl (last_C W0 wcell) (.ref b :: As)
  obtain ⟨hx, hb, hml, hown, hts, hr, hlk, hK, hA, hSW⟩ := C0
  exact run_cl hP hD hS hA (va_runIN (As := As) (rest := rest) ⟨hx, hb, hml, hown, hts⟩ (hM H.size) cw ⟨Pre.blind, hpre⟩ rfl hlen hsz hst (lv_room (m := m) (pc := pc) (ls := ls) hroom) hdg hf) k
/-- a filled row of Nights, by its addresses -/
theorem aN_at {a n : Nat} {f : Nat → Option Nat} {q : Nat → Nat} (h : va_at g.1 vwCl (zN g a n f) H) (hf : ∀ j, j < n → f j = some (q j)) : va_at g.1 vwCl (aN g a n q) H := by
  have h1 : H[a]? = some (vp_cell g.2.2.2.1 (n, .inr (.inr (.inr (.inr f))))) := h
  show H[a]? = some (vp_cell g.2.2.2.1 (n, .inr (.inr (.inr (.inr (fun k => some (q k)))))))
  rw [h1]
  congr 1
  simp only [vp_cell, arrV]
  congr 2
  funext j
  rw [hf j.val j.isLt]
theorem aN_set {a n k : Nat} {f : Nat → Option Nat} {q : Nat → Nat} (hP : va_P g.1 vwCl ws H) (hD : va_D A ws) (hk : ws[k]? = some (zN g a n f)) (hf : ∀ j, j < n → f j = some (q j)) : va_P g.1 vwCl (ws.set k (aN g a n q)) H ∧ va_D A (ws.set k (aN g a n q)) :=
  ⟨hP.set hD hk (aN_at (hP k _ hk) hf) (fun _ _ => rfl), hD.set hk⟩
theorem ret_c0 {σ : Type} {B : σ → va_W} {mc ms : Nat} (u : σ) (C0 : Cx p s m args meth c cc nL none own Ts g A) (hP : va_P g.1 vwCl (B u) H) (hD : va_D A (B u)) (hS : va_S A s.heap H locs) (hdg : decode cc pc = .ok (.return_, 1)) :
    W p l e R s m args below meth c H locs mc ms (MQ below (EndC g B A) args s mc ms A) (F0 m pc ls []) := by
  obtain ⟨hx, hb, hml, hown, hts, hr, hlk, hK, hA, hSW⟩ := C0
  exact W.vret hx hb hr (fun t ht hW => ⟨⟨u, rfl, trivial, by rw [ht]; exact hP, hD⟩, hS.F ht⟩) hS.2.2 hdg hlk
theorem setZ (WA WB : va_W) (x y : Nat × va_E) : (WA ++ (x :: WB)).set WA.length y = WA ++ (y :: WB) := by
  rw [List.set_append_right _ _ (Nat.le_refl _)]; simp
theorem getZ (WA WB : va_W) (x : Nat × va_E) : (WA ++ (x :: WB))[WA.length]? = some x := by simp
theorem astZ {WA WB : va_W} {a n v : Nat} {f : Nat → Option Nat} {vs : List Value} (C0 : Cx p s m args meth c cc nL ret own Ts g A) (hP : va_P g.1 vwCl ws H) (hD : va_D A ws) (hS : va_S A s.heap H locs) (e0 : ws = WA ++ (zN g a n f :: WB)) (hv : (v, Sum.inr (2, vs)) ∈ ws) {i : Int32} (hin : vp_in i n) (hdg : decode cc pc = .ok (.aastore, 1))
    (kk : ∀ (H1 : Heap) (locs1 : List Loc), va_P g.1 vwCl (WA ++ (zN g a n (va_up f i.toNatClampNeg (some v)) :: WB)) H1 → va_D A (WA ++ (zN g a n (va_up f i.toNatClampNeg (some v)) :: WB)) → va_S A s.heap H1 locs1 → W p l e R s m args below meth c H1 locs1 cells slots Q (F0 m (pc + 1) ls rest)) : W p l e R s m args below meth c H locs cells slots Q (F0 m pc ls (.ref v :: .int i :: .ref a :: rest)) := by
  obtain ⟨hx, hb, hml, hown, hts, hr, hlk, hK, hA, hSW⟩ := C0
  subst e0
  obtain ⟨qk, hqk⟩ := List.getElem?_of_mem hv
  refine va_astq (r := (RX2, TX2, 9)) hx hb hK.1 hP hD hS WA.length 2 qk 2 (getZ WA WB _) rfl hqk rfl hin hdg (fun H1 l1 hP1 hD1 hS1 => ?_)
  rw [setZ] at hP1 hD1
  exact kk H1 l1 hP1 hD1 hS1
theorem aN_setZ {WA WB : va_W} {a n : Nat} {f : Nat → Option Nat} {q : Nat → Nat} (hP : va_P g.1 vwCl (WA ++ (zN g a n f :: WB)) H) (hD : va_D A (WA ++ (zN g a n f :: WB))) (hf : ∀ j, j < n → f j = some (q j)) : va_P g.1 vwCl (WA ++ (aN g a n q :: WB)) H ∧ va_D A (WA ++ (aN g a n q :: WB)) := by
  have h := aN_set hP hD (getZ WA WB (zN g a n f)) hf
  rw [setZ] at h
  exact h
end CB
