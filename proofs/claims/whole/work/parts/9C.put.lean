/-! the law's world: a call changes some of its cells, at their places -/
def putW (ws : va_W) : List Nat → va_W → va_W
  | i :: is, q :: w => putW (ws.set i q) is w
  | _, _ => ws
theorem putW_get : ∀ (is : List Nat) (w ws : va_W) (k : Nat) (q : Nat × va_E), is.length = w.length → (putW ws is w)[k]? = some q → (∃ j : Nat, is[j]? = some k ∧ w[j]? = some q) ∨ (ws[k]? = some q ∧ k ∉ is)
  | [], [], ws, k, q, _, h => Or.inr ⟨h, List.not_mem_nil⟩
  | [], _ :: _, ws, k, q, hl, _ => by simp at hl
  | _ :: _, [], ws, k, q, hl, _ => by simp at hl
  | i :: is, q0 :: w, ws, k, q, hl, h => by
    rw [putW] at h
    rcases putW_get is w (ws.set i q0) k q (by simpa using hl) h with ⟨j, h1, h2⟩ | ⟨h1, h2⟩
    · exact Or.inl ⟨j + 1, h1, h2⟩
    · rw [List.getElem?_set] at h1
      by_cases e : i = k
      · rw [if_pos e] at h1
        by_cases e2 : k < ws.length
        · rw [if_pos (by omega)] at h1
          cases h1
          exact Or.inl ⟨0, by rw [e]; rfl, rfl⟩
        · rw [if_neg (by omega)] at h1; cases h1
      · rw [if_neg e] at h1
        exact Or.inr ⟨h1, fun z => (List.mem_cons.mp z).elim (fun z => e z.symm) h2⟩
theorem put_PD {A0 : Nat → Prop} {D : va_G} {cl : List vw_C} {ws wc w1 : va_W} {H H1 : Heap} (hP : va_P D cl ws H) (hD : va_D A0 ws) (isC : List Nat) (hC : isC.map (fun i => ws[i]?) = wc.map some) (had : w1.map Prod.fst = wc.map Prod.fst)
    (hk : ∀ q : Nat, q < H.size → ¬ va_A wc H.size q → H1[q]? = H[q]?) (hP1 : va_P D cl w1 H1) : va_P D cl (putW ws isC w1) H1 ∧ va_D A0 (putW ws isC w1) := by
  have hl1 : isC.length = wc.length := by simpa using congrArg List.length hC
  have hl2 : w1.length = wc.length := by simpa using congrArg List.length had
  have at' : ∀ (k : Nat) (q : Nat × va_E), wc[k]? = some q → ∃ i, isC[k]? = some i ∧ ws[i]? = some q := by
    intro k q hq
    have h1 : (isC.map (fun i => ws[i]?))[k]? = some (some q) := by rw [hC, List.getElem?_map, hq]; rfl
    rw [List.getElem?_map] at h1
    cases hi : isC[k]? with
    | none => rw [hi] at h1; cases h1
    | some i => rw [hi] at h1; exact ⟨i, rfl, Option.some.inj h1⟩
  have adr : ∀ (j : Nat) (q : Nat × va_E), w1[j]? = some q → ∃ q', wc[j]? = some q' ∧ q'.1 = q.1 := by
    intro j q hq
    have h1 : (w1.map Prod.fst)[j]? = some q.1 := by rw [List.getElem?_map, hq]; rfl
    rw [had, List.getElem?_map] at h1
    cases hi : wc[j]? with
    | none => rw [hi] at h1; cases h1
    | some q' => rw [hi] at h1; exact ⟨q', rfl, Option.some.inj h1⟩
  -- what stands at a place has the address that stood there
  have old : ∀ (k : Nat) (q : Nat × va_E), (putW ws isC w1)[k]? = some q → ∃ q', ws[k]? = some q' ∧ q'.1 = q.1 := by
    intro k q hq
    rcases putW_get isC w1 ws k q (by omega) hq with ⟨j, h1, h2⟩ | ⟨h1, -⟩
    · obtain ⟨q', a1, a2⟩ := adr j q h2
      obtain ⟨i, b1, b2⟩ := at' j q' a1
      have e : i = k := Option.some.inj (b1.symm.trans h1)
      subst e
      exact ⟨q', b2, a2⟩
    · exact ⟨q, h1, rfl⟩
  refine ⟨fun k q hq => ?_, fun i j p q hi hj e => ?_, fun k q hq => ?_⟩
  · rcases putW_get isC w1 ws k q (by omega) hq with ⟨j, h1, h2⟩ | ⟨h1, h2⟩
    · exact hP1 j q h2
    · refine (hP k q h1).kept (hk q.1 (hP k q h1).lt ?_)
      rintro (⟨j, e, h⟩ | h)
      · obtain ⟨i, b1, b2⟩ := at' j (q.1, e) h
        have : k = i := hD.1 k i q (q.1, e) h1 b2 rfl
        subst this
        exact h2 (List.mem_of_getElem? b1)
      · exact absurd (hP k q h1).lt (Nat.not_lt.mpr h)
  · obtain ⟨p', a1, a2⟩ := old i p hi
    obtain ⟨q', b1, b2⟩ := old j q hj
    exact hD.1 i j p' q' a1 b1 (a2.trans (e.trans b2.symm))
  · obtain ⟨q', b1, b2⟩ := old k q hq
    rw [← b2]; exact hD.2 k q' b1
section LawB
variable {p : Program} {l : Launch} {e : Env} {R : Room} {s : State} {m : MethodId} {args : Array Value} {below : List Frame} {meth : Method} {c : Code} {H : Heap} {locs : List Loc} {cells slots : Nat} {Q : State → Prop}
variable {g : GG} {cc : ByteArray} {nL : Nat} {ret : Option FieldType} {own : String} {Ts : List Cond} {A : Nat → Prop} {ws w1 : va_W} {pc : Nat} {ls : Array Slot}
variable {y : MethodName} {wy : List Cond} {rmy : Room} {As rest st : List Value} {wc : va_W} {bytes : ByteArray} {maxLy n index : Nat} {rety : Option FieldType} {C : String} {T : u_T} {N ci q0 b : Nat} {fs : List Value}
/-- a call of an instance method, seen from the law: the world with the callee's cells put at their places -/
theorem call_w {r : Int32} (C0 : Cx p s m args meth c cc nL ret own Ts g A) (hM : MI l g y wy rmy (.ref b :: As) wc r w1) (cw : CallW R s args own C index y bytes maxLy rety wy rmy 0 0 n) (hP : va_P g.1 vwCl ws H) (hD : va_D A ws) (hS : va_S A s.heap H locs) (isC : List Nat) (h1 : isC.filterMap (fun i => ws[i]?) = wc) (h2 : va_nd isC = true) (hC : isC.map (fun i => ws[i]?) = wc.map some) (had : w1.map Prod.fst = wc.map Prod.fst)
    (hcl : vwCl[ci]? = some (C, T, N)) (hq : wc[q0]? = some (b, .inr (ci, fs))) (hsz : ls.size = nL) (hlen : As.length = n) (hst : st = As.reverse ++ .ref b :: rest) (hroom : (rest.map fun v => v.category).sum ≤ 8) (hf : cells + 0 ≤ R.cells ∧ slots + 0 ≤ R.slots) (hdg : decode cc pc = .ok (.invokevirtual index, 3))
    (k : Aft p l e R s m args below meth c cells slots Q g A (putW ws isC w1) (F0 m (pc + 3) ls (.int r :: rest))) : W p l e R s m args below meth c H locs cells slots Q (F0 m pc ls st) := by
  have hpre := pre_of C0 hP hD hS isC h1 h2 hC (.ref b :: As)
  have hP9 := hP.sub isC h1
  obtain ⟨hx, hb, hml, hown, hts, hr, hlk, hK, hA, hSW⟩ := C0
  have hF := va_free (wc := wc) hD hS hA isC hC
  refine va_calli (va_runV (As := As) (rest := rest) ⟨hx, hb, hml, hown, hts⟩ (hM H.size) cw ⟨Pre.blind, va_recv hK.1 hP9 hcl hq, hpre⟩ rfl hlen hsz hst (lv_room (m := m) (pc := pc) (ls := ls) hroom) hdg hf) hS (fun q _ h => hF q h) hF (fun r' u t H1 locs1 ht hvm hw hB hz1 hk1 hS1 => ?_)
  obtain ⟨hP1, hD1⟩ := hB
  rw [ht] at hP1
  obtain ⟨hP2, hD2⟩ := put_PD hP hD isC hC had hk1 hP1
  subst hw
  exact k H1 locs1 hP2 hD2 hS1
end LawB
