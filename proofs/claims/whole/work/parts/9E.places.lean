/-! places of the law's world, one by one -/
theorem mc {f : Nat → Option (Nat × va_E)} {i : Nat} {is : List Nat} {q : Nat × va_E} {w : va_W} (h : f i = some q) (t : is.map f = w.map some) : (i :: is).map f = (q :: w).map some := by
  rw [List.map_cons, List.map_cons, h, t]
theorem mn {f : Nat → Option (Nat × va_E)} : ([] : List Nat).map f = ([] : va_W).map some := rfl
theorem mfil {f : Nat → Option (Nat × va_E)} : ∀ {is : List Nat} {w : va_W}, is.map f = w.map some → is.filterMap f = w
  | [], [], _ => rfl
  | [], _ :: _, h => by simp at h
  | _ :: _, [], h => by simp at h
  | i :: is, q :: w, h => by
    rw [List.map_cons, List.map_cons] at h
    injection h with h1 h2
    rw [List.filterMap_cons, h1, mfil h2]
theorem mm {f f' : Nat → Option (Nat × va_E)} {i : Nat} {is : List Nat} (h : f' i = f i) (t : ∀ k ∈ is, f' k = f k) : ∀ k ∈ i :: is, f' k = f k := fun k hk => (List.mem_cons.mp hk).elim (fun e => e ▸ h) (t k)
theorem put_to {A0 : Nat → Prop} {D : va_G} {cl : List vw_C} {ws ws' wc w1 : va_W} {H H1 : Heap} (hP : va_P D cl ws H) (hD : va_D A0 ws) (isC isR : List Nat) (hC : isC.map (fun i => ws[i]?) = wc.map some) (hC' : isC.map (fun i => ws'[i]?) = w1.map some) (hR : ∀ k ∈ isR, ws'[k]? = ws[k]?) (hcov : ∀ k, k < ws'.length → k ∈ isC ∨ k ∈ isR) (had : w1.map Prod.fst = wc.map Prod.fst) (hdis : ∀ i ∈ isR, i ∉ isC)
    (hk : ∀ q : Nat, q < H.size → ¬ va_A wc H.size q → H1[q]? = H[q]?) (hP1 : va_P D cl w1 H1) : va_P D cl ws' H1 ∧ va_D A0 ws' := by
  have at' : ∀ {v w : va_W}, isC.map (fun i => v[i]?) = w.map some → ∀ (k : Nat) (q : Nat × va_E), w[k]? = some q → ∃ i, isC[k]? = some i ∧ v[i]? = some q := by
    intro v w hs k q hq
    have h1 : (isC.map (fun i => v[i]?))[k]? = some (some q) := by rw [hs, List.getElem?_map, hq]; rfl
    rw [List.getElem?_map] at h1
    cases hi : isC[k]? with
    | none => rw [hi] at h1; cases h1
    | some i => rw [hi] at h1; exact ⟨i, rfl, Option.some.inj h1⟩
  have back : ∀ {v w : va_W}, isC.map (fun i => v[i]?) = w.map some → ∀ (j k : Nat), isC[j]? = some k → w[j]? = v[k]? := by
    intro v w hs j k hj
    have h1 : (w.map some)[j]? = some (v[k]?) := by rw [← hs, List.getElem?_map, hj]; rfl
    rw [List.getElem?_map] at h1
    cases hw : w[j]? with
    | none => rw [hw] at h1; cases h1
    | some q => rw [hw] at h1; exact Option.some.inj h1
  have old : ∀ (k : Nat) (q : Nat × va_E), ws'[k]? = some q → ∃ q', ws[k]? = some q' ∧ q'.1 = q.1 := by
    intro k q hq
    rcases hcov k (List.getElem?_eq_some_iff.mp hq).1 with h | h
    · obtain ⟨j, hj⟩ := List.getElem?_of_mem h
      have h2 : w1[j]? = some q := (back hC' j k hj).trans hq
      have h3 : (wc.map Prod.fst)[j]? = some q.1 := by rw [← had, List.getElem?_map, h2]; rfl
      rw [List.getElem?_map, back hC j k hj] at h3
      cases hw : ws[k]? with
      | none => rw [hw] at h3; cases h3
      | some q' => rw [hw] at h3; exact ⟨q', rfl, Option.some.inj h3⟩
    · exact ⟨q, (hR k h).symm.trans hq, rfl⟩
  refine ⟨fun k q hq => ?_, fun i j p q hi hj e => ?_, fun k q hq => ?_⟩
  · rcases hcov k (List.getElem?_eq_some_iff.mp hq).1 with h | h
    · obtain ⟨j, hj⟩ := List.getElem?_of_mem h
      exact hP1 j q ((back hC' j k hj).trans hq)
    · have h1 : ws[k]? = some q := (hR k h).symm.trans hq
      refine (hP k q h1).kept (hk q.1 (hP k q h1).lt ?_)
      rintro (⟨j, e, h9⟩ | h9)
      · obtain ⟨i, b1, b2⟩ := at' hC j (q.1, e) h9
        have : k = i := hD.1 k i q (q.1, e) h1 b2 rfl
        subst this
        exact hdis k h (List.mem_of_getElem? b1)
      · exact absurd (hP k q h1).lt (Nat.not_lt.mpr h9)
  · obtain ⟨p', a1, a2⟩ := old i p hi
    obtain ⟨q', b1, b2⟩ := old j q hj
    exact hD.1 i j p' q' a1 b1 (a2.trans (e.trans b2.symm))
  · obtain ⟨q', b1, b2⟩ := old k q hq
    rw [← b2]; exact hD.2 k q' b1
