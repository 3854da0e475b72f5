/-! the reference's search of tales -/
theorem leafS {n G D T N S c j0 m : Nat} (hn : 100 ≤ n) {X : Nat → Nat → Int32} {r : Nat → Int32} (hX : HX G D T N S X r) (hj : j0 < 2 ^ T) {po : Nat → Int32} (hpo : po 0 = 0) {q0 : Q4} (hN : NR G q0.1 q0.2.1 q0.2.2.1 q0.2.2.2) (hc : q0.2.2.2 14 = nI c) (hcb : c ≤ 500) {tot : List Nat → Nat} (htot : ∀ p, tot p = totv (hrs r p) (VT n G X r po q0 p))
    {p : List Nat} (hp : okl T j0 p) (hm : p.length = m) {V : List Nat → Prop} {b : Option (List Nat)} {om ta be : Nat → Int32} (tr : Nat → Int32) (hta : ∀ i, i < p.length → ta i = nI (rwl p i)) (hB : BST tot V b) (hC : MB tot b om be) (hV : ∀ v, V v → okl T j0 v ∧ v.length ≤ m ∧ (v.length = m → cdl v < cdl p)) :
    ∃ b' om' tr' be', ob3 (fX10_endsByTales n (nI m) om r q0.2.2.2 tr ta) (fun u_12 u_13 u_14 => if u_12 < 0 then some (u_13, u_14, ta, be) else if u_12 < (u_13 29) then ob1 (fX10_copy n 0 0 (nI m) 4 4 ta be) (fun u_18 => some ((upd (upd u_13 29 u_12) 28 (nI m)), u_14, ta, u_18)) else some (u_13, u_14, ta, be)) = some (om', tr', ta, be') ∧ BST tot (fun v => V v ∨ v = p) b' ∧ MB tot b' om' be' ∧ ∀ k, k ≠ 22 → k ≠ 24 → k ≠ 28 → k ≠ 29 → om' k = om k := by
  have hT4 : T ≤ 4 := hX.2.2.1
  have hl := okl_len hT4 hj hp
  have p4 : ∀ k, k ≤ 4 → 4 ^ k ≤ 256 := by decide +kernel
  have cp := cdl_lt hT4 hp
  have pp := p4 p.length (by omega)
  obtain ⟨om', tr', e1, e2⟩ := byTalesS hn hX hj hpo hN hc hcb hp hta om tr
  rw [hm, ← htot p] at e1
  have tl61 := totv_le (hrs r p) (VT n G X r po q0 p)
  rw [← htot p] at tl61
  have e28 := e2 28 (by decide) (by decide)
  have e29 := e2 29 (by decide) (by decide)
  have cpy : fX10_copy n 0 0 (nI m) 4 4 ta be = some (va_cpy ta be 0 0 m) := copyS (a := 0) (b := 0) (m := m) (by omega) (by omega) (by omega) (by omega) (by omega) ta be
  have yes : tot p ≤ 60 → (∀ q, V q → kyl tot p ≤ kyl tot q) → BST tot (fun v => V v ∨ v = p) (some p) := fun h1 h2 => ⟨Or.inr rfl, h1, fun q hq => by
    rcases hq with z | z
    · exact h2 q z
    · rw [z]; exact Nat.le_refl _⟩
  have cb : MB tot (some p) (upd (upd om' 29 (nI (tot p))) 28 (nI m)) (va_cpy ta be 0 0 m) := ⟨by rw [upd_n _ _ (by decide), upd_s], by rw [upd_s, hm], fun i hi => by rw [cpy_lo (by omega)]; exact hta i hi⟩
  have fr : ∀ k, k ≠ 22 → k ≠ 24 → k ≠ 28 → k ≠ 29 → upd (upd om' 29 (nI (tot p))) 28 (nI m) k = om k := fun k h1 h2 h3 h4 => by rw [upd_n _ _ h3, upd_n _ _ h4]; exact e2 k h1 h2
  have mb : MB tot b om' be := by
    cases b with
    | none => exact e29.trans hC
    | some b => exact ⟨e29.trans hC.1, e28.trans hC.2.1, hC.2.2⟩
  rw [e1, ob3_ss, encT]
  by_cases h60 : tot p ≤ 60
  · rw [if_pos h60, if_neg (nI_pos (by omega))]
    cases b with
    | none =>
      have o1 : om' 29 = 1000000 := mb
      have hB : ∀ q, V q → tot q = 61 := hB
      rw [o1, if_pos (show nI (tot p) < 1000000 from nI_lt (b := 1000000) (by omega) (by omega)), cpy, ob1_ss]
      refine ⟨some p, _, tr', _, rfl, yes h60 (fun q hq => ?_), cb, fr⟩
      have := hB q hq
      unfold kyl; omega
    | some b =>
      obtain ⟨o1, o2, o3⟩ := mb
      obtain ⟨hb1, hb2, hb3⟩ := hB
      have ob := hV b hb1
      have lb := okl_len hT4 hj ob.1
      have cbl := cdl_lt hT4 ob.1
      have pb := p4 b.length (by omega)
      rw [o1]
      by_cases h1 : tot p < tot b
      · rw [if_pos (nI_lt h1 (by omega)), cpy, ob1_ss]
        exact ⟨some p, _, tr', _, rfl, yes h60 (fun q hq => kyl_a h1 (by omega) (by omega) (hb3 q hq)), cb, fr⟩
      · rw [if_neg (nI_nlt (by omega) (by omega))]
        refine ⟨some b, om', tr', be, rfl, ⟨Or.inl hb1, hb2, fun q hq => ?_⟩, ⟨o1, o2, o3⟩, fun k h1 h2 _ _ => e2 k h1 h2⟩
        rcases hq with z | z
        · exact hb3 q z
        · subst z
          by_cases h2 : tot b < tot q
          · exact kyl_a h2 (by omega) (by omega) (Nat.le_refl _)
          · have h3 : tot b = tot q := by omega
            unfold kyl
            rw [h3]
            by_cases h4 : b.length = m
            · have := ob.2.2 h4
              rw [h4, hm]; omega
            · exact kyl_b (show b.length < q.length by omega) (by omega) (Nat.le_refl _)
  · rw [if_neg h60, if_pos (by decide)]
    have e61 : tot p = 61 := by omega
    refine ⟨b, om', tr', be, rfl, ?_, mb, fun k h1 h2 _ _ => e2 k h1 h2⟩
    cases b with
    | none => exact fun q hq => hq.elim (hB q) (fun z => by rw [z, e61])
    | some b =>
      obtain ⟨hb1, hb2, hb3⟩ := hB
      have ob := hV b hb1
      have lb := okl_len hT4 hj ob.1
      have cbl := cdl_lt hT4 ob.1
      have pb := p4 b.length (by omega)
      refine ⟨Or.inl hb1, hb2, fun q hq => ?_⟩
      rcases hq with z | z
      · exact hb3 q z
      · subst z
        exact kyl_a (show tot b < tot q by omega) (by omega) (by omega) (Nat.le_refl _)
theorem tryS {n G D T N S c j0 m : Nat} (hn : 100 ≤ n) {X : Nat → Nat → Int32} {r : Nat → Int32} (hX : HX G D T N S X r) (hj : j0 < 2 ^ T) {po : Nat → Int32} (hpo : po 0 = 0) {q0 : Q4} (hN : NR G q0.1 q0.2.1 q0.2.2.1 q0.2.2.2) (hc : q0.2.2.2 14 = nI c) (hcb : c ≤ 500) {tot : List Nat → Nat} (htot : ∀ p, tot p = totv (hrs r p) (VT n G X r po q0 p)) (hm : m ≤ 4) :
    ∀ (d : Nat) (p : List Nat) (V : List Nat → Prop) (b : Option (List Nat)) (om tr ta be : Nat → Int32), okl T j0 p → p.length ≤ m → 5 ≤ d + p.length → (∀ i, i < p.length → ta i = nI (rwl p i)) → BST tot V b → MB tot b om be → (∀ v, V v → okl T j0 v ∧ v.length ≤ m ∧ (v.length = m → cdl v / 4 ^ (m - p.length) < cdl p)) →
      ∃ b' om' tr' ta' be', fX10_tryTales n d (nI p.length) (nI m) (nI (usl j0 p)) om r q0.2.2.2 tr ta be = some (om', tr', ta', be') ∧ BST tot (fun v => V v ∨ (okl T j0 v ∧ v.length = m ∧ ∃ e, v = e ++ p)) b' ∧ MB tot b' om' be' ∧ (∀ k, k ≠ 22 → k ≠ 24 → k ≠ 28 → k ≠ 29 → om' k = om k) ∧ (∀ i, i < p.length → ta' i = ta i) := by
  have hT4 : T ≤ 4 := hX.2.2.1
  have e6 : r 6 = nI T := hX.2.2.2.2.2.2.2.2.2.2.1
  intro d
  induction d with
  | zero =>
    intro p V b om tr ta be hp hl hd
    have := okl_len hT4 hj hp
    omega
  | succ d ih =>
    intro p V b om tr ta be hp hl hd hta hB hC hV
    have hlp := okl_len hT4 hj hp
    have hus := okl_us hT4 hj hp
    have h16 := pow4 T hT4
    rw [fX10_tryTales]
    by_cases hpm : p.length = m
    · rw [if_pos (congrArg nI hpm)]
      obtain ⟨b', om', tr', be', e1, e2, e3, e4⟩ := leafS hn hX hj hpo hN hc hcb htot hp hpm tr hta hB hC (fun v hv => ⟨(hV v hv).1, (hV v hv).2.1, fun q => by
        have := (hV v hv).2.2 q
        rw [hpm, Nat.sub_self, Nat.pow_zero, Nat.div_one] at this
        exact this⟩)
      refine ⟨b', om', tr', ta, be', e1, e2.congr (fun v => ⟨fun z => ?_, fun z => ?_⟩), e3, e4, fun _ _ => rfl⟩
      · rcases z with z | z
        · exact Or.inl z
        · subst z; exact Or.inr ⟨hp, hpm, [], rfl⟩
      · rcases z with z | ⟨z1, z2, e, z3⟩
        · exact Or.inl z
        · subst z3
          have : e = [] := List.eq_nil_of_length_eq_zero (by simp at z2; omega)
          subst this
          exact Or.inr rfl
    · rw [if_neg (fun q => hpm (nI_inj (by omega) (by omega) q))]
      have loop : ∀ (j t f : Nat) (V : List Nat → Prop) (b : Option (List Nat)) (om tr ta be : Nat → Int32), t + j = T → j < f → (∀ i, i < p.length → ta i = nI (rwl p i)) → BST tot V b → MB tot b om be → (∀ v, V v → okl T j0 v ∧ v.length ≤ m ∧ (v.length = m → cdl v / 4 ^ (m - (p.length + 1)) < 4 * cdl p + t)) →
          ∃ b' om' tr' ta' be', fX10_tryTales_L56 n (fX10_tryTales n d) (nI p.length) (nI m) (nI (usl j0 p)) r q0.2.2.2 (fun a1 a2 a3 a4 => some (a1, a2, a3, a4)) f (nI t) om tr ta be = some (om', tr', ta', be') ∧ BST tot (fun v => V v ∨ (okl T j0 v ∧ v.length = m ∧ ∃ e t', t ≤ t' ∧ v = e ++ t' :: p)) b' ∧ MB tot b' om' be' ∧ (∀ k, k ≠ 22 → k ≠ 24 → k ≠ 28 → k ≠ 29 → om' k = om k) ∧ (∀ i, i < p.length → ta' i = ta i) := by
        intro j
        induction j with
        | zero =>
          intro t f V b om tr ta be ht hf hta hB hC hV
          obtain ⟨u, rfl⟩ : ∃ u, f = u + 1 := ⟨f - 1, by omega⟩
          refine ⟨b, om, tr, ta, be, by rw [fX10_tryTales_L56, e6, if_pos (nI_le (by omega) (by omega))], hB.congr (fun v => ⟨Or.inl, fun z => ?_⟩), hC, fun _ _ _ _ _ => rfl, fun _ _ => rfl⟩
          rcases z with z | ⟨z, -, e, t', h1, h2⟩
          · exact z
          · rw [h2] at z
            have := (okl_app z).2.1
            omega
        | succ j ihj =>
          intro t f V b om tr ta be ht hf hta hB hC hV
          obtain ⟨u, rfl⟩ : ∃ u, f = u + 1 := ⟨f - 1, by omega⟩
          rw [fX10_tryTales_L56, e6, if_neg (nI_ge (by omega) (by omega)), hasBitS n _ (by omega), ob1_ss]
          by_cases hbit : usl j0 p / 2 ^ t % 2 = 0
          · have hokt : okl T j0 (t :: p) := ⟨hp, by omega, hbit⟩
            have hnb : ¬ bt (nI (usl j0 p)) t = true := fun q => by
              have := (bit_bt _ (by omega) t (by omega)).mp q
              omega
            rw [if_neg hnb, if_pos i00, if_neg (ckI (k := p.length) (by omega) (by omega)), clI (k := p.length) (by omega), bit_or _ (by omega) t (by omega) hbit, sI, sI]
            obtain ⟨b', om', tr', ta', be', z1, z2, z3, z4, z5⟩ := ih (t :: p) V b om tr (upd ta p.length (nI t)) be hokt (by simp; omega) (by simp; omega) (fun i hi => by
              simp only [List.length_cons] at hi
              rw [rwl]
              by_cases e : i = p.length
              · rw [if_pos e, e, upd_s]
              · rw [if_neg e, upd_n _ _ e]; exact hta i (by omega)) hB hC (fun v hv => ⟨(hV v hv).1, (hV v hv).2.1, fun q => by
              have := (hV v hv).2.2 q
              rw [cdl]; exact this⟩)
            have z1' : fX10_tryTales n d (nI (p.length + 1)) (nI m) (nI (usl j0 p + 2 ^ t)) om r q0.2.2.2 tr (upd ta p.length (nI t)) be = some (om', tr', ta', be') := z1
            rw [z1', ob4_ss]
            have ta1 : ∀ i, i < p.length → ta' i = ta i := fun i hi => by rw [z5 i (by simp; omega), upd_n _ _ (by omega)]
            obtain ⟨b2, om2, tr2, ta2, be2, x1, x2, x3, x4, x5⟩ := ihj (t + 1) u (fun v => V v ∨ (okl T j0 v ∧ v.length = m ∧ ∃ e, v = e ++ (t :: p))) b' om' tr' ta' be' (by omega) (by omega) (fun i hi => by rw [ta1 i hi]; exact hta i hi) z2 z3 (fun v hv => by
              rcases hv with hv | ⟨hv, hvm, e, he⟩
              · refine ⟨(hV v hv).1, (hV v hv).2.1, fun q => ?_⟩
                have := (hV v hv).2.2 q
                omega
              · refine ⟨hv, by omega, fun q => ?_⟩
                subst he
                have ca := cdl_app hT4 hv
                have le : m - (p.length + 1) = e.length := by simp at hvm; omega
                rw [le, ca, cdl]
                omega)
            refine ⟨b2, om2, tr2, ta2, be2, x1, x2.congr (fun v => ⟨fun z => ?_, fun z => ?_⟩), x3, fun k h1 h2 h3 h4 => (x4 k h1 h2 h3 h4).trans (z4 k h1 h2 h3 h4), fun i hi => (x5 i hi).trans (ta1 i hi)⟩
            · rcases z with (z | ⟨z, zm, e, he⟩) | ⟨z, zm, e, t', h1, h2⟩
              · exact Or.inl z
              · exact Or.inr ⟨z, zm, e, t, Nat.le_refl _, he⟩
              · exact Or.inr ⟨z, zm, e, t', by omega, h2⟩
            · rcases z with z | ⟨z, zm, e, t', h1, h2⟩
              · exact Or.inl (Or.inl z)
              · by_cases ett : t' = t
                · subst ett; exact Or.inl (Or.inr ⟨z, zm, e, h2⟩)
                · exact Or.inr ⟨z, zm, e, t', by omega, h2⟩
          · have hyb : bt (nI (usl j0 p)) t = true := (bit_bt _ (by omega) t (by omega)).mpr (by omega)
            rw [if_pos hyb, if_neg i10, sI]
            obtain ⟨b2, om2, tr2, ta2, be2, x1, x2, x3, x4, x5⟩ := ihj (t + 1) u V b om tr ta be (by omega) (by omega) hta hB hC (fun v hv => ⟨(hV v hv).1, (hV v hv).2.1, fun q => by have := (hV v hv).2.2 q; omega⟩)
            refine ⟨b2, om2, tr2, ta2, be2, x1, x2.congr (fun v => ⟨fun z => ?_, fun z => ?_⟩), x3, x4, x5⟩
            · rcases z with z | ⟨z, zm, e, t', h1, h2⟩
              · exact Or.inl z
              · exact Or.inr ⟨z, zm, e, t', by omega, h2⟩
            · rcases z with z | ⟨z, zm, e, t', h1, h2⟩
              · exact Or.inl z
              · by_cases ett : t' = t
                · subst ett
                  rw [h2] at z
                  exact absurd (okl_app z).2.2 hbit
                · exact Or.inr ⟨z, zm, e, t', by omega, h2⟩
      obtain ⟨b2, om2, tr2, ta2, be2, x1, x2, x3, x4, x5⟩ := loop T 0 n V b om tr ta be (by omega) (by omega) hta hB hC (fun v hv => ⟨(hV v hv).1, (hV v hv).2.1, fun q => by
        have h1 := (hV v hv).2.2 q
        have e : 4 ^ (m - p.length) = 4 ^ (m - (p.length + 1)) * 4 := by rw [← Nat.pow_succ]; exact congrArg (fun z => 4 ^ z) (by omega)
        rw [e, ← Nat.div_div_eq_div_mul] at h1
        omega⟩)
      refine ⟨b2, om2, tr2, ta2, be2, x1, x2.congr (fun v => ⟨fun z => ?_, fun z => ?_⟩), x3, x4, x5⟩
      · rcases z with z | ⟨z, zm, e, t', h1, h2⟩
        · exact Or.inl z
        · exact Or.inr ⟨z, zm, e ++ [t'], by rw [h2]; simp⟩
      · rcases z with z | ⟨z, zm, e, he⟩
        · exact Or.inl z
        · rcases app_split (p := p) e with w | ⟨e', t, w⟩
          · subst w; subst he; exact absurd zm hpm
          · exact Or.inr ⟨z, zm, e', t, by omega, he.trans w⟩
theorem seekS {n G D T N S c j0 : Nat} (hn : 100 ≤ n) {X : Nat → Nat → Int32} {r : Nat → Int32} (hX : HX G D T N S X r) (hj : j0 < 2 ^ T) {po : Nat → Int32} (hpo : po 0 = 0) {q0 : Q4} (hN : NR G q0.1 q0.2.1 q0.2.2.1 q0.2.2.2) (hc : q0.2.2.2 14 = nI c) (hcb : c ≤ 500) (h16 : q0.2.2.2 16 = nI j0) {tot : List Nat → Nat} (htot : ∀ p, tot p = totv (hrs r p) (VT n G X r po q0 p)) (om tr ta be : Nat → Int32) :
    ∃ b om' tr' ta' be', fX10_seekTales n om r q0.2.2.2 tr ta be = some ((if b = none then 0 else 1), om', tr', ta', be') ∧ BST tot (okl T j0) b ∧ MB tot b om' be' ∧ (∀ k, k ≠ 22 → k ≠ 24 → k ≠ 28 → k ≠ 29 → om' k = om k) := by
  have hT4 : T ≤ 4 := hX.2.2.1
  have e6 : r 6 = nI T := hX.2.2.2.2.2.2.2.2.2.2.1
  have hp := pop_le T hT4 j0 hj
  have hp16 := pow4 T hT4
  have on := onesS (n := n) (by omega) j0 (by omega)
  have loop : ∀ (j m f : Nat) (b : Option (List Nat)) (om tr ta be : Nat → Int32), m + j = T - pop j0 + 1 → j < f → BST tot (fun v => okl T j0 v ∧ v.length < m) b → MB tot b om be →
      ∃ b' om' tr' ta' be', fX10_seekTales_L9 n r q0.2.2.2 (fun o a b c => if 1000000 ≤ o 29 then some (0, o, a, b, c) else some (1, o, a, b, c)) f (nI m) om tr ta be = (if 1000000 ≤ om' 29 then some (0, om', tr', ta', be') else some (1, om', tr', ta', be')) ∧ BST tot (okl T j0) b' ∧ MB tot b' om' be' ∧ (∀ k, k ≠ 22 → k ≠ 24 → k ≠ 28 → k ≠ 29 → om' k = om k) := by
    intro j
    induction j with
    | zero =>
      intro m f b om tr ta be hm hf hB hC
      obtain ⟨u, rfl⟩ : ∃ u, f = u + 1 := ⟨f - 1, by omega⟩
      refine ⟨b, om, tr, ta, be, by rw [fX10_seekTales_L9, h16, on, ob1_ss, e6, pk_sub hp, if_pos (nI_lt (by omega) (by omega))], hB.congr (fun v => ⟨fun z => z.1, fun z => ⟨z, ?_⟩⟩), hC, fun _ _ _ _ _ => rfl⟩
      have := okl_len hT4 hj z
      omega
    | succ j ih =>
      intro m f b om tr ta be hm hf hB hC
      obtain ⟨u, rfl⟩ : ∃ u, f = u + 1 := ⟨f - 1, by omega⟩
      rw [fX10_seekTales_L9, h16, on, ob1_ss, e6, pk_sub hp, if_neg (nI_nlt (by omega) (by omega)), sI]
      obtain ⟨b', om', tr', ta', be', z1, z2, z3, z4, -⟩ := tryS hn hX hj hpo hN hc hcb htot (show m ≤ 4 by omega) 10 [] (fun v => okl T j0 v ∧ v.length < m) b om tr ta be trivial (Nat.zero_le _) (by simp) (fun i hi => absurd hi (Nat.not_lt_zero i)) hB hC (fun v hv => ⟨hv.1, by omega, fun q => by omega⟩)
      have z1' : fX10_tryTales n 10 0 (nI m) (nI j0) om r q0.2.2.2 tr ta be = some (om', tr', ta', be') := z1
      rw [z1', ob4_ss]
      obtain ⟨b2, om2, tr2, ta2, be2, x1, x2, x3, x4⟩ := ih (m + 1) u b' om' tr' ta' be' (by omega) (by omega) (z2.congr (fun v => ⟨fun z => by
        rcases z with z | ⟨z1, z2, -⟩
        · exact ⟨z.1, by omega⟩
        · exact ⟨z1, by omega⟩, fun z => by
        by_cases q : v.length < m
        · exact Or.inl ⟨z.1, q⟩
        · exact Or.inr ⟨z.1, by omega, v, by simp⟩⟩)) z3
      exact ⟨b2, om2, tr2, ta2, be2, x1, x2, x3, fun k h1 h2 h3 h4 => (x4 k h1 h2 h3 h4).trans (z4 k h1 h2 h3 h4)⟩
  obtain ⟨b, om', tr', ta', be', x1, x2, x3, x4⟩ := loop (T - pop j0 + 1) 0 n none (upd om 29 1000000) tr ta be (by omega) (by omega) (fun q hq => absurd hq.2 (Nat.not_lt_zero _)) (upd_s _ _ _)
  refine ⟨b, om', tr', ta', be', ?_, x2, x3, fun k h1 h2 h3 h4 => (x4 k h1 h2 h3 h4).trans (upd_n _ _ h4)⟩
  rw [fX10_seekTales]
  refine (show _ = _ from x1).trans ?_
  cases b with
  | none =>
    have : om' 29 = 1000000 := x3
    rw [this, if_pos (Int32.le_refl _), if_pos rfl]
  | some b =>
    have h1 := x3.1
    have h2 := x2.2.1
    rw [h1, if_neg (show ¬ (1000000 : Int32) ≤ nI (tot b) from nI_ge (b := 1000000) (by omega) (by omega)), if_neg (by simp)]
/-- what the class remembers of the tales is what the reference finds -/
theorem tale_cache {n G D T N S c j0 : Nat} (hn : 100 ≤ n) {X : Nat → Nat → Int32} {r : Nat → Int32} (hX : HX G D T N S X r) (hj : j0 < 2 ^ T) {po : Nat → Int32} (hpo : po 0 = 0) {q0 : Q4} (hN : NR G q0.1 q0.2.1 q0.2.2.1 q0.2.2.2) (hc : q0.2.2.2 14 = nI c) (hcb : c ≤ 500) (h16 : q0.2.2.2 16 = nI j0) {tot : List Nat → Nat} (htot : ∀ p, tot p = totv (hrs r p) (VT n G X r po q0 p)) {b : Option (List Nat)} {o br : Nat → Int32} (hB : BST tot (okl T j0) b) (hC : CB tot b o br) : TC n (upd o 0 1) br r q0.2.2.2 := by
  refine ⟨Or.inr (upd_s _ _ _), fun _ om tr ta be => ?_⟩
  obtain ⟨b', om', tr', ta', be', e1, e2, e3, e4⟩ := seekS hn hX hj hpo hN hc hcb h16 htot om tr ta be
  have e := hB.uniq hX.2.2.1 hj e2 (fun _ h => h)
  subst e
  refine ⟨_, om', tr', ta', be', e1, e4, ?_⟩
  cases b with
  | none => exact Or.inl ⟨rfl, by rw [upd_n _ _ (by decide)]; exact hC.1⟩
  | some b =>
    have := okl_len hX.2.2.1 hj hB.1
    have hT4 := hX.2.2.1
    refine Or.inr ⟨rfl, tot b, b.length, hB.2.1, by omega, by rw [upd_n _ _ (by decide)]; exact hC.1, e3.1, by rw [upd_n _ _ (by decide)]; exact hC.2.1, e3.2.1, fun i hi => by rw [e3.2.2 i hi, hC.2.2 i hi]⟩
theorem told_num {T : Nat} (hT : T ≤ 4) {x : Int32} (h : ∀ i, T ≤ i → i < 32 → bt x i = false) : ∃ j0, j0 < 2 ^ T ∧ x = nI j0 := by
  obtain ⟨J, hJ, eJ⟩ := small7 (x := x) (fun i h1 h2 => h i (by omega) h2)
  exact ⟨J, lt_two T (by omega) J hJ (fun i h1 h2 => by rw [← eJ]; exact h i h2 h1), eJ⟩
theorem searchT {n G D T N S : Nat} (hn : 100 ≤ n) {X M : Nat → Nat → Int32} (hB : NOW G D T N S X M) {o br row t0 tw tl tv : Nat → Int32} {O F6 F7 F8 : Nat → Nat → Int32} (hT : TC n o br (M 15) (M 17)) :
    ∃ o' br' row' O' F6' F7' F8' q1 q2 q3 q4, fX6_search n o br row O F6 F7 F8 t0 tw tl tv (X 5) (X 6) (X 8) (X 9) (X 10) (X 11) (X 12) (X 13) (X 14) (X 37) (X 38) (X 39) (X 45) = some (o', br', row', O', F6', F7', F8', q1, q2, q3, q4, X 45) ∧ TC n o' br' (M 15) (M 17) ∧ o' 0 = 1 := by
  rcases hT.1 with h0 | h1
  · have hX := hB.2.2.2.2.1
    obtain ⟨c0, hc1, hc2⟩ := hB.clock
    have hL := hB.2.2.2.2.2
    obtain ⟨j0, hj, ej⟩ := told_num hX.2.2.1 hL.2.2.2.1
    have o3 : X 37 3 = nI j0 := hL.2.2.1.trans ej
    obtain ⟨b', o', br', row', O', F6', F7', F8', q1, q2, q3, q4, z1, z2, z3, z4, z5, z6⟩ := extS (n := n) hn hX hj hB.2.2.1 (q0 := (X 37, X 38, X 39, M 17)) hB.nr hc2 (by omega) (tot := fun p => totv (hrs (M 15) p) (VT n G X (M 15) (X 45) (X 37, X 38, X 39, M 17) p)) (fun _ => rfl) 10 [] (fun _ => False) none (upd (upd o 1 61) 2 0) br row t0 tw tl tv (va_up O 0 (upd (upd (upd (upd (O 0) 0 (X 37 0)) 1 (X 37 1)) 2 (X 37 2)) 3 (X 37 3))) (va_up F6 0 (va_cpy (X 38) (F6 0) 0 0 7)) (va_up F7 0 (va_cpy (X 39) (F7 0) 0 0 7)) F8 trivial (by simp) (hB.nr.cg hX.1.1 rfl rfl rfl (fun g hg => cpy_lo (by have := hX.1.1; omega)) (fun g hg => cpy_lo (by have := hX.1.1; omega)) (fun _ _ => rfl)) o3 (fun i hi => absurd hi (Nat.not_lt_zero i)) (fun q hq => hq.elim) ⟨rfl, rfl⟩ (fun v hv => hv.elim)
    refine ⟨upd o' 0 1, br', row', O', F6', F7', F8', q1, q2, q3, q4, ?_, tale_cache hn hX hj hB.2.2.1 (q0 := (X 37, X 38, X 39, M 17)) hB.nr hc2 (by omega) ej (fun _ => rfl) (z2.congr (fun v => ⟨fun z => z.elim False.elim (fun z => z.1), fun z => Or.inr ⟨z, v, by simp⟩⟩)) z3, upd_s _ _ _⟩
    rw [fX6_search, if_pos h0, become_eq, ob3_ss]
    refine (congrArg (fun z => ob12 z _) (show fX6_extend n 10 0 0 _ _ _ _ _ _ _ _ _ _ _ _ _ _ _ _ _ _ _ _ _ = _ from z1)).trans ?_
    rfl
  · exact ⟨o, br, row, O, F6, F7, F8, t0, tw, tl, tv, by rw [fX6_search, h1, if_neg i10], hT, h1⟩
