/-! without whom it ends in time -/
theorem sub_pop : ∀ J, J < 128 → ∀ k, k < 128 → (nI k &&& (nI J ^^^ (-1 : Int32))) = 0 → k ≤ J ∧ (k ≠ J → pop k < pop J) := by decide +kernel
theorem self_sub : ∀ J, J < 128 → (nI J &&& (nI J ^^^ (-1 : Int32))) = 0 := by decide +kernel
theorem two_G : ∀ G, G ≤ 7 → ((1 : Int32) <<< (nI G &&& 31)) = nI (2 ^ G) := by decide +kernel
theorem lt_two : ∀ G, G ≤ 7 → ∀ J, J < 128 → (∀ i, i < 32 → G ≤ i → bt (nI J) i = false) → J < 2 ^ G := by decide +kernel
theorem pow7 : ∀ G, G ≤ 7 → 2 ^ G ≤ 128 := by decide +kernel
/-- in time: what both say of a number of hours -/
theorem intime {n H : Nat} (hH : H ≤ 60) {v : Option Nat} (hv : ∀ e, v = some e → e ≤ 60) : (∃ e, e ≤ H ∧ v = some e ∧ ¬ nI H < encR H v ∧ fX10_in n (encE v) 0 (nI H) = some 1) ∨ ((∀ e, v = some e → ¬ e ≤ H) ∧ nI H < encR H v ∧ fX10_in n (encE v) 0 (nI H) = some 0) := by
  have l61 : (61 : Int32) = nI 61 := rfl
  cases v with
  | none => exact Or.inr ⟨fun e h => (nomatch h), by rw [encR, l61]; exact nI_lt (by omega) (by omega), by rw [encE, fX10_in, if_pos (by decide)]⟩
  | some e =>
    have he := hv e rfl
    by_cases hle : e ≤ H
    · exact Or.inl ⟨e, hle, rfl, by rw [encR, if_pos hle]; exact nI_nlt hle (by omega), by rw [encE, fX10_in, if_neg (nI_pos (by omega)), if_neg (nI_nlt hle (by omega))]⟩
    · exact Or.inr ⟨fun e' h => by rw [← Option.some.inj h]; exact hle, by rw [encR, if_neg hle, l61]; exact nI_lt (by omega) (by omega), by rw [encE, fX10_in, if_neg (nI_pos (by omega)), if_pos (nI_lt (by omega) (by omega))]⟩
theorem without1 {n G D H J : Nat} (hn : 300 ≤ n) {ho kind sinks mate dg dr dm r : Nat → Int32} (hH : HR G D ho kind sinks mate dg dr dm r) {po : Nat → Int32} (hH6 : H ≤ 60) {o w la st : Nat → Int32} {V : Nat → Option Nat} (hV : ∀ s, s < 128 → (nI s &&& (nI J ^^^ (-1 : Int32))) = 0 → (∀ e, V s = some e → e ≤ 60) ∧ (∀ h, h ≤ 60 → ∀ oo t0 tw tl twl, ∃ o' w' la' wl', fX9_endsLess n (nI s) (nI h) oo ho kind sinks mate dg dr dm o w la t0 tw tl twl po = some (encR h (V s), o', w', la', wl', po)) ∧ (∀ om tr, ∃ om' tr', fX10_endsIf n (nI s) om r st tr = some (encE (V s), om', tr') ∧ ∀ k, k ≠ 22 → k ≠ 24 → om' k = om k)) (hJ : J < 128) (hJG : J < 2 ^ G) (ho1 : o 1 = nI J) (oo : Nat → Int32) (K1 : Int32 → (Nat → Int32) → (Nat → Int32) → (Nat → Int32) → (Nat → Int32) → (Nat → Int32) → Option (Int32 × (Nat → Int32) × (Nat → Int32) × (Nat → Int32) × (Nat → Int32) × (Nat → Int32) × (Nat → Int32))) (K2 : Int32 → (Nat → Int32) → (Nat → Int32) → Option (Int32 × (Nat → Int32) × (Nat → Int32))) :
    ∀ (j k f1 f2 a : Nat) (t0 tw tl twl om tr : Nat → Int32), k + j = J → j < f1 → j < f2 → a < 128 → (a = J ∨ (a < k ∧ (nI a &&& (nI J ^^^ (-1 : Int32))) = 0)) → (∀ s, s < k → (nI s &&& (nI J ^^^ (-1 : Int32))) = 0 → (∃ e, V s = some e ∧ e ≤ H) → pop a ≤ pop s ∧ (pop s = pop a → a ≤ s)) →
      ∃ a' f' o' w' la' wl' om' tr', a' < 128 ∧ (a' = J ∨ (nI a' &&& (nI J ^^^ (-1 : Int32))) = 0) ∧ a' ≤ J ∧ pop a' ≤ pop J ∧ f' + j = f2 ∧ (∀ s, s < J → (nI s &&& (nI J ^^^ (-1 : Int32))) = 0 → (∃ e, V s = some e ∧ e ≤ H) → pop a' ≤ pop s ∧ (pop s = pop a' → a' ≤ s)) ∧
        fX9_without_L30 n (nI H) oo ho kind sinks mate dg dr dm o w la K1 f1 (nI a) (nI k) t0 tw tl twl po = K1 (nI a') o' w' la' wl' po ∧ fX10_without_L47 n (nI H) (nI J) r st K2 f2 (nI a) (nI k) om tr = fX10_without_L47 n (nI H) (nI J) r st K2 f' (nI a') (nI J) om' tr' ∧ (∀ k, k ≠ 22 → k ≠ 24 → om' k = om k) := by
  have hG : G ≤ 7 := hH.1
  have h2G := pow7 G hG
  intro j
  induction j with
  | zero =>
    intro k f1 f2 a t0 tw tl twl om tr hk hf1 hf2 ha hor hinv
    obtain ⟨u1, rfl⟩ : ∃ u, f1 = u + 1 := ⟨f1 - 1, by omega⟩
    have e : k = J := by omega
    subst e
    have haJ : a ≤ k ∧ pop a ≤ pop k := by
      rcases hor with z | ⟨z1, z2⟩
      · subst z; exact ⟨Nat.le_refl _, Nat.le_refl _⟩
      · have := sub_pop k hJ a ha z2
        exact ⟨this.1, Nat.le_of_lt (this.2 (by omega))⟩
    refine ⟨a, f2, t0, tw, tl, twl, om, tr, ha, ?_, haJ.1, haJ.2, by omega, hinv, by rw [fX9_without_L30, ho1, if_pos (nI_le (by omega) (by omega))], rfl, fun _ _ _ => rfl⟩
    rcases hor with z | ⟨z1, z2⟩
    · exact Or.inl z
    · exact Or.inr z2
  | succ j ih =>
    intro k f1 f2 a t0 tw tl twl om tr hk hf1 hf2 ha hor hinv
    obtain ⟨u1, rfl⟩ : ∃ u, f1 = u + 1 := ⟨f1 - 1, by omega⟩
    obtain ⟨u2, rfl⟩ : ∃ u, f2 = u + 1 := ⟨f2 - 1, by omega⟩
    have hor' : a = J ∨ (a < k + 1 ∧ (nI a &&& (nI J ^^^ (-1 : Int32))) = 0) := by
      rcases hor with z | ⟨z1, z2⟩
      · exact Or.inl z
      · exact Or.inr ⟨by omega, z2⟩
    rw [fX9_without_L30, ho1, if_neg (nI_ge (by omega) (by omega)), bitCountS n k (by omega), ob1_ss, bitCountS n a ha, ob1_ss, fX10_without_L47, hH.2.2.1, two_G G hG, if_neg (nI_ge (by omega) (by omega)), sI]
    dsimp only [jn]
    have hpa := pop7 a ha
    have hpk := pop7 k (by omega)
    by_cases hsub : (nI k &&& (nI J ^^^ (-1 : Int32))) = 0
    · rw [if_pos hsub, if_pos hsub, onesS (by omega) k (by omega), ob1_ss, onesS (by omega) a ha, ob1_ss]
      by_cases hle : pop a ≤ pop k
      · rw [if_pos (nI_le hle (by omega)), if_pos i00, if_pos (nI_le hle (by omega))]
        obtain ⟨a', f', o', w', la', wl', om', tr', z1, z2, z3, z4, z5, z6, z7, z8, z9⟩ := ih (k + 1) u1 u2 a t0 tw tl twl om tr (by omega) (by omega) (by omega) ha hor' (fun s hs h1 h2 => by
          by_cases e : s = k
          · subst e
            refine ⟨hle, fun q => ?_⟩
            rcases hor with z | ⟨z1, z2⟩
            · subst z
              have := (sub_pop a hJ s (by omega) hsub).2 (by omega)
              omega
            · omega
          · exact hinv s (by omega) h1 h2)
        exact ⟨a', f', o', w', la', wl', om', tr', z1, z2, z3, z4, by omega, z6, z7, z8, z9⟩
      · rw [if_neg (nI_ge (by omega) (by omega)), if_neg i10, if_neg (nI_ge (by omega) (by omega))]
        obtain ⟨hv, cls, mdl⟩ := hV k (by omega) hsub
        obtain ⟨o1, w1, la1, wl1, e1⟩ := cls H hH6 oo t0 tw tl twl
        obtain ⟨om1, tr1, e2, e3⟩ := mdl om tr
        rw [e1, ob6_ss, e2, ob3_ss]
        rcases intime (n := n) hH6 hv with ⟨e, he, ev, t1, t2⟩ | ⟨ev, t1, t2⟩
        · rw [if_neg t1, t2, ob1_ss, if_neg i10]
          obtain ⟨a', f', o', w', la', wl', om', tr', z1, z2, z3, z4, z5, z6, z7, z8, z9⟩ := ih (k + 1) u1 u2 k o1 w1 la1 wl1 om1 tr1 (by omega) (by omega) (by omega) (by omega) (Or.inr ⟨by omega, hsub⟩) (fun s hs h1 h2 => by
            by_cases q : s = k
            · subst q; exact ⟨Nat.le_refl _, fun _ => Nat.le_refl _⟩
            · have := (hinv s (by omega) h1 h2).1
              exact ⟨by omega, fun q => absurd q (by omega)⟩)
          exact ⟨a', f', o', w', la', wl', om', tr', z1, z2, z3, z4, by omega, z6, z7, z8, fun k k1 k2 => (z9 k k1 k2).trans (e3 k k1 k2)⟩
        · rw [if_pos t1, t2, ob1_ss, if_pos i00]
          obtain ⟨a', f', o', w', la', wl', om', tr', z1, z2, z3, z4, z5, z6, z7, z8, z9⟩ := ih (k + 1) u1 u2 a o1 w1 la1 wl1 om1 tr1 (by omega) (by omega) (by omega) ha hor' (fun s hs h1 h2 => by
            by_cases q : s = k
            · subst q
              obtain ⟨e, x1, x2⟩ := h2
              exact absurd x2 (ev e x1)
            · exact hinv s (by omega) h1 h2)
          exact ⟨a', f', o', w', la', wl', om', tr', z1, z2, z3, z4, by omega, z6, z7, z8, fun k k1 k2 => (z9 k k1 k2).trans (e3 k k1 k2)⟩
    · rw [if_neg hsub, if_neg hsub]
      have nx := ih (k + 1) u1 u2 a t0 tw tl twl om tr (by omega) (by omega) (by omega) ha hor' (fun s hs h1 h2 => by
        by_cases q : s = k
        · subst q; exact absurd h1 hsub
        · exact hinv s (by omega) h1 h2)
      obtain ⟨a', f', o', w', la', wl', om', tr', z1, z2, z3, z4, z5, z6, z7, z8, z9⟩ := nx
      refine ⟨a', f', o', w', la', wl', om', tr', z1, z2, z3, z4, by omega, z6, ?_, z8, z9⟩
      rw [← z7]
      by_cases hle : nI (pop a) ≤ nI (pop k)
      · rw [if_pos hle, if_pos i00]
      · rw [if_neg hle, if_neg i10]
theorem without2 {n G D H J : Nat} (hn : 300 ≤ n) {ho kind sinks mate dg dr dm r : Nat → Int32} (hH : HR G D ho kind sinks mate dg dr dm r) {st : Nat → Int32} (hJ : J < 128) (K2 : Int32 → (Nat → Int32) → (Nat → Int32) → Option (Int32 × (Nat → Int32) × (Nat → Int32))) {a : Nat} (ha : a < 128) (hp : pop a ≤ pop J) (om tr : Nat → Int32) :
    ∀ (j k f : Nat), k + j = 2 ^ G → J ≤ k → j < f → fX10_without_L47 n (nI H) (nI J) r st K2 f (nI a) (nI k) om tr = K2 (nI a) om tr := by
  have hG : G ≤ 7 := hH.1
  have h2G := pow7 G hG
  intro j
  induction j with
  | zero =>
    intro k f hk hJk hf
    obtain ⟨u, rfl⟩ : ∃ u, f = u + 1 := ⟨f - 1, by omega⟩
    rw [fX10_without_L47, hH.2.2.1, two_G G hG, if_pos (nI_le (by omega) (by omega))]
  | succ j ih =>
    intro k f hk hJk hf
    obtain ⟨u, rfl⟩ : ∃ u, f = u + 1 := ⟨f - 1, by omega⟩
    rw [fX10_without_L47, hH.2.2.1, two_G G hG, if_neg (nI_ge (by omega) (by omega)), sI]
    have nx := ih (k + 1) u (by omega) (by omega) (by omega)
    by_cases hsub : (nI k &&& (nI J ^^^ (-1 : Int32))) = 0
    · have := (sub_pop J hJ k (by omega) hsub).1
      have e : k = J := by omega
      subst e
      have hpk := pop7 k hJ
      rw [if_pos hsub, onesS (by omega) k (by omega), ob1_ss, onesS (by omega) a ha, ob1_ss, if_pos (nI_le hp (by omega))]
      exact nx
    · rw [if_neg hsub]; exact nx
theorem without3 {n G D H J : Nat} (hn : 300 ≤ n) {ho kind sinks mate dg dr dm r : Nat → Int32} (hH : HR G D ho kind sinks mate dg dr dm r) {po : Nat → Int32} (hH6 : H ≤ 60) {o w la st : Nat → Int32} {V : Nat → Option Nat} (hV : ∀ s, s < 128 → (nI s &&& (nI J ^^^ (-1 : Int32))) = 0 → (∀ e, V s = some e → e ≤ 60) ∧ (∀ h, h ≤ 60 → ∀ oo t0 tw tl twl, ∃ o' w' la' wl', fX9_endsLess n (nI s) (nI h) oo ho kind sinks mate dg dr dm o w la t0 tw tl twl po = some (encR h (V s), o', w', la', wl', po)) ∧ (∀ om tr, ∃ om' tr', fX10_endsIf n (nI s) om r st tr = some (encE (V s), om', tr') ∧ ∀ k, k ≠ 22 → k ≠ 24 → om' k = om k)) (hJ : J < 128) {a : Nat} (ha : a < 128) (haJ : a ≤ J) (hinv : ∀ s, s < J → (nI s &&& (nI J ^^^ (-1 : Int32))) = 0 → (∃ e, V s = some e ∧ e ≤ H) → pop a ≤ pop s ∧ (pop s = pop a → a ≤ s)) (K3 : (Nat → Int32) → (Nat → Int32) → Option (Int32 × (Nat → Int32) × (Nat → Int32))) :
    ∀ (j k f : Nat) (om tr : Nat → Int32), k + j = a → j < f → ∃ om' tr', fX10_leastLike_L12 n (nI a) (nI H) (nI J) r st K3 f (nI k) om tr = K3 om' tr' ∧ (∀ k, k ≠ 22 → k ≠ 24 → om' k = om k) := by
  intro j
  induction j with
  | zero =>
    intro k f om tr hk hf
    obtain ⟨u, rfl⟩ : ∃ u, f = u + 1 := ⟨f - 1, by omega⟩
    exact ⟨om, tr, by rw [fX10_leastLike_L12, if_pos (nI_le (by omega) (by omega))], fun _ _ _ => rfl⟩
  | succ j ih =>
    intro k f om tr hk hf
    obtain ⟨u, rfl⟩ : ∃ u, f = u + 1 := ⟨f - 1, by omega⟩
    rw [fX10_leastLike_L12, if_neg (nI_ge (by omega) (by omega)), sI]
    by_cases hsub : (nI k &&& (nI J ^^^ (-1 : Int32))) = 0
    · have hpa := pop7 a ha
      have hpk := pop7 k (by omega)
      rw [if_pos hsub, onesS (by omega) k (by omega), ob1_ss, onesS (by omega) a ha, ob1_ss]
      by_cases hp : pop k = pop a
      · rw [if_pos (congrArg nI hp)]
        obtain ⟨hv, cls, mdl⟩ := hV k (by omega) hsub
        obtain ⟨om1, tr1, e2, e3⟩ := mdl om tr
        rw [e2, ob3_ss]
        rcases intime (n := n) hH6 hv with ⟨e, he, ev, t1, t2⟩ | ⟨ev, t1, t2⟩
        · have := (hinv k (by omega) hsub ⟨e, ev, he⟩).2 hp
          omega
        · rw [t2, ob1_ss, if_pos i00]
          obtain ⟨om', tr', q1, q2⟩ := ih (k + 1) u om1 tr1 (by omega) (by omega)
          exact ⟨om', tr', q1, fun k k1 k2 => (q2 k k1 k2).trans (e3 k k1 k2)⟩
      · rw [if_neg (fun q => hp (nI_inj (by omega) (by omega) q))]
        exact ih (k + 1) u om tr (by omega) (by omega)
    · rw [if_neg hsub]
      exact ih (k + 1) u om tr (by omega) (by omega)
theorem without_lock {n G D c H : Nat} (hn : 300 ≤ n) {ho kind sinks mate dg dr dm r : Nat → Int32} (hH : HR G D ho kind sinks mate dg dr dm r) {po : Nat → Int32} (hpo : po 0 = 0) (hH6 : H ≤ 60) {o w la st : Nat → Int32} (hN : NR G o w la st) (hS : SET G D o w kind dg dr dm) (hc : st 14 = nI c) (hcb : c ≤ 1000) (oo t0 tw tl twl om tr : Nat → Int32) :
    ∃ R o' w' la' wl' om' tr', fX9_without_L30 n (nI H) oo ho kind sinks mate dg dr dm o w la (fun x o w l v p => some (x, oo, o, w, l, v, p)) n (o 1) 0 t0 tw tl twl po = some (R, oo, o', w', la', wl', po) ∧
      fX10_without_L47 n (nI H) (o 1) r st (fun x o1 a => ob3 (fX10_leastLike n x (nI H) o1 r st a) (fun u v w => some (u, v, w))) n (o 1) 0 om tr = some (R, om', tr') ∧ (∀ k, k ≠ 22 → k ≠ 24 → om' k = om k) := by
  have hG : G ≤ 7 := hH.1
  have h2G := pow7 G hG
  obtain ⟨J, hJ, eJ⟩ := small7 (x := o 1) (fun i h1 h2 => hN.2.2.2.2.2.2.2 i (by omega) h2)
  have hJG : J < 2 ^ G := lt_two G hG J hJ (fun i h1 h2 => by rw [← eJ]; exact hN.2.2.2.2.2.2.2 i h2 h1)
  have key : ∀ s : Nat, (nI s &&& (nI J ^^^ (-1 : Int32))) = 0 → ∃ v : Option Nat, (∀ e, v = some e → e ≤ 60) ∧ (∀ h, h ≤ 60 → ∀ oo t0 tw tl twl, ∃ o' w' la' wl', fX9_endsLess n (nI s) (nI h) oo ho kind sinks mate dg dr dm o w la t0 tw tl twl po = some (encR h v, o', w', la', wl', po)) ∧ (∀ om tr, ∃ om' tr', fX10_endsIf n (nI s) om r st tr = some (encE v, om', tr') ∧ ∀ k, k ≠ 22 → k ≠ 24 → om' k = om k) := fun s hs => by
    refine less_spec (by omega) hH hpo hN hS hc (by omega) (fun i h1 h2 => ?_)
    cases q : bt (nI s) i with
    | false => rfl
    | true =>
      exfalso
      have h3 : bt (nI s &&& (nI J ^^^ (-1 : Int32))) i = false := by rw [hs, b_0]
      rw [b_and, q, b_not _ h2, ← eJ, hN.2.2.2.2.2.2.2 i h1 h2] at h3
      exact absurd h3 (by decide)
  have hV : ∃ V : Nat → Option Nat, ∀ s, s < 128 → (nI s &&& (nI J ^^^ (-1 : Int32))) = 0 → (∀ e, V s = some e → e ≤ 60) ∧ (∀ h, h ≤ 60 → ∀ oo t0 tw tl twl, ∃ o' w' la' wl', fX9_endsLess n (nI s) (nI h) oo ho kind sinks mate dg dr dm o w la t0 tw tl twl po = some (encR h (V s), o', w', la', wl', po)) ∧ (∀ om tr, ∃ om' tr', fX10_endsIf n (nI s) om r st tr = some (encE (V s), om', tr') ∧ ∀ k, k ≠ 22 → k ≠ 24 → om' k = om k) := by
    have e : ∃ V : Nat → Option Nat, ∀ s (h : (nI s &&& (nI J ^^^ (-1 : Int32))) = 0), V s = Classical.choose (key s h) := ⟨fun s => if h : (nI s &&& (nI J ^^^ (-1 : Int32))) = 0 then Classical.choose (key s h) else none, fun s h => dif_pos h⟩
    obtain ⟨V, eV⟩ := e
    refine ⟨V, fun s _ h => ?_⟩
    rw [eV s h]
    exact Classical.choose_spec (key s h)
  obtain ⟨V, hV⟩ := hV
  obtain ⟨a, f', o', w', la', wl', om1, tr1, z1, z2, z3, z4, z5, z6, z7, z8, z9⟩ := without1 hn hH hH6 hV hJ hJG eJ oo (fun x o w l v p => some (x, oo, o, w, l, v, p)) (fun x o1 a => ob3 (fX10_leastLike n x (nI H) o1 r st a) (fun u v w => some (u, v, w))) J 0 n n J t0 tw tl twl om tr (by omega) (by omega) (by omega) hJ (Or.inl rfl) (fun s hs => absurd hs (Nat.not_lt_zero s))
  have w2 := without2 (H := H) hn hH (st := st) hJ (fun x o1 a => ob3 (fX10_leastLike n x (nI H) o1 r st a) (fun u v w => some (u, v, w))) z1 z4 om1 tr1 (2 ^ G - J) J f' (by omega) (by omega) (by omega)
  obtain ⟨om2, tr2, w3, w4⟩ := without3 hn hH hH6 hV hJ z1 z3 z6 (fun o1 a1 => some (nI a, o1, a1)) a 0 n om1 tr1 (by omega) (by omega)
  rw [eJ]
  refine ⟨nI a, o', w', la', wl', om2, tr2, z7, ?_, fun k k1 k2 => (w4 k k1 k2).trans (z9 k k1 k2)⟩
  refine (show fX10_without_L47 n (nI H) (nI J) r st _ n (nI J) (nI 0) om tr = _ from z8).trans (w2.trans ?_)
  show ob3 (fX10_leastLike n (nI a) (nI H) om1 r st tr1) _ = _
  rw [fX10_leastLike, th0 (by omega) hG hH.2.2.1 hN, ob1_ss, eJ]
  refine (congrArg (fun z => ob3 z (fun u v w => some (u, v, w))) (show fX10_leastLike_L12 n (nI a) (nI H) (nI J) r st (fun o1 a1 => some (nI a, o1, a1)) n 0 om1 tr1 = _ from w3)).trans ?_
  rfl
