/-! what the town pays -/
theorem pay_loop {n N : Nat} (hN : N ≤ 5) {o nh np r om : Nat → Int32} (h0 : o 0 = nI N) (h7 : r 7 = nI N) (hk : ∀ k, k < N → nh k = r (94 + 2 * k) ∧ np k = r (94 + 2 * k + 1)) (x : Int32) :
    ∀ (j k f1 f2 : Nat) (s : Int32), k + j = N → j < f1 → j < f2 → ∃ s', fX7_payAt_L4 n x o nh np (fun a => some a) f1 s (nI k) = some s' ∧ fX10_paysAt_L4 n x om r (fun a => some a) f2 s (nI k) = some s' := by
  have l94 : (94 : Int32) = nI 94 := rfl
  intro j
  induction j with
  | zero =>
    intro k f1 f2 s hk' hf1 hf2
    obtain ⟨a, rfl⟩ : ∃ a, f1 = a + 1 := ⟨f1 - 1, by omega⟩
    obtain ⟨b, rfl⟩ : ∃ b, f2 = b + 1 := ⟨f2 - 1, by omega⟩
    exact ⟨s, by rw [fX7_payAt_L4, h0, if_pos (nI_le (by omega) (by omega))], by rw [fX10_paysAt_L4, h7, if_pos (nI_le (by omega) (by omega))]⟩
  | succ j ih =>
    intro k f1 f2 s hk' hf1 hf2
    obtain ⟨a, rfl⟩ : ∃ a, f1 = a + 1 := ⟨f1 - 1, by omega⟩
    obtain ⟨b, rfl⟩ : ∃ b, f2 = b + 1 := ⟨f2 - 1, by omega⟩
    obtain ⟨e1, e2⟩ := hk k (by omega)
    rw [fX7_payAt_L4, h0, if_neg (nI_ge (by omega) (by omega)), if_neg (ckI (by omega) (by omega)), clI (by omega), sI, fX10_paysAt_L4, h7, if_neg (nI_ge (by omega) (by omega)), l94, lz2, mulI, addI, if_neg (ckI (by omega) (by omega)), clI (by omega), e1]
    by_cases h : r (94 + 2 * k) < x
    · rw [if_pos h, if_pos h, Int32.add_zero, sI]
      exact ih (k + 1) a b s (by omega) (by omega) (by omega)
    · rw [if_neg h, if_neg (ckK (by omega) (by omega)), if_neg h, sI, if_neg (ckI (by omega) (by omega)), clI (by omega), e2, sI]
      exact ih (k + 1) a b _ (by omega) (by omega) (by omega)
theorem pay_lock {n N : Nat} (hn : 10 ≤ n) (hN : N ≤ 5) {o nh np r : Nat → Int32} (om : Nat → Int32) (h0 : o 0 = nI N) (h7 : r 7 = nI N) (hk : ∀ k, k < N → nh k = r (94 + 2 * k) ∧ np k = r (94 + 2 * k + 1)) (x : Int32) : ∃ s, fX7_payAt n x o nh np = some s ∧ fX10_paysAt n x om r = some s := by
  rw [fX7_payAt, fX10_paysAt]
  exact pay_loop hN h0 h7 hk x N 0 n n 0 (by omega) (by omega) (by omega)
/-! the line of a draw -/
theorem line_loop {n D : Nat} (hD : D ≤ 8) {ho dg dr : Nat → Int32} (h9 : ho 9 = nI D) (x y : Int32) : ∀ (j k f : Nat), k + j = D → j < f → (∀ d, d < k → ¬ (dg d = x ∧ dr d = y)) →
    (∃ d, d < D ∧ dg d = x ∧ dr d = y ∧ fX1_drawLine_L2 n x y ho dg dr (fun _ => some (-1)) f (nI k) = some (nI d)) ∨ ((∀ d, d < D → ¬ (dg d = x ∧ dr d = y)) ∧ fX1_drawLine_L2 n x y ho dg dr (fun _ => some (-1)) f (nI k) = some (-1)) := by
  intro j
  induction j with
  | zero =>
    intro k f hk hf hno
    obtain ⟨a, rfl⟩ : ∃ a, f = a + 1 := ⟨f - 1, by omega⟩
    exact Or.inr ⟨fun d hd => hno d (by omega), by rw [fX1_drawLine_L2, h9, if_pos (nI_le (by omega) (by omega))]⟩
  | succ j ih =>
    intro k f hk hf hno
    obtain ⟨a, rfl⟩ : ∃ a, f = a + 1 := ⟨f - 1, by omega⟩
    rw [fX1_drawLine_L2, h9, if_neg (nI_ge (by omega) (by omega)), if_neg (ckI (by omega) (by omega)), clI (by omega), sI, if_neg (ckK (by omega) (by omega))]
    by_cases h1 : dg k = x
    · by_cases h2 : dr k = y
      · exact Or.inl ⟨k, by omega, h1, h2, by rw [if_pos h1, if_pos h2]⟩
      · rw [if_pos h1, if_neg h2]
        exact ih (k + 1) a (by omega) (by omega) (fun d hd => by
          by_cases e : d = k
          · subst e; exact fun q => h2 q.2
          · exact hno d (by omega))
    · rw [if_neg h1]
      exact ih (k + 1) a (by omega) (by omega) (fun d hd => by
        by_cases e : d = k
        · subst e; exact fun q => h1 q.1
        · exact hno d (by omega))
theorem line_spec {n G D : Nat} (hn : 10 ≤ n) {ho kind sinks mate dg dr dm r : Nat → Int32} (hH : HR G D ho kind sinks mate dg dr dm r) (unq : ∀ a, a < D → ∀ b, b < D → dg a = dg b → dr a = dr b → a = b) {a b : Nat} (ha : a < G) (hb : b < G) (hab : a ≠ b) :
    (∃ d, d < D ∧ dg d = nI a ∧ dr d = nI b ∧ fX1_drawLine n (nI a) (nI b) ho dg dr = some (nI d) ∧ r (37 + 7 * a + b) = dm d) ∨ ((∀ d, d < D → ¬ (dg d = nI a ∧ dr d = nI b)) ∧ fX1_drawLine n (nI a) (nI b) ho dg dr = some (-1) ∧ r (37 + 7 * a + b) = 0) := by
  obtain ⟨hG, -, -, -, -, -, -, hD, h9, hl, hM⟩ := hH
  rcases line_loop (n := n) hD h9 (nI a) (nI b) (dg := dg) (dr := dr) D 0 n (by omega) (by omega) (fun d hd => absurd hd (Nat.not_lt_zero d)) with ⟨d, hd, e1, e2, e3⟩ | ⟨e1, e2⟩
  · refine Or.inl ⟨d, hd, e1, e2, by rw [fX1_drawLine]; exact e3, ?_⟩
    rw [hM a ha b hb hab, sm_single (j := d) hd (fun k hk hne => if_neg (fun q => hne (unq k hk d hd (q.1.trans e1.symm) (q.2.trans e2.symm)))), if_pos ⟨e1, e2⟩]
  · refine Or.inr ⟨e1, by rw [fX1_drawLine]; exact e2, ?_⟩
    rw [hM a ha b hb hab]
    exact sm_none (fun d hd => if_neg (e1 d hd))
/-! two houses -/
theorem rest_loop {n : Nat} (a b : Int32) : ∀ (j k f1 f2 : Nat), k + j = 7 → j < f1 → j < f2 → (∃ v : Int32, (v = 0 ∨ v = 1) ∧ fX9_isRest_L2 n a b (fun _ => some 1) f1 (nI k) = some v ∧ fX10_isRest_L4 n a b (fun x => if ¬ (x = 0 ∨ x = 1) then none else some x) f2 1 (nI k) = some v) ∧ fX10_isRest_L4 n a b (fun x => if ¬ (x = 0 ∨ x = 1) then none else some x) f2 0 (nI k) = some 0 := by
  have l6 : (6 : Int32) = nI 6 := rfl
  intro j
  induction j with
  | zero =>
    intro k f1 f2 hk hf1 hf2
    obtain ⟨c, rfl⟩ : ∃ c, f1 = c + 1 := ⟨f1 - 1, by omega⟩
    obtain ⟨d, rfl⟩ : ∃ d, f2 = d + 1 := ⟨f2 - 1, by omega⟩
    have h6 : nI 6 < nI k := nI_lt (by omega) (by omega)
    refine ⟨⟨1, Or.inr rfl, by rw [fX9_isRest_L2, l6, if_pos h6], by rw [fX10_isRest_L4, l6, if_pos h6, if_neg (fun q => q (Or.inr rfl))]⟩, by rw [fX10_isRest_L4, l6, if_pos h6, if_neg (fun q => q (Or.inl rfl))]⟩
  | succ j ih =>
    intro k f1 f2 hk hf1 hf2
    obtain ⟨c, rfl⟩ : ∃ c, f1 = c + 1 := ⟨f1 - 1, by omega⟩
    obtain ⟨d, rfl⟩ : ∃ d, f2 = d + 1 := ⟨f2 - 1, by omega⟩
    have h6 : ¬ nI 6 < nI k := nI_nlt (by omega) (by omega)
    obtain ⟨⟨v, hv, i1, i2⟩, i3⟩ := ih (k + 1) c d (by omega) (by omega) (by omega)
    obtain ⟨s1, e1⟩ := share_some n (nI k) b
    obtain ⟨s2, e2⟩ := share_some n a b
    obtain ⟨s3, e3⟩ := share_some n (nI k) a
    obtain ⟨s4, e4⟩ := share_some n b a
    refine ⟨?_, by rw [fX10_isRest_L4, l6, if_neg h6, if_pos i00, sI]; exact i3⟩
    rw [fX9_isRest_L2, l6, if_neg h6, e1, ob1_ss, e2, ob1_ss, fX10_isRest_L4, l6, if_neg h6, if_neg i10, house_eq, e1, ob1_ss, house_eq, e2, ob1_ss, sI]
    by_cases h1 : s2 < s1
    · exact ⟨0, Or.inl rfl, by rw [if_pos h1], by rw [if_pos h1]; exact i3⟩
    · rw [if_neg h1, e3, ob1_ss, e4, ob1_ss, if_neg h1, house_eq, e3, ob1_ss, house_eq, e4, ob1_ss]
      by_cases h2 : s3 ≤ s4
      · exact ⟨v, hv, by rw [if_pos h2]; exact i1, by rw [if_neg (Int32.not_lt.mpr h2)]; exact i2⟩
      · exact ⟨0, Or.inl rfl, by rw [if_neg h2], by rw [if_pos (Int32.not_le.mp h2)]; exact i3⟩
theorem isRest_eq {n : Nat} (hn : 10 ≤ n) (a b : Int32) : ∃ v : Int32, (v = 0 ∨ v = 1) ∧ fX9_isRest n a b = some v ∧ fX10_isRest n a b = some v := by
  rw [fX9_isRest, fX10_isRest]
  exact (rest_loop a b 7 0 n n (by omega) (by omega) (by omega)).1
/-- inner loop of the rests: one house's hours fixed -/
theorem rests_in {n : Nat} (hn : 10 ≤ n) (x y : Int32) (y0 : Nat → Int32) (K1 : Int32 → Option (Int32 × (Nat → Int32))) (K2 : Int32 → (Nat → Int32) → Option (Int32 × (Nat → Int32))) (K3 : Unit → Option (Int32 × (Nat → Int32))) :
    ∀ (j k f1 f2 f3 c : Nat) (o : Nat → Int32), k + j = 7 → j < f1 → j < f2 → j < f3 → c + j ≤ 1000 →
      ∃ c' o', c ≤ c' ∧ c' ≤ c + j ∧ (∀ i, i ≠ 34 → o' i = o i) ∧ fX9_rests_L21 n x K1 f1 (nI c) (nI k) = K1 (nI c') ∧ fX10_seekRests_L18 n x K2 f2 (nI c) (nI k) o = K2 (nI c') o' ∧ (0 < c → o' 34 = o 34) ∧ (c = 0 → (c' = 0 ∧ o' 34 = o 34 ∧ fX9_rest_L19 n x y0 K3 f3 (nI k) = K3 ()) ∨ (0 < c' ∧ fX9_rest_L19 n x y0 K3 f3 (nI k) = some (o' 34, y0))) := by
  have l6 : (6 : Int32) = nI 6 := rfl
  intro j
  induction j with
  | zero =>
    intro k f1 f2 f3 c o hk hf1 hf2 hf3 hc
    obtain ⟨u1, rfl⟩ : ∃ u, f1 = u + 1 := ⟨f1 - 1, by omega⟩
    obtain ⟨u2, rfl⟩ : ∃ u, f2 = u + 1 := ⟨f2 - 1, by omega⟩
    obtain ⟨u3, rfl⟩ : ∃ u, f3 = u + 1 := ⟨f3 - 1, by omega⟩
    have h6 : nI 6 < nI k := nI_lt (by omega) (by omega)
    exact ⟨c, o, by omega, by omega, fun _ _ => rfl, by rw [fX9_rests_L21, l6, if_pos h6], by rw [fX10_seekRests_L18, l6, if_pos h6], fun _ => rfl, fun hc0 => Or.inl ⟨hc0, rfl, by rw [fX9_rest_L19, l6, if_pos h6]⟩⟩
  | succ j ih =>
    intro k f1 f2 f3 c o hk hf1 hf2 hf3 hc
    obtain ⟨u1, rfl⟩ : ∃ u, f1 = u + 1 := ⟨f1 - 1, by omega⟩
    obtain ⟨u2, rfl⟩ : ∃ u, f2 = u + 1 := ⟨f2 - 1, by omega⟩
    obtain ⟨u3, rfl⟩ : ∃ u, f3 = u + 1 := ⟨f3 - 1, by omega⟩
    have h6 : ¬ nI 6 < nI k := nI_nlt (by omega) (by omega)
    obtain ⟨v, hv, v1, v2⟩ := isRest_eq hn x (nI k)
    rw [fX9_rests_L21, l6, if_neg h6, v1, ob1_ss, fX10_seekRests_L18, l6, if_neg h6, v2, ob1_ss, fX9_rest_L19, l6, if_neg h6, v1, ob1_ss, sI]
    rcases hv with rfl | rfl
    · rw [if_pos i00, if_pos i00, if_pos i00]
      obtain ⟨c', o', a1, a2, a3, a4, a5, a6, a7⟩ := ih (k + 1) u1 u2 u3 c o (by omega) (by omega) (by omega) (by omega) (by omega)
      exact ⟨c', o', a1, by omega, a3, a4, a5, a6, a7⟩
    · rw [if_neg i10, if_neg i10, if_neg i10, sI]
      by_cases hc0 : c = 0
      · subst hc0
        rw [if_pos (show nI 0 = 0 from rfl)]
        obtain ⟨c', o', a1, a2, a3, a4, a5, a6, a7⟩ := ih (k + 1) u1 u2 u3 1 (upd o 34 (((10 : Int32) * x) + nI k)) (by omega) (by omega) (by omega) (by omega) (by omega)
        refine ⟨c', o', by omega, by omega, fun i hi => (a3 i hi).trans (upd_n _ _ hi), a4, a5, fun h => absurd h (by omega), fun _ => Or.inr ⟨by omega, ?_⟩⟩
        rw [a6 (by omega), upd_s]
      · rw [if_neg (nI_ne0 (by omega) (by omega))]
        obtain ⟨c', o', a1, a2, a3, a4, a5, a6, a7⟩ := ih (k + 1) u1 u2 u3 (c + 1) o (by omega) (by omega) (by omega) (by omega) (by omega)
        exact ⟨c', o', by omega, by omega, a3, a4, a5, fun _ => a6 (by omega), fun h => absurd h hc0⟩
theorem rests_out {n : Nat} (hn : 10 ≤ n) (y0 : Nat → Int32) (K1 : Int32 → Option (Int32 × (Nat → Int32))) :
    ∀ (j k f1 f2 f3 c : Nat) (o : Nat → Int32), k + j = 7 → j < f1 → j < f2 → j < f3 → c + 7 * j ≤ 500 →
      ∃ c' o', c ≤ c' ∧ (∀ i, i ≠ 34 → o' i = o i) ∧ fX9_rests_L13 n K1 f1 (nI c) (nI k) = K1 (nI c') ∧ fX10_seekRests_L10 n (fun a b => some (a, b)) f2 (nI c) (nI k) o = some (nI c', o') ∧ (0 < c → o' 34 = o 34) ∧ (c = 0 → o 34 = -2 → fX9_rest_L11 n y0 (fun _ => some (-2, y0)) f3 (nI k) = some (o' 34, y0)) := by
  have l6 : (6 : Int32) = nI 6 := rfl
  intro j
  induction j with
  | zero =>
    intro k f1 f2 f3 c o hk hf1 hf2 hf3 hc
    obtain ⟨u1, rfl⟩ : ∃ u, f1 = u + 1 := ⟨f1 - 1, by omega⟩
    obtain ⟨u2, rfl⟩ : ∃ u, f2 = u + 1 := ⟨f2 - 1, by omega⟩
    obtain ⟨u3, rfl⟩ : ∃ u, f3 = u + 1 := ⟨f3 - 1, by omega⟩
    have h6 : nI 6 < nI k := nI_lt (by omega) (by omega)
    exact ⟨c, o, by omega, fun _ _ => rfl, by rw [fX9_rests_L13, l6, if_pos h6], by rw [fX10_seekRests_L10, l6, if_pos h6], fun _ => rfl, fun hc0 h34 => by rw [fX9_rest_L11, l6, if_pos h6, h34]⟩
  | succ j ih =>
    intro k f1 f2 f3 c o hk hf1 hf2 hf3 hc
    obtain ⟨u1, rfl⟩ : ∃ u, f1 = u + 1 := ⟨f1 - 1, by omega⟩
    obtain ⟨u2, rfl⟩ : ∃ u, f2 = u + 1 := ⟨f2 - 1, by omega⟩
    obtain ⟨u3, rfl⟩ : ∃ u, f3 = u + 1 := ⟨f3 - 1, by omega⟩
    have h6 : ¬ nI 6 < nI k := nI_nlt (by omega) (by omega)
    rw [fX9_rests_L13, l6, if_neg h6, fX10_seekRests_L10, l6, if_neg h6, fX9_rest_L11, l6, if_neg h6, sI, lz0]
    obtain ⟨c1, o1, a1, a2, a3, a4, a5, a6, a7⟩ := rests_in hn (nI k) 0 y0 (fun x1 => fX9_rests_L13 n K1 u1 x1 (nI (k + 1))) (fun x1 o1 => fX10_seekRests_L10 n (fun a b => some (a, b)) u2 x1 (nI (k + 1)) o1) (fun _ => fX9_rest_L11 n y0 (fun _ => some (-2, y0)) u3 (nI (k + 1))) 7 0 n n n c o (by omega) (by omega) (by omega) (by omega) (by omega)
    obtain ⟨c', o', b1, b2, b3, b4, b5, b6⟩ := ih (k + 1) u1 u2 u3 c1 o1 (by omega) (by omega) (by omega) (by omega) (by omega)
    refine ⟨c', o', by omega, fun i hi => (b2 i hi).trans (a3 i hi), a4.trans b3, a5.trans b4, fun h => (b5 (by omega)).trans (a6 h), fun h0 h34 => ?_⟩
    rcases a7 h0 with ⟨z1, z2, z3⟩ | ⟨z1, z2⟩
    · rw [z3]
      exact b6 z1 (z2.trans h34)
    · rw [z2, b5 z1]
/-! the hour in which most leave -/
theorem busy_lock {n G D : Nat} (hn : 100 ≤ n) {ho kind sinks mate dg dr dm r : Nat → Int32} (hH : HR G D ho kind sinks mate dg dr dm r) {po : Nat → Int32} (hpo : po 0 = 0) (x1 : Int32) (oo : Nat → Int32) (K1 : Int32 → (Nat → Int32) → (Nat → Int32) → (Nat → Int32) → (Nat → Int32) → (Nat → Int32) → Option (Int32 × (Nat → Int32) × (Nat → Int32) × (Nat → Int32) × (Nat → Int32) × (Nat → Int32) × (Nat → Int32))) (K2 : Int32 → Int32 → (Nat → Int32) → (Nat → Int32) → Option (Int32 × (Nat → Int32) × (Nat → Int32))) :
    ∀ (j k f1 f2 c p : Nat) (a b s : Int32) (o w la wl om st : Nat → Int32), k + j = 61 → j < f1 → j < f2 → c + j ≤ 100000 → p ≤ 7 → NR G o w la st → st 14 = nI c → s = (if x1 = 0 then b else a) →
      ∃ a' b' o' w' la' wl' om' st', fX9_busiest_L28 n x1 oo ho kind sinks mate dg dr dm K1 f1 (nI p) s (nI k) o w la wl po = K1 (if x1 = 0 then b' else a') o' w' la' wl' po ∧ fX10_busiest_L44 n x1 r K2 f2 a (nI p) b (nI k) om st = K2 a' b' om' st' ∧ (∀ k, k ≠ 22 → om' k = om k) := by
  have hG : G ≤ 7 := hH.1
  have l60 : (60 : Int32) = nI 60 := rfl
  intro j
  induction j with
  | zero =>
    intro k f1 f2 c p a b s o w la wl om st hk hf1 hf2 hcb hp hN hc hs
    obtain ⟨u1, rfl⟩ : ∃ u, f1 = u + 1 := ⟨f1 - 1, by omega⟩
    obtain ⟨u2, rfl⟩ : ∃ u, f2 = u + 1 := ⟨f2 - 1, by omega⟩
    have h6 : nI 60 < nI k := nI_lt (by omega) (by omega)
    exact ⟨a, b, o, w, la, wl, om, st, by rw [fX9_busiest_L28, l60, if_pos h6, hs], by rw [fX10_busiest_L44, l60, if_pos h6], fun _ _ => rfl⟩
  | succ j ih =>
    intro k f1 f2 c p a b s o w la wl om st hk hf1 hf2 hcb hp hN hc hs
    obtain ⟨u1, rfl⟩ : ∃ u, f1 = u + 1 := ⟨f1 - 1, by omega⟩
    obtain ⟨u2, rfl⟩ : ∃ u, f2 = u + 1 := ⟨f2 - 1, by omega⟩
    have h6 : ¬ nI 60 < nI k := nI_nlt (by omega) (by omega)
    obtain ⟨X, o1, w1, la1, wl1, om1, st1, e1, e2, g1, g2, g3, g4, g5, g6, g7, g8⟩ := pass_lock (n := n) (by omega) hH (c := c) (by omega) wl om po hN hc hpo
    have hXb : ∀ i, G ≤ i → i < 32 → bt X i = false := fun i h1 h2 => by
      cases h : bt X i with
      | false => rfl
      | true =>
        exfalso
        rcases g7.2.2.2.1 i h2 h with z | z
        · rw [b_0] at z; exact absurd z (by decide)
        · rw [hN.2.2.2.2.2.2.2 i h1 h2] at z; exact absurd z (by decide)
    obtain ⟨j1, p1, hj1, ej1, hp1, -, n1, n2⟩ := counts (n := n) (by omega) hG hXb
    obtain ⟨j2, p2, hj2, ej2, hp2, -, n3, n4⟩ := counts (n := n) (by omega) hG g1.2.2.2.2.2.2.2
    rw [fX9_busiest_L28, l60, if_neg h6, e1, ob6_ss, n1, ob1_ss, sI, fX10_busiest_L44, l60, if_neg h6, e2, ob3_ss, n2, ob1_ss, th0 (by omega) hG hH.2.2.1 g1, ob1_ss, n4, ob1_ss, n3, ob1_ss, sI]
    by_cases hle : p1 ≤ p
    · rw [if_pos (nI_le hle (by omega)), if_neg (nI_nlt hle (by omega))]
      obtain ⟨a', b', o', w', la', wl', om', st', t1, t2, t3⟩ := ih (k + 1) u1 u2 (c + 1) p a b s o1 w1 la1 wl1 om1 st1 (by omega) (by omega) (by omega) (by omega) hp g1 g2 hs
      exact ⟨a', b', o', w', la', wl', om', st', t1, t2, fun k hk => (t3 k hk).trans (g4 k hk)⟩
    · rw [if_neg (nI_ge (by omega) (by omega)), if_pos (nI_lt (by omega) (by omega))]
      obtain ⟨a', b', o', w', la', wl', om', st', t1, t2, t3⟩ := ih (k + 1) u1 u2 (c + 1) p1 (nI k) (nI p2) (if x1 = 0 then nI p2 else nI k) o1 w1 la1 wl1 om1 st1 (by omega) (by omega) (by omega) (by omega) hp1 g1 g2 rfl
      refine ⟨a', b', o', w', la', wl', om', st', ?_, t2, fun k hk => (t3 k hk).trans (g4 k hk)⟩
      rw [← t1]
      by_cases hx : x1 = 0
      · rw [if_pos hx, if_pos hx]
      · rw [if_neg hx, if_neg hx]
/-! the order of leaving -/
theorem order_in {n G : Nat} (hG : G ≤ 7) {ho r : Nat → Int32} (h3 : ho 3 = nI G) (hr : r 3 = nI G) (x1 x3 x3' H : Int32) (oo o w la wl po om st : Nat → Int32) (K1 : Int32 → Option (Int32 × (Nat → Int32) × (Nat → Int32) × (Nat → Int32) × (Nat → Int32) × (Nat → Int32) × (Nat → Int32))) (K2 : Int32 → Option (Int32 × (Nat → Int32) × (Nat → Int32))) :
    ∀ (j k f1 f2 : Nat) (x2 : Int32), k + j = G → j < f1 → j < f2 → (∃ R, fX9_order_L60 n x1 x3 H oo ho o w la wl po K1 f1 x2 (nI k) = some (R, oo, o, w, la, wl, po) ∧ fX10_order_L59 n x1 x3' H om r st K2 f2 x2 (nI k) = some (R, om, st)) ∨ (∃ x2', fX9_order_L60 n x1 x3 H oo ho o w la wl po K1 f1 x2 (nI k) = K1 x2' ∧ fX10_order_L59 n x1 x3' H om r st K2 f2 x2 (nI k) = K2 x2') := by
  intro j
  induction j with
  | zero =>
    intro k f1 f2 x2 hk hf1 hf2
    obtain ⟨u1, rfl⟩ : ∃ u, f1 = u + 1 := ⟨f1 - 1, by omega⟩
    obtain ⟨u2, rfl⟩ : ∃ u, f2 = u + 1 := ⟨f2 - 1, by omega⟩
    exact Or.inr ⟨x2, by rw [fX9_order_L60, h3, if_pos (nI_le (by omega) (by omega))], by rw [fX10_order_L59, hr, if_pos (nI_le (by omega) (by omega))]⟩
  | succ j ih =>
    intro k f1 f2 x2 hk hf1 hf2
    obtain ⟨u1, rfl⟩ : ∃ u, f1 = u + 1 := ⟨f1 - 1, by omega⟩
    obtain ⟨u2, rfl⟩ : ∃ u, f2 = u + 1 := ⟨f2 - 1, by omega⟩
    rw [fX9_order_L60, h3, if_neg (nI_ge (by omega) (by omega)), inBitsS n H (by omega), ob1_ss, sI, fX10_order_L59, hr, if_neg (nI_ge (by omega) (by omega)), hasBitS n H (by omega), ob1_ss, sI]
    by_cases hb : bt H k = true
    · rw [if_pos hb, if_neg i10, if_neg i10]
      by_cases hx : x2 = x1
      · exact Or.inl ⟨nI k, by rw [if_pos hx], by rw [if_pos hx]⟩
      · rw [if_neg hx, if_neg hx]
        exact ih (k + 1) u1 u2 _ (by omega) (by omega) (by omega)
    · rw [if_neg hb, if_pos i00, if_pos i00]
      exact ih (k + 1) u1 u2 _ (by omega) (by omega) (by omega)
theorem order_lock {n G D : Nat} (hn : 100 ≤ n) {ho kind sinks mate dg dr dm r : Nat → Int32} (hH : HR G D ho kind sinks mate dg dr dm r) {po : Nat → Int32} (hpo : po 0 = 0) (x1 : Int32) (oo : Nat → Int32) :
    ∀ (j k f1 f2 c : Nat) (x2 : Int32) (o w la wl om st : Nat → Int32), k + j = 60 → j < f1 → j < f2 → c + j ≤ 100000 → NR G o w la st → st 14 = nI c →
      ∃ R o' w' la' wl' om' st', fX9_order_L34 n x1 oo ho kind sinks mate dg dr dm (fun o w l v p => some ((-2 : Int32), oo, o, w, l, v, p)) f1 x2 (nI k) o w la wl po = some (R, oo, o', w', la', wl', po) ∧ fX10_order_L40 n x1 r (fun o a => some ((-2 : Int32), o, a)) f2 x2 (nI k) om st = some (R, om', st') ∧ (∀ k, k ≠ 22 → om' k = om k) := by
  have hG : G ≤ 7 := hH.1
  have l60 : (60 : Int32) = nI 60 := rfl
  intro j
  induction j with
  | zero =>
    intro k f1 f2 c x2 o w la wl om st hk hf1 hf2 hcb hN hc
    obtain ⟨u1, rfl⟩ : ∃ u, f1 = u + 1 := ⟨f1 - 1, by omega⟩
    obtain ⟨u2, rfl⟩ : ∃ u, f2 = u + 1 := ⟨f2 - 1, by omega⟩
    exact ⟨-2, o, w, la, wl, om, st, by rw [fX9_order_L34, l60, if_pos (nI_le (by omega) (by omega))], by rw [fX10_order_L40, l60, if_pos (nI_le (by omega) (by omega))], fun _ _ => rfl⟩
  | succ j ih =>
    intro k f1 f2 c x2 o w la wl om st hk hf1 hf2 hcb hN hc
    obtain ⟨u1, rfl⟩ : ∃ u, f1 = u + 1 := ⟨f1 - 1, by omega⟩
    obtain ⟨u2, rfl⟩ : ∃ u, f2 = u + 1 := ⟨f2 - 1, by omega⟩
    obtain ⟨X, o1, w1, la1, wl1, om1, st1, e1, e2, g1, g2, g3, g4, g5, g6, g7, g8⟩ := pass_lock (n := n) (by omega) hH (c := c) (by omega) wl om po hN hc hpo
    rw [fX9_order_L34, l60, if_neg (nI_ge (by omega) (by omega)), e1, ob6_ss, fX10_order_L40, l60, if_neg (nI_ge (by omega) (by omega)), e2, ob3_ss, sI]
    rcases order_in (n := n) hG hH.2.1 hH.2.2.1 x1 (nI k) (nI k) X oo o1 w1 la1 wl1 po om1 st1 (fun x2 => fX9_order_L34 n x1 oo ho kind sinks mate dg dr dm (fun o w l v p => some ((-2 : Int32), oo, o, w, l, v, p)) u1 x2 (nI (k + 1)) o1 w1 la1 wl1 po) (fun x2 => fX10_order_L40 n x1 r (fun o a => some ((-2 : Int32), o, a)) u2 x2 (nI (k + 1)) om1 st1) G 0 n n x2 (by omega) (by omega) (by omega) with ⟨R, r1, r2⟩ | ⟨x2', r1, r2⟩
    · exact ⟨R, o1, w1, la1, wl1, om1, st1, r1, r2, g4⟩
    · obtain ⟨R, o', w', la', wl', om', st', t1, t2, t3⟩ := ih (k + 1) u1 u2 (c + 1) x2' o1 w1 la1 wl1 om1 st1 (by omega) (by omega) (by omega) (by omega) g1 g2
      exact ⟨R, o', w', la', wl', om', st', r1.trans t1, r2.trans t2, fun k hk => (t3 k hk).trans (g4 k hk)⟩
/-! when one leaves -/
theorem leaves_lock {n G D g : Nat} (hn : 100 ≤ n) {ho kind sinks mate dg dr dm r : Nat → Int32} (hH : HR G D ho kind sinks mate dg dr dm r) {po : Nat → Int32} (hpo : po 0 = 0) (hg : g < G) (oo : Nat → Int32) :
    ∀ (j k f1 f2 c : Nat) (o w la wl om st : Nat → Int32), k + j = 60 → j < f1 → j + 1 < f2 → c + j ≤ 100000 → NR G o w la st → st 14 = nI c →
      ∃ R o' w' la' wl' om' st', fX9_leavesIn_L23 n (nI g) oo ho kind sinks mate dg dr dm (fun x o w l v p => ob1 (fX2_has n (nI g) o) (fun u => if u = 0 then some (x, oo, o, w, l, v, p) else some ((-2 : Int32), oo, o, w, l, v, p))) f1 (nI k) o w la wl po = some (R, oo, o', w', la', wl', po) ∧ fX10_leavesIn_L35 n (nI g) r (fun o a => some ((-2 : Int32), o, a)) f2 (nI k) om st = some (R, om', st') ∧ (∀ k, k ≠ 22 → om' k = om k) := by
  have hG : G ≤ 7 := hH.1
  have l60 : (60 : Int32) = nI 60 := rfl
  intro j
  induction j with
  | zero =>
    intro k f1 f2 c o w la wl om st hk hf1 hf2 hcb hN hc
    obtain ⟨u1, rfl⟩ : ∃ u, f1 = u + 1 := ⟨f1 - 1, by omega⟩
    obtain ⟨u2, rfl⟩ : ∃ u, f2 = u + 2 := ⟨f2 - 2, by omega⟩
    rw [fX9_leavesIn_L23, fX10_leavesIn_L35, l60, if_neg (nI_nlt (by omega) (by omega))]
    by_cases hb : bt (o 1) g = true
    · obtain ⟨X, o1, w1, la1, wl1, om1, st1, e1, e2, g1, g2, g3, g4, g5, g6, g7, g8⟩ := pass_lock (n := n) (by omega) hH (c := c) (by omega) wl om po hN hc hpo
      rw [has_y (by omega) hb, ob1_ss, if_neg i10, if_pos (nI_le (by omega) (by omega)), ob1_ss, if_neg i10, isIn_y (by omega) ((hN.2.2.2.2.1 g hg).mp hb), ob1_ss, if_neg i10, e2, ob3_ss, sI, fX10_leavesIn_L35, l60, if_pos (nI_lt (by omega) (by omega))]
      exact ⟨-2, _, _, _, _, _, _, rfl, rfl, g4⟩
    · rw [has_n (by omega) hb, ob1_ss, if_pos i00, ob1_ss, if_pos i00, isIn_n (by omega) (fun q => hb ((hN.2.2.2.2.1 g hg).mpr q)), ob1_ss, if_pos i00]
      exact ⟨_, _, _, _, _, _, _, rfl, rfl, fun _ _ => rfl⟩
  | succ j ih =>
    intro k f1 f2 c o w la wl om st hk hf1 hf2 hcb hN hc
    obtain ⟨u1, rfl⟩ : ∃ u, f1 = u + 1 := ⟨f1 - 1, by omega⟩
    obtain ⟨u2, rfl⟩ : ∃ u, f2 = u + 1 := ⟨f2 - 1, by omega⟩
    rw [fX9_leavesIn_L23, fX10_leavesIn_L35, l60, if_neg (nI_nlt (by omega) (by omega))]
    by_cases hb : bt (o 1) g = true
    · obtain ⟨X, o1, w1, la1, wl1, om1, st1, e1, e2, g1, g2, g3, g4, g5, g6, g7, g8⟩ := pass_lock (n := n) (by omega) hH (c := c) (by omega) wl om po hN hc hpo
      rw [has_y (by omega) hb, ob1_ss, if_neg i10, if_neg (nI_ge (by omega) (by omega)), e1, ob6_ss, sI, isIn_y (by omega) ((hN.2.2.2.2.1 g hg).mp hb), ob1_ss, if_neg i10, e2, ob3_ss]
      obtain ⟨R, o', w', la', wl', om', st', t1, t2, t3⟩ := ih (k + 1) u1 u2 (c + 1) o1 w1 la1 wl1 om1 st1 (by omega) (by omega) (by omega) (by omega) g1 g2
      exact ⟨R, o', w', la', wl', om', st', t1, t2, fun k hk => (t3 k hk).trans (g4 k hk)⟩
    · rw [has_n (by omega) hb, ob1_ss, if_pos i00, ob1_ss, if_pos i00, isIn_n (by omega) (fun q => hb ((hN.2.2.2.2.1 g hg).mpr q)), ob1_ss, if_pos i00]
      exact ⟨_, _, _, _, _, _, _, rfl, rfl, fun _ _ => rfl⟩
/-! how much one draws -/
theorem pull_eq {G D a : Nat} {o ho kind sinks mate dg dr dm r st w la : Nat → Int32} (hH : HR G D ho kind sinks mate dg dr dm r) (hN : NR G o w la st) (ha : a < G) :
    sm (fun d => if dr d = nI a ∧ ((o 1 >>> (dg d &&& 31)) &&& (1 : Int32)) = 1 then dm d else 0) D = sm (fun b => if b ≠ a ∧ st (7 + b) = 0 then r (37 + 7 * b + a) else 0) G := by
  obtain ⟨hG, -, -, -, -, -, -, hD, -, hl, hM⟩ := hH
  obtain ⟨-, -, -, -, hth, -, -, -⟩ := hN
  have e : sm (fun b => if b ≠ a ∧ st (7 + b) = 0 then r (37 + 7 * b + a) else 0) G = sm (fun b => sm (fun d => if b ≠ a ∧ st (7 + b) = 0 ∧ dg d = nI b ∧ dr d = nI a then dm d else 0) D) G := by
    refine sm_congr (fun b hb => ?_)
    by_cases h : b ≠ a ∧ st (7 + b) = 0
    · rw [if_pos h, hM b hb a ha h.1]
      refine sm_congr (fun d _ => ?_)
      by_cases h2 : dg d = nI b ∧ dr d = nI a
      · rw [if_pos h2, if_pos ⟨h.1, h.2, h2.1, h2.2⟩]
      · rw [if_neg h2, if_neg (fun q => h2 ⟨q.2.2.1, q.2.2.2⟩)]
    · rw [if_neg h]
      exact (sm_none (fun d _ => if_neg (fun q => h ⟨q.1, q.2.1⟩))).symm
  rw [e, sm_comm]
  refine sm_congr (fun d hd => ?_)
  obtain ⟨a2, b2, ha2, hb2, hab, ea, eb⟩ := hl d hd
  by_cases h : dr d = nI a
  · have e2 : b2 = a := nI_inj (by omega) (by omega) (eb.symm.trans h)
    subst e2
    rw [sm_single (j := a2) ha2 (fun k hk hn => if_neg (fun q => hn (nI_inj (by omega) (by omega) (q.2.2.1.symm.trans ea))))]
    rw [ea]
    by_cases hc : bt (o 1) a2 = true
    · rw [if_pos ⟨h, (bit_is _ (by omega)).mpr hc⟩, if_pos ⟨hab, (hth a2 ha2).mp hc, rfl, h⟩]
    · rw [if_neg (fun q => hc ((bit_is _ (by omega)).mp q.2)), if_neg (fun q => hc ((hth a2 ha2).mpr q.2.1))]
  · rw [if_neg (fun q => h q.1)]
    exact (sm_none (fun k _ => if_neg (fun q => h q.2.2.2))).symm
theorem pull_c {n G D a : Nat} {o ho kind sinks mate dg dr dm r : Nat → Int32} (hH : HR G D ho kind sinks mate dg dr dm r) (oo : Nat → Int32) (K : Int32 → Option (Int32 × (Nat → Int32))) :
    ∀ (j k f : Nat), k + j = D → j < f → fX9_pull_L14 n (nI a) oo ho dg dr dm o K f (sm (fun d => if dr d = nI a ∧ ((o 1 >>> (dg d &&& 31)) &&& (1 : Int32)) = 1 then dm d else 0) k) (nI k) = K (sm (fun d => if dr d = nI a ∧ ((o 1 >>> (dg d &&& 31)) &&& (1 : Int32)) = 1 then dm d else 0) D) := by
  obtain ⟨hG, -, -, -, -, -, -, hD, h9, hl, -⟩ := hH
  intro j
  induction j with
  | zero =>
    intro k f hk hf
    obtain ⟨u, rfl⟩ : ∃ u, f = u + 1 := ⟨f - 1, by omega⟩
    rw [fX9_pull_L14, h9, if_pos (nI_le (by omega) (by omega)), show k = D by omega]
  | succ j ih =>
    intro k f hk hf
    obtain ⟨u, rfl⟩ : ∃ u, f = u + 1 := ⟨f - 1, by omega⟩
    obtain ⟨a2, b2, ha2, hb2, hab, ea, eb⟩ := hl k (by omega)
    have hck : ¬ (nI k < 0 ∨ 8 ≤ k) := ckK (by omega) (by omega)
    rw [← ih (k + 1) u (by omega) (by omega), fX9_pull_L14, h9, if_neg (nI_ge (by omega) (by omega)), if_neg (ckI (by omega) (by omega)), clI (by omega), sI, if_neg hck, if_neg hck, sm]
    by_cases h : dr k = nI a
    · rw [if_pos h, ea]
      by_cases hc : bt (o 1) a2 = true
      · rw [has_y (by omega) hc, ob1_ss, if_neg i10, if_pos ⟨h, (bit_is _ (by omega)).mpr hc⟩]
      · rw [has_n (by omega) hc, ob1_ss, if_pos i00, if_neg (fun q => hc ((bit_is _ (by omega)).mp q.2)), Int32.add_zero]
    · rw [if_neg h, if_neg (fun q => h q.1), Int32.add_zero]
theorem pull_m {n G a : Nat} (hG : G ≤ 7) (ha : a < G) {om r st : Nat → Int32} (hr : r 3 = nI G) (K : Int32 → Option (Int32 × (Nat → Int32))) :
    ∀ (j k f : Nat), k + j = G → j < f → fX10_pull_L22 n (nI a) om r st K f (sm (fun b => if b ≠ a ∧ st (7 + b) = 0 then r (37 + 7 * b + a) else 0) k) (nI k) = K (sm (fun b => if b ≠ a ∧ st (7 + b) = 0 then r (37 + 7 * b + a) else 0) G) := by
  intro j
  induction j with
  | zero =>
    intro k f hk hf
    obtain ⟨u, rfl⟩ : ∃ u, f = u + 1 := ⟨f - 1, by omega⟩
    rw [fX10_pull_L22, hr, if_pos (nI_le (by omega) (by omega)), show k = G by omega]
  | succ j ih =>
    intro k f hk hf
    obtain ⟨u, rfl⟩ : ∃ u, f = u + 1 := ⟨f - 1, by omega⟩
    rw [← ih (k + 1) u (by omega) (by omega), fX10_pull_L22, hr, if_neg (nI_ge (by omega) (by omega)), sm, sI]
    by_cases e : k = a
    · subst e
      rw [if_pos rfl, if_neg (fun q => q.1 rfl)]
    · rw [if_neg (fun q => e (nI_inj (by omega) (by omega) q))]
      by_cases h : st (7 + k) = 0
      · rw [isIn_y (by omega) h, ob1_ss, if_neg i10, lz37, lz7, mulI, addI, addI, if_neg (ckI (by omega) (by omega)), clI (by omega), if_pos ⟨e, h⟩]
      · rw [isIn_n (by omega) h, ob1_ss, if_pos i00, if_neg (fun q => h q.2)]
