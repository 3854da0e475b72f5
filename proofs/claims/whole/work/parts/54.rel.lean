/-! some go home, by both -/
theorem idx_r {k c : Nat} (hk : k < 7) (hc : c < 4) : ((((9 : Int32) + ((4 : Int32) * nI k)) + nI c)) = nI (9 + 4 * k + c) := by
  rw [lz9, lz4, mulI, addI, addI]
theorem goes_L2S {n G : Nat} (hG : G ≤ 7) {who : Int32} {o r st : Nat → Int32} (hr : r 3 = nI G) (K : (Nat → Int32) → Option (Nat → Int32)) :
    ∀ (j k fuel : Nat) (f : Nat → Int32), k + j = G → j < fuel → (∀ i, i ≤ 6 → f i = st i) → (∀ i, 14 ≤ i → f i = st i) → (∀ g, g < 7 → f (7 + g) = if g < k ∧ bt who g = true then st 14 + 1 else st (7 + g)) →
      ∃ f', (∀ i, i ≤ 6 → f' i = st i) ∧ (∀ i, 14 ≤ i → f' i = st i) ∧ (∀ g, g < 7 → f' (7 + g) = if g < G ∧ bt who g = true then st 14 + 1 else st (7 + g)) ∧ fX10_goes_L2 n who o r K fuel (nI k) f = K f' := by
  intro j
  induction j with
  | zero =>
    intro k fuel f hk hf h1 h2 h3
    obtain ⟨fu, rfl⟩ : ∃ fu, fuel = fu + 1 := ⟨fuel - 1, by omega⟩
    have e : k = G := by omega
    subst e
    exact ⟨f, h1, h2, h3, by rw [fX10_goes_L2, hr, if_pos (nI_le (by omega) (by omega))]⟩
  | succ j ih =>
    intro k fuel f hk hf h1 h2 h3
    obtain ⟨fu, rfl⟩ : ∃ fu, fuel = fu + 1 := ⟨fuel - 1, by omega⟩
    rw [fX10_goes_L2, hr, if_neg (nI_ge (by omega) (by omega)), hasBitS n who (by omega), ob1_ss, sI]
    by_cases hb : bt who k = true
    · rw [if_pos hb, if_neg (by decide), lz7, addI, if_neg (ckI (by omega) (by omega)), clI (by omega)]
      refine ih (k + 1) fu _ (by omega) (by omega) (fun i hi => ?_) (fun i hi => ?_) (fun g hg => ?_)
      · rw [upd_n _ _ (by omega)]; exact h1 i hi
      · rw [upd_n _ _ (by omega)]; exact h2 i hi
      · by_cases e : g = k
        · subst e; rw [upd_s, h2 14 (by omega), if_pos ⟨by omega, hb⟩]
        · rw [upd_n _ _ (by omega), h3 g hg]
          by_cases q : g < k ∧ bt who g = true
          · rw [if_pos q, if_pos ⟨by omega, q.2⟩]
          · rw [if_neg q, if_neg (fun z => q ⟨by omega, z.2⟩)]
    · rw [if_neg hb, if_pos rfl]
      refine ih (k + 1) fu _ (by omega) (by omega) h1 h2 (fun g hg => ?_)
      rw [h3 g hg]
      by_cases q : g < k ∧ bt who g = true
      · rw [if_pos q, if_pos ⟨by omega, q.2⟩]
      · rw [if_neg q, if_neg (fun z => q ⟨by
          have : g ≠ k := fun e => hb (e ▸ z.2)
          omega, z.2⟩)]
/-- the griefs, hand in hand: the class's loop (with the hours of leaving) and the reference's second -/
theorem grief_lock {n G D : Nat} {who : Int32} {o2 ho kind sinks mate dg dr dm r om s1 : Nat → Int32} (hH : HR G D ho kind sinks mate dg dr dm r) (la0 : Nat → Int32)
    (hin : ∀ g, g < G → (bt (o2 1) g = true ↔ s1 (7 + g) = 0)) (K : (Nat → Int32) → (Nat → Int32) → Option ((Nat → Int32) × (Nat → Int32) × (Nat → Int32))) (K2 : (Nat → Int32) → Option (Nat → Int32)) :
    ∀ (j k f1 f2 : Nat) (w la f : Nat → Int32), k + j = G → j < f1 → j < f2 → (∀ i, i < G → w i = f i) → (∀ i, 7 ≤ i → f i = s1 i) → (∀ g, g < G → la g = if g < k ∧ bt who g = true then o2 0 else la0 g) →
      ∃ w' la' f', (∀ i, i < G → w' i = f' i) ∧ (∀ i, 7 ≤ i → f' i = s1 i) ∧ (∀ g, g < G → la' g = if bt who g = true then o2 0 else la0 g) ∧
        fX2_release_L14 n who o2 ho mate K f1 (nI k) w la = K w' la' ∧ fX10_goes_L40 n who om r K2 f2 (nI k) f = K2 f' := by
  obtain ⟨hG, h3, hr3, hgr, -, -, hm, -, -, -, -⟩ := hH
  intro j
  induction j with
  | zero =>
    intro k f1 f2 w la f hk hf1 hf2 hw hs hl
    obtain ⟨a, rfl⟩ : ∃ a, f1 = a + 1 := ⟨f1 - 1, by omega⟩
    obtain ⟨b, rfl⟩ : ∃ b, f2 = b + 1 := ⟨f2 - 1, by omega⟩
    have e : k = G := by omega
    subst e
    refine ⟨w, la, f, hw, hs, fun g hg => ?_, by rw [fX2_release_L14, h3, if_pos (nI_le (by omega) (by omega))], by rw [fX10_goes_L40, hr3, if_pos (nI_le (by omega) (by omega))]⟩
    rw [hl g hg]
    by_cases q : bt who g = true
    · rw [if_pos ⟨hg, q⟩, if_pos q]
    · rw [if_neg (fun z => q z.2), if_neg q]
  | succ j ih =>
    intro k f1 f2 w la f hk hf1 hf2 hw hs hl
    obtain ⟨a, rfl⟩ : ∃ a, f1 = a + 1 := ⟨f1 - 1, by omega⟩
    obtain ⟨b, rfl⟩ : ∃ b, f2 = b + 1 := ⟨f2 - 1, by omega⟩
    have hla : bt who k = true → ∀ g, g < G → upd la k (o2 0) g = if g < k + 1 ∧ bt who g = true then o2 0 else la0 g := by
      intro hb g hg
      by_cases e : g = k
      · subst e; rw [upd_s, if_pos ⟨by omega, hb⟩]
      · rw [upd_n _ _ e, hl g hg]
        by_cases q : g < k ∧ bt who g = true
        · rw [if_pos q, if_pos ⟨by omega, q.2⟩]
        · rw [if_neg q, if_neg (fun z => q ⟨by omega, z.2⟩)]
    have hlb : bt who k ≠ true → ∀ g, g < G → la g = if g < k + 1 ∧ bt who g = true then o2 0 else la0 g := by
      intro hb g hg
      rw [hl g hg]
      by_cases q : g < k ∧ bt who g = true
      · rw [if_pos q, if_pos ⟨by omega, q.2⟩]
      · rw [if_neg q, if_neg (fun z => q ⟨by
          have : g ≠ k := fun e => hb (e ▸ z.2)
          omega, z.2⟩)]
    rw [fX2_release_L14, h3, if_neg (nI_ge (by omega) (by omega)), fX10_goes_L40, hr3, if_neg (nI_ge (by omega) (by omega)), lz3, idx_r (by omega) (by omega), if_neg (ckI (N := 266) (by omega) (by omega)), clI (k := 9 + 4 * k + 3) (by omega), hasBitS n who (by omega), ob1_ss, sI]
    by_cases hb : bt who k = true
    · rw [if_pos ((bit_is _ (by omega)).mpr hb), if_neg (ckI (k := k) (N := 7) (by omega) (by omega)), if_neg (ckI (k := k) (N := 7) (by omega) (by omega)), clI (k := k) (by omega), if_pos hb, if_neg i10]
      rcases hm k (by omega) with ⟨e1, e2⟩ | ⟨i, hi, e1, e2⟩
      · rw [e1, if_pos (show (-2 : Int32) < 0 by decide), e2, if_pos (show (0 : Int32) - 1 < 0 by decide)]
        exact ih (k + 1) a b w _ f (by omega) (by omega) (by omega) hw hs (hla hb)
      · rw [e1, if_neg (nI_pos (n := i) (by omega)), if_neg (nI_ge (a := i) (b := G) (by omega) (by omega)), e2, nI_pred, if_neg (nI_pos (n := i) (by omega)), isInS n f (by omega), ob1_ss, if_neg (ckI (k := i) (N := 7) (by omega) (by omega)), if_neg (ckI (k := i) (N := 7) (by omega) (by omega)), if_neg (ckI (k := i) (N := 17) (by omega) (by omega)), if_neg (ckI (k := i) (N := 17) (by omega) (by omega)), clI (k := i) (by omega), hs (7 + i) (by omega)]
        by_cases hc : s1 (7 + i) = 0
        · rw [if_pos ((bit_is _ (by omega)).mpr ((hin i hi).mpr hc)), if_pos hc, if_neg i10]
          refine ih (k + 1) a b _ _ _ (by omega) (by omega) (by omega) (fun g hg => ?_) (fun g hg => ?_) (hla hb)
          · by_cases e : g = i
            · subst e; rw [upd_s, upd_s, hw g hg, hgr]
            · rw [upd_n _ _ e, upd_n _ _ e]; exact hw g hg
          · rw [upd_n _ _ (by omega)]; exact hs g hg
        · rw [if_neg (fun q => hc ((hin i hi).mp ((bit_is _ (by omega)).mp q))), if_neg hc, if_pos i00]
          exact ih (k + 1) a b w _ f (by omega) (by omega) (by omega) hw hs (hla hb)
    · rw [if_neg (fun q => hb ((bit_is _ (by omega)).mp q)), if_neg hb, if_pos i00]
      exact ih (k + 1) a b w la f (by omega) (by omega) (by omega) hw hs (hlb hb)
/-- release and goes keep the night's two forms together -/
theorem rel_goes {n G D c : Nat} (hn : 10 ≤ n) {who : Int32} {o w la ho kind sinks mate dg dr dm r om st : Nat → Int32} (hH : HR G D ho kind sinks mate dg dr dm r) (hN : NR G o w la st) (hc : st 14 = nI c) (hcb : c < 1000000) (hwho : ∀ i, G ≤ i → i < 32 → bt who i = false) :
    ∃ o' w' la' st', fX2_release n who o w la ho mate = some (o', w', la') ∧ fX10_goes n who om r st = some st' ∧ NR G o' w' la' st' ∧ st' 14 = st 14 ∧ o' = upd o 1 (o 1 &&& (who ^^^ (-1 : Int32))) ∧ st' 16 = st 16 := by
  obtain ⟨n0, n2, n3, nw, nth, nla, nlb, nout⟩ := id hN
  have hG : G ≤ 7 := hH.1
  rw [fX2_release, fX10_goes, lz0]
  obtain ⟨s1, a1, a2, a3, e1⟩ := goes_L2S (n := n) (who := who) (o := om) (st := st) hG hH.2.2.1 (fun f => fX10_goes_L40 n who om r (fun f' => some f') n (nI 0) f) G 0 n st (by omega) (by omega) (fun _ _ => rfl) (fun _ _ => rfl) (fun g _ => by rw [if_neg (fun z => absurd z.1 (Nat.not_lt_zero g))])
  have hne : st 14 + 1 ≠ 0 := by rw [hc, sI]; exact nI_ne0 (by omega) (by omega)
  have hbits : ∀ i, i < 32 → bt (upd o 1 (o 1 &&& (who ^^^ (-1 : Int32))) 1) i = (bt (o 1) i && !bt who i) := fun i hi => by rw [upd_s, b_and, b_not who hi]
  have hin : ∀ g, g < G → (bt (upd o 1 (o 1 &&& (who ^^^ (-1 : Int32))) 1) g = true ↔ s1 (7 + g) = 0) := by
    intro g hg
    rw [hbits g (by omega), a3 g (by omega)]
    by_cases q : bt who g = true
    · rw [if_pos ⟨hg, q⟩, q]; simp [hne]
    · rw [if_neg (fun z => q z.2), ← nth g hg]
      have : bt who g = false := by cases h : bt who g <;> simp_all
      rw [this]; simp
  obtain ⟨w', la', f', b1, b2, b3, e2, e3⟩ := grief_lock (n := n) (who := who) (om := om) hH la hin (fun w1 l1 => some ((upd o 1 (o 1 &&& (who ^^^ (-1 : Int32)))), w1, l1)) (fun f => some f) G 0 n n w la s1 (by omega) (by omega) (by omega) (fun i hi => by rw [nw i hi, a1 i (by omega)]) (fun _ _ => rfl) (fun g _ => by rw [if_neg (fun z => absurd z.1 (Nat.not_lt_zero g))])
  refine ⟨_, w', la', f', e2, e1.trans e3, ⟨?_, ?_, ?_, b1, ?_, ?_, ?_, ?_⟩, ?_, rfl, by rw [b2 16 (by omega), a2 16 (by omega)]⟩
  · rw [upd_n _ _ (by decide), b2 14 (by omega), a2 14 (by omega)]; exact n0
  · rw [upd_n _ _ (by decide), b2 15 (by omega), a2 15 (by omega)]; exact n2
  · trivial
  · intro g hg; rw [b2 (7 + g) (by omega)]; exact hin g hg
  · intro g hg hb
    rw [b2 (7 + g) (by omega), a3 g (by omega), b3 g hg]
    by_cases q : bt who g = true
    · rw [if_pos ⟨hg, q⟩, if_pos q, upd_n _ _ (by decide), n0]
    · rw [if_neg (fun z => q z.2), if_neg q]
      refine nla g hg ?_
      rw [hbits g (by omega)] at hb
      have : bt who g = false := by cases h : bt who g <;> simp_all
      rw [this] at hb; simpa using hb
  · intro g hg hb
    rw [hbits g (by omega)] at hb
    have q : bt who g = false := by cases h : bt who g <;> simp_all
    rw [b3 g hg, if_neg (by rw [q]; decide)]
    exact nlb g hg (by rw [q] at hb; simpa using hb)
  · intro i h1 h2; rw [hbits i h2, nout i h1 h2]; rfl
  · rw [b2 14 (by omega), a2 14 (by omega)]
