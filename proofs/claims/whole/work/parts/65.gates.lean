/-! more gates -/
theorem NOW.there {G D T N S : Nat} {X M : Nat → Nat → Int32} (h : NOW G D T N S X M) {g : Nat} (hg : g < G) : bt (X 37 1) g = true ↔ M 17 (7 + g) = 0 := h.nr.2.2.2.2.1 g hg
theorem isIn_y {n : Nat} {f : Nat → Int32} {g : Nat} (hg : g < 7) (h : f (7 + g) = 0) : fX10_isIn n (nI g) f = some 1 := by rw [isInS n f hg, if_pos h]
theorem isIn_n {n : Nat} {f : Nat → Int32} {g : Nat} (hg : g < 7) (h : ¬ f (7 + g) = 0) : fX10_isIn n (nI g) f = some 0 := by rw [isInS n f hg, if_neg h]
theorem has_y {n : Nat} {o : Nat → Int32} {g : Nat} (hg : g < 7) (h : bt (o 1) g = true) : fX2_has n (nI g) o = some 1 := by rw [hasS n o (by omega), if_pos h]
theorem has_n {n : Nat} {o : Nat → Int32} {g : Nat} (hg : g < 7) (h : ¬ bt (o 1) g = true) : fX2_has n (nI g) o = some 0 := by rw [hasS n o (by omega), if_neg h]
theorem INV.gateP {n : Nat} {X : Nat → Nat → Int32} {Y : Nat → Int64} {c : Int64} {P : Nat → Nat → Nat → Int32} {M : Nat → Nat → Int32} (h : INV n X Y c P M) (x : Int32) :
    (∃ G D T N S g, NOW G D T N S X M ∧ g < G ∧ x = nI g ∧ bt (X 37 1) g = true ∧ (∀ o, fX9_presentAsked n x o (X 5) (X 37) = some (1, upd o 4 0)) ∧ ∀ o, o 14 = M 0 14 → fX10_thereWhy n x o (M 15) (M 17) = some 0) ∨
    (∃ t : Int32, t ≠ 4 ∧ ¬ t = 0 ∧ (∀ o, fX9_presentAsked n x o (X 5) (X 37) = some (0, upd o 4 t)) ∧ ∀ o, o 14 = M 0 14 → fX10_thereWhy n x o (M 15) (M 17) = some t) := by
  rcases h.gateG x with ⟨G, D, T, N, S, g, hN, hg, ex, a1, a2⟩ | ⟨a1, a2⟩
  · have hG : G ≤ 7 := hN.G.1
    by_cases hb : bt (X 37 1) g = true
    · refine Or.inl ⟨G, D, T, N, S, g, hN, hg, ex, hb, fun o => ?_, fun o ho => ?_⟩
      · rw [fX9_presentAsked, a1, ob2_ss, if_neg i10, ex, has_y (by omega) hb, ob1_ss, if_neg i10, ob1_ss, if_neg (fun q => q (Or.inr rfl)), updupd]
      · rw [fX10_thereWhy, a2 o ho, ob1_ss, if_neg i10, ex, isIn_y (by omega) ((hN.there hg).mp hb), ob1_ss, if_neg i10]
    · refine Or.inr ⟨5, by decide, by decide, fun o => ?_, fun o ho => ?_⟩
      · rw [fX9_presentAsked, a1, ob2_ss, if_neg i10, ex, has_n (by omega) hb, ob1_ss, if_pos i00, ob1_ss, if_neg (fun q => q (Or.inl rfl)), updupd]
      · rw [fX10_thereWhy, a2 o ho, ob1_ss, if_neg i10, ex, isIn_n (by omega) (fun q => hb ((hN.there hg).mpr q)), ob1_ss, if_pos i00]
  · refine Or.inr ⟨1, by decide, by decide, fun o => ?_, fun o ho => ?_⟩
    · rw [fX9_presentAsked, a1, ob2_ss, if_pos i00]
    · rw [fX10_thereWhy, a2 o ho, ob1_ss, if_pos i00]
theorem INV.gateT {n : Nat} {X : Nat → Nat → Int32} {Y : Nat → Int64} {c : Int64} {P : Nat → Nat → Nat → Int32} {M : Nat → Nat → Int32} (h : INV n X Y c P M) (x : Int32) :
    (∃ G D T N S t, NOW G D T N S X M ∧ t < T ∧ x = nI t ∧ (∀ o, fX9_taleAsked n x o (X 5) = some (1, upd o 4 0)) ∧ fX10_in n x 0 (M 15 6 - 1) = some 1) ∨
    ((∀ o, fX9_taleAsked n x o (X 5) = some (0, upd o 4 1)) ∧ (M 0 14 = 0 ∨ (M 0 14 = 1 ∧ fX10_in n x 0 (M 15 6 - 1) = some 0))) := by
  rcases h.gate with ⟨G, D, T, N, S, hN⟩ | ⟨b1, b2, -, b3⟩
  · have hX := hN.2.2.2.2.1
    have hT : T ≤ 4 := hX.2.2.1
    have e5 : X 5 13 = nI T := hX.2.2.2.2.2.2.2.2.2.1
    have er : M 15 6 = nI T := hX.2.2.2.2.2.2.2.2.2.2.1
    have key : (∃ t, t < T ∧ x = nI t) ∨ (x < 0 ∨ (¬ x < 0 ∧ nI T ≤ x)) := by
      rcases pk_ix x (n := T) (by omega) with z | z | ⟨k, hk, e⟩
      · exact Or.inr (Or.inl z)
      · by_cases q : x < 0
        · exact Or.inr (Or.inl q)
        · exact Or.inr (Or.inr ⟨q, z⟩)
      · exact Or.inl ⟨k, hk, e⟩
    rcases key with ⟨t, ht, ex⟩ | key
    · refine Or.inl ⟨G, D, T, N, S, t, hN, ht, ex, fun o => ?_, ?_⟩
      · rw [fX9_taleAsked, e5, ex, if_neg (nI_pos (by omega)), if_neg (nI_ge (by omega) (by omega))]
      · obtain ⟨T', rfl⟩ : ∃ T', T = T' + 1 := ⟨T - 1, by omega⟩
        rw [er, nI_pred, ex, fX10_in, if_neg (nI_pos (by omega)), if_neg (nI_nlt (by omega) (by omega))]
    · refine Or.inr ⟨fun o => ?_, Or.inr ⟨hN.2.1, ?_⟩⟩
      · rw [fX9_taleAsked, e5]
        rcases key with z | ⟨z, z2⟩
        · rw [if_pos z]
        · rw [if_neg z, if_pos z2]
      · rw [er, fX10_in]
        rcases key with z | ⟨z, z2⟩
        · rw [if_pos z]
        · rw [if_neg z, if_pos]
          rw [Int32.lt_iff_toInt_lt]
          rw [Int32.le_iff_toInt_le, nI_toInt (by omega)] at z2
          have e : (nI T - 1).toInt = (T : Int) - 1 := sub_small (x := nI T) (q := 1) (by omega) (by rw [nI_toInt (by omega)]; omega) |>.trans (by rw [nI_toInt (by omega)]; rfl)
          omega
  · refine Or.inr ⟨fun o => ?_, Or.inl b2⟩
    rw [fX9_taleAsked, b3]
    by_cases q : x < 0
    · rw [if_pos q]
    · rw [if_neg q, if_pos (Int32.not_lt.mp q)]
theorem INV.gate2 {n : Nat} {X : Nat → Nat → Int32} {Y : Nat → Int64} {c : Int64} {P : Nat → Nat → Nat → Int32} {M : Nat → Nat → Int32} (h : INV n X Y c P M) (x y : Int32) :
    (∃ G D T N S g b, NOW G D T N S X M ∧ g < G ∧ b < G ∧ g ≠ b ∧ x = nI g ∧ y = nI b ∧ (∀ o, fX9_twoAsked n x y o (X 5) = some (1, upd o 4 0)) ∧ (∀ o, o 14 = M 0 14 → fX10_isGuest n x o (M 15) = some 1) ∧ (∀ o, o 14 = M 0 14 → fX10_isGuest n y o (M 15) = some 1) ∧ ¬ x = y) ∨
    ((∀ o, fX9_twoAsked n x y o (X 5) = some (0, upd o 4 1)) ∧ ((∀ o, o 14 = M 0 14 → fX10_isGuest n x o (M 15) = some 0) ∨ ((∀ o, o 14 = M 0 14 → fX10_isGuest n x o (M 15) = some 1) ∧ ((∀ o, o 14 = M 0 14 → fX10_isGuest n y o (M 15) = some 0) ∨ ((∀ o, o 14 = M 0 14 → fX10_isGuest n y o (M 15) = some 1) ∧ x = y))))) := by
  rcases h.gateG x with ⟨G, D, T, N, S, g, hN, hg, ex, a1, a2⟩ | ⟨a1, a2⟩
  · rcases h.gateG y with ⟨G', D', T', N', S', b, hN', hb, ey, b1, b2⟩ | ⟨b1, b2⟩
    · have eG : G' = G := by
        have e1 := hN.G.2.1
        have e2 := hN'.G.2.1
        have := hN.G.1
        have := hN'.G.1
        exact nI_inj (by omega) (by omega) (e2.symm.trans e1)
      subst eG
      have hG : G' ≤ 7 := hN.G.1
      by_cases hxy : x = y
      · refine Or.inr ⟨fun o => ?_, Or.inr ⟨a2, Or.inr ⟨b2, hxy⟩⟩⟩
        rw [fX9_twoAsked, a1, ob2_ss, if_neg i10, b1, ob2_ss, if_neg i10, if_pos hxy, updupd, updupd]
      · refine Or.inl ⟨G', D, T, N, S, g, b, hN, hg, hb, fun e => hxy (by rw [ex, ey, e]), ex, ey, fun o => ?_, a2, b2, hxy⟩
        rw [fX9_twoAsked, a1, ob2_ss, if_neg i10, b1, ob2_ss, if_neg i10, if_neg hxy, updupd, updupd]
    · refine Or.inr ⟨fun o => ?_, Or.inr ⟨a2, Or.inl b2⟩⟩
      rw [fX9_twoAsked, a1, ob2_ss, if_neg i10, b1, ob2_ss, if_pos i00, updupd, updupd]
  · refine Or.inr ⟨fun o => ?_, Or.inl a2⟩
    rw [fX9_twoAsked, a1, ob2_ss, if_pos i00, updupd]
/-! hours one after another: the class's loop, and any loop of the reference of this form -/
theorem hours_lock {n G D H : Nat} (hn : 100 ≤ n) {ho kind sinks mate dg dr dm r : Nat → Int32} (hH : HR G D ho kind sinks mate dg dr dm r) {po : Nat → Int32} (hpo : po 0 = 0) (hH60 : H ≤ 60) {Z : Type} {F : Nat → Int32 → (Nat → Int32) → (Nat → Int32) → Option Z} {K : (Nat → Int32) → (Nat → Int32) → Option Z}
    (hF : ∀ f x om st, F (f + 1) x om st = if nI H ≤ x then K om st else ob3 (fX10_hourOf n om r st) (fun _ u v => F f (x + 1) u v)) :
    ∀ (j k f1 f2 c : Nat) (x4 : Int32) (o w la wl om st : Nat → Int32), k + j = H → j < f1 → j < f2 → c + j ≤ 100000 → NR G o w la st → st 14 = nI c →
      ∃ x4' o' w' la' wl' om' st', fX2_passAll_L6 n (nI H) ho kind sinks mate dg dr dm (fun x o w l v p => some (x, o, w, l, v, p)) f1 x4 (nI k) o w la wl po = some (x4', o', w', la', wl', po) ∧ F f2 (nI k) om st = K om' st' ∧ NR G o' w' la' st' ∧ st' 14 = nI (c + j) ∧ (∀ k, k ≠ 22 → om' k = om k) := by
  intro j
  induction j with
  | zero =>
    intro k f1 f2 c x4 o w la wl om st hk hf1 hf2 hcb hN hc
    obtain ⟨a, rfl⟩ : ∃ a, f1 = a + 1 := ⟨f1 - 1, by omega⟩
    obtain ⟨b, rfl⟩ : ∃ b, f2 = b + 1 := ⟨f2 - 1, by omega⟩
    exact ⟨x4, o, w, la, wl, om, st, by rw [fX2_passAll_L6, if_pos (nI_le (by omega) (by omega))], by rw [hF, if_pos (nI_le (by omega) (by omega))], hN, hc, fun _ _ => rfl⟩
  | succ j ih =>
    intro k f1 f2 c x4 o w la wl om st hk hf1 hf2 hcb hN hc
    obtain ⟨a, rfl⟩ : ∃ a, f1 = a + 1 := ⟨f1 - 1, by omega⟩
    obtain ⟨b, rfl⟩ : ∃ b, f2 = b + 1 := ⟨f2 - 1, by omega⟩
    obtain ⟨X, o1, w1, la1, wl1, om1, st1, e1, e2, g1, g2, g3, g4, g5, g6, g7, g8⟩ := pass_lock (n := n) (by omega) hH (c := c) (by omega) wl om po hN hc hpo
    rw [fX2_passAll_L6, if_neg (nI_ge (by omega) (by omega)), e1, ob6_ss, sI, hF, if_neg (nI_ge (by omega) (by omega)), e2, ob3_ss, sI]
    obtain ⟨x4', o', w', la', wl', om', st', t1, t2, t3, t4, t5⟩ := ih (k + 1) a b (c + 1) (x4 ||| X) o1 w1 la1 wl1 om1 st1 (by omega) (by omega) (by omega) (by omega) g1 g2
    exact ⟨x4', o', w', la', wl', om', st', t1, t2, t3, by rw [t4]; exact congrArg nI (by omega), fun k hk => (t5 k hk).trans (g4 k hk)⟩
