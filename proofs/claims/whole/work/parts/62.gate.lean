/-! who may be asked: both gates alike -/
theorem goodS {n : Nat} {o : Nat → Int32} : fX10_good n o = some (upd (upd o 0 0) 11 0) := rfl
theorem noS {n : Nat} {t : Int32} {o : Nat → Int32} : fX10_no n t o = some (-1, upd o 11 t) := rfl
theorem lessS {n : Nat} {t : Int32} {o : Nat → Int32} : fX10_less n t o = some (-1000, upd o 11 t) := rfl
theorem refuseS {n : Nat} {t : Int32} {o : Nat → Int32} : fX9_refuse n t o = some (-1, upd o 4 t) := rfl
theorem ob4_ss {A B C D Z : Type} (a : A) (b : B) (c : C) (d : D) (k : A → B → C → D → Option Z) : ob4 (some (a, b, c, d)) k = k a b c d := rfl
theorem rng (n a b : Nat) (x : Int32) (hab : a ≤ b + 1) (hb : b < 2 ^ 30) : (∃ k, a ≤ k ∧ k ≤ b ∧ x = nI k ∧ fX10_in n x (nI a) (nI b) = some 1 ∧ ∀ o, fX9_within n x (nI a) (nI b) o = some (1, upd o 4 0)) ∨ (fX10_in n x (nI a) (nI b) = some 0 ∧ ∀ o, fX9_within n x (nI a) (nI b) o = some (0, upd o 4 2)) := by
  by_cases h1 : x < nI a
  · exact Or.inr ⟨by rw [fX10_in, if_pos h1], fun o => by rw [fX9_within, if_pos h1]⟩
  · by_cases h2 : nI b < x
    · exact Or.inr ⟨by rw [fX10_in, if_neg h1, if_pos h2], fun o => by rw [fX9_within, if_neg h1, if_pos h2]⟩
    · rcases pk_ix x (n := b + 1) (by omega) with q | q | ⟨k, hk, e⟩
      · exfalso
        refine h1 ?_
        rw [Int32.lt_iff_toInt_lt] at q ⊢
        rw [nI_toInt (by omega)]
        have : (0 : Int32).toInt = 0 := by decide
        omega
      · exfalso
        refine h2 ?_
        rw [Int32.le_iff_toInt_le, nI_toInt (by omega)] at q
        rw [Int32.lt_iff_toInt_lt, nI_toInt (by omega)]
        omega
      · refine Or.inl ⟨k, ?_, by omega, e, by rw [fX10_in, if_neg h1, if_neg h2], fun o => by rw [fX9_within, if_neg h1, if_neg h2]⟩
        rcases Nat.lt_or_ge k a with z | z
        · exact absurd (by rw [e]; exact nI_lt z (by omega)) h1
        · exact z
/-- what is known of a begun evening -/
def NOW (G D T N S : Nat) (X : Nat → Nat → Int32) (M : Nat → Nat → Int32) : Prop :=
  X 0 3 = 1 ∧ M 0 14 = 1 ∧ X 45 0 = 0 ∧ X 46 0 = 1 ∧ HX G D T N S X (M 15) ∧ LED G D T (X 6) (X 10) (X 11) (X 12) (X 37) (X 38) (X 39) (M 17)
theorem INV.gate {n : Nat} {X : Nat → Nat → Int32} {Y : Nat → Int64} {c : Int64} {P : Nat → Nat → Nat → Int32} {M : Nat → Nat → Int32} (h : INV n X Y c P M) : (∃ G D T N S, NOW G D T N S X M) ∨ (X 0 3 = 0 ∧ M 0 14 = 0 ∧ X 5 3 = 0 ∧ X 5 13 = 0) := by
  obtain ⟨-, -, -, -, a5, a6, a7⟩ := h
  rcases a7 with ⟨b1, b2, G, D, T, N, S, nx, u, v, c1, c2, -⟩ | ⟨b1, b2, b3, -⟩
  · exact Or.inl ⟨G, D, T, N, S, b1, b2, a5, a6, c1, c2⟩
  · exact Or.inr ⟨b1, b2, b3 3, b3 13⟩
theorem NOW.G {G D T N S : Nat} {X M : Nat → Nat → Int32} (h : NOW G D T N S X M) : HR G D (X 5) (X 6) (X 8) (X 9) (X 10) (X 11) (X 12) (M 15) := h.2.2.2.2.1.1
theorem NOW.nr {G D T N S : Nat} {X M : Nat → Nat → Int32} (h : NOW G D T N S X M) : NR G (X 37) (X 38) (X 39) (M 17) := h.2.2.2.2.2.1
theorem NOW.clock {G D T N S : Nat} {X M : Nat → Nat → Int32} (h : NOW G D T N S X M) : ∃ c, c ≤ 99 ∧ M 17 14 = nI c := by
  obtain ⟨c, k, h1, -, h2, -⟩ := h.2.2.2.2.2.2.2.2.2
  exact ⟨c, h1, h2⟩
/-- a guest is asked for -/
theorem INV.gateG {n : Nat} {X : Nat → Nat → Int32} {Y : Nat → Int64} {c : Int64} {P : Nat → Nat → Nat → Int32} {M : Nat → Nat → Int32} (h : INV n X Y c P M) (x : Int32) :
    (∃ G D T N S g, NOW G D T N S X M ∧ g < G ∧ x = nI g ∧ (∀ o, fX9_guestAsked n x o (X 5) = some (1, upd o 4 0)) ∧ ∀ o, o 14 = M 0 14 → fX10_isGuest n x o (M 15) = some 1) ∨
    ((∀ o, fX9_guestAsked n x o (X 5) = some (0, upd o 4 1)) ∧ ∀ o, o 14 = M 0 14 → fX10_isGuest n x o (M 15) = some 0) := by
  rcases h.gate with ⟨G, D, T, N, S, hN⟩ | ⟨b1, b2, b3, -⟩
  · have hG : G ≤ 7 := hN.G.1
    have h1 : 1 ≤ G := hN.2.2.2.2.1.2.1
    have e5 : X 5 3 = nI G := hN.G.2.1
    have er : M 15 3 = nI G := hN.G.2.2.1
    have em := hN.2.1
    obtain ⟨G', rfl⟩ : ∃ G', G = G' + 1 := ⟨G - 1, by omega⟩
    rcases rng n 0 G' x (by omega) (by omega) with ⟨k, -, hk, ex, e1, e2⟩ | ⟨e1, e2⟩
    · refine Or.inl ⟨_, D, T, N, S, k, hN, by omega, ex, fun o => ?_, fun o ho => ?_⟩
      · rw [fX9_guestAsked, e5, ex, if_neg (nI_pos (by omega)), if_neg (nI_ge (by omega) (by omega))]
      · rw [fX10_isGuest, ho, em, if_neg i10, er, nI_pred]
        show ob1 (fX10_in n x (nI 0) (nI G')) _ = _
        rw [e1, ob1_ss, if_neg i10]
    · refine Or.inr ⟨fun o => ?_, fun o ho => ?_⟩
      · rw [fX9_guestAsked, e5]
        by_cases q : x < 0
        · rw [if_pos q]
        · rw [if_neg q]
          by_cases q2 : nI (G' + 1) ≤ x
          · rw [if_pos q2]
          · exfalso
            rcases pk_ix x (n := G' + 1) (by omega) with z | z | ⟨k, hk, e⟩
            · exact q z
            · exact q2 z
            · rw [e, fX10_in, if_neg (nI_nlt (by omega) (by omega)), if_neg (nI_nlt (by omega) (by omega))] at e1
              exact absurd (Option.some.inj e1) (by decide)
      · rw [fX10_isGuest, ho, em, if_neg i10, er, nI_pred]
        show ob1 (fX10_in n x (nI 0) (nI G')) _ = _
        rw [e1, ob1_ss, if_pos i00]
  · refine Or.inr ⟨fun o => ?_, fun o ho => ?_⟩
    · rw [fX9_guestAsked, b3]
      by_cases q : x < 0
      · rw [if_pos q]
      · rw [if_neg q, if_pos (Int32.not_lt.mp q)]
    · rw [fX10_isGuest, ho, b2, if_pos i00]
