/-! the search of the cups -/
theorem cupLoop {n G D T N S kL : Nat} (hn : 100 ≤ n) {X M : Nat → Nat → Int32} (hB : NOW G D T N S X M) (hk : X 37 2 = nI kL) (hk2 : M 17 15 = nI kL) (hkL : kL ≤ 4) :
    ∀ (i κ f a : Nat) (o f2 f3 f4 t0 tw tl tv : Nat → Int32), κ + i = 5 → i < f → a ≤ 62 → o 1 = cv a → (κ ≠ 0 → 1 ≤ a) →
      ∃ (a' : Nat) (μ : Nat → Nat) (o' f2' f3' f4' q1 q2 q3 q4 : Nat → Int32), fX0_search_L16 n (X 5) (X 6) (X 8) (X 9) (X 10) (X 11) (X 12) (X 37) (X 38) (X 39) (fun a1 a2 a3 a4 a5 a6 a7 a8 a9 => some ((upd a1 0 1), a2, a3, a4, a5, a6, a7, a8, a9)) f (nI κ) o f2 f3 f4 t0 tw tl tv (X 45) = some (upd o' 0 1, f2', f3', f4', q1, q2, q3, q4, X 45) ∧ a' ≤ 62 ∧ 1 ≤ a' ∧ o' 1 = cv a' ∧ (∀ x, κ ≤ x → x ≤ 4 → f3' x = cv (μ x) ∧ μ x ≤ 62) ∧ (∀ x, x < κ → f3' x = f3 x) ∧ (∀ x, κ ≤ x → kL < x → μ x = 0) ∧
        (∀ (fu : Nat) (om tr cu be : Nat → Int32) (K : (Nat → Int32) → (Nat → Int32) → (Nat → Int32) → (Nat → Int32) → Option (Int32 × (Nat → Int32) × (Nat → Int32) × (Nat → Int32) × (Nat → Int32))), i < fu → om 32 = mv a → (a ≠ 0 → ∀ i, i < G → be i = f2 i) → ∃ om' tr' cu' be', fX10_seekCups_L7 n (M 15) (M 17) K fu (nI κ) om tr cu be = K om' tr' cu' be' ∧ om' 32 = mv a' ∧ (∀ i, i < G → be' i = f2' i) ∧ (∀ k, k ≠ 22 → k ≠ 24 → k ≠ 32 → om' k = om k)) ∧
        (a ≠ 62 → ∀ x, κ ≤ x → x ≤ kL → (∀ y, κ ≤ y → y < x → μ y ≠ 62) → ∀ om tr cu be, om 32 = mv 0 → ∃ om' tr' cu' be', fX10_tryCups n 10 0 (nI x) om (M 15) (M 17) tr cu be = some (om', tr', cu', be') ∧ om' 32 = mv (μ x) ∧ (∀ k, k ≠ 22 → k ≠ 24 → k ≠ 32 → om' k = om k)) := by
  have hG := hB.G.1
  have l4 : (4 : Int32) = nI 4 := rfl
  intro i
  induction i with
  | zero =>
    intro κ f a o f2 f3 f4 t0 tw tl tv hκ hf ha ho h1
    obtain ⟨u, rfl⟩ : ∃ u, f = u + 1 := ⟨f - 1, by omega⟩
    refine ⟨a, fun _ => 0, o, f2, f3, f4, t0, tw, tl, tv, by rw [fX0_search_L16, l4, if_pos (nI_lt (by omega) (by omega))], ha, h1 (by omega), ho, fun x h1 h2 => by omega, fun _ _ => rfl, fun _ _ _ => rfl, fun fu om tr cu be K hfu h32 hbe => ?_, fun _ x h1 h2 => by omega⟩
    obtain ⟨fu, rfl⟩ : ∃ w, fu = w + 1 := ⟨fu - 1, by omega⟩
    exact ⟨om, tr, cu, be, by rw [fX10_seekCups_L7, hk2, if_pos (nI_lt (by omega) (by omega))], h32, hbe (by have := h1 (by omega); omega), fun _ _ _ _ => rfl⟩
  | succ i ih =>
    intro κ f a o f2 f3 f4 t0 tw tl tv hκ hf ha ho h1
    obtain ⟨u, rfl⟩ : ∃ u, f = u + 1 := ⟨f - 1, by omega⟩
    rw [fX0_search_L16, l4, if_neg (nI_nlt (by omega) (by omega)), if_neg (ckI (by omega) (by omega)), clI (by omega), hk, sI]
    by_cases hle : κ ≤ kL
    · rw [if_neg (nI_nlt (by omega) (by omega))]
      by_cases h62 : a = 62
      · subst h62
        have run : fX0_share n 10 (nI κ) 0 (nI κ) o f2 (upd f3 κ (-1)) f4 t0 tw tl tv (X 5) (X 6) (X 8) (X 9) (X 10) (X 11) (X 12) (X 37) (X 38) (X 39) (X 45) = some (o, f2, upd f3 κ (-1), f4, t0, tw, tl, tv, X 45) := by
          show fX0_share n (9 + 1) _ _ _ _ _ _ _ _ _ _ _ _ _ _ _ _ _ _ _ _ _ _ = _
          rw [fX0_share, ho, if_neg (by decide)]
        rw [run, ob9_ss]
        obtain ⟨a', μ, o', f2', f3', f4', q1, q2, q3, q4, x1, x2, x3, x4, x5, x6, x7, x8, x9⟩ := ih (κ + 1) u 62 o f2 (upd f3 κ (-1)) f4 t0 tw tl tv (by omega) (by omega) ha ho (fun _ => by omega)
        refine ⟨a', va_up μ κ 0, o', f2', f3', f4', q1, q2, q3, q4, x1, x2, x3, x4, fun x h1 h2 => ?_, fun x hx => by rw [x6 x (by omega), upd_n _ _ (by omega)], fun x h1 h2 => ?_, fun fu om tr cu be K hfu h32 hbe => ?_, fun z => absurd rfl z⟩
        · by_cases e : x = κ
          · subst e
            rw [up_s, x6 x (by omega), upd_s]; exact ⟨rfl, by omega⟩
          · rw [up_n _ _ e]; exact x5 x (by omega) h2
        · rw [up_n _ _ (show x ≠ κ by omega)]; exact x7 x (by omega) h2
        · obtain ⟨fu, rfl⟩ : ∃ w, fu = w + 1 := ⟨fu - 1, by omega⟩
          obtain ⟨om1, tr1, cu1, e1, e2, e3, e4⟩ := muchS hn hB G 0 κ 10 om tr cu be (by omega) (by omega) (by omega) h32
          obtain ⟨om2, tr2, cu2, be2, y1, y2, y3, y4⟩ := x8 fu om1 tr1 cu1 be K (by omega) e2 hbe
          refine ⟨om2, tr2, cu2, be2, ?_, y2, y3, fun k h1 h2 h3 => (y4 k h1 h2 h3).trans (e4 k h1 h2 h3)⟩
          rw [fX10_seekCups_L7, hk2, if_neg (nI_nlt (by omega) (by omega)), show fX10_tryCups n 10 0 (nI κ) om (M 15) (M 17) tr cu be = _ from e1, ob4_ss, sI, y1]
      · obtain ⟨a1, m1, o1, g2, g3, g4, r1, r2, r3, r4, s1, s2, s3, s4, s5, s6, s7, s8, s9, s10, s11, s12, s13⟩ := shareS hn hB (show κ ≤ 4 by omega) G 0 κ 10 a 0 o f2 (upd f3 κ (-1)) f4 t0 tw tl tv (by omega) (by omega) (by omega) ha (Nat.zero_le _) ho (by rw [upd_s]; rfl) (fun z => absurd z h62)
        rw [show fX0_share n 10 (nI κ) 0 (nI κ) o f2 (upd f3 κ (-1)) f4 t0 tw tl tv (X 5) (X 6) (X 8) (X 9) (X 10) (X 11) (X 12) (X 37) (X 38) (X 39) (X 45) = _ from s1, ob9_ss]
        obtain ⟨a', μ, o', f2', f3', f4', q1, q2, q3, q4, x1, x2, x3, x4, x5, x6, x7, x8, x9⟩ := ih (κ + 1) u a1 o1 g2 g3 g4 r1 r2 r3 r4 (by omega) (by omega) s2 s5 (fun _ => by
          by_cases z : κ = 0
          · exact s8 z
          · have := h1 z; omega)
        refine ⟨a', va_up μ κ m1, o', f2', f3', f4', q1, q2, q3, q4, x1, x2, x3, x4, fun x h1 h2 => ?_, fun x hx => by rw [x6 x (by omega), s10 x (by omega), upd_n _ _ (by omega)], fun x h1 h2 => ?_, fun fu om tr cu be K hfu h32 hbe => ?_, fun ha62 x h1 h2 h3 om tr cu be h32 => ?_⟩
        · by_cases e : x = κ
          · subst e
            rw [up_s, x6 x (by omega)]; exact ⟨s6, by omega⟩
          · rw [up_n _ _ e]; exact x5 x (by omega) h2
        · rw [up_n _ _ (show x ≠ κ by omega)]; exact x7 x (by omega) h2
        · obtain ⟨fu, rfl⟩ : ∃ w, fu = w + 1 := ⟨fu - 1, by omega⟩
          obtain ⟨om1, tr1, cu1, be1, e1, e2, e3, e4, e5⟩ := s12 10 om tr cu be (by omega) h32 (fun i hi => absurd hi (Nat.not_lt_zero i)) (fun _ z => hbe z)
          obtain ⟨om2, tr2, cu2, be2, y1, y2, y3, y4⟩ := x8 fu om1 tr1 cu1 be1 K (by omega) e2 (fun z => e3 rfl z)
          refine ⟨om2, tr2, cu2, be2, ?_, y2, y3, fun k h1 h2 h3 => (y4 k h1 h2 h3).trans (e5 k h1 h2 h3)⟩
          rw [fX10_seekCups_L7, hk2, if_neg (nI_nlt (by omega) (by omega)), show fX10_tryCups n 10 0 (nI κ) om (M 15) (M 17) tr cu be = _ from e1, ob4_ss, sI, y1]
        · by_cases e : x = κ
          · subst e
            rw [up_s]
            obtain ⟨om1, tr1, cu1, be1, e1, e2, -, -, e5⟩ := s13 10 om tr cu be (by omega) h32 (fun i hi => absurd hi (Nat.not_lt_zero i)) (fun z => absurd z (by decide))
            exact ⟨om1, tr1, cu1, be1, e1, e2, e5⟩
          · rw [up_n _ _ e]
            have hm1 : m1 ≠ 62 := by
              have := h3 κ (Nat.le_refl _) (by omega)
              rw [up_s] at this
              exact this
            refine x9 (fun z => hm1 (s7 z)) x (by omega) h2 (fun y hy1 hy2 => ?_) om tr cu be h32
            have := h3 y (by omega) hy2
            rw [up_n _ _ (show y ≠ κ by omega)] at this
            exact this
    · rw [if_pos (nI_lt (by omega) (by omega))]
      obtain ⟨a', μ, o', f2', f3', f4', q1, q2, q3, q4, x1, x2, x3, x4, x5, x6, x7, x8, x9⟩ := ih (κ + 1) u a o f2 (upd f3 κ (-1)) f4 t0 tw tl tv (by omega) (by omega) ha ho (fun _ => h1 (by omega))
      refine ⟨a', va_up μ κ 0, o', f2', f3', f4', q1, q2, q3, q4, x1, x2, x3, x4, fun x h1 h2 => ?_, fun x hx => by rw [x6 x (by omega), upd_n _ _ (by omega)], fun x h1 h2 => ?_, fun fu om tr cu be K hfu h32 hbe => ?_, fun ha62 x h1 h2 => by omega⟩
      · by_cases e : x = κ
        · subst e
          rw [up_s, x6 x (by omega), upd_s]; exact ⟨rfl, by omega⟩
        · rw [up_n _ _ e]; exact x5 x (by omega) h2
      · by_cases e : x = κ
        · rw [e, up_s]
        · rw [up_n _ _ e]; exact x7 x (by omega) h2
      · obtain ⟨fu, rfl⟩ : ∃ w, fu = w + 1 := ⟨fu - 1, by omega⟩
        obtain ⟨om2, tr2, cu2, be2, y1, y2, y3, y4⟩ := x8 (fu + 1) om tr cu be K (by omega) h32 hbe
        refine ⟨om2, tr2, cu2, be2, ?_, y2, y3, y4⟩
        rw [fX10_seekCups_L7, hk2, if_pos (nI_lt (by omega) (by omega))] at y1 ⊢
        exact y1
/-- what the class remembers of the cups is what the reference finds -/
theorem searchC {n G D T N S : Nat} (hn : 100 ≤ n) {X M : Nat → Nat → Int32} (hB : NOW G D T N S X M) {o f2 f3 f4 t0 tw tl tv : Nat → Int32} (hT : SC n o f2 f3 (M 15) (M 17)) :
    ∃ o' f2' f3' f4' q1 q2 q3 q4, fX0_search n o f2 f3 f4 t0 tw tl tv (X 5) (X 6) (X 8) (X 9) (X 10) (X 11) (X 12) (X 37) (X 38) (X 39) (X 45) = some (o', f2', f3', f4', q1, q2, q3, q4, X 45) ∧ SC n o' f2' f3' (M 15) (M 17) ∧ o' 0 = 1 := by
  rcases hT.1 with h0 | h1
  · have hG := hB.G.1
    obtain ⟨c, kL, hc1, hkL, hc2, hk2, -⟩ := hB.2.2.2.2.2.2.2.2.2
    have hk : X 37 2 = nI kL := hB.nr.2.1.trans hk2
    obtain ⟨a', μ, o', f2', f3', f4', q1, q2, q3, q4, x1, x2, x3, x4, x5, x6, x7, x8, x9⟩ := cupLoop hn hB hk hk2 hkL 5 0 n 0 (upd o 1 (-1)) f2 f3 f4 t0 tw tl tv (by omega) (by omega) (by omega) (upd_s _ _ _) (fun z => absurd rfl z)
    refine ⟨upd o' 0 1, f2', f3', f4', q1, q2, q3, q4, by rw [fX0_search, if_pos h0]; exact x1, ⟨Or.inr (upd_s _ _ _), fun _ => ⟨fun om tr cu be => ?_, fun h hh om tr cu be => ?_⟩⟩, upd_s _ _ _⟩
    · obtain ⟨om', tr', cu', be', e1, e2, e3, e4⟩ := x8 n (upd om 32 (-1)) tr cu be (fun o a b c => if 1000000 ≤ o 32 then some (0, o, a, b, c) else some (1, o, a, b, c)) (by omega) (upd_s _ _ _) (fun z => absurd rfl z)
      by_cases h62 : a' = 62
      · subst h62
        refine ⟨0, om', tr', cu', be', ?_, fun k h1 h2 h3 => (e4 k h1 h2 h3).trans (upd_n _ _ h3), Or.inl ⟨rfl, by rw [upd_n _ _ (by decide)]; exact x4⟩⟩
        rw [fX10_seekCups]
        refine (show _ = _ from e1).trans ?_
        rw [e2, if_pos (show (1000000 : Int32) ≤ mv 62 by decide)]
      · obtain ⟨e, rfl⟩ : ∃ e, a' = e + 1 := ⟨a' - 1, by omega⟩
        have cs := cv_s e (by omega)
        refine ⟨1, om', tr', cu', be', ?_, fun k h1 h2 h3 => (e4 k h1 h2 h3).trans (upd_n _ _ h3), Or.inr ⟨rfl, e, by omega, by rw [upd_n _ _ (by decide), x4, cs.1], by rw [e2, cs.2], fun g hg hg7 => e3 g ?_⟩⟩
        · rw [fX10_seekCups]
          refine (show _ = _ from e1).trans ?_
          rw [e2, if_neg (mv_big _ (by omega))]
        · rw [hB.G.2.2.1] at hg
          rcases Nat.lt_or_ge g G with z | z
          · exact z
          · exact absurd hg (nI_nlt z (by omega))
    · -- the first number of cups by which it lasts
      have loop : ∀ (i κ f : Nat) (om tr cu be : Nat → Int32), κ + i = 5 → i < f → (∀ j, j < κ → f3' j < nI h) → (∀ j, j < κ → μ j ≠ 62) → ∃ A om' tr' cu' be', fX10_cupsFor_L35 n (nI h) (M 15) (M 17) (fun o a b c => some ((-2 : Int32), o, a, b, c)) f (nI κ) om tr cu be = some (A, om', tr', cu', be') ∧ (∀ k, k ≠ 22 → k ≠ 24 → k ≠ 32 → om' k = om k) ∧ ((∃ k : Nat, k ≤ 4 ∧ A = nI k ∧ ¬ f3' k < nI h ∧ ∀ j, j < k → f3' j < nI h) ∨ (A = -2 ∧ ∀ j, j ≤ 4 → f3' j < nI h)) := by
        intro i
        induction i with
        | zero =>
          intro κ f om tr cu be hκ hf hlt h62
          obtain ⟨u, rfl⟩ : ∃ u, f = u + 1 := ⟨f - 1, by omega⟩
          exact ⟨-2, om, tr, cu, be, by rw [fX10_cupsFor_L35, hk2, if_pos (nI_lt (by omega) (by omega))], fun _ _ _ _ => rfl, Or.inr ⟨rfl, fun j hj => hlt j (by omega)⟩⟩
        | succ i ih =>
          intro κ f om tr cu be hκ hf hlt h62
          obtain ⟨u, rfl⟩ : ∃ u, f = u + 1 := ⟨f - 1, by omega⟩
          by_cases hle : κ ≤ kL
          · obtain ⟨om1, tr1, cu1, be1, e1, e2, e3⟩ := x9 (by omega) κ (Nat.zero_le _) hle (fun y _ hy => h62 y hy) (upd om 32 (-1)) tr cu be (upd_s _ _ _)
            have xk := x5 κ (Nat.zero_le _) (by omega)
            rw [fX10_cupsFor_L35, hk2, if_neg (nI_nlt (by omega) (by omega)), e1, ob4_ss, e2, sI]
            have fr1 : ∀ k, k ≠ 22 → k ≠ 24 → k ≠ 32 → om1 k = om k := fun k h1 h2 h3 => (e3 k h1 h2 h3).trans (upd_n _ _ h3)
            by_cases hq : mv (μ κ) < nI h
            · rw [if_pos hq]
              have hq2 : f3' κ < nI h := by rw [xk.1]; exact (mv_h _ xk.2 h hh).mp hq
              obtain ⟨A, om', tr', cu', be', y1, y2, y3⟩ := ih (κ + 1) u om1 tr1 cu1 be1 (by omega) (by omega) (fun j hj => by
                by_cases e : j = κ
                · subst e; exact hq2
                · exact hlt j (by omega)) (fun j hj => by
                by_cases e : j = κ
                · subst e
                  intro z
                  rw [xk.1, z] at hq2
                  exact cv_62 h hh hq2
                · exact h62 j (by omega))
              exact ⟨A, om', tr', cu', be', y1, fun k h1 h2 h3 => (y2 k h1 h2 h3).trans (fr1 k h1 h2 h3), y3⟩
            · rw [if_neg hq]
              exact ⟨_, _, _, _, _, rfl, fr1, Or.inl ⟨κ, by omega, rfl, fun z => hq ((mv_h _ xk.2 h hh).mpr (by rw [← xk.1]; exact z)), hlt⟩⟩
          · refine ⟨-2, om, tr, cu, be, by rw [fX10_cupsFor_L35, hk2, if_pos (nI_lt (by omega) (by omega))], fun _ _ _ _ => rfl, Or.inr ⟨rfl, fun j hj => ?_⟩⟩
            by_cases hj2 : j < κ
            · exact hlt j hj2
            · rw [(x5 j (Nat.zero_le _) hj).1, x7 j (Nat.zero_le _) (by omega)]
              exact (by decide +kernel : ∀ h, h ≤ 60 → cv 0 < nI h) h hh
      exact loop 5 0 n om tr cu be (by omega) (by omega) (fun j hj => absurd hj (Nat.not_lt_zero j)) (fun j hj => absurd hj (Nat.not_lt_zero j))
  · exact ⟨o, f2, f3, f4, t0, tw, tl, tv, by rw [fX0_search, h1, if_neg i10], hT, h1⟩
/-- the class reads the answer off -/
theorem cupsFor_c {n h : Nat} (hn : 10 ≤ n) {oo o7 o13 f2 f3 f4 t0 tw tl tv : Nat → Int32} (R : Int32) (hR : (∃ k : Nat, k ≤ 4 ∧ R = nI k ∧ ¬ f3 k < nI h ∧ ∀ j, j < k → f3 j < nI h) ∨ (R = -2 ∧ ∀ j, j ≤ 4 → f3 j < nI h)) :
    fX9_cupsFor_L41 n (nI h) oo o7 o13 f2 f3 f4 t0 tw tl tv (fun _ => some ((-2 : Int32), oo, o7, o13, f2, f3, f4, t0, tw, tl, tv)) n 0 = some (R, oo, o7, o13, f2, f3, f4, t0, tw, tl, tv) := by
  have l4 : (4 : Int32) = nI 4 := rfl
  have loop : ∀ (i κ f : Nat), κ + i = 5 → i < f → (∀ k : Nat, k ≤ 4 → R = nI k → (∀ j, j < k → f3 j < nI h) → κ ≤ k) → fX9_cupsFor_L41 n (nI h) oo o7 o13 f2 f3 f4 t0 tw tl tv (fun _ => some ((-2 : Int32), oo, o7, o13, f2, f3, f4, t0, tw, tl, tv)) f (nI κ) = some (R, oo, o7, o13, f2, f3, f4, t0, tw, tl, tv) := by
    intro i
    induction i with
    | zero =>
      intro κ f hκ hf hk
      obtain ⟨u, rfl⟩ : ∃ u, f = u + 1 := ⟨f - 1, by omega⟩
      rw [fX9_cupsFor_L41, l4, if_pos (nI_lt (by omega) (by omega))]
      rcases hR with ⟨k, k1, k2, k3, k4⟩ | ⟨r1, -⟩
      · have := hk k k1 k2 k4; omega
      · rw [r1]
    | succ i ih =>
      intro κ f hκ hf hk
      obtain ⟨u, rfl⟩ : ∃ u, f = u + 1 := ⟨f - 1, by omega⟩
      rw [fX9_cupsFor_L41, l4, if_neg (nI_nlt (by omega) (by omega)), if_neg (ckI (by omega) (by omega)), clI (by omega), sI]
      rcases id hR with ⟨k, k1, k2, k3, k4⟩ | ⟨r1, r2⟩
      · have hle := hk k k1 k2 k4
        by_cases e : κ = k
        · subst e
          rw [if_neg k3, k2]
        · rw [if_pos (k4 κ (by omega))]
          exact ih (κ + 1) u (by omega) (by omega) (fun k' h1 h2 h3 => by
            have : k' = k := nI_inj (by omega) (by omega) (h2.symm.trans k2)
            omega)
      · rw [if_pos (r2 κ (by omega))]
        exact ih (κ + 1) u (by omega) (by omega) (fun k' h1 h2 h3 => by
          exact absurd (h2.symm.trans r1) ((by decide +kernel : ∀ k, k ≤ 4 → nI k ≠ (-2 : Int32)) k' h1))
  exact loop 5 0 n (by omega) (by omega) (fun k _ _ _ => Nat.zero_le _)
