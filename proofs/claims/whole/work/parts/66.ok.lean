theorem ok_leaving {n : Nat} (hn : 2000 ≤ n) {X : Nat → Nat → Int32} {Y : Nat → Int64} {c : Int64} {P : Nat → Nat → Nat → Int32} {M : Nat → Nat → Int32} (hI : INV n X Y c P M) : ∃ r y0 y41 y42 y43 y44 y45 z0 z25, fX9_leaving n (X 0) (X 5) (X 6) (X 8) (X 9) (X 10) (X 11) (X 12) (X 37) (X 38) (X 39) (X 41) (X 42) (X 43) (X 44) (X 45) = some (r, y0, y41, y42, y43, y44, y45) ∧ fX10_leaving n (M 0) (M 15) (M 17) (M 25) = some (r, z0, z25) ∧ INV n (va_up (va_up (va_up (va_up (va_up (va_up X 0 y0) 41 y41) 42 y42) 43 y43) 44 y44) 45 y45) Y c P (va_up (va_up M 0 z0) 25 z25) := by
  rcases hI.gate with ⟨G, D, T, N, S, hB⟩ | ⟨b1, b2, -, -⟩
  · have b1 := hB.1
    have b2 : upd (upd (M 0) 0 0) 11 0 14 = 1 := hB.2.1
    obtain ⟨c0, hc1, hc2⟩ := hB.clock
    obtain ⟨H, o', w', la', wl', om', st', e1, e2, g1, g2, g3, g4, g5, g6, g7, g8⟩ := pass_lock (n := n) (by omega) hB.G (c := c0) (by omega) (X 44) (upd (upd (M 0) 0 0) 11 0) (X 45) (hB.nr.copy hB.G.1 (X 41) (X 42) (X 43) (M 25)) (by rw [cpy_lo (by omega)]; exact hc2) hB.2.2.1
    have fr : ∀ k, k ≤ 21 → om' k = upd (upd (M 0) 0 0) 11 0 k := fun k hk => g4 k (by omega)
    by_cases h0 : X 37 1 = 0
    · have hX : H = 0 := no_bits (fun i hi => by
        cases h : bt H i with
        | false => rfl
        | true =>
          exfalso
          rcases g7.2.2.2.1 i hi h with z | z
          · rw [b_0] at z; exact absurd z (by decide)
          · have z : bt (X 37 1) i = true := z
            rw [h0, b_0] at z; exact absurd z (by decide))
      subst hX
      have th := th0 (n := n) (om := upd (upd (M 0) 0 0) 11 0) (by omega) hB.G.1 hB.G.2.2.1 (hB.nr.copy hB.G.1 (X 41) (X 42) (X 43) (M 25))
      have th : fX10_thereOf n (upd (upd (M 0) 0 0) 11 0) (M 15) (va_cpy (M 17) (M 25) 0 0 17) = some (X 37 1) := th
      exact ⟨0, (upd (X 0) 4 0), o', w', la', wl', (X 45), (upd (upd (M 0) 0 0) 11 0), (va_cpy (M 17) (M 25) 0 0 17),
        by rw [fX9_leaving, asked_y b1, ob2_ss, if_neg i10, become_eq, ob3_ss, e1, ob6_ss],
        by rw [fX10_leaving, goodS, ob1_ss, b2, if_neg i10, copy17 (by omega), ob1_ss, th, ob1_ss, if_pos h0],
        hI.askF 0 (by decide) rfl rfl rfl (core_up (by decide) (core_up (by decide) (core_up (by decide) (core_up (by decide) (core_up (by decide) (core_up (by decide) (fun _ _ => rfl))))))) rfl rfl ⟨rfl, rfl, rfl, rfl, rfl⟩ (fun _ _ => rfl)⟩
    · have th := th0 (n := n) (om := upd (upd (M 0) 0 0) 11 0) (by omega) hB.G.1 hB.G.2.2.1 (hB.nr.copy hB.G.1 (X 41) (X 42) (X 43) (M 25))
      have th : fX10_thereOf n (upd (upd (M 0) 0 0) 11 0) (M 15) (va_cpy (M 17) (M 25) 0 0 17) = some (X 37 1) := th
      exact ⟨H, (upd (X 0) 4 0), o', w', la', wl', (X 45), om', st',
        by rw [fX9_leaving, asked_y b1, ob2_ss, if_neg i10, become_eq, ob3_ss, e1, ob6_ss],
        by rw [fX10_leaving, goodS, ob1_ss, b2, if_neg i10, copy17 (by omega), ob1_ss, th, ob1_ss, if_neg h0, e2, ob3_ss],
        hI.askF 0 (by decide) rfl rfl rfl (core_up (by decide) (core_up (by decide) (core_up (by decide) (core_up (by decide) (core_up (by decide) (core_up (by decide) (fun _ _ => rfl))))))) rfl rfl ⟨rfl, rfl, rfl, rfl, rfl⟩ (fr)⟩
  · have b2 : upd (upd (M 0) 0 0) 11 0 14 = 0 := b2
    exact ⟨(-1), (upd (X 0) 4 1), (X 41), (X 42), (X 43), (X 44), (X 45), (upd (upd (upd (M 0) 0 0) 11 0) 11 1), (M 25),
      by rw [fX9_leaving, asked_n b1, ob2_ss, if_pos i00],
      by rw [fX10_leaving, goodS, ob1_ss, b2, if_pos i00, noS, ob2_ss],
      hI.askF 1 (by decide) rfl rfl rfl (core_up (by decide) (core_up (by decide) (core_up (by decide) (core_up (by decide) (core_up (by decide) (core_up (by decide) (fun _ _ => rfl))))))) rfl rfl ⟨rfl, rfl, rfl, rfl, rfl⟩ (fun k _ => congrFun (updupd _ _ _ _) k)⟩

theorem ok_thereIn {n : Nat} (hn : 2000 ≤ n) {X : Nat → Nat → Int32} {Y : Nat → Int64} {c : Int64} {P : Nat → Nat → Nat → Int32} {M : Nat → Nat → Int32} (hI : INV n X Y c P M) (x1 : Int32) : ∃ r y0 y41 y42 y43 y44 y45 z0 z25, fX9_thereIn n x1 (X 0) (X 5) (X 6) (X 8) (X 9) (X 10) (X 11) (X 12) (X 37) (X 38) (X 39) (X 41) (X 42) (X 43) (X 44) (X 45) = some (r, y0, y41, y42, y43, y44, y45) ∧ fX10_thereIn n x1 (M 0) (M 15) (M 17) (M 25) = some (r, z0, z25) ∧ INV n (va_up (va_up (va_up (va_up (va_up (va_up X 0 y0) 41 y41) 42 y42) 43 y43) 44 y44) 45 y45) Y c P (va_up (va_up M 0 z0) 25 z25) := by
  rcases hI.gate with ⟨G, D, T, N, S, hB⟩ | ⟨b1, b2, -, -⟩
  · have b1 := hB.1
    have b2 : upd (upd (M 0) 0 0) 11 0 14 = 1 := hB.2.1
    rcases rng n 0 60 x1 (by omega) (by omega) with ⟨H, -, hH6, hx, i1, w1⟩ | ⟨i1, w1⟩
    · have i1 : fX10_in n x1 0 60 = some 1 := i1
      have w1 : ∀ o, fX9_within n x1 0 60 o = some (1, upd o 4 0) := w1
      subst hx
      obtain ⟨c0, hc1, hc2⟩ := hB.clock
      obtain ⟨x4', o', w', la', wl', om', st', e1, e2, g1, g2, g3⟩ := hours_lock (n := n) (by omega) hB.G hB.2.2.1 hH6 (F := fX10_thereIn_L50 n (nI H) (M 15) (fun o a => ob1 (fX10_thereOf n o (M 15) a) (fun u => some (u, o, a)))) (K := fun o a => ob1 (fX10_thereOf n o (M 15) a) (fun u => some (u, o, a))) (fun _ _ _ _ => rfl) H 0 n n c0 0 _ _ _ (X 44) (upd (upd (M 0) 0 0) 11 0) _ (by omega) (by omega) (by omega) (by omega) (hB.nr.copy hB.G.1 (X 41) (X 42) (X 43) (M 25)) (by rw [cpy_lo (by omega)]; exact hc2)
      have e2 : fX10_thereIn_L50 n (nI H) (M 15) (fun o a => ob1 (fX10_thereOf n o (M 15) a) (fun u => some (u, o, a))) n 0 (upd (upd (M 0) 0 0) 11 0) (va_cpy (M 17) (M 25) 0 0 17) = _ := e2
      have e1 : fX2_passAll n (nI H) (upd (upd (upd (upd (X 41) 0 (X 37 0)) 1 (X 37 1)) 2 (X 37 2)) 3 (X 37 3)) (va_cpy (X 38) (X 42) 0 0 7) (va_cpy (X 39) (X 43) 0 0 7) (X 44) (X 5) (X 6) (X 8) (X 9) (X 10) (X 11) (X 12) (X 45) = _ := e1
      have fr : ∀ k, k ≤ 21 → om' k = upd (upd (M 0) 0 0) 11 0 k := fun k hk => g3 k (by omega)
      exact ⟨(o' 1), (upd (upd (X 0) 4 0) 4 0), o', w', la', wl', (X 45), om', st',
        by rw [fX9_thereIn, asked_y b1, ob2_ss, if_neg i10, w1, ob2_ss, if_neg i10, become_eq, ob3_ss, e1, ob6_ss],
        by rw [fX10_thereIn, goodS, ob1_ss, b2, if_neg i10, i1, ob1_ss, if_neg i10, copy17 (by omega), ob1_ss, e2, th0 (by omega) hB.G.1 hB.G.2.2.1 g1, ob1_ss],
        hI.askF 0 (by decide) rfl rfl rfl (core_up (by decide) (core_up (by decide) (core_up (by decide) (core_up (by decide) (core_up (by decide) (core_up (by decide) (fun _ _ => rfl))))))) rfl rfl ⟨rfl, rfl, rfl, rfl, rfl⟩ (fr)⟩
    · have i1 : fX10_in n x1 0 60 = some 0 := i1
      have w1 : ∀ o, fX9_within n x1 0 60 o = some (0, upd o 4 2) := w1
      exact ⟨(-1), (upd (upd (X 0) 4 0) 4 2), (X 41), (X 42), (X 43), (X 44), (X 45), (upd (upd (upd (M 0) 0 0) 11 0) 11 2), (M 25),
        by rw [fX9_thereIn, asked_y b1, ob2_ss, if_neg i10, w1, ob2_ss, if_pos i00],
        by rw [fX10_thereIn, goodS, ob1_ss, b2, if_neg i10, i1, ob1_ss, if_pos i00, noS, ob2_ss],
        hI.askF 2 (by decide) rfl rfl rfl (core_up (by decide) (core_up (by decide) (core_up (by decide) (core_up (by decide) (core_up (by decide) (core_up (by decide) (fun _ _ => rfl))))))) rfl rfl ⟨rfl, rfl, rfl, rfl, rfl⟩ (fun k _ => congrFun (updupd _ _ _ _) k)⟩
  · have b2 : upd (upd (M 0) 0 0) 11 0 14 = 0 := b2
    exact ⟨(-1), (upd (X 0) 4 1), (X 41), (X 42), (X 43), (X 44), (X 45), (upd (upd (upd (M 0) 0 0) 11 0) 11 1), (M 25),
      by rw [fX9_thereIn, asked_n b1, ob2_ss, if_pos i00],
      by rw [fX10_thereIn, goodS, ob1_ss, b2, if_pos i00, noS, ob2_ss],
      hI.askF 1 (by decide) rfl rfl rfl (core_up (by decide) (core_up (by decide) (core_up (by decide) (core_up (by decide) (core_up (by decide) (core_up (by decide) (fun _ _ => rfl))))))) rfl rfl ⟨rfl, rfl, rfl, rfl, rfl⟩ (fun k _ => congrFun (updupd _ _ _ _) k)⟩

theorem ok_wantIn {n : Nat} (hn : 2000 ≤ n) {X : Nat → Nat → Int32} {Y : Nat → Int64} {c : Int64} {P : Nat → Nat → Nat → Int32} {M : Nat → Nat → Int32} (hI : INV n X Y c P M) (x1 : Int32) (x2 : Int32) : ∃ r y0 y41 y42 y43 y44 y45 z0 z25, fX9_wantIn n x1 x2 (X 0) (X 5) (X 6) (X 8) (X 9) (X 10) (X 11) (X 12) (X 37) (X 38) (X 39) (X 41) (X 42) (X 43) (X 44) (X 45) = some (r, y0, y41, y42, y43, y44, y45) ∧ fX10_wantIn n x1 x2 (M 0) (M 15) (M 17) (M 25) = some (r, z0, z25) ∧ INV n (va_up (va_up (va_up (va_up (va_up (va_up X 0 y0) 41 y41) 42 y42) 43 y43) 44 y44) 45 y45) Y c P (va_up (va_up M 0 z0) 25 z25) := by
  rcases hI.gateG x1 with ⟨G, D, T, N, S, g, hB, hg, hx1, q1, q2⟩ | ⟨q1, q2⟩
  · have hG : G ≤ 7 := hB.G.1
    have q2 := q2 (upd (upd (M 0) 0 0) 11 0) rfl
    rcases rng n 0 60 x2 (by omega) (by omega) with ⟨H, -, hH6, hx, i1, w1⟩ | ⟨i1, w1⟩
    · have i1 : fX10_in n x2 0 60 = some 1 := i1
      have w1 : ∀ o, fX9_within n x2 0 60 o = some (1, upd o 4 0) := w1
      subst hx
      subst hx1
      obtain ⟨c0, hc1, hc2⟩ := hB.clock
      obtain ⟨x4', o', w', la', wl', om', st', e1, e2, g1, g2, g3⟩ := hours_lock (n := n) (by omega) hB.G hB.2.2.1 hH6 (F := fX10_wantIn_L51 n (nI g) (nI H) (M 15) (fun o a => if nI g < 0 ∨ 17 ≤ (nI g).toNatClampNeg then none else some ((a (nI g).toNatClampNeg), o, a))) (K := fun o a => if nI g < 0 ∨ 17 ≤ (nI g).toNatClampNeg then none else some ((a (nI g).toNatClampNeg), o, a)) (fun _ _ _ _ => rfl) H 0 n n c0 0 _ _ _ (X 44) (upd (upd (M 0) 0 0) 11 0) _ (by omega) (by omega) (by omega) (by omega) (hB.nr.copy hB.G.1 (X 41) (X 42) (X 43) (M 25)) (by rw [cpy_lo (by omega)]; exact hc2)
      have e2 : fX10_wantIn_L51 n (nI g) (nI H) (M 15) (fun o a => if nI g < 0 ∨ 17 ≤ (nI g).toNatClampNeg then none else some ((a (nI g).toNatClampNeg), o, a)) n 0 (upd (upd (M 0) 0 0) 11 0) (va_cpy (M 17) (M 25) 0 0 17) = _ := e2
      have e1 : fX2_passAll n (nI H) (upd (upd (upd (upd (X 41) 0 (X 37 0)) 1 (X 37 1)) 2 (X 37 2)) 3 (X 37 3)) (va_cpy (X 38) (X 42) 0 0 7) (va_cpy (X 39) (X 43) 0 0 7) (X 44) (X 5) (X 6) (X 8) (X 9) (X 10) (X 11) (X 12) (X 45) = _ := e1
      have fr : ∀ k, k ≤ 21 → om' k = upd (upd (M 0) 0 0) 11 0 k := fun k hk => g3 k (by omega)
      exact ⟨(w' g), (upd (upd (X 0) 4 0) 4 0), o', w', la', wl', (X 45), om', st',
        by rw [fX9_wantIn, q1, ob2_ss, if_neg i10, w1, ob2_ss, if_neg i10, become_eq, ob3_ss, e1, ob6_ss, if_neg (ckI (by omega) (by omega)), clI (by omega)],
        by rw [fX10_wantIn, goodS, ob1_ss, q2, ob1_ss, if_neg i10, i1, ob1_ss, if_neg i10, copy17 (by omega), ob1_ss, e2, if_neg (ckI (by omega) (by omega)), clI (by omega), ← g1.2.2.2.1 g hg],
        hI.askF 0 (by decide) rfl rfl rfl (core_up (by decide) (core_up (by decide) (core_up (by decide) (core_up (by decide) (core_up (by decide) (core_up (by decide) (fun _ _ => rfl))))))) rfl rfl ⟨rfl, rfl, rfl, rfl, rfl⟩ (fr)⟩
    · have i1 : fX10_in n x2 0 60 = some 0 := i1
      have w1 : ∀ o, fX9_within n x2 0 60 o = some (0, upd o 4 2) := w1
      exact ⟨(-1000), (upd (upd (X 0) 4 0) 4 2), (X 41), (X 42), (X 43), (X 44), (X 45), (upd (upd (upd (M 0) 0 0) 11 0) 11 2), (M 25),
        by rw [fX9_wantIn, q1, ob2_ss, if_neg i10, w1, ob2_ss, if_pos i00],
        by rw [fX10_wantIn, goodS, ob1_ss, q2, ob1_ss, if_neg i10, i1, ob1_ss, if_pos i00, lessS, ob2_ss],
        hI.askF 2 (by decide) rfl rfl rfl (core_up (by decide) (core_up (by decide) (core_up (by decide) (core_up (by decide) (core_up (by decide) (core_up (by decide) (fun _ _ => rfl))))))) rfl rfl ⟨rfl, rfl, rfl, rfl, rfl⟩ (fun k _ => congrFun (updupd _ _ _ _) k)⟩
  · have q2 := q2 (upd (upd (M 0) 0 0) 11 0) rfl
    exact ⟨(-1000), (upd (X 0) 4 1), (X 41), (X 42), (X 43), (X 44), (X 45), (upd (upd (upd (M 0) 0 0) 11 0) 11 1), (M 25),
      by rw [fX9_wantIn, q1, ob2_ss, if_pos i00],
      by rw [fX10_wantIn, goodS, ob1_ss, q2, ob1_ss, if_pos i00, lessS, ob2_ss],
      hI.askF 1 (by decide) rfl rfl rfl (core_up (by decide) (core_up (by decide) (core_up (by decide) (core_up (by decide) (core_up (by decide) (core_up (by decide) (fun _ _ => rfl))))))) rfl rfl ⟨rfl, rfl, rfl, rfl, rfl⟩ (fun k _ => congrFun (updupd _ _ _ _) k)⟩
