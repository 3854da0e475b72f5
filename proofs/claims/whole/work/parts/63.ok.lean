/-! the calls, one by one -/

theorem ok_trouble {n : Nat} (hn : 2000 ≤ n) {X : Nat → Nat → Int32} {Y : Nat → Int64} {c : Int64} {P : Nat → Nat → Nat → Int32} {M : Nat → Nat → Int32} (hI : INV n X Y c P M) : ∃ r z0, fX9_trouble n (X 0) = some (r) ∧ fX10_trouble n (M 0) = some (r, z0) ∧ INV n X Y c P (va_up M 0 z0) := by
  exact ⟨_, _, by rw [fX9_trouble], by rw [fX10_trouble, hI.1], hI.quiet⟩

theorem ok_fault {n : Nat} (hn : 2000 ≤ n) {X : Nat → Nat → Int32} {Y : Nat → Int64} {c : Int64} {P : Nat → Nat → Nat → Int32} {M : Nat → Nat → Int32} (hI : INV n X Y c P M) : ∃ r z0, fX9_fault n (X 0) (X 1) c = some (r) ∧ fX10_fault n (M 0) = some (r, z0) ∧ INV n X Y c P (va_up M 0 z0) := by
  exact ⟨_, _, by rw [fX9_fault], by rw [fX10_fault, hI.2.2.1], hI.quiet⟩

theorem ok_where {n : Nat} (hn : 2000 ≤ n) {X : Nat → Nat → Int32} {Y : Nat → Int64} {c : Int64} {P : Nat → Nat → Nat → Int32} {M : Nat → Nat → Int32} (hI : INV n X Y c P M) : ∃ r z0, fX9_where n (X 0) (X 1) c = some (r) ∧ fX10_where n (M 0) = some (r, z0) ∧ INV n X Y c P (va_up M 0 z0) := by
  by_cases h : X 0 4 = 4
  · exact ⟨_, _, by rw [fX9_where, if_pos h], by rw [fX10_where, ← hI.1, if_pos h, hI.2.2.2.1 h], hI.quiet⟩
  · exact ⟨_, _, by rw [fX9_where, if_neg h], by rw [fX10_where, ← hI.1, if_neg h], hI.quiet⟩

theorem ok_there {n : Nat} (hn : 2000 ≤ n) {X : Nat → Nat → Int32} {Y : Nat → Int64} {c : Int64} {P : Nat → Nat → Nat → Int32} {M : Nat → Nat → Int32} (hI : INV n X Y c P M) : ∃ r y0 z0, fX9_there n (X 0) (X 37) = some (r, y0) ∧ fX10_there n (M 0) (M 15) (M 17) = some (r, z0) ∧ INV n (va_up X 0 y0) Y c P (va_up M 0 z0) := by
  rcases hI.gate with ⟨G, D, T, N, S, hB⟩ | ⟨b1, b2, -, -⟩
  · have b1 := hB.1
    have b2 : upd (upd (M 0) 0 0) 11 0 14 = 1 := hB.2.1
    exact ⟨(X 37 1), (upd (X 0) 4 0), (upd (upd (M 0) 0 0) 11 0),
      by rw [fX9_there, asked_y b1, ob2_ss, if_neg i10],
      by rw [fX10_there, goodS, ob1_ss, b2, if_neg i10, th0 (by omega) hB.G.1 hB.G.2.2.1 hB.nr, ob1_ss],
      hI.askF 0 (by decide) rfl rfl rfl (core_up (by decide) (fun _ _ => rfl)) rfl rfl ⟨rfl, rfl, rfl, rfl, rfl⟩ (fun _ _ => rfl)⟩
  · have b2 : upd (upd (M 0) 0 0) 11 0 14 = 0 := b2
    exact ⟨(-1), (upd (X 0) 4 1), (upd (upd (upd (M 0) 0 0) 11 0) 11 1),
      by rw [fX9_there, asked_n b1, ob2_ss, if_pos i00],
      by rw [fX10_there, goodS, ob1_ss, b2, if_pos i00, noS, ob2_ss],
      hI.askF 1 (by decide) rfl rfl rfl (core_up (by decide) (fun _ _ => rfl)) rfl rfl ⟨rfl, rfl, rfl, rfl, rfl⟩ (fun k _ => congrFun (updupd _ _ _ _) k)⟩

theorem ok_ends {n : Nat} (hn : 2000 ≤ n) {X : Nat → Nat → Int32} {Y : Nat → Int64} {c : Int64} {P : Nat → Nat → Nat → Int32} {M : Nat → Nat → Int32} (hI : INV n X Y c P M) : ∃ r y0 y41 y42 y43 y44 y45 z0 z25, fX9_ends n (X 0) (X 5) (X 6) (X 8) (X 9) (X 10) (X 11) (X 12) (X 37) (X 38) (X 39) (X 41) (X 42) (X 43) (X 44) (X 45) = some (r, y0, y41, y42, y43, y44, y45) ∧ fX10_ends n (M 0) (M 15) (M 17) (M 25) = some (r, z0, z25) ∧ INV n (va_up (va_up (va_up (va_up (va_up (va_up X 0 y0) 41 y41) 42 y42) 43 y43) 44 y44) 45 y45) Y c P (va_up (va_up M 0 z0) 25 z25) := by
  rcases hI.gate with ⟨G, D, T, N, S, hB⟩ | ⟨b1, b2, -, -⟩
  · have b1 := hB.1
    have b2 : upd (upd (M 0) 0 0) 11 0 14 = 1 := hB.2.1
    obtain ⟨c0, hc1, hc2⟩ := hB.clock
    obtain ⟨E, R, o', w', la', wl', om', st', e1, e2, e3, e4⟩ := now_lock (n := n) (by omega) hB.G hB.nr hc2 (by omega) hB.2.2.1 (upd (X 0) 4 0) (X 41) (X 42) (X 43) (X 44) (upd (upd (M 0) 0 0) 11 0) (M 25)
    have fr : ∀ k, k ≤ 21 → om' k = upd (upd (M 0) 0 0) 11 0 k := fun k hk => e3 k (by omega) (by omega)
    rcases e4 with ⟨e, h1, h2, h3, h4⟩ | ⟨h1, h2⟩
    · subst h2; subst h3
      exact ⟨(nI e), (upd (X 0) 4 0), o', w', la', wl', (X 45), om', st',
        by rw [fX9_ends, asked_y b1, ob2_ss, if_neg i10, e1, ob6_ss, orNotS h1, ob1_ss],
        by rw [fX10_ends, goodS, ob1_ss, b2, if_neg i10, e2, ob3_ss],
        hI.askF 0 (by decide) rfl rfl rfl (core_up (by decide) (core_up (by decide) (core_up (by decide) (core_up (by decide) (core_up (by decide) (core_up (by decide) (fun _ _ => rfl))))))) rfl rfl ⟨rfl, rfl, rfl, rfl, rfl⟩ (fr)⟩
    · subst h1; subst h2
      exact ⟨(-2), (upd (X 0) 4 0), o', w', la', wl', (X 45), om', st',
        by rw [fX9_ends, asked_y b1, ob2_ss, if_neg i10, e1, ob6_ss, orNot61, ob1_ss],
        by rw [fX10_ends, goodS, ob1_ss, b2, if_neg i10, e2, ob3_ss],
        hI.askF 0 (by decide) rfl rfl rfl (core_up (by decide) (core_up (by decide) (core_up (by decide) (core_up (by decide) (core_up (by decide) (core_up (by decide) (fun _ _ => rfl))))))) rfl rfl ⟨rfl, rfl, rfl, rfl, rfl⟩ (fr)⟩
  · have b2 : upd (upd (M 0) 0 0) 11 0 14 = 0 := b2
    exact ⟨(-1), (upd (X 0) 4 1), (X 41), (X 42), (X 43), (X 44), (X 45), (upd (upd (upd (M 0) 0 0) 11 0) 11 1), (M 25),
      by rw [fX9_ends, asked_n b1, ob2_ss, if_pos i00],
      by rw [fX10_ends, goodS, ob1_ss, b2, if_pos i00, noS, ob2_ss],
      hI.askF 1 (by decide) rfl rfl rfl (core_up (by decide) (core_up (by decide) (core_up (by decide) (core_up (by decide) (core_up (by decide) (core_up (by decide) (fun _ _ => rfl))))))) rfl rfl ⟨rfl, rfl, rfl, rfl, rfl⟩ (fun k _ => congrFun (updupd _ _ _ _) k)⟩

theorem ok_last {n : Nat} (hn : 2000 ≤ n) {X : Nat → Nat → Int32} {Y : Nat → Int64} {c : Int64} {P : Nat → Nat → Nat → Int32} {M : Nat → Nat → Int32} (hI : INV n X Y c P M) : ∃ r y0 y41 y42 y43 y44 y45 z0 z25, fX9_last n (X 0) (X 5) (X 6) (X 8) (X 9) (X 10) (X 11) (X 12) (X 37) (X 38) (X 39) (X 41) (X 42) (X 43) (X 44) (X 45) = some (r, y0, y41, y42, y43, y44, y45) ∧ fX10_last n (M 0) (M 15) (M 17) (M 25) = some (r, z0, z25) ∧ INV n (va_up (va_up (va_up (va_up (va_up (va_up X 0 y0) 41 y41) 42 y42) 43 y43) 44 y44) 45 y45) Y c P (va_up (va_up M 0 z0) 25 z25) := by
  rcases hI.gate with ⟨G, D, T, N, S, hB⟩ | ⟨b1, b2, -, -⟩
  · have b1 := hB.1
    have b2 : upd (upd (M 0) 0 0) 11 0 14 = 1 := hB.2.1
    obtain ⟨c0, hc1, hc2⟩ := hB.clock
    obtain ⟨E, R, o', w', la', wl', om', st', e1, e2, e3, e4⟩ := now_lock (n := n) (by omega) hB.G hB.nr hc2 (by omega) hB.2.2.1 (upd (X 0) 4 0) (X 41) (X 42) (X 43) (X 44) (upd (upd (M 0) 0 0) 11 0) (M 25)
    have fr : ∀ k, k ≤ 21 → om' k = upd (upd (M 0) 0 0) 11 0 k := fun k hk => e3 k (by omega) (by omega)
    rcases e4 with ⟨e, h1, h2, h3, h4⟩ | ⟨h1, h2⟩
    · subst h2; subst h3
      have l60 : nI e ≤ (60 : Int32) := nI_le (b := 60) h1 (by omega)
      exact ⟨(om' 24), (upd (X 0) 4 0), o', w', la', wl', (X 45), om', st',
        by rw [fX9_last, asked_y b1, ob2_ss, if_neg i10, e1, ob6_ss, if_pos l60, h4],
        by rw [fX10_last, goodS, ob1_ss, b2, if_neg i10, e2, ob3_ss, if_pos (nI_pos' (by omega))],
        hI.askF 0 (by decide) rfl rfl rfl (core_up (by decide) (core_up (by decide) (core_up (by decide) (core_up (by decide) (core_up (by decide) (core_up (by decide) (fun _ _ => rfl))))))) rfl rfl ⟨rfl, rfl, rfl, rfl, rfl⟩ (fr)⟩
    · subst h1; subst h2
      exact ⟨(-2), (upd (X 0) 4 0), o', w', la', wl', (X 45), om', st',
        by rw [fX9_last, asked_y b1, ob2_ss, if_neg i10, e1, ob6_ss, if_neg (by decide)],
        by rw [fX10_last, goodS, ob1_ss, b2, if_neg i10, e2, ob3_ss, if_neg (by decide)],
        hI.askF 0 (by decide) rfl rfl rfl (core_up (by decide) (core_up (by decide) (core_up (by decide) (core_up (by decide) (core_up (by decide) (core_up (by decide) (fun _ _ => rfl))))))) rfl rfl ⟨rfl, rfl, rfl, rfl, rfl⟩ (fr)⟩
  · have b2 : upd (upd (M 0) 0 0) 11 0 14 = 0 := b2
    exact ⟨(-1), (upd (X 0) 4 1), (X 41), (X 42), (X 43), (X 44), (X 45), (upd (upd (upd (M 0) 0 0) 11 0) 11 1), (M 25),
      by rw [fX9_last, asked_n b1, ob2_ss, if_pos i00],
      by rw [fX10_last, goodS, ob1_ss, b2, if_pos i00, noS, ob2_ss],
      hI.askF 1 (by decide) rfl rfl rfl (core_up (by decide) (core_up (by decide) (core_up (by decide) (core_up (by decide) (core_up (by decide) (core_up (by decide) (fun _ _ => rfl))))))) rfl rfl ⟨rfl, rfl, rfl, rfl, rfl⟩ (fun k _ => congrFun (updupd _ _ _ _) k)⟩

theorem ok_rounds {n : Nat} (hn : 2000 ≤ n) {X : Nat → Nat → Int32} {Y : Nat → Int64} {c : Int64} {P : Nat → Nat → Nat → Int32} {M : Nat → Nat → Int32} (hI : INV n X Y c P M) : ∃ r y0 y41 y42 y43 y44 y45 z0 z25, fX9_rounds n (X 0) (X 5) (X 6) (X 8) (X 9) (X 10) (X 11) (X 12) (X 37) (X 38) (X 39) (X 41) (X 42) (X 43) (X 44) (X 45) = some (r, y0, y41, y42, y43, y44, y45) ∧ fX10_rounds n (M 0) (M 15) (M 17) (M 25) = some (r, z0, z25) ∧ INV n (va_up (va_up (va_up (va_up (va_up (va_up X 0 y0) 41 y41) 42 y42) 43 y43) 44 y44) 45 y45) Y c P (va_up (va_up M 0 z0) 25 z25) := by
  rcases hI.gate with ⟨G, D, T, N, S, hB⟩ | ⟨b1, b2, -, -⟩
  · have b1 := hB.1
    have b2 : upd (upd (M 0) 0 0) 11 0 14 = 1 := hB.2.1
    obtain ⟨c0, hc1, hc2⟩ := hB.clock
    obtain ⟨H, o', w', la', wl', om', st', e1, e2, g1, g2, g3, g4, g5, g6, g7, g8⟩ := pass_lock (n := n) (by omega) hB.G (c := c0) (by omega) (X 44) (upd (upd (M 0) 0 0) 11 0) (X 45) (hB.nr.copy hB.G.1 (X 41) (X 42) (X 43) (M 25)) (by rw [cpy_lo (by omega)]; exact hc2) hB.2.2.1
    have fr : ∀ k, k ≤ 21 → om' k = upd (upd (M 0) 0 0) 11 0 k := fun k hk => g4 k (by omega)
    exact ⟨(om' 22), (upd (X 0) 4 0), o', w', la', wl', (X 45), om', st',
      by rw [fX9_rounds, asked_y b1, ob2_ss, if_neg i10, become_eq, ob3_ss, e1, ob6_ss, g3],
      by rw [fX10_rounds, goodS, ob1_ss, b2, if_neg i10, copy17 (by omega), ob1_ss, e2, ob3_ss],
      hI.askF 0 (by decide) rfl rfl rfl (core_up (by decide) (core_up (by decide) (core_up (by decide) (core_up (by decide) (core_up (by decide) (core_up (by decide) (fun _ _ => rfl))))))) rfl rfl ⟨rfl, rfl, rfl, rfl, rfl⟩ (fr)⟩
  · have b2 : upd (upd (M 0) 0 0) 11 0 14 = 0 := b2
    exact ⟨(-1), (upd (X 0) 4 1), (X 41), (X 42), (X 43), (X 44), (X 45), (upd (upd (upd (M 0) 0 0) 11 0) 11 1), (M 25),
      by rw [fX9_rounds, asked_n b1, ob2_ss, if_pos i00],
      by rw [fX10_rounds, goodS, ob1_ss, b2, if_pos i00, noS, ob2_ss],
      hI.askF 1 (by decide) rfl rfl rfl (core_up (by decide) (core_up (by decide) (core_up (by decide) (core_up (by decide) (core_up (by decide) (core_up (by decide) (fun _ _ => rfl))))))) rfl rfl ⟨rfl, rfl, rfl, rfl, rfl⟩ (fun k _ => congrFun (updupd _ _ _ _) k)⟩

theorem house_eq (n : Nat) (a b : Int32) : fX10_houseOf n a b = fX9_shareOf n a b := by
  rw [fX10_houseOf, fX9_shareOf, Int32.zero_sub]
theorem share_some (n : Nat) (a b : Int32) : ∃ v, fX9_shareOf n a b = some v := by
  rw [fX9_shareOf]
  by_cases h : a ≤ b
  · rw [if_pos h]
    by_cases h2 : b ≤ a
    · rw [if_pos h2]; exact ⟨_, rfl⟩
    · rw [if_neg h2]; exact ⟨_, rfl⟩
  · rw [if_neg h]; exact ⟨_, rfl⟩

theorem ok_house {n : Nat} (hn : 2000 ≤ n) {X : Nat → Nat → Int32} {Y : Nat → Int64} {c : Int64} {P : Nat → Nat → Nat → Int32} {M : Nat → Nat → Int32} (hI : INV n X Y c P M) (x1 : Int32) (x2 : Int32) (x3 : Int32) : ∃ r y0 z0, fX9_house n x1 x2 x3 (X 0) = some (r, y0) ∧ fX10_house n x1 x2 x3 (M 0) = some (r, z0) ∧ INV n (va_up X 0 y0) Y c P (va_up M 0 z0) := by
  rcases hI.gate with ⟨G, D, T, N, S, hB⟩ | ⟨b1, b2, -, -⟩
  · have b1 := hB.1
    have b2 : upd (upd (M 0) 0 0) 11 0 14 = 1 := hB.2.1
    rcases rng n 0 6 x1 (by omega) (by omega) with ⟨k1, -, -, -, i1, w1⟩ | ⟨i1, w1⟩
    · have i1 : fX10_in n x1 0 6 = some 1 := i1
      have w1 : ∀ o, fX9_within n x1 0 6 o = some (1, upd o 4 0) := w1
      rcases rng n 0 6 x2 (by omega) (by omega) with ⟨k2, -, -, -, i2, w2⟩ | ⟨i2, w2⟩
      · have i2 : fX10_in n x2 0 6 = some 1 := i2
        have w2 : ∀ o, fX9_within n x2 0 6 o = some (1, upd o 4 0) := w2
        obtain ⟨u, hu⟩ := share_some n x1 x2
        obtain ⟨v, hv⟩ := share_some n x2 x1
        by_cases h3 : x3 = 0
        · exact ⟨u, (upd (upd (upd (X 0) 4 0) 4 0) 4 0), (upd (upd (M 0) 0 0) 11 0),
            by rw [fX9_house, asked_y b1, ob2_ss, if_neg i10, w1, ob2_ss, if_neg i10, w2, ob2_ss, if_neg i10, if_pos h3, hu, ob1_ss],
            by rw [fX10_house, goodS, ob1_ss, b2, if_neg i10, i1, ob1_ss, if_neg i10, i2, ob1_ss, if_neg i10, if_pos h3, house_eq, hu, ob1_ss],
            hI.askF 0 (by decide) rfl rfl rfl (core_up (by decide) (fun _ _ => rfl)) rfl rfl ⟨rfl, rfl, rfl, rfl, rfl⟩ (fun _ _ => rfl)⟩
        · exact ⟨v, (upd (upd (upd (X 0) 4 0) 4 0) 4 0), (upd (upd (M 0) 0 0) 11 0),
            by rw [fX9_house, asked_y b1, ob2_ss, if_neg i10, w1, ob2_ss, if_neg i10, w2, ob2_ss, if_neg i10, if_neg h3, hv, ob1_ss],
            by rw [fX10_house, goodS, ob1_ss, b2, if_neg i10, i1, ob1_ss, if_neg i10, i2, ob1_ss, if_neg i10, if_neg h3, house_eq, hv, ob1_ss],
            hI.askF 0 (by decide) rfl rfl rfl (core_up (by decide) (fun _ _ => rfl)) rfl rfl ⟨rfl, rfl, rfl, rfl, rfl⟩ (fun _ _ => rfl)⟩
      · have i2 : fX10_in n x2 0 6 = some 0 := i2
        have w2 : ∀ o, fX9_within n x2 0 6 o = some (0, upd o 4 2) := w2
        exact ⟨(-100), (upd (upd (upd (X 0) 4 0) 4 0) 4 2), (upd (upd (upd (M 0) 0 0) 11 0) 11 2),
          by rw [fX9_house, asked_y b1, ob2_ss, if_neg i10, w1, ob2_ss, if_neg i10, w2, ob2_ss, if_pos i00],
          by rw [fX10_house, goodS, ob1_ss, b2, if_neg i10, i1, ob1_ss, if_neg i10, i2, ob1_ss, if_pos i00, if_neg i10],
          hI.askF 2 (by decide) rfl rfl rfl (core_up (by decide) (fun _ _ => rfl)) rfl rfl ⟨rfl, rfl, rfl, rfl, rfl⟩ (fun k _ => congrFun (updupd _ _ _ _) k)⟩
    · have i1 : fX10_in n x1 0 6 = some 0 := i1
      have w1 : ∀ o, fX9_within n x1 0 6 o = some (0, upd o 4 2) := w1
      exact ⟨(-100), (upd (upd (X 0) 4 0) 4 2), (upd (upd (upd (M 0) 0 0) 11 0) 11 2),
        by rw [fX9_house, asked_y b1, ob2_ss, if_neg i10, w1, ob2_ss, if_pos i00],
        by rw [fX10_house, goodS, ob1_ss, b2, if_neg i10, i1, ob1_ss, if_pos i00, if_neg i10],
        hI.askF 2 (by decide) rfl rfl rfl (core_up (by decide) (fun _ _ => rfl)) rfl rfl ⟨rfl, rfl, rfl, rfl, rfl⟩ (fun k _ => congrFun (updupd _ _ _ _) k)⟩
  · have b2 : upd (upd (M 0) 0 0) 11 0 14 = 0 := b2
    exact ⟨(-100), (upd (X 0) 4 1), (upd (upd (upd (M 0) 0 0) 11 0) 11 1),
      by rw [fX9_house, asked_n b1, ob2_ss, if_pos i00],
      by rw [fX10_house, goodS, ob1_ss, b2, if_pos i00, if_pos i00],
      hI.askF 1 (by decide) rfl rfl rfl (core_up (by decide) (fun _ _ => rfl)) rfl rfl ⟨rfl, rfl, rfl, rfl, rfl⟩ (fun k _ => congrFun (updupd _ _ _ _) k)⟩
