/-! the calls by draws -/

theorem ok_endsBy {n : Nat} (hn : 2000 ≤ n) {X : Nat → Nat → Int32} {Y : Nat → Int64} {c : Int64} {P : Nat → Nat → Nat → Int32} {M : Nat → Nat → Int32} (hI : INV n X Y c P M) (x1 : Int32) : ∃ r y0 y41 y42 y43 y44 y46 z0 z25, fX9_endsBy n x1 (X 0) (X 5) (X 6) (X 8) (X 9) (X 10) (X 11) (X 12) (X 37) (X 38) (X 39) (X 41) (X 42) (X 43) (X 44) (X 46) = some (r, y0, y41, y42, y43, y44, y46) ∧ fX10_endsBy n x1 (M 0) (M 15) (M 17) (M 25) = some (r, z0, z25) ∧ INV n (va_up (va_up (va_up (va_up (va_up (va_up X 0 y0) 41 y41) 42 y42) 43 y43) 44 y44) 46 y46) Y c P (va_up (va_up M 0 z0) 25 z25) := by
  rcases hI.gate with ⟨G, D, T, N, S, hB⟩ | ⟨b1, b2, -, -⟩
  · have b1 := hB.1
    have b2 : upd (upd (M 0) 0 0) 11 0 14 = 1 := hB.2.1
    obtain ⟨-, h1G, hT4, hN5, hS6, x50, x51, x58, x59, x513, r6, x150, r7, x153, r8, bc, bw, bg, bp, ew, bwt, bk, bs, inv, bdm, unq, etl, bth, btt, end_, bnh, esi, bsi⟩ := hB.2.2.2.2.1
    have hsk : ∀ g, g < G → ∃ q, q ≤ 20 ∧ X 8 g = nI q := fun g hg => by rw [hB.G.2.2.2.2.2.1 g hg]; exact bs g hg
    have h46 := hB.2.2.2.1
    obtain ⟨c0, hc1, hc2⟩ := hB.clock
    rcases rng n 0 65536 x1 (by omega) (by omega) with ⟨q, -, hq, hx, i1, w1⟩ | ⟨i1, w1⟩
    · have w1 : ∀ o, fX9_within n x1 0 65536 o = some (1, upd o 4 0) := w1
      have dw : ∀ o, fX10_drawsWhy n 1 x1 1 o = some 0 := fun o => by rw [fX10_drawsWhy, if_neg i10, show fX10_in n x1 0 65536 = some 1 from i1, ob1_ss, if_neg i10, show fX10_in n 1 1 90 = some 1 from rfl, ob1_ss, if_neg i10]
      obtain ⟨E, R, o', w', la', wl', po', om', st', e1, e2, e3, e4, e5, e6⟩ := drawn_lock (n := n) (by omega) hB.G hsk hB.nr hc2 (by omega) (upd (upd (X 0) 4 0) 4 0) (X 41) (X 42) (X 43) (X 44) (upd (X 46) 1 x1) (upd (upd (upd (M 0) 0 0) 11 0) 23 x1) (M 25) h46 rfl
      have fr : ∀ k, k ≤ 21 → om' k = upd (upd (M 0) 0 0) 11 0 k := fun k hk => (e3 k (by omega) (by omega) (by omega)).trans (upd_n _ _ (by omega))
      rcases e4 with ⟨e, h1, h2, h3, h4⟩ | ⟨h1, h2⟩
      · subst h2; subst h3
        exact ⟨(nI e), (upd (upd (X 0) 4 0) 4 0), o', w', la', wl', po', om', st',
          by rw [fX9_endsBy, asked_y b1, ob2_ss, if_neg i10, w1, ob2_ss, if_neg i10, e1, ob6_ss, orNotS h1, ob1_ss],
          by rw [fX10_endsBy, goodS, ob1_ss, b2, dw, ob1_ss, if_pos i00, e2, ob3_ss],
          hI.askF 0 (by decide) rfl rfl rfl (core_up (by decide) (core_up (by decide) (core_up (by decide) (core_up (by decide) (core_up (by decide) (core_up (by decide) (fun _ _ => rfl))))))) rfl (e5.trans h46.symm) ⟨rfl, rfl, rfl, rfl, rfl⟩ (fr)⟩
      · subst h1; subst h2
        exact ⟨(-2), (upd (upd (X 0) 4 0) 4 0), o', w', la', wl', po', om', st',
          by rw [fX9_endsBy, asked_y b1, ob2_ss, if_neg i10, w1, ob2_ss, if_neg i10, e1, ob6_ss, orNot61, ob1_ss],
          by rw [fX10_endsBy, goodS, ob1_ss, b2, dw, ob1_ss, if_pos i00, e2, ob3_ss],
          hI.askF 0 (by decide) rfl rfl rfl (core_up (by decide) (core_up (by decide) (core_up (by decide) (core_up (by decide) (core_up (by decide) (core_up (by decide) (fun _ _ => rfl))))))) rfl (e5.trans h46.symm) ⟨rfl, rfl, rfl, rfl, rfl⟩ (fr)⟩
    · have w1 : ∀ o, fX9_within n x1 0 65536 o = some (0, upd o 4 2) := w1
      have dw : ∀ o, fX10_drawsWhy n 1 x1 1 o = some 2 := fun o => by rw [fX10_drawsWhy, if_neg i10, show fX10_in n x1 0 65536 = some 0 from i1, ob1_ss, if_pos i00]
      exact ⟨(-1), (upd (upd (X 0) 4 0) 4 2), (X 41), (X 42), (X 43), (X 44), (X 46), (upd (upd (upd (M 0) 0 0) 11 0) 11 2), (M 25),
        by rw [fX9_endsBy, asked_y b1, ob2_ss, if_neg i10, w1, ob2_ss, if_pos i00],
        by rw [fX10_endsBy, goodS, ob1_ss, b2, dw, ob1_ss, if_neg (by decide), noS, ob2_ss],
        hI.askF 2 (by decide) rfl rfl rfl (core_up (by decide) (core_up (by decide) (core_up (by decide) (core_up (by decide) (core_up (by decide) (core_up (by decide) (fun _ _ => rfl))))))) rfl rfl ⟨rfl, rfl, rfl, rfl, rfl⟩ (fun k _ => congrFun (updupd _ _ _ _) k)⟩
  · have b2 : upd (upd (M 0) 0 0) 11 0 14 = 0 := b2
    exact ⟨(-1), (upd (X 0) 4 1), (X 41), (X 42), (X 43), (X 44), (X 46), (upd (upd (upd (M 0) 0 0) 11 0) 11 1), (M 25),
      by rw [fX9_endsBy, asked_n b1, ob2_ss, if_pos i00],
      by rw [fX10_endsBy, goodS, ob1_ss, b2, fX10_drawsWhy, if_pos i00, ob1_ss, if_neg (by decide), noS, ob2_ss],
      hI.askF 1 (by decide) rfl rfl rfl (core_up (by decide) (core_up (by decide) (core_up (by decide) (core_up (by decide) (core_up (by decide) (core_up (by decide) (fun _ _ => rfl))))))) rfl rfl ⟨rfl, rfl, rfl, rfl, rfl⟩ (fun k _ => congrFun (updupd _ _ _ _) k)⟩

theorem drawsGate (n : Nat) (x y : Int32) : (∃ N, 1 ≤ N ∧ N ≤ 90 ∧ y = nI N ∧ (∀ o, fX9_drawsAsked n x y o = some (1, upd o 4 0)) ∧ ∀ o, fX10_drawsWhy n 1 x y o = some 0) ∨ ((∀ o, fX9_drawsAsked n x y o = some (0, upd o 4 2)) ∧ ∀ o, fX10_drawsWhy n 1 x y o = some 2) := by
  rcases rng n 0 65536 x (by omega) (by omega) with ⟨q, -, hq, hx, i1, w1⟩ | ⟨i1, w1⟩
  · have i1 : fX10_in n x 0 65536 = some 1 := i1
    have w1 : ∀ o, fX9_within n x 0 65536 o = some (1, upd o 4 0) := w1
    rcases rng n 1 90 y (by omega) (by omega) with ⟨N, hN1, hN, hy, i2, w2⟩ | ⟨i2, w2⟩
    · have i2 : fX10_in n y 1 90 = some 1 := i2
      have w2 : ∀ o, fX9_within n y 1 90 o = some (1, upd o 4 0) := w2
      exact Or.inl ⟨N, hN1, hN, hy, fun o => by rw [fX9_drawsAsked, w1, ob2_ss, if_neg i10, w2, ob2_ss, if_neg i10, updupd], fun o => by rw [fX10_drawsWhy, if_neg i10, i1, ob1_ss, if_neg i10, i2, ob1_ss, if_neg i10]⟩
    · have i2 : fX10_in n y 1 90 = some 0 := i2
      have w2 : ∀ o, fX9_within n y 1 90 o = some (0, upd o 4 2) := w2
      exact Or.inr ⟨fun o => by rw [fX9_drawsAsked, w1, ob2_ss, if_neg i10, w2, ob2_ss, if_pos i00, updupd], fun o => by rw [fX10_drawsWhy, if_neg i10, i1, ob1_ss, if_neg i10, i2, ob1_ss, if_pos i00]⟩
  · have i1 : fX10_in n x 0 65536 = some 0 := i1
    have w1 : ∀ o, fX9_within n x 0 65536 o = some (0, upd o 4 2) := w1
    exact Or.inr ⟨fun o => by rw [fX9_drawsAsked, w1, ob2_ss, if_pos i00], fun o => by rw [fX10_drawsWhy, if_neg i10, i1, ob1_ss, if_pos i00]⟩

theorem ok_often {n : Nat} (hn : 2000 ≤ n) {X : Nat → Nat → Int32} {Y : Nat → Int64} {c : Int64} {P : Nat → Nat → Nat → Int32} {M : Nat → Nat → Int32} (hI : INV n X Y c P M) (x1 : Int32) (x2 : Int32) (x3 : Int32) : ∃ r y0 y41 y42 y43 y44 y46 z0 z25, fX9_often n x1 x2 x3 (X 0) (X 5) (X 6) (X 8) (X 9) (X 10) (X 11) (X 12) (X 37) (X 38) (X 39) (X 41) (X 42) (X 43) (X 44) (X 46) = some (r, y0, y41, y42, y43, y44, y46) ∧ fX10_often n x1 x2 x3 (M 0) (M 15) (M 17) (M 25) = some (r, z0, z25) ∧ INV n (va_up (va_up (va_up (va_up (va_up (va_up X 0 y0) 41 y41) 42 y42) 43 y43) 44 y44) 46 y46) Y c P (va_up (va_up M 0 z0) 25 z25) := by
  rcases hI.gate with ⟨G, D, T, N, S, hB⟩ | ⟨b1, b2, -, -⟩
  · have b1 := hB.1
    have b2 : upd (upd (M 0) 0 0) 11 0 14 = 1 := hB.2.1
    obtain ⟨-, h1G, hT4, hN5, hS6, x50, x51, x58, x59, x513, r6, x150, r7, x153, r8, bc, bw, bg, bp, ew, bwt, bk, bs, inv, bdm, unq, etl, bth, btt, end_, bnh, esi, bsi⟩ := hB.2.2.2.2.1
    have hsk : ∀ g, g < G → ∃ q, q ≤ 20 ∧ X 8 g = nI q := fun g hg => by rw [hB.G.2.2.2.2.2.1 g hg]; exact bs g hg
    have h46 := hB.2.2.2.1
    obtain ⟨c0, hc1, hc2⟩ := hB.clock
    rcases drawsGate n x1 x2 with ⟨Q, hQ1, hQ, hx, da, dw⟩ | ⟨da, dw⟩
    · subst hx
      rcases rng n 0 60 x3 (by omega) (by omega) with ⟨H, -, hH6, hx, i1, w1⟩ | ⟨i1, w1⟩
      · have i1 : fX10_in n x3 0 60 = some 1 := i1
        have w1 : ∀ o, fX9_within n x3 0 60 o = some (1, upd o 4 0) := w1
        subst hx
        obtain ⟨a', o', w', la', wl', po', om', st', e1, e2, e3, e5⟩ := often_lock (n := n) (by omega) hB.G hsk hB.nr hc2 (by omega) hH6 hQ (upd (upd (upd (X 0) 4 0) 4 0) 4 0) (fun x o w l v p => some (x, upd (upd (upd (X 0) 4 0) 4 0) 4 0, o, w, l, v, p)) (fun x o s => some (x, o, s)) Q 0 n n 0 (X 41) (X 42) (X 43) (X 44) (upd (X 46) 1 x1) (upd (upd (upd (M 0) 0 0) 11 0) 23 x1) (M 25) (by omega) (by omega) (by omega) h46 rfl
        have e1 : fX9_often_L43 n (nI Q) (nI H) (upd (upd (upd (X 0) 4 0) 4 0) 4 0) (X 5) (X 6) (X 8) (X 9) (X 10) (X 11) (X 12) (X 37) (X 38) (X 39) (fun x o w l v p => some (x, upd (upd (upd (X 0) 4 0) 4 0) 4 0, o, w, l, v, p)) n 0 0 (X 41) (X 42) (X 43) (X 44) (upd (X 46) 1 x1) = _ := e1
        have e2 : fX10_often_L57 n (nI Q) (nI H) (M 15) (M 17) (fun x o s => some (x, o, s)) n 0 0 (upd (upd (upd (M 0) 0 0) 11 0) 23 x1) (M 25) = _ := e2
        have fr : ∀ k, k ≤ 21 → om' k = upd (upd (M 0) 0 0) 11 0 k := fun k hk => (e3 k (by omega) (by omega) (by omega)).trans (upd_n _ _ (by omega))
        exact ⟨a', (upd (upd (upd (X 0) 4 0) 4 0) 4 0), o', w', la', wl', po', om', st',
          by rw [fX9_often, asked_y b1, ob2_ss, if_neg i10, da, ob2_ss, if_neg i10, w1, ob2_ss, if_neg i10, e1],
          by rw [fX10_often, goodS, ob1_ss, b2, dw, ob1_ss]; dsimp only [jn]; rw [if_pos i00, i1, ob1_ss, if_neg i10, if_pos i00, e2],
          hI.askF 0 (by decide) rfl rfl rfl (core_up (by decide) (core_up (by decide) (core_up (by decide) (core_up (by decide) (core_up (by decide) (core_up (by decide) (fun _ _ => rfl))))))) rfl (e5.trans h46.symm) ⟨rfl, rfl, rfl, rfl, rfl⟩ (fr)⟩
      · have i1 : fX10_in n x3 0 60 = some 0 := i1
        have w1 : ∀ o, fX9_within n x3 0 60 o = some (0, upd o 4 2) := w1
        exact ⟨(-1), (upd (upd (upd (X 0) 4 0) 4 0) 4 2), (X 41), (X 42), (X 43), (X 44), (X 46), (upd (upd (upd (M 0) 0 0) 11 0) 11 2), (M 25),
          by rw [fX9_often, asked_y b1, ob2_ss, if_neg i10, da, ob2_ss, if_neg i10, w1, ob2_ss, if_pos i00],
          by rw [fX10_often, goodS, ob1_ss, b2, dw, ob1_ss]; dsimp only [jn]; rw [if_pos i00, i1, ob1_ss, if_pos i00, if_neg (by decide), noS, ob2_ss],
          hI.askF 2 (by decide) rfl rfl rfl (core_up (by decide) (core_up (by decide) (core_up (by decide) (core_up (by decide) (core_up (by decide) (core_up (by decide) (fun _ _ => rfl))))))) rfl rfl ⟨rfl, rfl, rfl, rfl, rfl⟩ (fun k _ => congrFun (updupd _ _ _ _) k)⟩
    · exact ⟨(-1), (upd (upd (X 0) 4 0) 4 2), (X 41), (X 42), (X 43), (X 44), (X 46), (upd (upd (upd (M 0) 0 0) 11 0) 11 2), (M 25),
        by rw [fX9_often, asked_y b1, ob2_ss, if_neg i10, da, ob2_ss, if_pos i00],
        by rw [fX10_often, goodS, ob1_ss, b2, dw, ob1_ss]; dsimp only [jn]; rw [if_neg (by decide), if_neg (by decide), noS, ob2_ss],
        hI.askF 2 (by decide) rfl rfl rfl (core_up (by decide) (core_up (by decide) (core_up (by decide) (core_up (by decide) (core_up (by decide) (core_up (by decide) (fun _ _ => rfl))))))) rfl rfl ⟨rfl, rfl, rfl, rfl, rfl⟩ (fun k _ => congrFun (updupd _ _ _ _) k)⟩
  · have b2 : upd (upd (M 0) 0 0) 11 0 14 = 0 := b2
    exact ⟨(-1), (upd (X 0) 4 1), (X 41), (X 42), (X 43), (X 44), (X 46), (upd (upd (upd (M 0) 0 0) 11 0) 11 1), (M 25),
      by rw [fX9_often, asked_n b1, ob2_ss, if_pos i00],
      by rw [fX10_often, goodS, ob1_ss, b2, fX10_drawsWhy, if_pos i00, ob1_ss]; dsimp only [jn]; rw [if_neg (by decide), if_neg (by decide), noS, ob2_ss],
      hI.askF 1 (by decide) rfl rfl rfl (core_up (by decide) (core_up (by decide) (core_up (by decide) (core_up (by decide) (core_up (by decide) (core_up (by decide) (fun _ _ => rfl))))))) rfl rfl ⟨rfl, rfl, rfl, rfl, rfl⟩ (fun k _ => congrFun (updupd _ _ _ _) k)⟩

theorem ok_keeps {n : Nat} (hn : 2000 ≤ n) {X : Nat → Nat → Int32} {Y : Nat → Int64} {c : Int64} {P : Nat → Nat → Nat → Int32} {M : Nat → Nat → Int32} (hI : INV n X Y c P M) (x1 : Int32) (x2 : Int32) (x3 : Int32) : ∃ r y0 y41 y42 y43 y44 y46 z0 z25, fX9_keeps n x1 x2 x3 (X 0) (X 5) (X 6) (X 8) (X 9) (X 10) (X 11) (X 12) (X 37) (X 38) (X 39) (X 41) (X 42) (X 43) (X 44) (X 46) = some (r, y0, y41, y42, y43, y44, y46) ∧ fX10_keeps n x1 x2 x3 (M 0) (M 15) (M 17) (M 25) = some (r, z0, z25) ∧ INV n (va_up (va_up (va_up (va_up (va_up (va_up X 0 y0) 41 y41) 42 y42) 43 y43) 44 y44) 46 y46) Y c P (va_up (va_up M 0 z0) 25 z25) := by
  rcases hI.gateG x1 with ⟨G, D, T, N, S, g, hB, hg, hx1, q1, q2⟩ | ⟨q1, q2⟩
  · have hG : G ≤ 7 := hB.G.1
    have q2 := q2 (upd (upd (M 0) 0 0) 11 0) rfl
    subst hx1
    obtain ⟨-, h1G, hT4, hN5, hS6, x50, x51, x58, x59, x513, r6, x150, r7, x153, r8, bc, bw, bg, bp, ew, bwt, bk, bs, inv, bdm, unq, etl, bth, btt, end_, bnh, esi, bsi⟩ := hB.2.2.2.2.1
    have hsk : ∀ g, g < G → ∃ q, q ≤ 20 ∧ X 8 g = nI q := fun g hg => by rw [hB.G.2.2.2.2.2.1 g hg]; exact bs g hg
    have h46 := hB.2.2.2.1
    obtain ⟨c0, hc1, hc2⟩ := hB.clock
    rcases drawsGate n x2 x3 with ⟨Q, hQ1, hQ, hx, da, dw⟩ | ⟨da, dw⟩
    · subst hx
      obtain ⟨a', o', w', la', wl', po', om', st', e1, e2, e3, e5⟩ := keeps_lock (n := n) (by omega) hB.G hsk hB.nr hc2 (by omega) (show g < 7 by omega) hQ (upd (upd (X 0) 4 0) 4 0) (fun x o w l v p => some (x, upd (upd (X 0) 4 0) 4 0, o, w, l, v, p)) (fun x o s => some (x, o, s)) Q 0 n n 0 (X 41) (X 42) (X 43) (X 44) (upd (X 46) 1 x2) (upd (upd (upd (M 0) 0 0) 11 0) 23 x2) (M 25) (by omega) (by omega) (by omega) h46 rfl
      have e1 : fX9_keeps_L33 n (nI g) (nI Q) (upd (upd (X 0) 4 0) 4 0) (X 5) (X 6) (X 8) (X 9) (X 10) (X 11) (X 12) (X 37) (X 38) (X 39) (fun x o w l v p => some (x, upd (upd (X 0) 4 0) 4 0, o, w, l, v, p)) n 0 0 (X 41) (X 42) (X 43) (X 44) (upd (X 46) 1 x2) = _ := e1
      have e2 : fX10_keeps_L40 n (nI g) (nI Q) (M 15) (M 17) (fun x o s => some (x, o, s)) n 0 0 (upd (upd (upd (M 0) 0 0) 11 0) 23 x2) (M 25) = _ := e2
      have fr : ∀ k, k ≤ 21 → om' k = upd (upd (M 0) 0 0) 11 0 k := fun k hk => (e3 k (by omega) (by omega) (by omega)).trans (upd_n _ _ (by omega))
      exact ⟨a', (upd (upd (X 0) 4 0) 4 0), o', w', la', wl', po', om', st',
        by rw [fX9_keeps, q1, ob2_ss, if_neg i10, da, ob2_ss, if_neg i10, e1],
        by rw [fX10_keeps, goodS, ob1_ss, q2, ob1_ss, dw, ob1_ss, if_pos i00, e2],
        hI.askF 0 (by decide) rfl rfl rfl (core_up (by decide) (core_up (by decide) (core_up (by decide) (core_up (by decide) (core_up (by decide) (core_up (by decide) (fun _ _ => rfl))))))) rfl (e5.trans h46.symm) ⟨rfl, rfl, rfl, rfl, rfl⟩ (fr)⟩
    · exact ⟨(-1), (upd (upd (X 0) 4 0) 4 2), (X 41), (X 42), (X 43), (X 44), (X 46), (upd (upd (upd (M 0) 0 0) 11 0) 11 2), (M 25),
        by rw [fX9_keeps, q1, ob2_ss, if_neg i10, da, ob2_ss, if_pos i00],
        by rw [fX10_keeps, goodS, ob1_ss, q2, ob1_ss, dw, ob1_ss, if_neg (by decide), noS, ob2_ss],
        hI.askF 2 (by decide) rfl rfl rfl (core_up (by decide) (core_up (by decide) (core_up (by decide) (core_up (by decide) (core_up (by decide) (core_up (by decide) (fun _ _ => rfl))))))) rfl rfl ⟨rfl, rfl, rfl, rfl, rfl⟩ (fun k _ => congrFun (updupd _ _ _ _) k)⟩
  · have q2 := q2 (upd (upd (M 0) 0 0) 11 0) rfl
    exact ⟨(-1), (upd (X 0) 4 1), (X 41), (X 42), (X 43), (X 44), (X 46), (upd (upd (upd (M 0) 0 0) 11 0) 11 1), (M 25),
      by rw [fX9_keeps, q1, ob2_ss, if_pos i00],
      by rw [fX10_keeps, goodS, ob1_ss, q2, ob1_ss, fX10_drawsWhy, if_pos i00, ob1_ss, if_neg (by decide), noS, ob2_ss],
      hI.askF 1 (by decide) rfl rfl rfl (core_up (by decide) (core_up (by decide) (core_up (by decide) (core_up (by decide) (core_up (by decide) (core_up (by decide) (fun _ _ => rfl))))))) rfl rfl ⟨rfl, rfl, rfl, rfl, rfl⟩ (fun k _ => congrFun (updupd _ _ _ _) k)⟩

theorem ok_mean {n : Nat} (hn : 2000 ≤ n) {X : Nat → Nat → Int32} {Y : Nat → Int64} {c : Int64} {P : Nat → Nat → Nat → Int32} {M : Nat → Nat → Int32} (hI : INV n X Y c P M) (x1 : Int32) (x2 : Int32) (x3 : Int32) : ∃ r y0 y41 y42 y43 y44 y46 z0 z25, fX9_mean n x1 x2 x3 (X 0) (X 5) (X 6) (X 8) (X 9) (X 10) (X 11) (X 12) (X 37) (X 38) (X 39) (X 41) (X 42) (X 43) (X 44) (X 46) = some (r, y0, y41, y42, y43, y44, y46) ∧ fX10_mean n x1 x2 x3 (M 0) (M 15) (M 17) (M 25) = some (r, z0, z25) ∧ INV n (va_up (va_up (va_up (va_up (va_up (va_up X 0 y0) 41 y41) 42 y42) 43 y43) 44 y44) 46 y46) Y c P (va_up (va_up M 0 z0) 25 z25) := by
  rcases hI.gate with ⟨G, D, T, N, S, hB⟩ | ⟨b1, b2, -, -⟩
  · have b1 := hB.1
    have b2 : upd (upd (M 0) 0 0) 11 0 14 = 1 := hB.2.1
    obtain ⟨-, h1G, hT4, hN5, hS6, x50, x51, x58, x59, x513, r6, x150, r7, x153, r8, bc, bw, bg, bp, ew, bwt, bk, bs, inv, bdm, unq, etl, bth, btt, end_, bnh, esi, bsi⟩ := hB.2.2.2.2.1
    have hsk : ∀ g, g < G → ∃ q, q ≤ 20 ∧ X 8 g = nI q := fun g hg => by rw [hB.G.2.2.2.2.2.1 g hg]; exact bs g hg
    have h46 := hB.2.2.2.1
    obtain ⟨c0, hc1, hc2⟩ := hB.clock
    rcases drawsGate n x1 x2 with ⟨Q, hQ1, hQ, hx, da, dw⟩ | ⟨da, dw⟩
    · subst hx
      obtain ⟨s', m', o', w', la', wl', po', om', st', hs, hm, e1, e2, e3, e5, e6⟩ := mean_lock (n := n) (by omega) hB.G hsk hB.nr hc2 (by omega) hQ x3 (upd (upd (X 0) 4 0) 4 0) (fun (a b : Int32) (o w l v p : Nat → Int32) => if b = 0 then if x3 = 0 then some ((0 : Int64), (upd (upd (X 0) 4 0) 4 0), o, w, l, v, p) else some ((1 : Int64), (upd (upd (X 0) 4 0) 4 0), o, w, l, v, p) else ob1 (fX9_commonPart n a b) (fun u => if 1 ≤ u then if x3 = 0 then if u = 0 then none else some ((a / u).toInt64, (upd (upd (X 0) 4 0) 4 0), o, w, l, v, p) else if u = 0 then none else some ((b / u).toInt64, (upd (upd (X 0) 4 0) 4 0), o, w, l, v, p) else if x3 = 0 then some (a.toInt64, (upd (upd (X 0) 4 0) 4 0), o, w, l, v, p) else some (b.toInt64, (upd (upd (X 0) 4 0) 4 0), o, w, l, v, p))) (fun (a b : Int64) (o s : Nat → Int32) => if (lg_cmp b (0 : Int64)) = 0 then ob1 (fX10_lowest n a (1 : Int64) x3) (fun u => some (u, o, s)) else ob1 (fX10_lowest n a b x3) (fun u => some (u, o, s))) Q 0 n n 0 0 (X 41) (X 42) (X 43) (X 44) (upd (X 46) 1 x1) (upd (upd (upd (M 0) 0 0) 11 0) 23 x1) (M 25) (by omega) (by omega) (by omega) (by omega) (by omega) h46 rfl
      have fr : ∀ k, k ≤ 21 → om' k = upd (upd (M 0) 0 0) 11 0 k := fun k hk => (e3 k (by omega) (by omega) (by omega)).trans (upd_n _ _ (by omega))
      by_cases hm0 : m' = 0
      · have hs0 := (e6 hm0).2
        subst hm0; subst hs0
        have lw : fX10_lowest n (lN 0) 1 x3 = some (if x3 = 0 then 0 else 1) := lowestS (a := 0) (b := 1) (by omega) (by omega) (by omega) (by omega)
        exact ⟨(if x3 = 0 then 0 else 1), (upd (upd (X 0) 4 0) 4 0), o', w', la', wl', po', om', st',
          by rw [fX9_mean, asked_y b1, ob2_ss, if_neg i10, da, ob2_ss, if_neg i10]; refine e1.trans ?_; rw [if_pos (show nI 0 = 0 from rfl)]; by_cases h : x3 = 0 <;> simp [h],
          by rw [fX10_mean, goodS, ob1_ss, b2, dw, ob1_ss, if_pos i00]; refine e2.trans ?_; rw [if_pos (show lg_cmp (lN 0) 0 = 0 from (lg_cmp_eq _ _).mpr rfl), lw, ob1_ss],
          hI.askF 0 (by decide) rfl rfl rfl (core_up (by decide) (core_up (by decide) (core_up (by decide) (core_up (by decide) (core_up (by decide) (core_up (by decide) (fun _ _ => rfl))))))) rfl (e5.trans h46.symm) ⟨rfl, rfl, rfl, rfl, rfl⟩ (fr)⟩
      · have hg : 0 < Nat.gcd s' m' := Nat.gcd_pos_of_pos_right s' (by omega)
        have hgb := Nat.gcd_le_right s' (show 0 < m' by omega)
        have hne : ¬ lg_cmp (lN m') 0 = 0 := fun q => hm0 ((lN_eq (by omega) (by omega)).mp (((lg_cmp_eq _ _).mp q).trans (show (0 : Int64) = lN 0 from rfl)))
        have hd1 : s' / Nat.gcd s' m' ≤ s' := Nat.div_le_self _ _
        have hd2 : m' / Nat.gcd s' m' ≤ m' := Nat.div_le_self _ _
        by_cases h3 : x3 = 0
        · exact ⟨(lN (s' / Nat.gcd s' m')), (upd (upd (X 0) 4 0) 4 0), o', w', la', wl', po', om', st',
            by rw [fX9_mean, asked_y b1, ob2_ss, if_neg i10, da, ob2_ss, if_neg i10]; refine e1.trans ?_; rw [if_neg (nI_ne0 (by omega) (by omega)), cpS (by omega) (by omega) (by omega) (by omega), ob1_ss, if_pos (show (1 : Int32) ≤ nI (Nat.gcd s' m') from nI_le (a := 1) (by omega) (by omega)), if_pos h3, if_neg (nI_ne0 (by omega) (by omega)), pk_div (by omega) (by omega) (by omega), nI_l (by omega)],
            by rw [fX10_mean, goodS, ob1_ss, b2, dw, ob1_ss, if_pos i00]; refine e2.trans ?_; rw [if_neg hne, lowestS (by omega) (by omega) (by omega) (by omega), if_pos h3, ob1_ss],
            hI.askF 0 (by decide) rfl rfl rfl (core_up (by decide) (core_up (by decide) (core_up (by decide) (core_up (by decide) (core_up (by decide) (core_up (by decide) (fun _ _ => rfl))))))) rfl (e5.trans h46.symm) ⟨rfl, rfl, rfl, rfl, rfl⟩ (fr)⟩
        · exact ⟨(lN (m' / Nat.gcd s' m')), (upd (upd (X 0) 4 0) 4 0), o', w', la', wl', po', om', st',
            by rw [fX9_mean, asked_y b1, ob2_ss, if_neg i10, da, ob2_ss, if_neg i10]; refine e1.trans ?_; rw [if_neg (nI_ne0 (by omega) (by omega)), cpS (by omega) (by omega) (by omega) (by omega), ob1_ss, if_pos (show (1 : Int32) ≤ nI (Nat.gcd s' m') from nI_le (a := 1) (by omega) (by omega)), if_neg h3, if_neg (nI_ne0 (by omega) (by omega)), pk_div (by omega) (by omega) (by omega), nI_l (by omega)],
            by rw [fX10_mean, goodS, ob1_ss, b2, dw, ob1_ss, if_pos i00]; refine e2.trans ?_; rw [if_neg hne, lowestS (by omega) (by omega) (by omega) (by omega), if_neg h3, ob1_ss],
            hI.askF 0 (by decide) rfl rfl rfl (core_up (by decide) (core_up (by decide) (core_up (by decide) (core_up (by decide) (core_up (by decide) (core_up (by decide) (fun _ _ => rfl))))))) rfl (e5.trans h46.symm) ⟨rfl, rfl, rfl, rfl, rfl⟩ (fr)⟩
    · exact ⟨(-1), (upd (upd (X 0) 4 0) 4 2), (X 41), (X 42), (X 43), (X 44), (X 46), (upd (upd (upd (M 0) 0 0) 11 0) 11 2), (M 25),
        by rw [fX9_mean, asked_y b1, ob2_ss, if_neg i10, da, ob2_ss, if_pos i00],
        by rw [fX10_mean, goodS, ob1_ss, b2, dw, ob1_ss, if_neg (by decide), noS, ob2_ss]; rfl,
        hI.askF 2 (by decide) rfl rfl rfl (core_up (by decide) (core_up (by decide) (core_up (by decide) (core_up (by decide) (core_up (by decide) (core_up (by decide) (fun _ _ => rfl))))))) rfl rfl ⟨rfl, rfl, rfl, rfl, rfl⟩ (fun k _ => congrFun (updupd _ _ _ _) k)⟩
  · have b2 : upd (upd (M 0) 0 0) 11 0 14 = 0 := b2
    exact ⟨(-1), (upd (X 0) 4 1), (X 41), (X 42), (X 43), (X 44), (X 46), (upd (upd (upd (M 0) 0 0) 11 0) 11 1), (M 25),
      by rw [fX9_mean, asked_n b1, ob2_ss, if_pos i00],
      by rw [fX10_mean, goodS, ob1_ss, b2, fX10_drawsWhy, if_pos i00, ob1_ss, if_neg (by decide), noS, ob2_ss]; rfl,
      hI.askF 1 (by decide) rfl rfl rfl (core_up (by decide) (core_up (by decide) (core_up (by decide) (core_up (by decide) (core_up (by decide) (core_up (by decide) (fun _ _ => rfl))))))) rfl rfl ⟨rfl, rfl, rfl, rfl, rfl⟩ (fun k _ => congrFun (updupd _ _ _ _) k)⟩
