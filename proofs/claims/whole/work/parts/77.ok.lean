/-! guest, size, feed -/

theorem ok_feed {n : Nat} (hn : 2000 ≤ n) {X : Nat → Nat → Int32} {Y : Nat → Int64} {c : Int64} {P : Nat → Nat → Nat → Int32} {M : Nat → Nat → Int32} (hI : INV n X Y c P M) (x1 : Int32) (x2 : Int32) (x3 : Int32) (x4 : Int32) (x5 : Int32) : ∃ r y1 c' y2 z0 z1, fX9_feed n x1 x2 x3 x4 x5 (X 0) (X 1) c (X 2) = some (r, y1, c', y2) ∧ fX10_feed n x1 x2 x3 x4 x5 (M 0) (M 1) = some (r, z0, z1) ∧ INV n (va_up (va_up X 1 y1) 2 y2) Y c' P (va_up (va_up M 0 z0) 1 z1) := by
  obtain ⟨a1, ⟨T, t1, t2, t3, t4⟩, a3, a4, a5, a6, a7⟩ := id hI
  have l20 : (20 : Int32) = nI 20 := rfl
  have l800 : (800 : Int32) = nI 800 := rfl
  by_cases hT : T + 20 ≤ 800
  · obtain ⟨o', f', om', fm', e1, e2, e3, e4, e5, e6, e7⟩ := feedS (n := n) (by omega) x1 x2 x3 x4 x5 hT (oo := X 0) (c := c) t2 t3 t4
    refine ⟨nI (T + 20), o', c, f', om', fm', e1, e2, ?_⟩
    have h2 := e5 2 (by decide)
    have h3 := e5 3 (by decide)
    have m9 : om' 9 = M 0 9 := e6 9 (by decide)
    have m10 : om' 10 = M 0 10 := e6 10 (by decide)
    have m11 : om' 11 = M 0 11 := e6 11 (by decide)
    have m14 : om' 14 = M 0 14 := e6 14 (by decide)
    have m20 : om' 20 = M 0 20 := e6 20 (by decide)
    have m21 : om' 21 = M 0 21 := e6 21 (by decide)
    refine ⟨a1.trans m11.symm, ⟨T + 20, by omega, e3, e4, e7⟩, h2.trans (a3.trans m9.symm), fun q => h3.trans ((a4 q).trans m10.symm), a5, a6, ?_⟩
    rcases a7 with ⟨b1, b2, b3⟩ | ⟨b1, b2, b3⟩
    · refine Or.inl ⟨b1, m14.trans b2, ?_⟩
      show BEGUN n _ P (M 15) (M 17) (M 18) (M 19) (X 0 11) (om' 20) (om' 21)
      rw [m20, m21]; exact b3
    · refine Or.inr ⟨b1, m14.trans b2, ?_⟩
      show FRESH _ (X 0 11) (om' 20) (om' 21)
      rw [m20, m21]; exact b3
  · refine ⟨-1, X 1, c, X 2, upd (M 0) 0 0, M 1, ?_, ?_, ?_⟩
    · rw [fX9_feed, t2, l20, l800, addI, if_neg (nI_ge (by omega) (by omega))]
    · rw [fX10_feed, t3, l20, l800, addI, if_neg (nI_ge (by omega) (by omega))]
    · refine hI.keep (core_eq rfl (core_eq rfl (fun _ _ => rfl))) rfl rfl hI.1 (fun q => q) rfl rfl ⟨rfl, rfl, rfl, rfl, rfl⟩ ⟨rfl, rfl, rfl, rfl, rfl, rfl⟩

theorem ok_size {n : Nat} (hn : 2000 ≤ n) {X : Nat → Nat → Int32} {Y : Nat → Int64} {c : Int64} {P : Nat → Nat → Nat → Int32} {M : Nat → Nat → Int32} (hI : INV n X Y c P M) (x1 : Int32) : ∃ r z0, fX9_size n x1 (X 0) (X 1) c (X 5) (X 15) (X 37) (X 47) = some (r) ∧ fX10_size n x1 (M 0) (M 15) (M 17) = some (r, z0) ∧ INV n X Y c P (va_up M 0 z0) := by
  obtain ⟨a1, ⟨Tp, t1, t2, t3, t4⟩, a3, a4, a5, a6, a7⟩ := id hI
  rcases ixs x1 (v := 14) (by omega) with ⟨k, hk, ex⟩ | hx
  · subst ex
    rcases hI.gate with ⟨G, D, T, N, S, hB⟩ | ⟨b1, b2, -, -⟩
    · have b2 := hB.2.1
      have b2' : upd (M 0) 0 0 14 = 1 := b2
      obtain ⟨-, h1G, hT4, hN5, hS6, x50, x51, x58, x59, x513, r6, x150, r7, x153, r8, -⟩ := hB.2.2.2.2.1
      have g3 : X 5 3 = M 15 3 := hB.G.2.1.trans hB.G.2.2.1.symm
      have g2 : X 5 2 = M 15 2 := hB.G.2.2.2.1
      obtain ⟨j0, p, hj0, ej0, hp, -, n1, n2⟩ := counts (n := n) (by omega) hB.G.1 hB.nr.2.2.2.2.2.2.2
      obtain ⟨nx, u, -, -, -, c7, c8, -⟩ := (hB.more hI).1
      obtain ⟨v, -, v2, v3, -⟩ := (hB.more hI).2.1
      have hk' : k = 0 ∨ k = 1 ∨ k = 2 ∨ k = 3 ∨ k = 4 ∨ k = 5 ∨ k = 6 ∨ k = 7 ∨ k = 8 ∨ k = 9 ∨ k = 10 ∨ k = 11 ∨ k = 12 ∨ k = 13 := by omega
      rcases hk' with rfl | rfl | rfl | rfl | rfl | rfl | rfl | rfl | rfl | rfl | rfl | rfl | rfl | rfl
      · exact ⟨(X 37 2), upd (M 0) 0 0, rfl, by rw [fX10_size, if_neg (by decide), b2, if_neg i10, hB.nr.2.1]; rfl, hI.quiet⟩
      · exact ⟨(X 5 1), upd (M 0) 0 0, rfl, by rw [fX10_size, if_neg (by decide), b2, if_neg i10, x51]; rfl, hI.quiet⟩
      · exact ⟨(X 5 2), upd (M 0) 0 0, rfl, by rw [fX10_size, if_neg (by decide), b2, if_neg i10, g2]; rfl, hI.quiet⟩
      · exact ⟨(X 5 3), upd (M 0) 0 0, rfl, by rw [fX10_size, if_neg (by decide), b2, if_neg i10, g3]; rfl, hI.quiet⟩
      · exact ⟨(X 5 8), upd (M 0) 0 0, rfl, by rw [fX10_size, if_neg (by decide), b2, if_neg i10, x58]; rfl, hI.quiet⟩
      · exact ⟨(X 5 9), upd (M 0) 0 0, rfl, by rw [fX10_size, if_neg (by decide), b2, if_neg i10, x59]; rfl, hI.quiet⟩
      · exact ⟨(X 5 13), upd (M 0) 0 0, rfl, by rw [fX10_size, if_neg (by decide), b2, if_neg i10, (x513.trans r6.symm)]; rfl, hI.quiet⟩
      · exact ⟨(X 15 0), upd (M 0) 0 0, rfl, by rw [fX10_size, if_neg (by decide), b2, if_neg i10, (x150.trans r7.symm)]; rfl, hI.quiet⟩
      · exact ⟨(X 15 3), upd (M 0) 0 0, rfl, by rw [fX10_size, if_neg (by decide), b2, if_neg i10, (x153.trans r8.symm)]; rfl, hI.quiet⟩
      · exact ⟨(X 37 0), upd (M 0) 0 0, rfl, by rw [fX10_size, if_neg (by decide), b2, if_neg i10, hB.nr.1]; rfl, hI.quiet⟩
      · exact ⟨nI p, upd (M 0) 0 0, by rw [show fX9_size n (nI 10) (X 0) (X 1) c (X 5) (X 15) (X 37) (X 47) = ob1 (fJ6_bitCount_0f7a4 n (X 37 1)) (fun u => some u) from rfl, n1, ob1_ss], by rw [fX10_size, if_neg (by decide), b2, if_neg i10, show fX10_in n (nI 10) 1 8 = some 0 from rfl, ob1_ss, if_pos i00, if_neg (by decide), if_neg (by decide), if_neg (by decide), if_neg (by decide), if_neg (by decide), if_neg (by decide), if_neg (by decide), if_neg (by decide), if_neg (by decide), if_neg (by decide), if_pos (by decide), th0 (by omega) hB.G.1 hB.G.2.2.1 hB.nr, ob1_ss, n2, ob1_ss], hI.quiet⟩
      · exact ⟨(X 47 2), upd (M 0) 0 0, rfl, by rw [fX10_size, if_neg (by decide), b2, if_neg i10, (c7.trans c8.symm)]; rfl, hI.quiet⟩
      · exact ⟨(X 0 11), upd (M 0) 0 0, rfl, by rw [fX10_size, if_neg (by decide), b2, if_neg i10, (v2.trans v3.symm)]; rfl, hI.quiet⟩
      · exact ⟨(X 1 1), upd (M 0) 0 0, rfl, by rw [(t2.trans t3.symm)]; rfl, hI.quiet⟩
    · rcases a7 with ⟨z, -⟩ | ⟨-, -, f5, f15, f37, f47a, f47b, f11, -, -, -⟩
      · exact absurd (b1.symm.trans z) (by decide)
      · have hk' : k = 0 ∨ k = 1 ∨ k = 2 ∨ k = 3 ∨ k = 4 ∨ k = 5 ∨ k = 6 ∨ k = 7 ∨ k = 8 ∨ k = 9 ∨ k = 10 ∨ k = 11 ∨ k = 12 ∨ k = 13 := by omega
        rcases hk' with rfl | rfl | rfl | rfl | rfl | rfl | rfl | rfl | rfl | rfl | rfl | rfl | rfl | rfl
        · exact ⟨0, upd (M 0) 0 0, congrArg some (f37 2), by rw [fX10_size, if_neg (by decide), b2, if_pos i00]; rfl, hI.quiet⟩
        · exact ⟨0, upd (M 0) 0 0, congrArg some (f5 1), by rw [fX10_size, if_neg (by decide), b2, if_pos i00]; rfl, hI.quiet⟩
        · exact ⟨0, upd (M 0) 0 0, congrArg some (f5 2), by rw [fX10_size, if_neg (by decide), b2, if_pos i00]; rfl, hI.quiet⟩
        · exact ⟨0, upd (M 0) 0 0, congrArg some (f5 3), by rw [fX10_size, if_neg (by decide), b2, if_pos i00]; rfl, hI.quiet⟩
        · exact ⟨0, upd (M 0) 0 0, congrArg some (f5 8), by rw [fX10_size, if_neg (by decide), b2, if_pos i00]; rfl, hI.quiet⟩
        · exact ⟨0, upd (M 0) 0 0, congrArg some (f5 9), by rw [fX10_size, if_neg (by decide), b2, if_pos i00]; rfl, hI.quiet⟩
        · exact ⟨0, upd (M 0) 0 0, congrArg some (f5 13), by rw [fX10_size, if_neg (by decide), b2, if_pos i00]; rfl, hI.quiet⟩
        · exact ⟨0, upd (M 0) 0 0, congrArg some (f15 0), by rw [fX10_size, if_neg (by decide), b2, if_pos i00]; rfl, hI.quiet⟩
        · exact ⟨0, upd (M 0) 0 0, congrArg some (f15 3), by rw [fX10_size, if_neg (by decide), b2, if_pos i00]; rfl, hI.quiet⟩
        · exact ⟨0, upd (M 0) 0 0, congrArg some (f37 0), by rw [fX10_size, if_neg (by decide), b2, if_pos i00]; rfl, hI.quiet⟩
        · exact ⟨0, upd (M 0) 0 0, by rw [show fX9_size n (nI 10) (X 0) (X 1) c (X 5) (X 15) (X 37) (X 47) = ob1 (fJ6_bitCount_0f7a4 n (X 37 1)) (fun u => some u) from rfl, f37 1]; exact congrArg (fun z => ob1 z (fun u => some u)) (bitCountS n 0 (by omega)), by rw [fX10_size, if_neg (by decide), b2, if_pos i00]; rfl, hI.quiet⟩
        · exact ⟨0, upd (M 0) 0 0, congrArg some (f47b), by rw [fX10_size, if_neg (by decide), b2, if_pos i00]; rfl, hI.quiet⟩
        · exact ⟨0, upd (M 0) 0 0, congrArg some (f11), by rw [fX10_size, if_neg (by decide), b2, if_pos i00]; rfl, hI.quiet⟩
        · exact ⟨(X 1 1), upd (M 0) 0 0, rfl, by rw [(t2.trans t3.symm)]; rfl, hI.quiet⟩
  · have ne : ∀ j, j < 14 → x1 ≠ nI j := fun j hj e => by
      rcases hx with z | ⟨-, z⟩
      · rw [e] at z; exact nI_pos (by omega) z
      · rw [e] at z; exact nI_ge (a := j) (b := 14) hj (by omega) z
    have p9 : fX9_size n x1 (X 0) (X 1) c (X 5) (X 15) (X 37) (X 47) = some (-1) := by rw [fX9_size, if_neg (show ¬ x1 = 0 from ne 0 (by omega)), if_neg (show ¬ x1 = 1 from ne 1 (by omega)), if_neg (show ¬ x1 = 2 from ne 2 (by omega)), if_neg (show ¬ x1 = 3 from ne 3 (by omega)), if_neg (show ¬ x1 = 4 from ne 4 (by omega)), if_neg (show ¬ x1 = 5 from ne 5 (by omega)), if_neg (show ¬ x1 = 6 from ne 6 (by omega)), if_neg (show ¬ x1 = 7 from ne 7 (by omega)), if_neg (show ¬ x1 = 8 from ne 8 (by omega)), if_neg (show ¬ x1 = 9 from ne 9 (by omega)), if_neg (show ¬ x1 = 10 from ne 10 (by omega)), if_neg (show ¬ x1 = 11 from ne 11 (by omega)), if_neg (show ¬ x1 = 12 from ne 12 (by omega)), if_neg (show ¬ x1 = 13 from ne 13 (by omega))]
    refine ⟨-1, upd (M 0) 0 0, p9, ?_, hI.quiet⟩
    rw [fX10_size, if_neg (show ¬ x1 = 13 from ne 13 (by omega))]
    rcases hI.gate with ⟨G, D, T, N, S, hB⟩ | ⟨b1, b2, -, -⟩
    · rw [hB.2.1, if_neg i10]
      rcases rng n 1 8 x1 (by omega) (by omega) with ⟨k, -, hk, e, -⟩ | ⟨i1, -⟩
      · exact absurd e (ne k (by omega))
      · rw [show fX10_in n x1 1 8 = some 0 from i1, ob1_ss, if_pos i00, if_neg (show ¬ x1 = 0 from ne 0 (by omega)), if_neg (show ¬ x1 = 1 from ne 1 (by omega)), if_neg (show ¬ x1 = 2 from ne 2 (by omega)), if_neg (show ¬ x1 = 3 from ne 3 (by omega)), if_neg (show ¬ x1 = 4 from ne 4 (by omega)), if_neg (show ¬ x1 = 5 from ne 5 (by omega)), if_neg (show ¬ x1 = 6 from ne 6 (by omega)), if_neg (show ¬ x1 = 7 from ne 7 (by omega)), if_neg (show ¬ x1 = 8 from ne 8 (by omega)), if_neg (show ¬ x1 = 9 from ne 9 (by omega)), if_neg (show ¬ x1 = 10 from ne 10 (by omega)), if_neg (show ¬ x1 = 11 from ne 11 (by omega)), if_neg (show ¬ x1 = 12 from ne 12 (by omega))]
    · rw [b2, if_pos i00]
      rcases rng n 0 12 x1 (by omega) (by omega) with ⟨k, -, hk, e, -⟩ | ⟨i1, -⟩
      · exact absurd e (ne k (by omega))
      · rw [show fX10_in n x1 0 12 = some 0 from i1, ob1_ss, if_pos i00]

theorem ok_guest {n : Nat} (hn : 2000 ≤ n) {X : Nat → Nat → Int32} {Y : Nat → Int64} {c : Int64} {P : Nat → Nat → Nat → Int32} {M : Nat → Nat → Int32} (hI : INV n X Y c P M) (x1 : Int32) (x2 : Int32) : ∃ r y0 y40 z0, fX9_guest n x1 x2 (X 0) (X 5) (X 6) (X 9) (X 10) (X 11) (X 12) (X 37) (X 38) (X 39) (X 40) = some (r, y0, y40) ∧ fX10_guest n x1 x2 (M 0) (M 15) (M 17) = some (r, z0) ∧ INV n (va_up (va_up X 0 y0) 40 y40) Y c P (va_up M 0 z0) := by
  rcases hI.gateG x1 with ⟨G, D, T, N, S, g, hB, hg, hx1, q1, q2⟩ | ⟨q1, q2⟩
  · have hG : G ≤ 7 := hB.G.1
    have q2 := q2 (upd (upd (M 0) 0 0) 11 0) rfl
    subst hx1
    rcases ixs x2 (v := 6) (by omega) with ⟨k, hk, ex⟩ | hx
    · subst ex
      have hk' : k = 0 ∨ k = 1 ∨ k = 2 ∨ k = 3 ∨ k = 4 ∨ k = 5 := by omega
      rcases hk' with rfl | rfl | rfl | rfl | rfl | rfl
      · exact ⟨(X 6 g), (upd (X 0) 4 0), (X 40), (upd (upd (M 0) 0 0) 11 0),
          by rw [fX9_guest, q1, ob2_ss, if_neg i10, if_pos (show nI 0 = 0 by decide), if_neg (ckI (by omega) (by omega)), clI (by omega)],
          by rw [fX10_guest, goodS, ob1_ss, q2, ob1_ss, if_neg i10, show fX10_in n (nI 0) 0 5 = some 1 from rfl, ob1_ss, if_neg i10, if_pos (show nI 0 = 0 by decide), kindOfS n _ _ (by omega), ob1_ss, hB.G.2.2.2.2.1 g hg],
          hI.askF 0 (by decide) rfl rfl rfl (core_up (by decide) (core_up (by decide) (fun _ _ => rfl))) rfl rfl ⟨rfl, rfl, rfl, rfl, rfl⟩ (fun _ _ => rfl)⟩
      · exact ⟨(X 38 g), (upd (X 0) 4 0), (X 40), (upd (upd (M 0) 0 0) 11 0),
          by rw [fX9_guest, q1, ob2_ss, if_neg i10, if_neg (show ¬ nI 1 = 0 by decide), if_pos (show nI 1 = 1 by decide), if_neg (ckI (by omega) (by omega)), clI (by omega)],
          by rw [fX10_guest, goodS, ob1_ss, q2, ob1_ss, if_neg i10, show fX10_in n (nI 1) 0 5 = some 1 from rfl, ob1_ss, if_neg i10, if_neg (show ¬ nI 1 = 0 by decide), if_pos (show nI 1 = 1 by decide), if_neg (ckI (by omega) (by omega)), clI (by omega), hB.nr.2.2.2.1 g hg],
          hI.askF 0 (by decide) rfl rfl rfl (core_up (by decide) (core_up (by decide) (fun _ _ => rfl))) rfl rfl ⟨rfl, rfl, rfl, rfl, rfl⟩ (fun _ _ => rfl)⟩
      · obtain ⟨w', hw, e1⟩ := weighS (n := n) (by omega) (o := X 37) (want := X 38) (will := X 40) hB.G
        exact ⟨(w' g), (upd (X 0) 4 0), w', (upd (upd (M 0) 0 0) 11 0),
          by rw [fX9_guest, q1, ob2_ss, if_neg i10, if_neg (show ¬ nI 2 = 0 by decide), if_neg (show ¬ nI 2 = 1 by decide), if_pos (show nI 2 = 2 by decide), fX2_willOf, e1, ob1_ss, if_neg (ckI (by omega) (by omega)), clI (by omega), ob2_ss],
          by rw [fX10_guest, goodS, ob1_ss, q2, ob1_ss, if_neg i10, show fX10_in n (nI 2) 0 5 = some 1 from rfl, ob1_ss, if_neg i10, if_neg (show ¬ nI 2 = 0 by decide), if_neg (show ¬ nI 2 = 1 by decide), if_pos (show nI 2 = 2 by decide), willOfS (by omega) hG hg hB.G.2.2.1, ob1_ss, hw g hg, wills_eq hB.G hB.nr hg, hB.nr.2.2.2.1 g hg],
          hI.askF 0 (by decide) rfl rfl rfl (core_up (by decide) (core_up (by decide) (fun _ _ => rfl))) rfl rfl ⟨rfl, rfl, rfl, rfl, rfl⟩ (fun _ _ => rfl)⟩
      · by_cases hb : bt (X 37 1) g = true
        · exact ⟨1, (upd (X 0) 4 0), (X 40), (upd (upd (M 0) 0 0) 11 0),
            by rw [fX9_guest, q1, ob2_ss, if_neg i10, if_neg (show ¬ nI 3 = 0 by decide), if_neg (show ¬ nI 3 = 1 by decide), if_neg (show ¬ nI 3 = 2 by decide), if_pos (show nI 3 = 3 by decide), has_y (by omega) hb, ob1_ss, if_neg i10],
            by rw [fX10_guest, goodS, ob1_ss, q2, ob1_ss, if_neg i10, show fX10_in n (nI 3) 0 5 = some 1 from rfl, ob1_ss, if_neg i10, if_neg (show ¬ nI 3 = 0 by decide), if_neg (show ¬ nI 3 = 1 by decide), if_neg (show ¬ nI 3 = 2 by decide), if_pos (show nI 3 = 3 by decide), isIn_y (by omega) ((hB.there hg).mp hb), ob1_ss, if_neg i10],
            hI.askF 0 (by decide) rfl rfl rfl (core_up (by decide) (core_up (by decide) (fun _ _ => rfl))) rfl rfl ⟨rfl, rfl, rfl, rfl, rfl⟩ (fun _ _ => rfl)⟩
        · exact ⟨0, (upd (X 0) 4 0), (X 40), (upd (upd (M 0) 0 0) 11 0),
            by rw [fX9_guest, q1, ob2_ss, if_neg i10, if_neg (show ¬ nI 3 = 0 by decide), if_neg (show ¬ nI 3 = 1 by decide), if_neg (show ¬ nI 3 = 2 by decide), if_pos (show nI 3 = 3 by decide), has_n (by omega) hb, ob1_ss, if_pos i00],
            by rw [fX10_guest, goodS, ob1_ss, q2, ob1_ss, if_neg i10, show fX10_in n (nI 3) 0 5 = some 1 from rfl, ob1_ss, if_neg i10, if_neg (show ¬ nI 3 = 0 by decide), if_neg (show ¬ nI 3 = 1 by decide), if_neg (show ¬ nI 3 = 2 by decide), if_pos (show nI 3 = 3 by decide), isIn_n (by omega) (fun q => hb ((hB.there hg).mpr q)), ob1_ss, if_pos i00],
            hI.askF 0 (by decide) rfl rfl rfl (core_up (by decide) (core_up (by decide) (fun _ _ => rfl))) rfl rfl ⟨rfl, rfl, rfl, rfl, rfl⟩ (fun _ _ => rfl)⟩
      · by_cases hb : bt (X 37 1) g = true
        · exact ⟨(-2), (upd (X 0) 4 0), (X 40), (upd (upd (M 0) 0 0) 11 0),
            by rw [fX9_guest, q1, ob2_ss, if_neg i10, if_neg (show ¬ nI 4 = 0 by decide), if_neg (show ¬ nI 4 = 1 by decide), if_neg (show ¬ nI 4 = 2 by decide), if_neg (show ¬ nI 4 = 3 by decide), if_pos (show nI 4 = 4 by decide), if_neg (ckI (by omega) (by omega)), clI (by omega), hB.nr.2.2.2.2.2.2.1 g hg hb],
            by rw [fX10_guest, goodS, ob1_ss, q2, ob1_ss, if_neg i10, show fX10_in n (nI 4) 0 5 = some 1 from rfl, ob1_ss, if_neg i10, if_neg (show ¬ nI 4 = 0 by decide), if_neg (show ¬ nI 4 = 1 by decide), if_neg (show ¬ nI 4 = 2 by decide), if_neg (show ¬ nI 4 = 3 by decide), if_pos (show nI 4 = 4 by decide), isIn_y (by omega) ((hB.there hg).mp hb), ob1_ss, if_neg i10],
            hI.askF 0 (by decide) rfl rfl rfl (core_up (by decide) (core_up (by decide) (fun _ _ => rfl))) rfl rfl ⟨rfl, rfl, rfl, rfl, rfl⟩ (fun _ _ => rfl)⟩
        · have hb' : bt (X 37 1) g = false := by cases h : bt (X 37 1) g <;> simp_all
          exact ⟨(X 39 g), (upd (X 0) 4 0), (X 40), (upd (upd (M 0) 0 0) 11 0),
            by rw [fX9_guest, q1, ob2_ss, if_neg i10, if_neg (show ¬ nI 4 = 0 by decide), if_neg (show ¬ nI 4 = 1 by decide), if_neg (show ¬ nI 4 = 2 by decide), if_neg (show ¬ nI 4 = 3 by decide), if_pos (show nI 4 = 4 by decide), if_neg (ckI (by omega) (by omega)), clI (by omega)],
            by rw [fX10_guest, goodS, ob1_ss, q2, ob1_ss, if_neg i10, show fX10_in n (nI 4) 0 5 = some 1 from rfl, ob1_ss, if_neg i10, if_neg (show ¬ nI 4 = 0 by decide), if_neg (show ¬ nI 4 = 1 by decide), if_neg (show ¬ nI 4 = 2 by decide), if_neg (show ¬ nI 4 = 3 by decide), if_pos (show nI 4 = 4 by decide), isIn_n (by omega) (fun q => hb ((hB.there hg).mpr q)), ob1_ss, if_pos i00, lz7, addI, if_neg (ckI (by omega) (by omega)), clI (by omega), hB.nr.2.2.2.2.2.1 g hg hb', Int32.add_sub_cancel],
            hI.askF 0 (by decide) rfl rfl rfl (core_up (by decide) (core_up (by decide) (fun _ _ => rfl))) rfl rfl ⟨rfl, rfl, rfl, rfl, rfl⟩ (fun _ _ => rfl)⟩
      · have ig : (((9 : Int32) + ((4 : Int32) * nI g)) + (3 : Int32)) = nI (9 + 4 * g + 3) := idx_r (c := 3) (by omega) (by omega)
        rcases hB.G.2.2.2.2.2.2.1 g hg with ⟨m1, m2⟩ | ⟨j, hj, m1, m2⟩
        · exact ⟨(-2), (upd (X 0) 4 0), (X 40), (upd (upd (M 0) 0 0) 11 0),
            by rw [fX9_guest, q1, ob2_ss, if_neg i10, if_neg (show ¬ nI 5 = 0 by decide), if_neg (show ¬ nI 5 = 1 by decide), if_neg (show ¬ nI 5 = 2 by decide), if_neg (show ¬ nI 5 = 3 by decide), if_neg (show ¬ nI 5 = 4 by decide), if_pos (show nI 5 = 5 by decide), if_neg (ckI (by omega) (by omega)), clI (by omega), m1],
            by rw [fX10_guest, goodS, ob1_ss, q2, ob1_ss, if_neg i10, show fX10_in n (nI 5) 0 5 = some 1 from rfl, ob1_ss, if_neg i10, if_neg (show ¬ nI 5 = 0 by decide), if_neg (show ¬ nI 5 = 1 by decide), if_neg (show ¬ nI 5 = 2 by decide), if_neg (show ¬ nI 5 = 3 by decide), if_neg (show ¬ nI 5 = 4 by decide), ig, if_neg (ckI (by omega) (by omega)), clI (by omega), if_pos m2],
            hI.askF 0 (by decide) rfl rfl rfl (core_up (by decide) (core_up (by decide) (fun _ _ => rfl))) rfl rfl ⟨rfl, rfl, rfl, rfl, rfl⟩ (fun _ _ => rfl)⟩
        · exact ⟨(nI j), (upd (X 0) 4 0), (X 40), (upd (upd (M 0) 0 0) 11 0),
            by rw [fX9_guest, q1, ob2_ss, if_neg i10, if_neg (show ¬ nI 5 = 0 by decide), if_neg (show ¬ nI 5 = 1 by decide), if_neg (show ¬ nI 5 = 2 by decide), if_neg (show ¬ nI 5 = 3 by decide), if_neg (show ¬ nI 5 = 4 by decide), if_pos (show nI 5 = 5 by decide), if_neg (ckI (by omega) (by omega)), clI (by omega), m1],
            by rw [fX10_guest, goodS, ob1_ss, q2, ob1_ss, if_neg i10, show fX10_in n (nI 5) 0 5 = some 1 from rfl, ob1_ss, if_neg i10, if_neg (show ¬ nI 5 = 0 by decide), if_neg (show ¬ nI 5 = 1 by decide), if_neg (show ¬ nI 5 = 2 by decide), if_neg (show ¬ nI 5 = 3 by decide), if_neg (show ¬ nI 5 = 4 by decide), ig, if_neg (ckI (by omega) (by omega)), clI (by omega), m2, if_neg (nI_ne0 (by omega) (by omega)), if_neg (ckK (by omega) (by omega)), nI_pred],
            hI.askF 0 (by decide) rfl rfl rfl (core_up (by decide) (core_up (by decide) (fun _ _ => rfl))) rfl rfl ⟨rfl, rfl, rfl, rfl, rfl⟩ (fun _ _ => rfl)⟩
    · have ne : ∀ j, j < 6 → x2 ≠ nI j := fun j hj e => by
        rcases hx with z | ⟨-, z⟩
        · rw [e] at z; exact nI_pos (by omega) z
        · rw [e] at z; exact nI_ge (a := j) (b := 6) hj (by omega) z
      have i1 : fX10_in n x2 0 5 = some 0 := in_n (v := 6) (by omega) hx
      exact ⟨(-1000), (upd (upd (X 0) 4 0) 4 1), (X 40), (upd (upd (upd (M 0) 0 0) 11 0) 11 1),
        by rw [fX9_guest, q1, ob2_ss, if_neg i10, if_neg (show ¬ x2 = 0 from ne 0 (by omega)), if_neg (show ¬ x2 = 1 from ne 1 (by omega)), if_neg (show ¬ x2 = 2 from ne 2 (by omega)), if_neg (show ¬ x2 = 3 from ne 3 (by omega)), if_neg (show ¬ x2 = 4 from ne 4 (by omega)), if_neg (show ¬ x2 = 5 from ne 5 (by omega)), refuseS, ob2_ss],
        by rw [fX10_guest, goodS, ob1_ss, q2, ob1_ss, if_neg i10, i1, ob1_ss, if_pos i00, lessS, ob2_ss],
        hI.askF 1 (by decide) rfl rfl rfl (core_up (by decide) (core_up (by decide) (fun _ _ => rfl))) rfl rfl ⟨rfl, rfl, rfl, rfl, rfl⟩ (fun k _ => congrFun (updupd _ _ _ _) k)⟩
  · have q2 := q2 (upd (upd (M 0) 0 0) 11 0) rfl
    exact ⟨(-1000), (upd (X 0) 4 1), (X 40), (upd (upd (upd (M 0) 0 0) 11 0) 11 1),
      by rw [fX9_guest, q1, ob2_ss, if_pos i00],
      by rw [fX10_guest, goodS, ob1_ss, q2, ob1_ss, if_pos i00, lessS, ob2_ss],
      hI.askF 1 (by decide) rfl rfl rfl (core_up (by decide) (core_up (by decide) (fun _ _ => rfl))) rfl rfl ⟨rfl, rfl, rfl, rfl, rfl⟩ (fun k _ => congrFun (updupd _ _ _ _) k)⟩
