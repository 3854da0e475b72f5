/-! the calls about cups -/

theorem ok_latest {n : Nat} (hn : 2000 ≤ n) {X : Nat → Nat → Int32} {Y : Nat → Int64} {c : Int64} {P : Nat → Nat → Nat → Int32} {M : Nat → Nat → Int32} (hI : INV n X Y c P M) : ∃ r y0 y45 y55 y56 y57 y58 y59 y60 y61 y62 z0 z25 z30 z31, fX9_latest n (X 0) (X 5) (X 6) (X 8) (X 9) (X 10) (X 11) (X 12) (X 37) (X 38) (X 39) (X 45) (X 55) (X 56) (X 57) (X 58) (X 59) (X 60) (X 61) (X 62) = some (r, y0, y45, y55, y56, y57, y58, y59, y60, y61, y62) ∧ fX10_latest n (M 0) (M 15) (M 17) (M 25) (M 30) (M 31) = some (r, z0, z25, z30, z31) ∧ INV n (va_up (va_up (va_up (va_up (va_up (va_up (va_up (va_up (va_up (va_up X 0 y0) 45 y45) 55 y55) 56 y56) 57 y57) 58 y58) 59 y59) 60 y60) 61 y61) 62 y62) Y c P (va_up (va_up (va_up (va_up M 0 z0) 25 z25) 30 z30) 31 z31) := by
  rcases hI.gate with ⟨G, D, T, N, S, hB⟩ | ⟨b1, b2, -, -⟩
  · have b1 := hB.1
    have b2 : upd (upd (M 0) 0 0) 11 0 14 = 1 := hB.2.1
    obtain ⟨hCT, hCS, hCU⟩ := (hB.more hI).2.2
    obtain ⟨o', f2', f3', f4', q1, q2, q3, q4, s1, s2, s3⟩ := searchC (n := n) (by omega) hB (f4 := X 58) (t0 := X 59) (tw := X 60) (tl := X 61) (tv := X 62) hCS
    obtain ⟨Sx, om', tr', cu', be', e1, e2, e3⟩ := (s2.2 s3).1 (upd (upd (M 0) 0 0) 11 0) (M 25) (M 30) (M 31)
    have fr : ∀ k, k ≤ 21 → om' k = upd (upd (M 0) 0 0) 11 0 k := fun k hk => e2 k (by omega) (by omega) (by omega)
    rcases e3 with ⟨rfl, h1⟩ | ⟨rfl, e, he, h1, h2, h5⟩
    · exact ⟨(-2), (upd (X 0) 4 0), (X 45), o', f2', f3', f4', q1, q2, q3, q4, om', tr', cu', be',
        by rw [fX9_latest, asked_y b1, ob2_ss, if_neg i10, s1, ob9_ss, h1, orNot61, ob1_ss],
        by rw [fX10_latest, goodS, ob1_ss, b2, if_neg i10, e1, ob5_ss, if_pos i00],
        hI.anewt hB 0 (by decide) (ml_up (by decide) (ml_up (by decide) (ml_up (by decide) (ml_up (by decide) (ml_up (by decide) (ml_up (by decide) (ml_up (by decide) (ml_up (by decide) (ml_up (by decide) (ml_up (by decide) (fun _ _ => rfl))))))))))) rfl rfl rfl rfl rfl ⟨rfl, rfl, rfl, rfl, rfl⟩ fr ⟨rfl, rfl, rfl, rfl⟩ ⟨rfl, rfl, rfl, rfl, rfl, rfl⟩ ⟨hCT, s2, hCU⟩⟩
    · exact ⟨(nI e), (upd (X 0) 4 0), (X 45), o', f2', f3', f4', q1, q2, q3, q4, om', tr', cu', be',
        by rw [fX9_latest, asked_y b1, ob2_ss, if_neg i10, s1, ob9_ss, h1, orNotS he, ob1_ss],
        by rw [fX10_latest, goodS, ob1_ss, b2, if_neg i10, e1, ob5_ss, if_neg i10, h2],
        hI.anewt hB 0 (by decide) (ml_up (by decide) (ml_up (by decide) (ml_up (by decide) (ml_up (by decide) (ml_up (by decide) (ml_up (by decide) (ml_up (by decide) (ml_up (by decide) (ml_up (by decide) (ml_up (by decide) (fun _ _ => rfl))))))))))) rfl rfl rfl rfl rfl ⟨rfl, rfl, rfl, rfl, rfl⟩ fr ⟨rfl, rfl, rfl, rfl⟩ ⟨rfl, rfl, rfl, rfl, rfl, rfl⟩ ⟨hCT, s2, hCU⟩⟩
  · have b2 : upd (upd (M 0) 0 0) 11 0 14 = 0 := b2
    exact ⟨(-1), (upd (X 0) 4 1), (X 45), (X 55), (X 56), (X 57), (X 58), (X 59), (X 60), (X 61), (X 62), (upd (upd (upd (M 0) 0 0) 11 0) 11 1), (M 25), (M 30), (M 31),
      by rw [fX9_latest, asked_n b1, ob2_ss, if_pos i00],
      by rw [fX10_latest, goodS, ob1_ss, b2, if_pos i00, noS, ob2_ss],
      hI.askF 1 (by decide) rfl rfl rfl (core_up (by decide) (core_up (by decide) (core_up (by decide) (core_up (by decide) (core_up (by decide) (core_eq rfl (core_eq rfl (core_eq rfl (core_up (by decide) (core_up (by decide) (fun _ _ => rfl))))))))))) rfl rfl ⟨rfl, rfl, rfl, rfl, rfl⟩ (fun k _ => congrFun (updupd _ _ _ _) k)⟩

theorem ok_cupsFor {n : Nat} (hn : 2000 ≤ n) {X : Nat → Nat → Int32} {Y : Nat → Int64} {c : Int64} {P : Nat → Nat → Nat → Int32} {M : Nat → Nat → Int32} (hI : INV n X Y c P M) (x1 : Int32) : ∃ r y0 y45 y55 y56 y57 y58 y59 y60 y61 y62 z0 z25 z30 z31, fX9_cupsFor n x1 (X 0) (X 5) (X 6) (X 8) (X 9) (X 10) (X 11) (X 12) (X 37) (X 38) (X 39) (X 45) (X 55) (X 56) (X 57) (X 58) (X 59) (X 60) (X 61) (X 62) = some (r, y0, y45, y55, y56, y57, y58, y59, y60, y61, y62) ∧ fX10_cupsFor n x1 (M 0) (M 15) (M 17) (M 25) (M 30) (M 31) = some (r, z0, z25, z30, z31) ∧ INV n (va_up (va_up (va_up (va_up (va_up (va_up (va_up (va_up (va_up (va_up X 0 y0) 45 y45) 55 y55) 56 y56) 57 y57) 58 y58) 59 y59) 60 y60) 61 y61) 62 y62) Y c P (va_up (va_up (va_up (va_up M 0 z0) 25 z25) 30 z30) 31 z31) := by
  rcases hI.gate with ⟨G, D, T, N, S, hB⟩ | ⟨b1, b2, -, -⟩
  · have b1 := hB.1
    have b2 : upd (upd (M 0) 0 0) 11 0 14 = 1 := hB.2.1
    rcases rng n 0 60 x1 (by omega) (by omega) with ⟨H, -, hH6, hx, i1, w1⟩ | ⟨i1, w1⟩
    · have i1 : fX10_in n x1 0 60 = some 1 := i1
      have w1 : ∀ o, fX9_within n x1 0 60 o = some (1, upd o 4 0) := w1
      subst hx
      obtain ⟨hCT, hCS, hCU⟩ := (hB.more hI).2.2
      obtain ⟨o', f2', f3', f4', q1, q2, q3, q4, s1, s2, s3⟩ := searchC (n := n) (by omega) hB (f4 := X 58) (t0 := X 59) (tw := X 60) (tl := X 61) (tv := X 62) hCS
      obtain ⟨R, om', tr', cu', be', e1, e2, e3⟩ := (s2.2 s3).2 H hH6 (upd (upd (M 0) 0 0) 11 0) (M 25) (M 30) (M 31)
      have fr : ∀ k, k ≤ 21 → om' k = upd (upd (M 0) 0 0) 11 0 k := fun k hk => e2 k (by omega) (by omega) (by omega)
      have c1 := cupsFor_c (n := n) (h := H) (oo := upd (upd (X 0) 4 0) 4 0) (o7 := X 45) (o13 := o') (f2 := f2') (f3 := f3') (f4 := f4') (t0 := q1) (tw := q2) (tl := q3) (tv := q4) (by omega) R e3
      exact ⟨R, (upd (upd (X 0) 4 0) 4 0), (X 45), o', f2', f3', f4', q1, q2, q3, q4, om', tr', cu', be',
        by rw [fX9_cupsFor, asked_y b1, ob2_ss, if_neg i10, w1, ob2_ss, if_neg i10, s1, ob9_ss, c1],
        by rw [fX10_cupsFor, goodS, ob1_ss, b2, if_neg i10, i1, ob1_ss, if_neg i10, e1],
        hI.anewt hB 0 (by decide) (ml_up (by decide) (ml_up (by decide) (ml_up (by decide) (ml_up (by decide) (ml_up (by decide) (ml_up (by decide) (ml_up (by decide) (ml_up (by decide) (ml_up (by decide) (ml_up (by decide) (fun _ _ => rfl))))))))))) rfl rfl rfl rfl rfl ⟨rfl, rfl, rfl, rfl, rfl⟩ fr ⟨rfl, rfl, rfl, rfl⟩ ⟨rfl, rfl, rfl, rfl, rfl, rfl⟩ ⟨hCT, s2, hCU⟩⟩
    · have i1 : fX10_in n x1 0 60 = some 0 := i1
      have w1 : ∀ o, fX9_within n x1 0 60 o = some (0, upd o 4 2) := w1
      exact ⟨(-1), (upd (upd (X 0) 4 0) 4 2), (X 45), (X 55), (X 56), (X 57), (X 58), (X 59), (X 60), (X 61), (X 62), (upd (upd (upd (M 0) 0 0) 11 0) 11 2), (M 25), (M 30), (M 31),
        by rw [fX9_cupsFor, asked_y b1, ob2_ss, if_neg i10, w1, ob2_ss, if_pos i00],
        by rw [fX10_cupsFor, goodS, ob1_ss, b2, if_neg i10, i1, ob1_ss, if_pos i00, noS, ob2_ss],
        hI.askF 2 (by decide) rfl rfl rfl (core_up (by decide) (core_up (by decide) (core_up (by decide) (core_up (by decide) (core_up (by decide) (core_eq rfl (core_eq rfl (core_eq rfl (core_up (by decide) (core_up (by decide) (fun _ _ => rfl))))))))))) rfl rfl ⟨rfl, rfl, rfl, rfl, rfl⟩ (fun k _ => congrFun (updupd _ _ _ _) k)⟩
  · have b2 : upd (upd (M 0) 0 0) 11 0 14 = 0 := b2
    exact ⟨(-1), (upd (X 0) 4 1), (X 45), (X 55), (X 56), (X 57), (X 58), (X 59), (X 60), (X 61), (X 62), (upd (upd (upd (M 0) 0 0) 11 0) 11 1), (M 25), (M 30), (M 31),
      by rw [fX9_cupsFor, asked_n b1, ob2_ss, if_pos i00],
      by rw [fX10_cupsFor, goodS, ob1_ss, b2, if_pos i00, noS, ob2_ss],
      hI.askF 1 (by decide) rfl rfl rfl (core_up (by decide) (core_up (by decide) (core_up (by decide) (core_up (by decide) (core_up (by decide) (core_eq rfl (core_eq rfl (core_eq rfl (core_up (by decide) (core_up (by decide) (fun _ _ => rfl))))))))))) rfl rfl ⟨rfl, rfl, rfl, rfl, rfl⟩ (fun k _ => congrFun (updupd _ _ _ _) k)⟩

theorem ok_cupsTo {n : Nat} (hn : 2000 ≤ n) {X : Nat → Nat → Int32} {Y : Nat → Int64} {c : Int64} {P : Nat → Nat → Nat → Int32} {M : Nat → Nat → Int32} (hI : INV n X Y c P M) (x1 : Int32) : ∃ r y0 y45 y55 y56 y57 y58 y59 y60 y61 y62 z0 z25 z30 z31, fX9_cupsTo n x1 (X 0) (X 5) (X 6) (X 8) (X 9) (X 10) (X 11) (X 12) (X 37) (X 38) (X 39) (X 45) (X 55) (X 56) (X 57) (X 58) (X 59) (X 60) (X 61) (X 62) = some (r, y0, y45, y55, y56, y57, y58, y59, y60, y61, y62) ∧ fX10_cupsTo n x1 (M 0) (M 15) (M 17) (M 25) (M 30) (M 31) = some (r, z0, z25, z30, z31) ∧ INV n (va_up (va_up (va_up (va_up (va_up (va_up (va_up (va_up (va_up (va_up X 0 y0) 45 y45) 55 y55) 56 y56) 57 y57) 58 y58) 59 y59) 60 y60) 61 y61) 62 y62) Y c P (va_up (va_up (va_up (va_up M 0 z0) 25 z25) 30 z30) 31 z31) := by
  rcases hI.gateG x1 with ⟨G, D, T, N, S, g, hB, hg, hx1, q1_, q2_⟩ | ⟨q1, q2⟩
  · have hG : G ≤ 7 := hB.G.1
    have q2_ := q2_ (upd (upd (M 0) 0 0) 11 0) rfl
    subst hx1
    obtain ⟨hCT, hCS, hCU⟩ := (hB.more hI).2.2
    obtain ⟨o', f2', f3', f4', q1, q2, q3, q4, s1, s2, s3⟩ := searchC (n := n) (by omega) hB (f4 := X 58) (t0 := X 59) (tw := X 60) (tl := X 61) (tv := X 62) hCS
    obtain ⟨Sx, om', tr', cu', be', e1, e2, e3⟩ := (s2.2 s3).1 (upd (upd (M 0) 0 0) 11 0) (M 25) (M 30) (M 31)
    have fr : ∀ k, k ≤ 21 → om' k = upd (upd (M 0) 0 0) 11 0 k := fun k hk => e2 k (by omega) (by omega) (by omega)
    rcases e3 with ⟨rfl, h1⟩ | ⟨rfl, e, he, h1, h2, h5⟩
    · have fr6 : ∀ k, k ≤ 21 → upd om' 11 6 k = upd (upd (M 0) 0 0) 11 6 k := fun k hk => by
        by_cases q : k = 11
        · subst q; rw [upd_s, upd_s]
        · rw [upd_n _ _ q, fr k hk, upd_n _ _ q, upd_n _ _ q]
      exact ⟨(-1), (upd (upd (X 0) 4 0) 4 6), (X 45), o', f2', f3', f4', q1, q2, q3, q4, (upd om' 11 6), tr', cu', be',
        by rw [fX9_cupsTo, q1_, ob2_ss, if_neg i10, s1, ob9_ss, h1, if_neg (by decide), refuseS, ob2_ss],
        by rw [fX10_cupsTo, goodS, ob1_ss, q2_, ob1_ss, if_neg i10, e1, ob5_ss, if_pos i00, noS, ob2_ss],
        hI.anewt hB 6 (by decide) (ml_up (by decide) (ml_up (by decide) (ml_up (by decide) (ml_up (by decide) (ml_up (by decide) (ml_up (by decide) (ml_up (by decide) (ml_up (by decide) (ml_up (by decide) (ml_up (by decide) (fun _ _ => rfl))))))))))) rfl rfl rfl rfl rfl ⟨rfl, rfl, rfl, rfl, rfl⟩ fr6 ⟨rfl, rfl, rfl, rfl⟩ ⟨rfl, rfl, rfl, rfl, rfl, rfl⟩ ⟨hCT, s2, hCU⟩⟩
    · exact ⟨(f2' g), (upd (X 0) 4 0), (X 45), o', f2', f3', f4', q1, q2, q3, q4, om', tr', cu', be',
        by rw [fX9_cupsTo, q1_, ob2_ss, if_neg i10, s1, ob9_ss, h1, if_pos (show nI e ≤ 60 from nI_le (b := 60) he (by omega)), if_neg (ckI (by omega) (by omega)), clI (by omega)],
        by rw [fX10_cupsTo, goodS, ob1_ss, q2_, ob1_ss, if_neg i10, e1, ob5_ss, if_neg i10, if_neg (ckI (by omega) (by omega)), clI (by omega), h5 g (by rw [hB.G.2.2.1]; exact nI_lt hg (by omega)) (by omega)],
        hI.anewt hB 0 (by decide) (ml_up (by decide) (ml_up (by decide) (ml_up (by decide) (ml_up (by decide) (ml_up (by decide) (ml_up (by decide) (ml_up (by decide) (ml_up (by decide) (ml_up (by decide) (ml_up (by decide) (fun _ _ => rfl))))))))))) rfl rfl rfl rfl rfl ⟨rfl, rfl, rfl, rfl, rfl⟩ fr ⟨rfl, rfl, rfl, rfl⟩ ⟨rfl, rfl, rfl, rfl, rfl, rfl⟩ ⟨hCT, s2, hCU⟩⟩
  · have q2 := q2 (upd (upd (M 0) 0 0) 11 0) rfl
    exact ⟨(-1), (upd (X 0) 4 1), (X 45), (X 55), (X 56), (X 57), (X 58), (X 59), (X 60), (X 61), (X 62), (upd (upd (upd (M 0) 0 0) 11 0) 11 1), (M 25), (M 30), (M 31),
      by rw [fX9_cupsTo, q1, ob2_ss, if_pos i00],
      by rw [fX10_cupsTo, goodS, ob1_ss, q2, ob1_ss, if_pos i00, noS, ob2_ss],
      hI.askF 1 (by decide) rfl rfl rfl (core_up (by decide) (core_up (by decide) (core_up (by decide) (core_up (by decide) (core_up (by decide) (core_eq rfl (core_eq rfl (core_eq rfl (core_up (by decide) (core_up (by decide) (fun _ _ => rfl))))))))))) rfl rfl ⟨rfl, rfl, rfl, rfl, rfl⟩ (fun k _ => congrFun (updupd _ _ _ _) k)⟩
