/-! the calls that lead the evening -/

theorem ok_hour {n : Nat} (hn : 2000 ≤ n) {X : Nat → Nat → Int32} {Y : Nat → Int64} {c : Int64} {P : Nat → Nat → Nat → Int32} {M : Nat → Nat → Int32} (hI : INV n X Y c P M) : ∃ r y0 y37 y38 y39 y40 y45 y47 p0 p1 p2 p3 y48 y55 z0 z17 z18, fX9_hour n (X 0) (X 5) (X 6) (X 8) (X 9) (X 10) (X 11) (X 12) (X 37) (X 38) (X 39) (X 40) (X 45) (X 47) (P 0) (P 1) (P 2) (P 3) (X 48) (X 55) = some (r, y0, y37, y38, y39, y40, y45, y47, p0, p1, p2, p3, y48, y55) ∧ fX10_hour n (M 0) (M 15) (M 17) (M 18) = some (r, z0, z17, z18) ∧ INV n (va_up (va_up (va_up (va_up (va_up (va_up (va_up (va_up (va_up X 0 y0) 37 y37) 38 y38) 39 y39) 40 y40) 45 y45) 47 y47) 48 y48) 55 y55) Y c (va_up (va_up (va_up (va_up P 0 p0) 1 p1) 2 p2) 3 p3) (va_up (va_up (va_up M 0 z0) 17 z17) 18 z18) := by
  rcases hI.gate with ⟨G, D, T, N, S, hB⟩ | ⟨b1, b2, -, -⟩
  · have b1 := hB.1
    have b2 : upd (upd (M 0) 0 0) 11 0 14 = 1 := hB.2.1
    have hG : G ≤ 7 := hB.G.1
    obtain ⟨c0, hc1, hc2⟩ := hB.clock
    have h0 : X 37 0 = nI c0 := hB.nr.1.trans hc2
    by_cases h99 : c0 = 99
    · subst h99
      exact ⟨(-1), (upd (upd (X 0) 4 0) 4 3), (X 37), (X 38), (X 39), (X 40), (X 45), (X 47), (P 0), (P 1), (P 2), (P 3), (X 48), (X 55), (upd (upd (upd (M 0) 0 0) 11 0) 11 3), (M 17), (M 18),
        by rw [fX9_hour, asked_y b1, ob2_ss, if_neg i10, h0, if_neg (by decide), refuseS, ob2_ss],
        by rw [fX10_hour, goodS, ob1_ss, b2, if_neg i10, if_pos (show M 17 14 = 99 from hc2), noS, ob2_ss],
        by rw [upself4]; exact hI.askF 3 (by decide) rfl rfl rfl (core_eq rfl (core_eq rfl (core_eq rfl (core_up (by decide) (core_up (by decide) (core_eq rfl (core_eq rfl (core_eq rfl (core_up (by decide) (fun _ _ => rfl)))))))))) rfl rfl ⟨rfl, rfl, rfl, rfl, rfl⟩ (fun k _ => congrFun (updupd _ _ _ _) k)⟩
    · have hlt : X 37 0 < 99 := by rw [h0]; exact nI_lt (b := 99) (by omega) (by omega)
      have hne : ¬ M 17 14 = 99 := fun q => h99 (nI_inj (by omega) (by omega) (hc2.symm.trans q))
      by_cases hz : X 37 1 = 0
      · exact ⟨(-1), (upd (upd (X 0) 4 0) 4 6), (X 37), (X 38), (X 39), (X 40), (X 45), (X 47), (P 0), (P 1), (P 2), (P 3), (X 48), (X 55), (upd (upd (upd (M 0) 0 0) 11 0) 11 6), (M 17), (M 18),
          by rw [fX9_hour, asked_y b1, ob2_ss, if_neg i10, if_pos hlt, if_pos hz, refuseS, ob2_ss],
          by rw [fX10_hour, goodS, ob1_ss, b2, if_neg i10, if_neg hne, th0 (by omega) hB.G.1 hB.G.2.2.1 hB.nr, ob1_ss, if_pos hz, noS, ob2_ss],
          by rw [upself4]; exact hI.askF 6 (by decide) rfl rfl rfl (core_eq rfl (core_eq rfl (core_eq rfl (core_up (by decide) (core_up (by decide) (core_eq rfl (core_eq rfl (core_eq rfl (core_up (by decide) (fun _ _ => rfl)))))))))) rfl rfl ⟨rfl, rfl, rfl, rfl, rfl⟩ (fun k _ => congrFun (updupd _ _ _ _) k)⟩
      · obtain ⟨o47', p0, p1, p2, om1, und', k1, k2, k3, k4⟩ := keep_note (n := n) (by omega) hG (om := upd (upd (M 0) 0 0) 11 0) (show PAST G D T _ _ _ _ (X 47) P (M 18) (upd (upd (M 0) 0 0) 11 0 20) from (hB.more hI).1) hB.2.2.2.2.2
        obtain ⟨H, o', w', la', wl', om', st', e1, e2, hL, g4⟩ := LED.pass (n := n) (by omega) hB.2.2.2.2.1 hB.2.2.1 hB.2.2.2.2.2 hc2 (by omega) (X 40) om1
        exact ⟨H, (upd (X 0) 4 0), o', w', la', wl', (X 45), o47', p0, p1, p2, (P 3), (upd (X 48) 0 0), (upd (X 55) 0 0), om', st', und',
          by rw [fX9_hour, asked_y b1, ob2_ss, if_neg i10, if_pos hlt, if_neg hz, fX9_keepNow, k1, ob5_ss, fX9_forgetSearches, ob2_ss, ob7_ss, e1, ob6_ss],
          by rw [fX10_hour, goodS, ob1_ss, b2, if_neg i10, if_neg hne, th0 (by omega) hB.G.1 hB.G.2.2.1 hB.nr, ob1_ss, if_neg hz, k2, ob2_ss, e2, ob3_ss],
          hI.act hB (ml_up (by decide) (ml_up (by decide) (ml_up (by decide) (ml_up (by decide) (ml_up (by decide) (ml_up (by decide) (ml_up (by decide) (ml_up (by decide) (ml_up (by decide) (fun _ _ => rfl)))))))))) rfl rfl rfl rfl rfl ⟨rfl, rfl, rfl⟩ (fun k hk hk2 => (g4 k (by omega)).trans (k4 k hk2)) hL (by have z := k3; rw [← g4 20 (by decide)] at z; exact z) ⟨rfl, rfl, rfl⟩ rfl rfl ⟨rfl, rfl⟩⟩
  · have b2 : upd (upd (M 0) 0 0) 11 0 14 = 0 := b2
    exact ⟨(-1), (upd (X 0) 4 1), (X 37), (X 38), (X 39), (X 40), (X 45), (X 47), (P 0), (P 1), (P 2), (P 3), (X 48), (X 55), (upd (upd (upd (M 0) 0 0) 11 0) 11 1), (M 17), (M 18),
      by rw [fX9_hour, asked_n b1, ob2_ss, if_pos i00],
      by rw [fX10_hour, goodS, ob1_ss, b2, if_pos i00, noS, ob2_ss],
      by rw [upself4]; exact hI.askF 1 (by decide) rfl rfl rfl (core_eq rfl (core_eq rfl (core_eq rfl (core_up (by decide) (core_up (by decide) (core_eq rfl (core_eq rfl (core_eq rfl (core_up (by decide) (fun _ _ => rfl)))))))))) rfl rfl ⟨rfl, rfl, rfl, rfl, rfl⟩ (fun k _ => congrFun (updupd _ _ _ _) k)⟩

theorem ok_tell {n : Nat} (hn : 2000 ≤ n) {X : Nat → Nat → Int32} {Y : Nat → Int64} {c : Int64} {P : Nat → Nat → Nat → Int32} {M : Nat → Nat → Int32} (hI : INV n X Y c P M) (x1 : Int32) : ∃ r y0 y37 y38 y39 y40 y45 y47 p0 p1 p2 p3 y48 y55 z0 z17 z18, fX9_tell n x1 (X 0) (X 5) (X 6) (X 8) (X 9) (X 10) (X 11) (X 12) (X 13) (X 14) (X 37) (X 38) (X 39) (X 40) (X 45) (X 47) (P 0) (P 1) (P 2) (P 3) (X 48) (X 55) = some (r, y0, y37, y38, y39, y40, y45, y47, p0, p1, p2, p3, y48, y55) ∧ fX10_tell n x1 (M 0) (M 15) (M 17) (M 18) = some (r, z0, z17, z18) ∧ INV n (va_up (va_up (va_up (va_up (va_up (va_up (va_up (va_up (va_up X 0 y0) 37 y37) 38 y38) 39 y39) 40 y40) 45 y45) 47 y47) 48 y48) 55 y55) Y c (va_up (va_up (va_up (va_up P 0 p0) 1 p1) 2 p2) 3 p3) (va_up (va_up (va_up M 0 z0) 17 z17) 18 z18) := by
  rcases hI.gateT x1 with ⟨G, D, T, N, S, t, hB, ht, hx1, q1, q2⟩ | ⟨q1, q2⟩
  · have hG : G ≤ 7 := hB.G.1
    have b2 : upd (upd (M 0) 0 0) 11 0 14 = 1 := hB.2.1
    subst hx1
    obtain ⟨-, h1G, hT4, hN5, hS6, x50, x51, x58, x59, x513, r6, x150, r7, x153, r8, bc, bw, bg, bp, ew, bwt, bk, bs, inv, bdm, unq, etl, bth, btt, end_, bnh, esi, bsi⟩ := hB.2.2.2.2.1
    obtain ⟨c0, hc1, hc2⟩ := hB.clock
    obtain ⟨h, h1, h3, hrt⟩ := bth t ht
    have e13 := (etl t ht).1
    have ix : ((86 : Int32) + ((2 : Int32) * nI t)) = nI (86 + 2 * t) := by rw [show (86 : Int32) = nI 86 from rfl, lz2, mulI, addI]
    have o3 : X 37 3 = M 17 16 := hB.2.2.2.2.2.2.2.1
    have hs : X 37 0 + X 13 t = nI (c0 + h) := by rw [hB.nr.1, hc2, e13, hrt, addI]
    have hs2 : M 17 14 + M 15 (86 + 2 * t) = nI (c0 + h) := by rw [hc2, hrt, addI]
    by_cases h99 : c0 + h ≤ 99
    · have hle : nI (c0 + h) ≤ (99 : Int32) := nI_le (b := 99) h99 (by omega)
      by_cases hbt : bt (M 17 16) t = true
      · exact ⟨(-1), (upd (upd (X 0) 4 0) 4 5), (X 37), (X 38), (X 39), (X 40), (X 45), (X 47), (P 0), (P 1), (P 2), (P 3), (X 48), (X 55), (upd (upd (upd (M 0) 0 0) 11 0) 11 5), (M 17), (M 18),
          by rw [fX9_tell, q1, ob2_ss, if_neg i10, if_neg (ckI (by omega) (by omega)), clI (by omega), hs, if_pos hle, wasToldS n (X 37) (by omega), o3, if_pos hbt, ob1_ss, if_neg i10, refuseS, ob2_ss],
          by rw [fX10_tell, goodS, ob1_ss, b2, if_neg i10, q2, ob1_ss, if_neg i10, ix, if_neg (ckI (by omega) (by omega)), clI (by omega), hs2, if_pos hle, hasBitS n (M 17 16) (by omega), if_pos hbt, ob1_ss, if_neg i10, noS, ob2_ss],
          by rw [upself4]; exact hI.askF 5 (by decide) rfl rfl rfl (core_eq rfl (core_eq rfl (core_eq rfl (core_up (by decide) (core_up (by decide) (core_eq rfl (core_eq rfl (core_eq rfl (core_up (by decide) (fun _ _ => rfl)))))))))) rfl rfl ⟨rfl, rfl, rfl, rfl, rfl⟩ (fun k _ => congrFun (updupd _ _ _ _) k)⟩
      · by_cases hz : X 37 1 = 0
        · exact ⟨(-1), (upd (upd (X 0) 4 0) 4 6), (X 37), (X 38), (X 39), (X 40), (X 45), (X 47), (P 0), (P 1), (P 2), (P 3), (X 48), (X 55), (upd (upd (upd (M 0) 0 0) 11 0) 11 6), (M 17), (M 18),
            by rw [fX9_tell, q1, ob2_ss, if_neg i10, if_neg (ckI (by omega) (by omega)), clI (by omega), hs, if_pos hle, wasToldS n (X 37) (by omega), o3, if_neg hbt, ob1_ss, if_pos i00, if_pos hz, refuseS, ob2_ss],
            by rw [fX10_tell, goodS, ob1_ss, b2, if_neg i10, q2, ob1_ss, if_neg i10, ix, if_neg (ckI (by omega) (by omega)), clI (by omega), hs2, if_pos hle, hasBitS n (M 17 16) (by omega), if_neg hbt, ob1_ss, if_pos i00, th0 (by omega) hB.G.1 hB.G.2.2.1 hB.nr, ob1_ss, if_pos hz, noS, ob2_ss],
            by rw [upself4]; exact hI.askF 6 (by decide) rfl rfl rfl (core_eq rfl (core_eq rfl (core_eq rfl (core_up (by decide) (core_up (by decide) (core_eq rfl (core_eq rfl (core_eq rfl (core_up (by decide) (fun _ _ => rfl)))))))))) rfl rfl ⟨rfl, rfl, rfl, rfl, rfl⟩ (fun k _ => congrFun (updupd _ _ _ _) k)⟩
        · obtain ⟨o47', p0, p1, p2, om1, und', k1, k2, k3, k4⟩ := keep_note (n := n) (by omega) hG (om := upd (upd (M 0) 0 0) 11 0) (show PAST G D T _ _ _ _ (X 47) P (M 18) (upd (upd (M 0) 0 0) 11 0 20) from (hB.more hI).1) hB.2.2.2.2.2
          obtain ⟨R, o', w', la', wl', om', st', s1, e1, e2, e3, hL, g4⟩ := LED.tell (n := n) (by omega) hB.2.2.2.2.1 hB.2.2.1 hB.2.2.2.2.2 hc2 ht h1 h3 hrt h99 (X 40) om1 und'
          exact ⟨R, (upd (X 0) 4 0), o', w', la', wl', (X 45), o47', p0, p1, p2, (P 3), (upd (X 48) 0 0), (upd (X 55) 0 0), om', st', und',
            by rw [fX9_tell, q1, ob2_ss, if_neg i10, if_neg (ckI (by omega) (by omega)), clI (by omega), hs, if_pos hle, wasToldS n (X 37) (by omega), o3, if_neg hbt, ob1_ss, if_pos i00, if_neg hz, fX9_keepNow, k1, ob5_ss, fX9_forgetSearches, ob2_ss, ob7_ss, e1, ob6_ss],
            by rw [fX10_tell, goodS, ob1_ss, b2, if_neg i10, q2, ob1_ss, if_neg i10, ix, if_neg (ckI (by omega) (by omega)), clI (by omega), hs2, if_pos hle, hasBitS n (M 17 16) (by omega), if_neg hbt, ob1_ss, if_pos i00, th0 (by omega) hB.G.1 hB.G.2.2.1 hB.nr, ob1_ss, if_neg hz, k2, ob2_ss, e2, ob1_ss, e3],
            hI.act hB (ml_up (by decide) (ml_up (by decide) (ml_up (by decide) (ml_up (by decide) (ml_up (by decide) (ml_up (by decide) (ml_up (by decide) (ml_up (by decide) (ml_up (by decide) (fun _ _ => rfl)))))))))) rfl rfl rfl rfl rfl ⟨rfl, rfl, rfl⟩ (fun k hk hk2 => (g4 k (by omega)).trans (k4 k hk2)) hL (by have z := k3; rw [← g4 20 (by decide)] at z; exact z) ⟨rfl, rfl, rfl⟩ rfl rfl ⟨rfl, rfl⟩⟩
    · have hle : ¬ nI (c0 + h) ≤ (99 : Int32) := nI_ge (a := 99) (by omega) (by omega)
      exact ⟨(-1), (upd (upd (X 0) 4 0) 4 3), (X 37), (X 38), (X 39), (X 40), (X 45), (X 47), (P 0), (P 1), (P 2), (P 3), (X 48), (X 55), (upd (upd (upd (M 0) 0 0) 11 0) 11 3), (M 17), (M 18),
        by rw [fX9_tell, q1, ob2_ss, if_neg i10, if_neg (ckI (by omega) (by omega)), clI (by omega), hs, if_neg hle, refuseS, ob2_ss],
        by rw [fX10_tell, goodS, ob1_ss, b2, if_neg i10, q2, ob1_ss, if_neg i10, ix, if_neg (ckI (by omega) (by omega)), clI (by omega), hs2, if_neg hle, noS, ob2_ss],
        by rw [upself4]; exact hI.askF 3 (by decide) rfl rfl rfl (core_eq rfl (core_eq rfl (core_eq rfl (core_up (by decide) (core_up (by decide) (core_eq rfl (core_eq rfl (core_eq rfl (core_up (by decide) (fun _ _ => rfl)))))))))) rfl rfl ⟨rfl, rfl, rfl, rfl, rfl⟩ (fun k _ => congrFun (updupd _ _ _ _) k)⟩
  · rcases q2 with b2 | ⟨b2, q3⟩
    · have b2 : upd (upd (M 0) 0 0) 11 0 14 = 0 := b2
      exact ⟨(-1), (upd (X 0) 4 1), (X 37), (X 38), (X 39), (X 40), (X 45), (X 47), (P 0), (P 1), (P 2), (P 3), (X 48), (X 55), (upd (upd (upd (M 0) 0 0) 11 0) 11 1), (M 17), (M 18),
        by rw [fX9_tell, q1, ob2_ss, if_pos i00],
        by rw [fX10_tell, goodS, ob1_ss, b2, if_pos i00, noS, ob2_ss],
        by rw [upself4]; exact hI.askF 1 (by decide) rfl rfl rfl (core_eq rfl (core_eq rfl (core_eq rfl (core_up (by decide) (core_up (by decide) (core_eq rfl (core_eq rfl (core_eq rfl (core_up (by decide) (fun _ _ => rfl)))))))))) rfl rfl ⟨rfl, rfl, rfl, rfl, rfl⟩ (fun k _ => congrFun (updupd _ _ _ _) k)⟩
    · have b2 : upd (upd (M 0) 0 0) 11 0 14 = 1 := b2
      exact ⟨(-1), (upd (X 0) 4 1), (X 37), (X 38), (X 39), (X 40), (X 45), (X 47), (P 0), (P 1), (P 2), (P 3), (X 48), (X 55), (upd (upd (upd (M 0) 0 0) 11 0) 11 1), (M 17), (M 18),
        by rw [fX9_tell, q1, ob2_ss, if_pos i00],
        by rw [fX10_tell, goodS, ob1_ss, b2, if_neg i10, q3, ob1_ss, if_pos i00, noS, ob2_ss],
        by rw [upself4]; exact hI.askF 1 (by decide) rfl rfl rfl (core_eq rfl (core_eq rfl (core_eq rfl (core_up (by decide) (core_up (by decide) (core_eq rfl (core_eq rfl (core_eq rfl (core_up (by decide) (fun _ _ => rfl)))))))))) rfl rfl ⟨rfl, rfl, rfl, rfl, rfl⟩ (fun k _ => congrFun (updupd _ _ _ _) k)⟩

theorem ok_cup {n : Nat} (hn : 2000 ≤ n) {X : Nat → Nat → Int32} {Y : Nat → Int64} {c : Int64} {P : Nat → Nat → Nat → Int32} {M : Nat → Nat → Int32} (hI : INV n X Y c P M) (x1 : Int32) : ∃ r y0 y37 y38 y47 p0 p1 p2 p3 y48 y55 z0 z17 z18, fX9_cup n x1 (X 0) (X 5) (X 37) (X 38) (X 39) (X 47) (P 0) (P 1) (P 2) (P 3) (X 48) (X 55) = some (r, y0, y37, y38, y47, p0, p1, p2, p3, y48, y55) ∧ fX10_cup n x1 (M 0) (M 15) (M 17) (M 18) = some (r, z0, z17, z18) ∧ INV n (va_up (va_up (va_up (va_up (va_up (va_up X 0 y0) 37 y37) 38 y38) 47 y47) 48 y48) 55 y55) Y c (va_up (va_up (va_up (va_up P 0 p0) 1 p1) 2 p2) 3 p3) (va_up (va_up (va_up M 0 z0) 17 z17) 18 z18) := by
  rcases hI.gateG x1 with ⟨G, D, T, N, S, g, hB, hg, hx1, q1, q2⟩ | ⟨q1, q2⟩
  · have hG : G ≤ 7 := hB.G.1
    have q2 := q2 (upd (upd (M 0) 0 0) 11 0) rfl
    subst hx1
    obtain ⟨-, h1G, hT4, hN5, hS6, x50, x51, x58, x59, x513, r6, x150, r7, x153, r8, bc, bw, bg, bp, ew, bwt, bk, bs, inv, bdm, unq, etl, bth, btt, end_, bnh, esi, bsi⟩ := hB.2.2.2.2.1
    by_cases hb : bt (X 37 1) g = true
    · have pA : fX9_presentAsked n (nI g) (X 0) (X 5) (X 37) = some (1, upd (X 0) 4 0) := by rw [fX9_presentAsked, q1, ob2_ss, if_neg i10, has_y (by omega) hb, ob1_ss, if_neg i10, ob1_ss, if_neg (fun q => q (Or.inr rfl)), updupd]
      have hin := isIn_y (n := n) (f := M 17) (show g < 7 by omega) ((hB.there hg).mp hb)
      obtain ⟨c, k, hc1, hk, hc2, hk2, hbd⟩ := hB.2.2.2.2.2.2.2.2.2
      have ek : X 37 2 = nI k := hB.nr.2.1.trans hk2
      by_cases hk0 : k = 0
      · subst hk0
        exact ⟨(-1000), (upd (upd (X 0) 4 0) 4 6), (X 37), (X 38), (X 47), (P 0), (P 1), (P 2), (P 3), (X 48), (X 55), (upd (upd (upd (M 0) 0 0) 11 0) 11 6), (M 17), (M 18),
          by rw [fX9_cup, pA, ob2_ss, if_neg i10, ek, if_neg (by decide), refuseS, ob2_ss],
          by rw [fX10_cup, goodS, ob1_ss, q2, ob1_ss, if_neg i10, hin, ob1_ss, if_neg i10, if_pos (show M 17 15 = 0 from hk2), lessS, ob2_ss],
          by rw [upself4]; exact hI.askF 6 (by decide) rfl rfl rfl (core_eq rfl (core_eq rfl (core_eq rfl (core_eq rfl (core_eq rfl (core_up (by decide) (fun _ _ => rfl))))))) rfl rfl ⟨rfl, rfl, rfl, rfl, rfl⟩ (fun k _ => congrFun (updupd _ _ _ _) k)⟩
      · obtain ⟨k', rfl⟩ : ∃ k', k = k' + 1 := ⟨k - 1, by omega⟩
        obtain ⟨o47', p0, p1, p2, om1, und', k1, k2, k3, k4⟩ := keep_note (n := n) (by omega) hG (om := upd (upd (M 0) 0 0) 11 0) (show PAST G D T _ _ _ _ (X 47) P (M 18) (upd (upd (M 0) 0 0) 11 0 20) from (hB.more hI).1) hB.2.2.2.2.2
        have ew' : upd (M 17) 15 (M 17 15 - 1) g = X 38 g := by rw [upd_n _ _ (by omega), hB.nr.2.2.2.1 g hg]
        have hL := LED.cup hB.2.2.2.2.1 hB.2.2.2.2.2 hg hb hk2 (by omega)
        rw [ew', x51] at hL
        have hle : (1 : Int32) ≤ X 37 2 := by rw [ek]; exact nI_le (a := 1) (by omega) (by omega)
        have hn0 : ¬ M 17 15 = 0 := by rw [hk2]; exact nI_ne0 (by omega) (by omega)
        exact ⟨(X 38 g + M 15 1), (upd (X 0) 4 0), (upd (X 37) 2 (X 37 2 - 1)), (upd (X 38) g (X 38 g + M 15 1)), o47', p0, p1, p2, (P 3), (upd (X 48) 0 0), (upd (X 55) 0 0), om1, (upd (upd (M 17) 15 (M 17 15 - 1)) g (X 38 g + M 15 1)), und',
          by rw [fX9_cup, pA, ob2_ss, if_neg i10, if_pos hle, fX9_keepNow, k1, ob5_ss, fX9_forgetSearches, ob2_ss, ob7_ss, if_neg (ckI (by omega) (by omega)), if_neg (ckI (by omega) (by omega)), if_neg (ckI (by omega) (by omega)), clI (by omega), x51, upd_s],
          by rw [fX10_cup, goodS, ob1_ss, q2, ob1_ss, if_neg i10, hin, ob1_ss, if_neg i10, if_neg hn0, k2, ob2_ss, if_neg (ckI (by omega) (by omega)), if_neg (ckI (by omega) (by omega)), if_neg (ckI (by omega) (by omega)), clI (by omega), ew', upd_s],
          hI.act hB (ml_up (by decide) (ml_up (by decide) (ml_up (by decide) (ml_up (by decide) (ml_up (by decide) (ml_up (by decide) (fun _ _ => rfl))))))) rfl rfl rfl rfl rfl ⟨rfl, rfl, rfl⟩ (fun k hk hk2 => k4 k hk2) hL k3 ⟨rfl, rfl, rfl⟩ rfl rfl ⟨rfl, rfl⟩⟩
    · have pA : fX9_presentAsked n (nI g) (X 0) (X 5) (X 37) = some (0, upd (X 0) 4 5) := by rw [fX9_presentAsked, q1, ob2_ss, if_neg i10, has_n (by omega) hb, ob1_ss, if_pos i00, ob1_ss, if_neg (fun q => q (Or.inl rfl)), updupd]
      have hin := isIn_n (n := n) (f := M 17) (show g < 7 by omega) (fun q => hb ((hB.there hg).mpr q))
      exact ⟨(-1000), (upd (X 0) 4 5), (X 37), (X 38), (X 47), (P 0), (P 1), (P 2), (P 3), (X 48), (X 55), (upd (upd (upd (M 0) 0 0) 11 0) 11 5), (M 17), (M 18),
        by rw [fX9_cup, pA, ob2_ss, if_pos i00],
        by rw [fX10_cup, goodS, ob1_ss, q2, ob1_ss, if_neg i10, hin, ob1_ss, if_pos i00, lessS, ob2_ss],
        by rw [upself4]; exact hI.askF 5 (by decide) rfl rfl rfl (core_eq rfl (core_eq rfl (core_eq rfl (core_eq rfl (core_eq rfl (core_up (by decide) (fun _ _ => rfl))))))) rfl rfl ⟨rfl, rfl, rfl, rfl, rfl⟩ (fun k _ => congrFun (updupd _ _ _ _) k)⟩
  · have q2 := q2 (upd (upd (M 0) 0 0) 11 0) rfl
    have pA : fX9_presentAsked n x1 (X 0) (X 5) (X 37) = some (0, upd (X 0) 4 1) := by rw [fX9_presentAsked, q1, ob2_ss, if_pos i00]
    exact ⟨(-1000), (upd (X 0) 4 1), (X 37), (X 38), (X 47), (P 0), (P 1), (P 2), (P 3), (X 48), (X 55), (upd (upd (upd (M 0) 0 0) 11 0) 11 1), (M 17), (M 18),
      by rw [fX9_cup, pA, ob2_ss, if_pos i00],
      by rw [fX10_cup, goodS, ob1_ss, q2, ob1_ss, if_pos i00, lessS, ob2_ss],
      by rw [upself4]; exact hI.askF 1 (by decide) rfl rfl rfl (core_eq rfl (core_eq rfl (core_eq rfl (core_eq rfl (core_eq rfl (core_up (by decide) (fun _ _ => rfl))))))) rfl rfl ⟨rfl, rfl, rfl, rfl, rfl⟩ (fun k _ => congrFun (updupd _ _ _ _) k)⟩

theorem ok_send {n : Nat} (hn : 2000 ≤ n) {X : Nat → Nat → Int32} {Y : Nat → Int64} {c : Int64} {P : Nat → Nat → Nat → Int32} {M : Nat → Nat → Int32} (hI : INV n X Y c P M) (x1 : Int32) : ∃ r y0 y37 y38 y39 y40 y47 p0 p1 p2 p3 y48 y55 z0 z17 z18, fX9_send n x1 (X 0) (X 5) (X 6) (X 9) (X 10) (X 11) (X 12) (X 37) (X 38) (X 39) (X 40) (X 47) (P 0) (P 1) (P 2) (P 3) (X 48) (X 55) = some (r, y0, y37, y38, y39, y40, y47, p0, p1, p2, p3, y48, y55) ∧ fX10_send n x1 (M 0) (M 15) (M 17) (M 18) = some (r, z0, z17, z18) ∧ INV n (va_up (va_up (va_up (va_up (va_up (va_up (va_up (va_up X 0 y0) 37 y37) 38 y38) 39 y39) 40 y40) 47 y47) 48 y48) 55 y55) Y c (va_up (va_up (va_up (va_up P 0 p0) 1 p1) 2 p2) 3 p3) (va_up (va_up (va_up M 0 z0) 17 z17) 18 z18) := by
  rcases hI.gateP x1 with ⟨G, D, T, N, S, g, hB, hg, hx1, hb, q1, q2⟩ | ⟨t, ht4, ht0, q1, q2⟩
  · have hG : G ≤ 7 := hB.G.1
    have q2 := q2 (upd (upd (M 0) 0 0) 11 0) rfl
    subst hx1
    obtain ⟨o47', p0, p1, p2, om1, und', k1, k2, k3, k4⟩ := keep_note (n := n) (by omega) hG (om := upd (upd (M 0) 0 0) 11 0) (show PAST G D T _ _ _ _ (X 47) P (M 18) (upd (upd (M 0) 0 0) 11 0 20) from (hB.more hI).1) hB.2.2.2.2.2
    obtain ⟨R, o', w', la', wl', om', st', e1, e2, hL, g4⟩ := LED.send (n := n) (by omega) hB.2.2.2.2.1 hB.2.2.2.2.2 hg hb (X 40) om1
    exact ⟨R, (upd (X 0) 4 0), o', w', la', wl', o47', p0, p1, p2, (P 3), (upd (X 48) 0 0), (upd (X 55) 0 0), om', st', und',
      by rw [fX9_send, q1, ob2_ss, if_neg i10, fX9_keepNow, k1, ob5_ss, fX9_forgetSearches, ob2_ss, ob7_ss, e1, ob5_ss],
      by rw [fX10_send, goodS, ob1_ss, q2, ob1_ss, if_pos i00, k2, ob2_ss, e2, ob3_ss],
      hI.act hB (ml_up (by decide) (ml_up (by decide) (ml_up (by decide) (ml_up (by decide) (ml_up (by decide) (ml_up (by decide) (ml_up (by decide) (ml_up (by decide) (fun _ _ => rfl))))))))) rfl rfl rfl rfl rfl ⟨rfl, rfl, rfl⟩ (fun k hk hk2 => (g4 k (by omega)).trans (k4 k hk2)) hL (by have z := k3; rw [← g4 20 (by decide)] at z; exact z) ⟨rfl, rfl, rfl⟩ rfl rfl ⟨rfl, rfl⟩⟩
  · have q2 := q2 (upd (upd (M 0) 0 0) 11 0) rfl
    exact ⟨(-1), (upd (X 0) 4 t), (X 37), (X 38), (X 39), (X 40), (X 47), (P 0), (P 1), (P 2), (P 3), (X 48), (X 55), (upd (upd (upd (M 0) 0 0) 11 0) 11 t), (M 17), (M 18),
      by rw [fX9_send, q1, ob2_ss, if_pos i00],
      by rw [fX10_send, goodS, ob1_ss, q2, ob1_ss, if_neg ht0, ob1_ss, noS, ob2_ss],
      by rw [upself4]; exact hI.askF t ht4 rfl rfl rfl (core_eq rfl (core_eq rfl (core_eq rfl (core_up (by decide) (core_eq rfl (core_eq rfl (core_eq rfl (core_up (by decide) (fun _ _ => rfl))))))))) rfl rfl ⟨rfl, rfl, rfl, rfl, rfl⟩ (fun k _ => congrFun (updupd _ _ _ _) k)⟩

theorem ok_undo {n : Nat} (hn : 2000 ≤ n) {X : Nat → Nat → Int32} {Y : Nat → Int64} {c : Int64} {P : Nat → Nat → Nat → Int32} {M : Nat → Nat → Int32} (hI : INV n X Y c P M) : ∃ r y0 y37 y38 y39 y47 y48 y55 z0 z17, fX9_undo n (X 0) (X 37) (X 38) (X 39) (X 47) (P 0) (P 1) (P 2) (P 3) (X 48) (X 55) = some (r, y0, y37, y38, y39, y47, y48, y55) ∧ fX10_undo n (M 0) (M 17) (M 18) = some (r, z0, z17) ∧ INV n (va_up (va_up (va_up (va_up (va_up (va_up (va_up X 0 y0) 37 y37) 38 y38) 39 y39) 47 y47) 48 y48) 55 y55) Y c P (va_up (va_up M 0 z0) 17 z17) := by
  have key : (X 47 2 = 0 ∧ M 0 20 = 0) ∨ ∃ G D T N S nx u, NOW G D T N S X M ∧ u < 16 ∧ nx < 16 ∧ X 47 1 = nI nx ∧ X 47 2 = nI (u + 1) ∧ M 0 20 = nI (u + 1) ∧ ∀ k, k < u + 1 → LED G D T (X 6) (X 10) (X 11) (X 12) (P 0 ((nx + 16 - (u + 1) + k) % 16)) (P 1 ((nx + 16 - (u + 1) + k) % 16)) (P 2 ((nx + 16 - (u + 1) + k) % 16)) (slice (M 18) k) := by
    rcases hI.gate with ⟨G, D, T, N, S, hB⟩ | ⟨b1, b2, -, -⟩
    · obtain ⟨nx, u, c4, c5, c6, c7, c8, c9⟩ := (hB.more hI).1
      by_cases hu : u = 0
      · subst hu; exact Or.inl ⟨c7, c8⟩
      · obtain ⟨u', rfl⟩ : ∃ u', u = u' + 1 := ⟨u - 1, by omega⟩
        exact Or.inr ⟨G, D, T, N, S, nx, u', hB, by omega, c5, c6, c7, c8, c9⟩
    · rcases hI.2.2.2.2.2.2 with ⟨z, -⟩ | ⟨-, -, z⟩
      · exact absurd (b1.symm.trans z) (by decide)
      · exact Or.inl ⟨z.2.2.2.2.1, z.2.2.2.2.2.2.1⟩
  rcases key with ⟨z1, z2⟩ | ⟨G, D, T, N, S, nx, u, hB, hu, hnx, e1, e2, e3, hK⟩
  · have g20 : upd (upd (M 0) 0 0) 11 0 20 = 0 := z2
    exact ⟨0, (upd (X 0) 4 6), (X 37), (X 38), (X 39), (X 47), (X 48), (X 55), (upd (upd (upd (M 0) 0 0) 11 0) 11 6), (M 17),
      by rw [fX9_undo, fX4_takeBack, z1, if_neg (by decide), ob5_ss, if_pos i00, refuseS, ob2_ss],
      by rw [fX10_undo, goodS, ob1_ss, g20, if_pos i00, isNotS, ob2_ss, if_neg (fun q => q (Or.inl rfl))],
      hI.askF 6 (by decide) rfl rfl rfl (core_eq rfl (core_eq rfl (core_eq rfl (core_eq rfl (core_eq rfl (core_eq rfl (core_up (by decide) (fun _ _ => rfl)))))))) rfl rfl ⟨rfl, rfl, rfl, rfl, rfl⟩ (fun k _ => congrFun (updupd _ _ _ _) k)⟩
  · have hG : G ≤ 7 := hB.G.1
    have g20 : upd (upd (M 0) 0 0) 11 0 20 = nI (u + 1) := e3
    have l17 : (17 : Int32) = nI 17 := rfl
    have hi : nI nx + 16 - 1 - (nI nx + 16 - 1) / 16 * 16 = nI ((nx + 15) % 16) := by
      have z : nI nx + 16 - 1 = nI (nx + 15) := by rw [show (16 : Int32) = nI 16 from rfl, addI]; exact nI_pred (nx + 15)
      rw [z]; exact mod16 _ (by omega)
    have cp : fX10_copy n (nI (17 * u)) 0 17 272 17 (M 18) (M 17) = some (va_cpy (M 18) (M 17) (17 * u) 0 17) := copyS (a := 17 * u) (b := 0) (m := 17) (by omega) (by omega) (by omega) (by omega) (by omega) (M 18) (M 17)
    have hL := hK u (by omega)
    rw [show (nx + 16 - (u + 1) + u) % 16 = (nx + 15) % 16 by omega] at hL
    have hL2 : LED G D T (X 6) (X 10) (X 11) (X 12) (upd (upd (upd (upd (X 37) 0 (P 0 ((nx + 15) % 16) 0)) 1 (P 0 ((nx + 15) % 16) 1)) 2 (P 0 ((nx + 15) % 16) 2)) 3 (P 0 ((nx + 15) % 16) 3)) (va_cpy (P 1 ((nx + 15) % 16)) (X 38) 0 0 7) (va_cpy (P 2 ((nx + 15) % 16)) (X 39) 0 0 7) (va_cpy (M 18) (M 17) (17 * u) 0 17) := hL.cg hG rfl rfl rfl rfl (fun g hg => cpy_lo (by omega)) (fun g hg => cpy_lo (by omega)) (fun i hi => by rw [cpy_in (by omega) (by omega), slice]; exact congrArg (M 18) (by omega))
    have hP : PAST G D T (X 6) (X 10) (X 11) (X 12) (upd (upd (X 47) 1 (nI ((nx + 15) % 16))) 2 (nI u)) P (M 18) (nI u) := ⟨(nx + 15) % 16, u, by omega, by omega, rfl, rfl, rfl, fun k hk => by
      have z := hK k (by omega)
      rw [show (nx + 16 - (u + 1) + k) % 16 = ((nx + 15) % 16 + 16 - u + k) % 16 by omega] at z
      exact z⟩
    exact ⟨1, (upd (X 0) 4 0), (upd (upd (upd (upd (X 37) 0 (P 0 ((nx + 15) % 16) 0)) 1 (P 0 ((nx + 15) % 16) 1)) 2 (P 0 ((nx + 15) % 16) 2)) 3 (P 0 ((nx + 15) % 16) 3)), (va_cpy (P 1 ((nx + 15) % 16)) (X 38) 0 0 7), (va_cpy (P 2 ((nx + 15) % 16)) (X 39) 0 0 7), (upd (upd (X 47) 1 (nI ((nx + 15) % 16))) 2 (nI u)), (upd (X 48) 0 0), (upd (X 55) 0 0), (upd (upd (upd (M 0) 0 0) 11 0) 20 (nI u)), (va_cpy (M 18) (M 17) (17 * u) 0 17),
      by rw [fX9_undo, fX4_takeBack, e1, e2, if_pos (show (1 : Int32) ≤ nI (u + 1) from nI_le (a := 1) (by omega) (by omega)), hi, if_neg (ckI (by omega) (by omega)), clI (by omega), become_eq, ob3_ss, ob5_ss, if_neg i10, fX9_forgetSearches, ob2_ss, nI_pred],
      by rw [fX10_undo, goodS, ob1_ss, g20, if_neg (nI_ne0 (by omega) (by omega)), nI_pred, l17, mulI, ← l17, cp, ob1_ss],
      hI.act hB (ml_up (by decide) (ml_up (by decide) (ml_up (by decide) (ml_up (by decide) (ml_up (by decide) (ml_up (by decide) (ml_up (by decide) (fun _ _ => rfl)))))))) rfl rfl rfl rfl rfl ⟨rfl, rfl, rfl⟩ (fun k hk hk2 => upd_n _ _ hk2) hL2 hP ⟨rfl, rfl, rfl⟩ rfl rfl ⟨rfl, rfl⟩⟩

theorem ok_image {n : Nat} (hn : 2000 ≤ n) {X : Nat → Nat → Int32} {Y : Nat → Int64} {c : Int64} {P : Nat → Nat → Nat → Int32} {M : Nat → Nat → Int32} (hI : INV n X Y c P M) : ∃ r y0 p4 p5 p6 p7 z0 z19, fX9_image n (X 0) (X 37) (X 38) (X 39) (P 4) (P 5) (P 6) (P 7) = some (r, y0, p4, p5, p6, p7) ∧ fX10_image n (M 0) (M 17) (M 19) = some (r, z0, z19) ∧ INV n (va_up X 0 y0) Y c (va_up (va_up (va_up (va_up P 4 p4) 5 p5) 6 p6) 7 p7) (va_up (va_up M 0 z0) 19 z19) := by
  rcases hI.gate with ⟨G, D, T, N, S, hB⟩ | ⟨b1, b2, -, -⟩
  · have b1 := hB.1
    have b2 : upd (upd (M 0) 0 0) 11 0 14 = 1 := hB.2.1
    have hG : G ≤ 7 := hB.G.1
    obtain ⟨v, v1, v2, v3, v4⟩ := (hB.more hI).2.1
    have g11 : upd (X 0) 4 0 11 = nI v := v2
    have g21 : upd (upd (M 0) 0 0) 11 0 21 = nI v := v3
    have l17 : (17 : Int32) = nI 17 := rfl
    by_cases h3 : v = 3
    · subst h3
      exact ⟨(-1), (upd (upd (X 0) 4 0) 4 3), (P 4), (P 5), (P 6), (P 7), (upd (upd (upd (M 0) 0 0) 11 0) 11 3), (M 19),
        by rw [fX9_image, asked_y b1, ob2_ss, if_neg i10, g11, if_neg (by decide), refuseS, ob2_ss],
        by rw [fX10_image, goodS, ob1_ss, b2, if_neg i10, if_pos (show upd (upd (M 0) 0 0) 11 0 21 = 3 from g21), noS, ob2_ss],
        by rw [upself4b]; exact hI.askF 3 (by decide) rfl rfl rfl (core_up (by decide) (fun _ _ => rfl)) rfl rfl ⟨rfl, rfl, rfl, rfl, rfl⟩ (fun k _ => congrFun (updupd _ _ _ _) k)⟩
    · have hne : ¬ upd (upd (M 0) 0 0) 11 0 21 = 3 := fun q => h3 (nI_inj (by omega) (by omega) (g21.symm.trans q))
      have cp : fX10_copy n 0 (nI (17 * v)) 17 17 51 (M 17) (M 19) = some (va_cpy (M 17) (M 19) 0 (17 * v) 17) := copyS (a := 0) (b := 17 * v) (m := 17) (by omega) (by omega) (by omega) (by omega) (by omega) (M 17) (M 19)
      have hIm : IMGS G D T (X 6) (X 10) (X 11) (X 12) (va_up (va_up (va_up (va_up P 4 (va_up (P 4) v (upd (upd (upd (upd (P 4 v) 0 (X 37 0)) 1 (X 37 1)) 2 (X 37 2)) 3 (X 37 3)))) 5 (va_up (P 5) v (va_cpy (X 38) (P 5 v) 0 0 7))) 6 (va_up (P 6) v (va_cpy (X 39) (P 6 v) 0 0 7))) 7 (P 7)) (va_cpy (M 17) (M 19) 0 (17 * v) 17) (nI (v + 1)) (nI (v + 1)) := ⟨v + 1, by omega, rfl, rfl, fun k hk => by
        show LED G D T (X 6) (X 10) (X 11) (X 12) (va_up (P 4) v _ k) (va_up (P 5) v _ k) (va_up (P 6) v _ k) _
        by_cases e : k = v
        · subst e
          rw [up_s, up_s, up_s]
          exact hB.2.2.2.2.2.cg hG rfl rfl rfl rfl (fun g hg => cpy_lo (by omega)) (fun g hg => cpy_lo (by omega)) (fun i hi => by rw [slice, cpy_in (by omega) (by omega)]; exact congrArg (M 17) (by omega))
        · rw [up_n _ _ e, up_n _ _ e, up_n _ _ e]
          exact (v4 k (by omega)).cg hG rfl rfl rfl rfl (fun _ _ => rfl) (fun _ _ => rfl) (fun i hi => by rw [slice, slice, cpy_out (by omega)])⟩
      exact ⟨(nI v), (upd (upd (X 0) 4 0) 11 (nI (v + 1))), (va_up (P 4) v (upd (upd (upd (upd (P 4 v) 0 (X 37 0)) 1 (X 37 1)) 2 (X 37 2)) 3 (X 37 3))), (va_up (P 5) v (va_cpy (X 38) (P 5 v) 0 0 7)), (va_up (P 6) v (va_cpy (X 39) (P 6 v) 0 0 7)), (P 7), (upd (upd (upd (M 0) 0 0) 11 0) 21 (nI (v + 1))), (va_cpy (M 17) (M 19) 0 (17 * v) 17),
        by rw [fX9_image, asked_y b1, ob2_ss, if_neg i10, g11, if_pos (show nI v < (3 : Int32) from nI_lt (b := 3) (by omega) (by omega)), if_neg (ckI (by omega) (by omega)), clI (by omega), become_eq, ob3_ss, sI, nI_pred],
        by rw [fX10_image, goodS, ob1_ss, b2, if_neg i10, if_neg hne, g21, sI, nI_pred, l17, mulI, ← l17, cp, ob1_ss],
        hI.anew hB (ml_up (by decide) (fun _ _ => rfl)) rfl rfl rfl rfl ⟨rfl, rfl⟩ rfl ⟨rfl, rfl, rfl⟩ hB.2.2.2.2.2 (hB.more hI).1 hIm (hB.more hI).2.2⟩
  · have b2 : upd (upd (M 0) 0 0) 11 0 14 = 0 := b2
    exact ⟨(-1), (upd (X 0) 4 1), (P 4), (P 5), (P 6), (P 7), (upd (upd (upd (M 0) 0 0) 11 0) 11 1), (M 19),
      by rw [fX9_image, asked_n b1, ob2_ss, if_pos i00],
      by rw [fX10_image, goodS, ob1_ss, b2, if_pos i00, noS, ob2_ss],
      by rw [upself4b]; exact hI.askF 1 (by decide) rfl rfl rfl (core_up (by decide) (fun _ _ => rfl)) rfl rfl ⟨rfl, rfl, rfl, rfl, rfl⟩ (fun k _ => congrFun (updupd _ _ _ _) k)⟩

theorem ok_back {n : Nat} (hn : 2000 ≤ n) {X : Nat → Nat → Int32} {Y : Nat → Int64} {c : Int64} {P : Nat → Nat → Nat → Int32} {M : Nat → Nat → Int32} (hI : INV n X Y c P M) (x1 : Int32) : ∃ r y0 y37 y38 y39 y47 y48 y55 z0 z17, fX9_back n x1 (X 0) (X 37) (X 38) (X 39) (X 47) (P 4) (P 5) (P 6) (P 7) (X 48) (X 55) = some (r, y0, y37, y38, y39, y47, y48, y55) ∧ fX10_back n x1 (M 0) (M 17) (M 19) = some (r, z0, z17) ∧ INV n (va_up (va_up (va_up (va_up (va_up (va_up (va_up X 0 y0) 37 y37) 38 y38) 39 y39) 47 y47) 48 y48) 55 y55) Y c P (va_up (va_up M 0 z0) 17 z17) := by
  have key : ∃ v, v ≤ 3 ∧ X 0 11 = nI v ∧ M 0 21 = nI v ∧ (0 < v → ∃ G D T N S, NOW G D T N S X M ∧ ∀ k, k < v → LED G D T (X 6) (X 10) (X 11) (X 12) (P 4 k) (P 5 k) (P 6 k) (slice (M 19) k)) := by
    rcases hI.gate with ⟨G, D, T, N, S, hB⟩ | ⟨b1, b2, -, -⟩
    · obtain ⟨v, v1, v2, v3, v4⟩ := (hB.more hI).2.1
      exact ⟨v, v1, v2, v3, fun _ => ⟨G, D, T, N, S, hB, v4⟩⟩
    · rcases hI.2.2.2.2.2.2 with ⟨z, -⟩ | ⟨-, -, z⟩
      · exact absurd (b1.symm.trans z) (by decide)
      · exact ⟨0, by omega, z.2.2.2.2.2.1, z.2.2.2.2.2.2.2.1, fun q => absurd q (Nat.lt_irrefl 0)⟩
  obtain ⟨v, hv, v2, v3, v4⟩ := key
  have g21 : upd (upd (M 0) 0 0) 11 0 21 = nI v := v3
  rcases ixs x1 (v := v) (by omega) with ⟨k, hk, ex⟩ | hx
  · obtain ⟨G, D, T, N, S, hB, hK⟩ := v4 (by omega)
    have hG : G ≤ 7 := hB.G.1
    subst ex
    have l17 : (17 : Int32) = nI 17 := rfl
    have cp : fX10_copy n (nI (17 * k)) 0 17 51 17 (M 19) (M 17) = some (va_cpy (M 19) (M 17) (17 * k) 0 17) := copyS (a := 17 * k) (b := 0) (m := 17) (by omega) (by omega) (by omega) (by omega) (by omega) (M 19) (M 17)
    have hL2 : LED G D T (X 6) (X 10) (X 11) (X 12) (upd (upd (upd (upd (X 37) 0 (P 4 k 0)) 1 (P 4 k 1)) 2 (P 4 k 2)) 3 (P 4 k 3)) (va_cpy (P 5 k) (X 38) 0 0 7) (va_cpy (P 6 k) (X 39) 0 0 7) (va_cpy (M 19) (M 17) (17 * k) 0 17) := (hK k hk).cg hG rfl rfl rfl rfl (fun g hg => cpy_lo (by omega)) (fun g hg => cpy_lo (by omega)) (fun i hi => by rw [cpy_in (by omega) (by omega), slice]; exact congrArg (M 19) (by omega))
    obtain ⟨nx, u, c4, c5, c6, c7, c8, c9⟩ := (hB.more hI).1
    have hP : PAST G D T (X 6) (X 10) (X 11) (X 12) (upd (X 47) 2 0) P (M 18) 0 := ⟨nx, 0, by omega, c5, c6, rfl, rfl, fun k hk => absurd hk (Nat.not_lt_zero k)⟩
    exact ⟨1, (upd (X 0) 4 0), (upd (upd (upd (upd (X 37) 0 (P 4 k 0)) 1 (P 4 k 1)) 2 (P 4 k 2)) 3 (P 4 k 3)), (va_cpy (P 5 k) (X 38) 0 0 7), (va_cpy (P 6 k) (X 39) 0 0 7), (upd (X 47) 2 0), (upd (X 48) 0 0), (upd (X 55) 0 0), (upd (upd (upd (M 0) 0 0) 11 0) 20 0), (va_cpy (M 19) (M 17) (17 * k) 0 17),
      by rw [fX9_back, if_neg (nI_pos (by omega)), v2, if_pos (nI_lt (by omega) (by omega)), if_neg (ckI (by omega) (by omega)), clI (by omega), become_eq, ob3_ss, fX4_forget, ob1_ss, fX9_forgetSearches, ob2_ss],
      by rw [fX10_back, goodS, ob1_ss, g21, in_y (by omega) hk, ob1_ss, if_neg i10, l17, mulI, ← l17, cp, ob1_ss],
      hI.act hB (ml_up (by decide) (ml_up (by decide) (ml_up (by decide) (ml_up (by decide) (ml_up (by decide) (ml_up (by decide) (ml_up (by decide) (fun _ _ => rfl)))))))) rfl rfl rfl rfl rfl ⟨rfl, rfl, rfl⟩ (fun k hk hk2 => upd_n _ _ hk2) hL2 hP ⟨rfl, rfl, rfl⟩ rfl rfl ⟨rfl, rfl⟩⟩
  · have p9 : fX9_back n x1 (X 0) (X 37) (X 38) (X 39) (X 47) (P 4) (P 5) (P 6) (P 7) (X 48) (X 55) = some (0, upd (X 0) 4 1, X 37, X 38, X 39, X 47, X 48, X 55) := by
      rw [fX9_back]
      rcases hx with z | ⟨z, z2⟩
      · rw [if_pos z, refuseS, ob2_ss]
      · rw [if_neg z, v2, if_neg (Int32.not_lt.mpr z2), refuseS, ob2_ss]
    exact ⟨0, (upd (X 0) 4 1), (X 37), (X 38), (X 39), (X 47), (X 48), (X 55), (upd (upd (upd (M 0) 0 0) 11 0) 11 1), (M 17),
      by exact p9,
      by rw [fX10_back, goodS, ob1_ss, g21, in_n (by omega) hx, ob1_ss, if_pos i00, isNotS, ob2_ss, if_neg (fun q => q (Or.inl rfl))],
      hI.askF 1 (by decide) rfl rfl rfl (core_eq rfl (core_eq rfl (core_eq rfl (core_eq rfl (core_eq rfl (core_eq rfl (core_up (by decide) (fun _ _ => rfl)))))))) rfl rfl ⟨rfl, rfl, rfl, rfl, rfl⟩ (fun k _ => congrFun (updupd _ _ _ _) k)⟩
