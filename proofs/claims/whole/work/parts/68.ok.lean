theorem ok_pays {n : Nat} (hn : 2000 ≤ n) {X : Nat → Nat → Int32} {Y : Nat → Int64} {c : Int64} {P : Nat → Nat → Nat → Int32} {M : Nat → Nat → Int32} (hI : INV n X Y c P M) (x1 : Int32) : ∃ r y0 z0, fX9_pays n x1 (X 0) (X 5) (X 15) (X 16) (X 17) = some (r, y0) ∧ fX10_pays n x1 (M 0) (M 15) = some (r, z0) ∧ INV n (va_up X 0 y0) Y c P (va_up M 0 z0) := by
  rcases hI.gate with ⟨G, D, T, N, S, hB⟩ | ⟨b1, b2, -, -⟩
  · have b1 := hB.1
    have b2 : upd (upd (M 0) 0 0) 11 0 14 = 1 := hB.2.1
    obtain ⟨-, h1G, hT4, hN5, hS6, x50, x51, x58, x59, x513, r6, x150, r7, x153, r8, bc, bw, bg, bp, ew, bwt, bk, bs, inv, bdm, unq, etl, bth, btt, end_, bnh, esi, bsi⟩ := hB.2.2.2.2.1
    rcases rng n 0 99 x1 (by omega) (by omega) with ⟨H, -, hH6, hx, i1, w1⟩ | ⟨i1, w1⟩
    · have i1 : fX10_in n x1 0 99 = some 1 := i1
      have w1 : ∀ o, fX9_within n x1 0 99 o = some (1, upd o 4 0) := w1
      subst hx
      obtain ⟨s, s1, s2⟩ := pay_lock (n := n) (by omega) hN5 (upd (upd (M 0) 0 0) 11 0) x150 r7 end_ (nI H)
      exact ⟨s, (upd (upd (X 0) 4 0) 4 0), (upd (upd (M 0) 0 0) 11 0),
        by rw [fX9_pays, asked_y b1, ob2_ss, if_neg i10, w1, ob2_ss, if_neg i10, s1, ob1_ss],
        by rw [fX10_pays, goodS, ob1_ss, b2, if_neg i10, i1, ob1_ss, if_neg i10, s2, ob1_ss],
        hI.askF 0 (by decide) rfl rfl rfl (core_up (by decide) (fun _ _ => rfl)) rfl rfl ⟨rfl, rfl, rfl, rfl, rfl⟩ (fun _ _ => rfl)⟩
    · have i1 : fX10_in n x1 0 99 = some 0 := i1
      have w1 : ∀ o, fX9_within n x1 0 99 o = some (0, upd o 4 2) := w1
      exact ⟨(-1), (upd (upd (X 0) 4 0) 4 2), (upd (upd (upd (M 0) 0 0) 11 0) 11 2),
        by rw [fX9_pays, asked_y b1, ob2_ss, if_neg i10, w1, ob2_ss, if_pos i00],
        by rw [fX10_pays, goodS, ob1_ss, b2, if_neg i10, i1, ob1_ss, if_pos i00, noS, ob2_ss],
        hI.askF 2 (by decide) rfl rfl rfl (core_up (by decide) (fun _ _ => rfl)) rfl rfl ⟨rfl, rfl, rfl, rfl, rfl⟩ (fun k _ => congrFun (updupd _ _ _ _) k)⟩
  · have b2 : upd (upd (M 0) 0 0) 11 0 14 = 0 := b2
    exact ⟨(-1), (upd (X 0) 4 1), (upd (upd (upd (M 0) 0 0) 11 0) 11 1),
      by rw [fX9_pays, asked_n b1, ob2_ss, if_pos i00],
      by rw [fX10_pays, goodS, ob1_ss, b2, if_pos i00, noS, ob2_ss],
      hI.askF 1 (by decide) rfl rfl rfl (core_up (by decide) (fun _ _ => rfl)) rfl rfl ⟨rfl, rfl, rfl, rfl, rfl⟩ (fun k _ => congrFun (updupd _ _ _ _) k)⟩

theorem ok_paid {n : Nat} (hn : 2000 ≤ n) {X : Nat → Nat → Int32} {Y : Nat → Int64} {c : Int64} {P : Nat → Nat → Nat → Int32} {M : Nat → Nat → Int32} (hI : INV n X Y c P M) : ∃ r y0 y41 y42 y43 y44 y45 z0 z25, fX9_paid n (X 0) (X 5) (X 6) (X 8) (X 9) (X 10) (X 11) (X 12) (X 15) (X 16) (X 17) (X 37) (X 38) (X 39) (X 41) (X 42) (X 43) (X 44) (X 45) = some (r, y0, y41, y42, y43, y44, y45) ∧ fX10_paid n (M 0) (M 15) (M 17) (M 25) = some (r, z0, z25) ∧ INV n (va_up (va_up (va_up (va_up (va_up (va_up X 0 y0) 41 y41) 42 y42) 43 y43) 44 y44) 45 y45) Y c P (va_up (va_up M 0 z0) 25 z25) := by
  rcases hI.gate with ⟨G, D, T, N, S, hB⟩ | ⟨b1, b2, -, -⟩
  · have b1 := hB.1
    have b2 : upd (upd (M 0) 0 0) 11 0 14 = 1 := hB.2.1
    obtain ⟨-, h1G, hT4, hN5, hS6, x50, x51, x58, x59, x513, r6, x150, r7, x153, r8, bc, bw, bg, bp, ew, bwt, bk, bs, inv, bdm, unq, etl, bth, btt, end_, bnh, esi, bsi⟩ := hB.2.2.2.2.1
    obtain ⟨c0, hc1, hc2⟩ := hB.clock
    obtain ⟨E, R, o', w', la', wl', om', st', e1, e2, e3, e4⟩ := now_lock (n := n) (by omega) hB.G hB.nr hc2 (by omega) hB.2.2.1 (upd (X 0) 4 0) (X 41) (X 42) (X 43) (X 44) (upd (upd (M 0) 0 0) 11 0) (M 25)
    have fr : ∀ k, k ≤ 21 → om' k = upd (upd (M 0) 0 0) 11 0 k := fun k hk => e3 k (by omega) (by omega)
    rcases e4 with ⟨e, h1, h2, h3, h4⟩ | ⟨h1, h2⟩
    · subst h2; subst h3
      have l60 : nI e ≤ (60 : Int32) := nI_le (b := 60) h1 (by omega)
      obtain ⟨s, s1, s2⟩ := pay_lock (n := n) (by omega) hN5 om' x150 r7 end_ (X 37 0 + nI e)
      have s2 : fX10_paysAt n (M 17 14 + nI e) om' (M 15) = some s := by rw [← hB.nr.1]; exact s2
      exact ⟨s, (upd (X 0) 4 0), o', w', la', wl', (X 45), om', st',
        by rw [fX9_paid, asked_y b1, ob2_ss, if_neg i10, e1, ob6_ss, if_pos l60, s1, ob1_ss],
        by rw [fX10_paid, goodS, ob1_ss, b2, if_neg i10, e2, ob3_ss, if_pos (nI_pos' (by omega)), s2, ob1_ss],
        hI.askF 0 (by decide) rfl rfl rfl (core_up (by decide) (core_up (by decide) (core_up (by decide) (core_up (by decide) (core_up (by decide) (core_up (by decide) (fun _ _ => rfl))))))) rfl rfl ⟨rfl, rfl, rfl, rfl, rfl⟩ (fr)⟩
    · subst h1; subst h2
      exact ⟨0, (upd (X 0) 4 0), o', w', la', wl', (X 45), om', st',
        by rw [fX9_paid, asked_y b1, ob2_ss, if_neg i10, e1, ob6_ss, if_neg (by decide)],
        by rw [fX10_paid, goodS, ob1_ss, b2, if_neg i10, e2, ob3_ss, if_neg (by decide)],
        hI.askF 0 (by decide) rfl rfl rfl (core_up (by decide) (core_up (by decide) (core_up (by decide) (core_up (by decide) (core_up (by decide) (core_up (by decide) (fun _ _ => rfl))))))) rfl rfl ⟨rfl, rfl, rfl, rfl, rfl⟩ (fr)⟩
  · have b2 : upd (upd (M 0) 0 0) 11 0 14 = 0 := b2
    exact ⟨(-1), (upd (X 0) 4 1), (X 41), (X 42), (X 43), (X 44), (X 45), (upd (upd (upd (M 0) 0 0) 11 0) 11 1), (M 25),
      by rw [fX9_paid, asked_n b1, ob2_ss, if_pos i00],
      by rw [fX10_paid, goodS, ob1_ss, b2, if_pos i00, noS, ob2_ss],
      hI.askF 1 (by decide) rfl rfl rfl (core_up (by decide) (core_up (by decide) (core_up (by decide) (core_up (by decide) (core_up (by decide) (core_up (by decide) (fun _ _ => rfl))))))) rfl rfl ⟨rfl, rfl, rfl, rfl, rfl⟩ (fun k _ => congrFun (updupd _ _ _ _) k)⟩

theorem ok_rests {n : Nat} (hn : 2000 ≤ n) {X : Nat → Nat → Int32} {Y : Nat → Int64} {c : Int64} {P : Nat → Nat → Nat → Int32} {M : Nat → Nat → Int32} (hI : INV n X Y c P M) : ∃ r y0 z0, fX9_rests n (X 0) = some (r, y0) ∧ fX10_rests n (M 0) = some (r, z0) ∧ INV n (va_up X 0 y0) Y c P (va_up M 0 z0) := by
  rcases hI.gate with ⟨G, D, T, N, S, hB⟩ | ⟨b1, b2, -, -⟩
  · have b1 := hB.1
    have b2 : upd (upd (M 0) 0 0) 11 0 14 = 1 := hB.2.1
    obtain ⟨c', o', a1, a2, a3, a4, a5, a6⟩ := rests_out (n := n) (by omega) (upd (X 0) 4 0) (fun x => some (x, upd (X 0) 4 0)) 7 0 n n n 0 (upd (upd (upd (M 0) 0 0) 11 0) 34 (-2)) (by omega) (by omega) (by omega) (by omega) (by omega)
    have a3 : fX9_rests_L13 n (fun x => some (x, upd (X 0) 4 0)) n 0 0 = _ := a3
    have a4 : fX10_seekRests n (upd (upd (M 0) 0 0) 11 0) = _ := a4
    have fr : ∀ k, k ≤ 21 → o' k = upd (upd (M 0) 0 0) 11 0 k := fun k hk => (a2 k (by omega)).trans (upd_n _ _ (by omega))
    exact ⟨(nI c'), (upd (X 0) 4 0), o',
      by rw [fX9_rests, asked_y b1, ob2_ss, if_neg i10, a3],
      by rw [fX10_rests, goodS, ob1_ss, b2, if_neg i10, a4, ob2_ss],
      hI.askF 0 (by decide) rfl rfl rfl (core_up (by decide) (fun _ _ => rfl)) rfl rfl ⟨rfl, rfl, rfl, rfl, rfl⟩ (fr)⟩
  · have b2 : upd (upd (M 0) 0 0) 11 0 14 = 0 := b2
    exact ⟨(-1), (upd (X 0) 4 1), (upd (upd (upd (M 0) 0 0) 11 0) 11 1),
      by rw [fX9_rests, asked_n b1, ob2_ss, if_pos i00],
      by rw [fX10_rests, goodS, ob1_ss, b2, if_pos i00, noS, ob2_ss],
      hI.askF 1 (by decide) rfl rfl rfl (core_up (by decide) (fun _ _ => rfl)) rfl rfl ⟨rfl, rfl, rfl, rfl, rfl⟩ (fun k _ => congrFun (updupd _ _ _ _) k)⟩

theorem ok_rest {n : Nat} (hn : 2000 ≤ n) {X : Nat → Nat → Int32} {Y : Nat → Int64} {c : Int64} {P : Nat → Nat → Nat → Int32} {M : Nat → Nat → Int32} (hI : INV n X Y c P M) : ∃ r y0 z0, fX9_rest n (X 0) = some (r, y0) ∧ fX10_rest n (M 0) = some (r, z0) ∧ INV n (va_up X 0 y0) Y c P (va_up M 0 z0) := by
  rcases hI.gate with ⟨G, D, T, N, S, hB⟩ | ⟨b1, b2, -, -⟩
  · have b1 := hB.1
    have b2 : upd (upd (M 0) 0 0) 11 0 14 = 1 := hB.2.1
    obtain ⟨c', o', a1, a2, a3, a4, a5, a6⟩ := rests_out (n := n) (by omega) (upd (X 0) 4 0) (fun x => some (x, upd (X 0) 4 0)) 7 0 n n n 0 (upd (upd (upd (M 0) 0 0) 11 0) 34 (-2)) (by omega) (by omega) (by omega) (by omega) (by omega)
    have a6 : fX9_rest_L11 n (upd (X 0) 4 0) (fun _ => some (-2, upd (X 0) 4 0)) n 0 = _ := a6 rfl (upd_s _ _ _)
    have a4 : fX10_seekRests n (upd (upd (M 0) 0 0) 11 0) = _ := a4
    have fr : ∀ k, k ≤ 21 → o' k = upd (upd (M 0) 0 0) 11 0 k := fun k hk => (a2 k (by omega)).trans (upd_n _ _ (by omega))
    exact ⟨(o' 34), (upd (X 0) 4 0), o',
      by rw [fX9_rest, asked_y b1, ob2_ss, if_neg i10, a6],
      by rw [fX10_rest, goodS, ob1_ss, b2, if_neg i10, a4, ob2_ss],
      hI.askF 0 (by decide) rfl rfl rfl (core_up (by decide) (fun _ _ => rfl)) rfl rfl ⟨rfl, rfl, rfl, rfl, rfl⟩ (fr)⟩
  · have b2 : upd (upd (M 0) 0 0) 11 0 14 = 0 := b2
    exact ⟨(-1), (upd (X 0) 4 1), (upd (upd (upd (M 0) 0 0) 11 0) 11 1),
      by rw [fX9_rest, asked_n b1, ob2_ss, if_pos i00],
      by rw [fX10_rest, goodS, ob1_ss, b2, if_pos i00, noS, ob2_ss],
      hI.askF 1 (by decide) rfl rfl rfl (core_up (by decide) (fun _ _ => rfl)) rfl rfl ⟨rfl, rfl, rfl, rfl, rfl⟩ (fun k _ => congrFun (updupd _ _ _ _) k)⟩

theorem ok_busiest {n : Nat} (hn : 2000 ≤ n) {X : Nat → Nat → Int32} {Y : Nat → Int64} {c : Int64} {P : Nat → Nat → Nat → Int32} {M : Nat → Nat → Int32} (hI : INV n X Y c P M) (x1 : Int32) : ∃ r y0 y41 y42 y43 y44 y45 z0 z25, fX9_busiest n x1 (X 0) (X 5) (X 6) (X 8) (X 9) (X 10) (X 11) (X 12) (X 37) (X 38) (X 39) (X 41) (X 42) (X 43) (X 44) (X 45) = some (r, y0, y41, y42, y43, y44, y45) ∧ fX10_busiest n x1 (M 0) (M 15) (M 17) (M 25) = some (r, z0, z25) ∧ INV n (va_up (va_up (va_up (va_up (va_up (va_up X 0 y0) 41 y41) 42 y42) 43 y43) 44 y44) 45 y45) Y c P (va_up (va_up M 0 z0) 25 z25) := by
  rcases hI.gate with ⟨G, D, T, N, S, hB⟩ | ⟨b1, b2, -, -⟩
  · have b1 := hB.1
    have b2 : upd (upd (M 0) 0 0) 11 0 14 = 1 := hB.2.1
    obtain ⟨c0, hc1, hc2⟩ := hB.clock
    obtain ⟨a', b', o', w', la', wl', om', st', e1, e2, g4⟩ := busy_lock (n := n) (by omega) hB.G hB.2.2.1 x1 (upd (X 0) 4 0) (fun x o w l v p => some (x, upd (X 0) 4 0, o, w, l, v, p)) (fun a b o s => if x1 = 0 then some (b, o, s) else some (a, o, s)) 60 1 n n c0 0 (-2) (-2) (-2) _ _ _ (X 44) (upd (upd (M 0) 0 0) 11 0) _ (by omega) (by omega) (by omega) (by omega) (by omega) (hB.nr.copy hB.G.1 (X 41) (X 42) (X 43) (M 25)) (by rw [cpy_lo (by omega)]; exact hc2) (by by_cases h : x1 = 0 <;> simp [h])
    have e1 : fX9_busiest_L28 n x1 (upd (X 0) 4 0) (X 5) (X 6) (X 8) (X 9) (X 10) (X 11) (X 12) (fun x o w l v p => some (x, upd (X 0) 4 0, o, w, l, v, p)) n 0 (-2) 1 (upd (upd (upd (upd (X 41) 0 (X 37 0)) 1 (X 37 1)) 2 (X 37 2)) 3 (X 37 3)) (va_cpy (X 38) (X 42) 0 0 7) (va_cpy (X 39) (X 43) 0 0 7) (X 44) (X 45) = _ := e1
    have e2 : fX10_busiest_L44 n x1 (M 15) (fun a b o s => if x1 = 0 then some (b, o, s) else some (a, o, s)) n (-2) 0 (-2) 1 (upd (upd (M 0) 0 0) 11 0) (va_cpy (M 17) (M 25) 0 0 17) = _ := e2
    have fr : ∀ k, k ≤ 21 → om' k = upd (upd (M 0) 0 0) 11 0 k := fun k hk => g4 k (by omega)
    exact ⟨(if x1 = 0 then b' else a'), (upd (X 0) 4 0), o', w', la', wl', (X 45), om', st',
      by rw [fX9_busiest, asked_y b1, ob2_ss, if_neg i10, become_eq, ob3_ss, e1],
      by rw [fX10_busiest, goodS, ob1_ss, b2, if_neg i10, copy17 (by omega), ob1_ss, e2]; by_cases h : x1 = 0 <;> simp [h],
      hI.askF 0 (by decide) rfl rfl rfl (core_up (by decide) (core_up (by decide) (core_up (by decide) (core_up (by decide) (core_up (by decide) (core_up (by decide) (fun _ _ => rfl))))))) rfl rfl ⟨rfl, rfl, rfl, rfl, rfl⟩ (fr)⟩
  · have b2 : upd (upd (M 0) 0 0) 11 0 14 = 0 := b2
    exact ⟨(-1), (upd (X 0) 4 1), (X 41), (X 42), (X 43), (X 44), (X 45), (upd (upd (upd (M 0) 0 0) 11 0) 11 1), (M 25),
      by rw [fX9_busiest, asked_n b1, ob2_ss, if_pos i00],
      by rw [fX10_busiest, goodS, ob1_ss, b2, if_pos i00, noS, ob2_ss],
      hI.askF 1 (by decide) rfl rfl rfl (core_up (by decide) (core_up (by decide) (core_up (by decide) (core_up (by decide) (core_up (by decide) (core_up (by decide) (fun _ _ => rfl))))))) rfl rfl ⟨rfl, rfl, rfl, rfl, rfl⟩ (fun k _ => congrFun (updupd _ _ _ _) k)⟩

theorem ok_order {n : Nat} (hn : 2000 ≤ n) {X : Nat → Nat → Int32} {Y : Nat → Int64} {c : Int64} {P : Nat → Nat → Nat → Int32} {M : Nat → Nat → Int32} (hI : INV n X Y c P M) (x1 : Int32) : ∃ r y0 y41 y42 y43 y44 y45 z0 z25, fX9_order n x1 (X 0) (X 5) (X 6) (X 8) (X 9) (X 10) (X 11) (X 12) (X 37) (X 38) (X 39) (X 41) (X 42) (X 43) (X 44) (X 45) = some (r, y0, y41, y42, y43, y44, y45) ∧ fX10_order n x1 (M 0) (M 15) (M 17) (M 25) = some (r, z0, z25) ∧ INV n (va_up (va_up (va_up (va_up (va_up (va_up X 0 y0) 41 y41) 42 y42) 43 y43) 44 y44) 45 y45) Y c P (va_up (va_up M 0 z0) 25 z25) := by
  rcases hI.gate with ⟨G, D, T, N, S, hB⟩ | ⟨b1, b2, -, -⟩
  · have b1 := hB.1
    have b2 : upd (upd (M 0) 0 0) 11 0 14 = 1 := hB.2.1
    by_cases hx : 0 ≤ x1
    · obtain ⟨c0, hc1, hc2⟩ := hB.clock
      obtain ⟨R, o', w', la', wl', om', st', e1, e2, g4⟩ := order_lock (n := n) (by omega) hB.G hB.2.2.1 x1 (upd (X 0) 4 0) 60 0 n n c0 0 _ _ _ (X 44) (upd (upd (M 0) 0 0) 11 0) _ (by omega) (by omega) (by omega) (by omega) (hB.nr.copy hB.G.1 (X 41) (X 42) (X 43) (M 25)) (by rw [cpy_lo (by omega)]; exact hc2)
      have e1 : fX9_order_L34 n x1 (upd (X 0) 4 0) (X 5) (X 6) (X 8) (X 9) (X 10) (X 11) (X 12) (fun o w l v p => some ((-2 : Int32), upd (X 0) 4 0, o, w, l, v, p)) n 0 0 (upd (upd (upd (upd (X 41) 0 (X 37 0)) 1 (X 37 1)) 2 (X 37 2)) 3 (X 37 3)) (va_cpy (X 38) (X 42) 0 0 7) (va_cpy (X 39) (X 43) 0 0 7) (X 44) (X 45) = _ := e1
      have e2 : fX10_order_L40 n x1 (M 15) (fun o a => some ((-2 : Int32), o, a)) n 0 0 (upd (upd (M 0) 0 0) 11 0) (va_cpy (M 17) (M 25) 0 0 17) = _ := e2
      have fr : ∀ k, k ≤ 21 → om' k = upd (upd (M 0) 0 0) 11 0 k := fun k hk => g4 k (by omega)
      exact ⟨R, (upd (X 0) 4 0), o', w', la', wl', (X 45), om', st',
        by rw [fX9_order, asked_y b1, ob2_ss, if_neg i10, if_pos hx, become_eq, ob3_ss, e1],
        by rw [fX10_order, goodS, ob1_ss, b2, if_neg i10, if_pos hx, copy17 (by omega), ob1_ss, e2],
        hI.askF 0 (by decide) rfl rfl rfl (core_up (by decide) (core_up (by decide) (core_up (by decide) (core_up (by decide) (core_up (by decide) (core_up (by decide) (fun _ _ => rfl))))))) rfl rfl ⟨rfl, rfl, rfl, rfl, rfl⟩ (fr)⟩
    · exact ⟨(-1), (upd (upd (X 0) 4 0) 4 1), (X 41), (X 42), (X 43), (X 44), (X 45), (upd (upd (upd (M 0) 0 0) 11 0) 11 1), (M 25),
        by rw [fX9_order, asked_y b1, ob2_ss, if_neg i10, if_neg hx, refuseS, ob2_ss],
        by rw [fX10_order, goodS, ob1_ss, b2, if_neg i10, if_neg hx, noS, ob2_ss],
        hI.askF 1 (by decide) rfl rfl rfl (core_up (by decide) (core_up (by decide) (core_up (by decide) (core_up (by decide) (core_up (by decide) (core_up (by decide) (fun _ _ => rfl))))))) rfl rfl ⟨rfl, rfl, rfl, rfl, rfl⟩ (fun k _ => congrFun (updupd _ _ _ _) k)⟩
  · have b2 : upd (upd (M 0) 0 0) 11 0 14 = 0 := b2
    exact ⟨(-1), (upd (X 0) 4 1), (X 41), (X 42), (X 43), (X 44), (X 45), (upd (upd (upd (M 0) 0 0) 11 0) 11 1), (M 25),
      by rw [fX9_order, asked_n b1, ob2_ss, if_pos i00],
      by rw [fX10_order, goodS, ob1_ss, b2, if_pos i00, noS, ob2_ss],
      hI.askF 1 (by decide) rfl rfl rfl (core_up (by decide) (core_up (by decide) (core_up (by decide) (core_up (by decide) (core_up (by decide) (core_up (by decide) (fun _ _ => rfl))))))) rfl rfl ⟨rfl, rfl, rfl, rfl, rfl⟩ (fun k _ => congrFun (updupd _ _ _ _) k)⟩

theorem ok_leavesIn {n : Nat} (hn : 2000 ≤ n) {X : Nat → Nat → Int32} {Y : Nat → Int64} {c : Int64} {P : Nat → Nat → Nat → Int32} {M : Nat → Nat → Int32} (hI : INV n X Y c P M) (x1 : Int32) : ∃ r y0 y41 y42 y43 y44 y45 z0 z25, fX9_leavesIn n x1 (X 0) (X 5) (X 6) (X 8) (X 9) (X 10) (X 11) (X 12) (X 37) (X 38) (X 39) (X 41) (X 42) (X 43) (X 44) (X 45) = some (r, y0, y41, y42, y43, y44, y45) ∧ fX10_leavesIn n x1 (M 0) (M 15) (M 17) (M 25) = some (r, z0, z25) ∧ INV n (va_up (va_up (va_up (va_up (va_up (va_up X 0 y0) 41 y41) 42 y42) 43 y43) 44 y44) 45 y45) Y c P (va_up (va_up M 0 z0) 25 z25) := by
  rcases hI.gateG x1 with ⟨G, D, T, N, S, g, hB, hg, hx1, q1, q2⟩ | ⟨q1, q2⟩
  · have hG : G ≤ 7 := hB.G.1
    have q2 := q2 (upd (upd (M 0) 0 0) 11 0) rfl
    subst hx1
    obtain ⟨c0, hc1, hc2⟩ := hB.clock
    obtain ⟨R, o', w', la', wl', om', st', e1, e2, g4⟩ := leaves_lock (n := n) (by omega) hB.G hB.2.2.1 hg (upd (X 0) 4 0) 60 0 n n c0 _ _ _ (X 44) (upd (upd (M 0) 0 0) 11 0) _ (by omega) (by omega) (by omega) (by omega) (hB.nr.copy hB.G.1 (X 41) (X 42) (X 43) (M 25)) (by rw [cpy_lo (by omega)]; exact hc2)
    have e1 : fX9_leavesIn_L23 n (nI g) (upd (X 0) 4 0) (X 5) (X 6) (X 8) (X 9) (X 10) (X 11) (X 12) (fun x o w l v p => ob1 (fX2_has n (nI g) o) (fun u => if u = 0 then some (x, upd (X 0) 4 0, o, w, l, v, p) else some ((-2 : Int32), upd (X 0) 4 0, o, w, l, v, p))) n 0 (upd (upd (upd (upd (X 41) 0 (X 37 0)) 1 (X 37 1)) 2 (X 37 2)) 3 (X 37 3)) (va_cpy (X 38) (X 42) 0 0 7) (va_cpy (X 39) (X 43) 0 0 7) (X 44) (X 45) = _ := e1
    have e2 : fX10_leavesIn_L35 n (nI g) (M 15) (fun o a => some ((-2 : Int32), o, a)) n 0 (upd (upd (M 0) 0 0) 11 0) (va_cpy (M 17) (M 25) 0 0 17) = _ := e2
    have fr : ∀ k, k ≤ 21 → om' k = upd (upd (M 0) 0 0) 11 0 k := fun k hk => g4 k (by omega)
    exact ⟨R, (upd (X 0) 4 0), o', w', la', wl', (X 45), om', st',
      by rw [fX9_leavesIn, q1, ob2_ss, if_neg i10, become_eq, ob3_ss, e1],
      by rw [fX10_leavesIn, goodS, ob1_ss, q2, ob1_ss, if_neg i10, copy17 (by omega), ob1_ss, e2],
      hI.askF 0 (by decide) rfl rfl rfl (core_up (by decide) (core_up (by decide) (core_up (by decide) (core_up (by decide) (core_up (by decide) (core_up (by decide) (fun _ _ => rfl))))))) rfl rfl ⟨rfl, rfl, rfl, rfl, rfl⟩ (fr)⟩
  · have q2 := q2 (upd (upd (M 0) 0 0) 11 0) rfl
    exact ⟨(-1), (upd (X 0) 4 1), (X 41), (X 42), (X 43), (X 44), (X 45), (upd (upd (upd (M 0) 0 0) 11 0) 11 1), (M 25),
      by rw [fX9_leavesIn, q1, ob2_ss, if_pos i00],
      by rw [fX10_leavesIn, goodS, ob1_ss, q2, ob1_ss, if_pos i00, noS, ob2_ss],
      hI.askF 1 (by decide) rfl rfl rfl (core_up (by decide) (core_up (by decide) (core_up (by decide) (core_up (by decide) (core_up (by decide) (core_up (by decide) (fun _ _ => rfl))))))) rfl rfl ⟨rfl, rfl, rfl, rfl, rfl⟩ (fun k _ => congrFun (updupd _ _ _ _) k)⟩

theorem ok_pull {n : Nat} (hn : 2000 ≤ n) {X : Nat → Nat → Int32} {Y : Nat → Int64} {c : Int64} {P : Nat → Nat → Nat → Int32} {M : Nat → Nat → Int32} (hI : INV n X Y c P M) (x1 : Int32) : ∃ r y0 z0, fX9_pull n x1 (X 0) (X 5) (X 10) (X 11) (X 12) (X 37) = some (r, y0) ∧ fX10_pull n x1 (M 0) (M 15) (M 17) = some (r, z0) ∧ INV n (va_up X 0 y0) Y c P (va_up M 0 z0) := by
  rcases hI.gateG x1 with ⟨G, D, T, N, S, g, hB, hg, hx1, q1, q2⟩ | ⟨q1, q2⟩
  · have hG : G ≤ 7 := hB.G.1
    have q2 := q2 (upd (upd (M 0) 0 0) 11 0) rfl
    subst hx1
    have e1 := pull_c (n := n) (a := g) (o := X 37) hB.G (upd (X 0) 4 0) (fun x => some (x, upd (X 0) 4 0)) D 0 n (by omega) (by have := hB.G.2.2.2.2.2.2.2.1; omega)
    have e2 := pull_m (n := n) (a := g) (om := upd (upd (M 0) 0 0) 11 0) (st := M 17) hG hg hB.G.2.2.1 (fun x => some (x, upd (upd (M 0) 0 0) 11 0)) G 0 n (by omega) (by omega)
    rw [← pull_eq hB.G hB.nr hg] at e2
    rw [sm] at e1 e2
    have e1 : fX9_pull_L14 n (nI g) (upd (X 0) 4 0) (X 5) (X 10) (X 11) (X 12) (X 37) (fun x => some (x, upd (X 0) 4 0)) n 0 0 = _ := e1
    have e2 : fX10_pull_L22 n (nI g) (upd (upd (M 0) 0 0) 11 0) (M 15) (M 17) (fun x => some (x, upd (upd (M 0) 0 0) 11 0)) n 0 0 = _ := e2
    exact ⟨_, (upd (X 0) 4 0), (upd (upd (M 0) 0 0) 11 0),
      by rw [fX9_pull, q1, ob2_ss, if_neg i10, e1],
      by rw [fX10_pull, goodS, ob1_ss, q2, ob1_ss, if_neg i10, e2],
      hI.askF 0 (by decide) rfl rfl rfl (core_up (by decide) (fun _ _ => rfl)) rfl rfl ⟨rfl, rfl, rfl, rfl, rfl⟩ (fun _ _ => rfl)⟩
  · have q2 := q2 (upd (upd (M 0) 0 0) 11 0) rfl
    exact ⟨(-1), (upd (X 0) 4 1), (upd (upd (upd (M 0) 0 0) 11 0) 11 1),
      by rw [fX9_pull, q1, ob2_ss, if_pos i00],
      by rw [fX10_pull, goodS, ob1_ss, q2, ob1_ss, if_pos i00, noS, ob2_ss],
      hI.askF 1 (by decide) rfl rfl rfl (core_up (by decide) (fun _ _ => rfl)) rfl rfl ⟨rfl, rfl, rfl, rfl, rfl⟩ (fun k _ => congrFun (updupd _ _ _ _) k)⟩

theorem ok_drawn {n : Nat} (hn : 2000 ≤ n) {X : Nat → Nat → Int32} {Y : Nat → Int64} {c : Int64} {P : Nat → Nat → Nat → Int32} {M : Nat → Nat → Int32} (hI : INV n X Y c P M) (x1 : Int32) (x2 : Int32) : ∃ r y0 z0, fX9_drawn n x1 x2 (X 0) (X 5) (X 10) (X 11) (X 12) = some (r, y0) ∧ fX10_drawn n x1 x2 (M 0) (M 15) = some (r, z0) ∧ INV n (va_up X 0 y0) Y c P (va_up M 0 z0) := by
  rcases hI.gate2 x1 x2 with ⟨G, D, T, N, S, g, b, hB, hg, hb, hgb, ex, ey, q1, q2, q3, hxy⟩ | ⟨q1, q2⟩
  · have hG : G ≤ 7 := hB.G.1
    have q2 := q2 (upd (upd (M 0) 0 0) 11 0) rfl
    have q3 := q3 (upd (upd (M 0) 0 0) 11 0) rfl
    obtain ⟨-, h1G, hT4, hN5, hS6, x50, x51, x58, x59, x513, r6, x150, r7, x153, r8, bc, bw, bg, bp, ew, bwt, bk, bs, inv, bdm, unq, -⟩ := hB.2.2.2.2.1
    have ix : (((37 : Int32) + ((7 : Int32) * nI g)) + nI b) = nI (37 + 7 * g + b) := by rw [lz37, lz7, mulI, addI, addI]
    rcases line_spec (n := n) (by omega) hB.G unq hg hb hgb with ⟨d, hd, d1, d2, d3, d4⟩ | ⟨d1, d3, d4⟩
    · have hD := hB.G.2.2.2.2.2.2.2.1
      exact ⟨(X 12 d), (upd (X 0) 4 0), (upd (upd (M 0) 0 0) 11 0),
        by rw [fX9_drawn, q1, ob2_ss, if_neg i10, ex, ey, d3, ob1_ss, if_pos (nI_pos' (by omega)), if_neg (ckI (by omega) (by omega)), clI (by omega)],
        by rw [fX10_drawn, goodS, ob1_ss, q2, ob1_ss, if_neg i10, q3, ob1_ss, if_neg i10, if_neg hxy, ex, ey, ix, if_neg (ckI (by omega) (by omega)), clI (by omega), d4],
        hI.askF 0 (by decide) rfl rfl rfl (core_up (by decide) (fun _ _ => rfl)) rfl rfl ⟨rfl, rfl, rfl, rfl, rfl⟩ (fun _ _ => rfl)⟩
    · exact ⟨0, (upd (X 0) 4 0), (upd (upd (M 0) 0 0) 11 0),
        by rw [fX9_drawn, q1, ob2_ss, if_neg i10, ex, ey, d3, ob1_ss, if_neg (by decide)],
        by rw [fX10_drawn, goodS, ob1_ss, q2, ob1_ss, if_neg i10, q3, ob1_ss, if_neg i10, if_neg hxy, ex, ey, ix, if_neg (ckI (by omega) (by omega)), clI (by omega), d4],
        hI.askF 0 (by decide) rfl rfl rfl (core_up (by decide) (fun _ _ => rfl)) rfl rfl ⟨rfl, rfl, rfl, rfl, rfl⟩ (fun _ _ => rfl)⟩
  · rcases q2 with z | ⟨z, z2 | ⟨z2, z3⟩⟩
    · have z := z (upd (upd (M 0) 0 0) 11 0) rfl
      exact ⟨(-1), (upd (X 0) 4 1), (upd (upd (upd (M 0) 0 0) 11 0) 11 1),
        by rw [fX9_drawn, q1, ob2_ss, if_pos i00],
        by rw [fX10_drawn, goodS, ob1_ss, z, ob1_ss, if_pos i00, noS, ob2_ss],
        hI.askF 1 (by decide) rfl rfl rfl (core_up (by decide) (fun _ _ => rfl)) rfl rfl ⟨rfl, rfl, rfl, rfl, rfl⟩ (fun k _ => congrFun (updupd _ _ _ _) k)⟩
    · have z := z (upd (upd (M 0) 0 0) 11 0) rfl
      have z2 := z2 (upd (upd (M 0) 0 0) 11 0) rfl
      exact ⟨(-1), (upd (X 0) 4 1), (upd (upd (upd (M 0) 0 0) 11 0) 11 1),
        by rw [fX9_drawn, q1, ob2_ss, if_pos i00],
        by rw [fX10_drawn, goodS, ob1_ss, z, ob1_ss, if_neg i10, z2, ob1_ss, if_pos i00, noS, ob2_ss],
        hI.askF 1 (by decide) rfl rfl rfl (core_up (by decide) (fun _ _ => rfl)) rfl rfl ⟨rfl, rfl, rfl, rfl, rfl⟩ (fun k _ => congrFun (updupd _ _ _ _) k)⟩
    · have z := z (upd (upd (M 0) 0 0) 11 0) rfl
      have z2 := z2 (upd (upd (M 0) 0 0) 11 0) rfl
      exact ⟨(-1), (upd (X 0) 4 1), (upd (upd (upd (M 0) 0 0) 11 0) 11 1),
        by rw [fX9_drawn, q1, ob2_ss, if_pos i00],
        by rw [fX10_drawn, goodS, ob1_ss, z, ob1_ss, if_neg i10, z2, ob1_ss, if_neg i10, if_pos z3, noS, ob2_ss],
        hI.askF 1 (by decide) rfl rfl rfl (core_up (by decide) (fun _ _ => rfl)) rfl rfl ⟨rfl, rfl, rfl, rfl, rfl⟩ (fun k _ => congrFun (updupd _ _ _ _) k)⟩
