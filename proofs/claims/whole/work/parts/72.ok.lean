/-! the calls that ask how it would end otherwise -/
theorem updself (f : Nat → Int32) (k : Nat) : upd f k (f k) = f := by
  funext j
  by_cases e : j = k
  · subst e; rw [upd_s]
  · rw [upd_n _ _ e]
theorem upd4 {f : Nat → Int32} {a b : Nat} {x y u v : Int32} (ha : f a = u) (hb : f b = v) : upd (upd (upd (upd f a x) b y) a u) b v = f := by
  funext j
  by_cases e : j = b
  · subst e; rw [upd_s, hb]
  · rw [upd_n _ _ e]
    by_cases e2 : j = a
    · subst e2; rw [upd_s, ha]
    · rw [upd_n _ _ e2, upd_n _ _ e, upd_n _ _ e2]
theorem NOW.set {G D T N S : Nat} {X M : Nat → Nat → Int32} (h : NOW G D T N S X M) : SET G D (X 37) (X 38) (X 6) (X 10) (X 11) (X 12) := h.2.2.2.2.2.2.1

theorem ok_chain {n : Nat} (hn : 2000 ≤ n) {X : Nat → Nat → Int32} {Y : Nat → Int64} {c : Int64} {P : Nat → Nat → Nat → Int32} {M : Nat → Nat → Int32} (hI : INV n X Y c P M) (x1 : Int32) : ∃ r y0 y41 y42 y43 y44 z0 z25, fX9_chain n x1 (X 0) (X 5) (X 6) (X 9) (X 10) (X 11) (X 12) (X 37) (X 38) (X 39) (X 41) (X 42) (X 43) (X 44) = some (r, y0, y41, y42, y43, y44) ∧ fX10_chain n x1 (M 0) (M 15) (M 17) (M 25) = some (r, z0, z25) ∧ INV n (va_up (va_up (va_up (va_up (va_up X 0 y0) 41 y41) 42 y42) 43 y43) 44 y44) Y c P (va_up (va_up M 0 z0) 25 z25) := by
  rcases hI.gateP x1 with ⟨G, D, T, N, S, g, hB, hg, hx1, hb, q1, q2⟩ | ⟨t, ht4, ht0, q1, q2⟩
  · have hG : G ≤ 7 := hB.G.1
    have q2 := q2 (upd (upd (M 0) 0 0) 11 0) rfl
    subst hx1
    obtain ⟨c0, hc1, hc2⟩ := hB.clock
    obtain ⟨H, o', w', la', wl', om', st', e1, e2, -, -, g4, -⟩ := send_pair (n := n) (by omega) hB.G (who := (1 : Int32) <<< (nI g &&& 31)) (bit_lt hG hg) (hB.nr.copy hG (X 41) (X 42) (X 43) (M 25)) (by rw [cpy_lo (by omega)]; exact hc2) (by omega) (X 44) (upd (upd (M 0) 0 0) 11 0)
    have fr : ∀ k, k ≤ 21 → om' k = upd (upd (M 0) 0 0) 11 0 k := fun k hk => g4 k (by omega)
    exact ⟨H, (upd (X 0) 4 0), o', w', la', wl', om', st',
      by rw [fX9_chain, q1, ob2_ss, if_neg i10, fX9_chainOf, become_eq, ob3_ss, e1, ob5_ss, ob5_ss],
      by rw [fX10_chain, goodS, ob1_ss, q2, ob1_ss, if_pos i00, copy17 (by omega), ob1_ss, e2, ob3_ss],
      hI.askF 0 (by decide) rfl rfl rfl (core_up (by decide) (core_up (by decide) (core_up (by decide) (core_up (by decide) (core_up (by decide) (fun _ _ => rfl)))))) rfl rfl ⟨rfl, rfl, rfl, rfl, rfl⟩ (fr)⟩
  · have q2 := q2 (upd (upd (M 0) 0 0) 11 0) rfl
    exact ⟨(-1), (upd (X 0) 4 t), (X 41), (X 42), (X 43), (X 44), (upd (upd (upd (M 0) 0 0) 11 0) 11 t), (M 25),
      by rw [fX9_chain, q1, ob2_ss, if_pos i00],
      by rw [fX10_chain, goodS, ob1_ss, q2, ob1_ss, if_neg ht0, ob1_ss, noS, ob2_ss],
      hI.askF t ht4 rfl rfl rfl (core_up (by decide) (core_up (by decide) (core_up (by decide) (core_up (by decide) (core_up (by decide) (fun _ _ => rfl)))))) rfl rfl ⟨rfl, rfl, rfl, rfl, rfl⟩ (fun k _ => congrFun (updupd _ _ _ _) k)⟩

theorem ok_biggest {n : Nat} (hn : 2000 ≤ n) {X : Nat → Nat → Int32} {Y : Nat → Int64} {c : Int64} {P : Nat → Nat → Nat → Int32} {M : Nat → Nat → Int32} (hI : INV n X Y c P M) : ∃ r y0 y41 y42 y43 y44 z0 z25, fX9_biggest n (X 0) (X 5) (X 6) (X 9) (X 10) (X 11) (X 12) (X 37) (X 38) (X 39) (X 41) (X 42) (X 43) (X 44) = some (r, y0, y41, y42, y43, y44) ∧ fX10_biggest n (M 0) (M 15) (M 17) (M 25) = some (r, z0, z25) ∧ INV n (va_up (va_up (va_up (va_up (va_up X 0 y0) 41 y41) 42 y42) 43 y43) 44 y44) Y c P (va_up (va_up M 0 z0) 25 z25) := by
  rcases hI.gate with ⟨G, D, T, N, S, hB⟩ | ⟨b1, b2, -, -⟩
  · have b1 := hB.1
    have b2 : upd (upd (M 0) 0 0) 11 0 14 = 1 := hB.2.1
    obtain ⟨c0, hc1, hc2⟩ := hB.clock
    have hG : G ≤ 7 := hB.G.1
    obtain ⟨a', o', w', la', wl', om', st', e1, e2, g4⟩ := biggest_lock (n := n) (by omega) hB.G hB.nr hc2 (by omega) (upd (X 0) 4 0) (fun a o w l v => some (a, upd (X 0) 4 0, o, w, l, v)) (fun a o s => some (a, o, s)) G 0 n n 0 (-2) (X 41) (X 42) (X 43) (X 44) (upd (upd (M 0) 0 0) 11 0) (M 25) (by omega) (by omega) (by omega) (by omega)
    have e1 : fX9_biggest_L16 n (upd (X 0) 4 0) (X 5) (X 6) (X 9) (X 10) (X 11) (X 12) (X 37) (X 38) (X 39) (fun a o w l v => some (a, upd (X 0) 4 0, o, w, l, v)) n 0 (-2) 0 (X 41) (X 42) (X 43) (X 44) = _ := e1
    have e2 : fX10_biggest_L24 n (M 15) (M 17) (fun a o s => some (a, o, s)) n (-2) 0 0 (upd (upd (M 0) 0 0) 11 0) (M 25) = _ := e2
    have fr : ∀ k, k ≤ 21 → om' k = upd (upd (M 0) 0 0) 11 0 k := fun k hk => g4 k (by omega)
    exact ⟨a', (upd (X 0) 4 0), o', w', la', wl', om', st',
      by rw [fX9_biggest, asked_y b1, ob2_ss, if_neg i10, e1],
      by rw [fX10_biggest, goodS, ob1_ss, b2, if_neg i10, e2],
      hI.askF 0 (by decide) rfl rfl rfl (core_up (by decide) (core_up (by decide) (core_up (by decide) (core_up (by decide) (core_up (by decide) (fun _ _ => rfl)))))) rfl rfl ⟨rfl, rfl, rfl, rfl, rfl⟩ (fr)⟩
  · have b2 : upd (upd (M 0) 0 0) 11 0 14 = 0 := b2
    exact ⟨(-1), (upd (X 0) 4 1), (X 41), (X 42), (X 43), (X 44), (upd (upd (upd (M 0) 0 0) 11 0) 11 1), (M 25),
      by rw [fX9_biggest, asked_n b1, ob2_ss, if_pos i00],
      by rw [fX10_biggest, goodS, ob1_ss, b2, if_pos i00, noS, ob2_ss],
      hI.askF 1 (by decide) rfl rfl rfl (core_up (by decide) (core_up (by decide) (core_up (by decide) (core_up (by decide) (core_up (by decide) (fun _ _ => rfl)))))) rfl rfl ⟨rfl, rfl, rfl, rfl, rfl⟩ (fun k _ => congrFun (updupd _ _ _ _) k)⟩

theorem ok_undrawn {n : Nat} (hn : 2000 ≤ n) {X : Nat → Nat → Int32} {Y : Nat → Int64} {c : Int64} {P : Nat → Nat → Nat → Int32} {M : Nat → Nat → Int32} (hI : INV n X Y c P M) (x1 : Int32) (x2 : Int32) : ∃ r y0 y12 y41 y42 y43 y44 y45 z0 z15 z25, fX9_undrawn n x1 x2 (X 0) (X 5) (X 6) (X 8) (X 9) (X 10) (X 11) (X 12) (X 37) (X 38) (X 39) (X 41) (X 42) (X 43) (X 44) (X 45) = some (r, y0, y12, y41, y42, y43, y44, y45) ∧ fX10_undrawn n x1 x2 (M 0) (M 15) (M 17) (M 25) = some (r, z0, z15, z25) ∧ INV n (va_up (va_up (va_up (va_up (va_up (va_up (va_up X 0 y0) 12 y12) 41 y41) 42 y42) 43 y43) 44 y44) 45 y45) Y c P (va_up (va_up (va_up M 0 z0) 15 z15) 25 z25) := by
  rcases hI.gate2 x1 x2 with ⟨G, D, T, N, S, g, b, hB, hg, hb, hgb, ex, ey, q1, q2, q3, hxy⟩ | ⟨q1, q2⟩
  · have hG : G ≤ 7 := hB.G.1
    have q2 := q2 (upd (upd (M 0) 0 0) 11 0) rfl
    have q3 := q3 (upd (upd (M 0) 0 0) 11 0) rfl
    obtain ⟨-, h1G, hT4, hN5, hS6, x50, x51, x58, x59, x513, r6, x150, r7, x153, r8, bc, bw, bg, bp, ew, bwt, bk, bs, inv, bdm, unq, etl, bth, btt, end_, bnh, esi, bsi⟩ := hB.2.2.2.2.1
    obtain ⟨c0, hc1, hc2⟩ := hB.clock
    have ix : (((37 : Int32) + ((7 : Int32) * nI g)) + nI b) = nI (37 + 7 * g + b) := by rw [lz37, lz7, mulI, addI, addI]
    rcases line_spec (n := n) (by omega) hB.G unq hg hb hgb with ⟨d, hd, d1, d2, d3, d4⟩ | ⟨d1, d3, d4⟩
    · have hD := hB.G.2.2.2.2.2.2.2.1
      have hz : ¬ M 15 (37 + 7 * g + b) = 0 := by
        obtain ⟨k, k1, k2, k3⟩ := bdm d hd
        rw [d4, k3]; exact nI_ne0 (by omega) (by omega)
      obtain ⟨E, R, o', w', la', wl', om', st', e1, e2, e3, e4⟩ := now_lock (n := n) (by omega) (hB.G.undraw unq hd hg hb d1 d2) hB.nr hc2 (by omega) hB.2.2.1 (upd (X 0) 4 0) (X 41) (X 42) (X 43) (X 44) (upd (upd (M 0) 0 0) 11 0) (M 25)
      have fr : ∀ k, k ≤ 21 → om' k = upd (upd (M 0) 0 0) 11 0 k := fun k hk => e3 k (by omega) (by omega)
      rcases e4 with ⟨e, h1, h2, h3, h4⟩ | ⟨h1, h2⟩
      · subst h2; subst h3
        exact ⟨(nI e), (upd (X 0) 4 0), (upd (upd (X 12) d 0) d (X 12 d)), o', w', la', wl', (X 45), om', (upd (upd (M 15) (37 + 7 * g + b) 0) (37 + 7 * g + b) (M 15 (37 + 7 * g + b))), st',
          by rw [fX9_undrawn, q1, ob2_ss, if_neg i10, ex, ey, d3, ob1_ss, if_pos (nI_pos' (by omega)), if_neg (ckI (by omega) (by omega)), if_neg (ckI (by omega) (by omega)), clI (by omega), e1, ob6_ss, if_neg (ckK (by omega) (by omega)), orNotS h1, ob1_ss],
          by rw [fX10_undrawn, goodS, ob1_ss, q2, ob1_ss, if_neg i10, q3, ob1_ss, if_neg i10, if_neg hxy, ex, ey, ix, if_neg (ckI (by omega) (by omega)), clI (by omega), if_neg hz, if_neg (ckK (by omega) (by omega)), if_neg (ckK (by omega) (by omega)), e2, ob3_ss, if_neg (ckK (by omega) (by omega))],
          hI.askF 0 (by decide) rfl rfl rfl (core_up (by decide) (core_up (by decide) (core_up (by decide) (core_up (by decide) (core_up (by decide) (core_eq (updback (X 12) d 0) (core_up (by decide) (fun _ _ => rfl)))))))) rfl rfl ⟨rfl, updback (M 15) (37 + 7 * g + b) 0, rfl, rfl, rfl⟩ (fr)⟩
      · subst h1; subst h2
        exact ⟨(-2), (upd (X 0) 4 0), (upd (upd (X 12) d 0) d (X 12 d)), o', w', la', wl', (X 45), om', (upd (upd (M 15) (37 + 7 * g + b) 0) (37 + 7 * g + b) (M 15 (37 + 7 * g + b))), st',
          by rw [fX9_undrawn, q1, ob2_ss, if_neg i10, ex, ey, d3, ob1_ss, if_pos (nI_pos' (by omega)), if_neg (ckI (by omega) (by omega)), if_neg (ckI (by omega) (by omega)), clI (by omega), e1, ob6_ss, if_neg (ckK (by omega) (by omega)), orNot61, ob1_ss],
          by rw [fX10_undrawn, goodS, ob1_ss, q2, ob1_ss, if_neg i10, q3, ob1_ss, if_neg i10, if_neg hxy, ex, ey, ix, if_neg (ckI (by omega) (by omega)), clI (by omega), if_neg hz, if_neg (ckK (by omega) (by omega)), if_neg (ckK (by omega) (by omega)), e2, ob3_ss, if_neg (ckK (by omega) (by omega))],
          hI.askF 0 (by decide) rfl rfl rfl (core_up (by decide) (core_up (by decide) (core_up (by decide) (core_up (by decide) (core_up (by decide) (core_eq (updback (X 12) d 0) (core_up (by decide) (fun _ _ => rfl)))))))) rfl rfl ⟨rfl, updback (M 15) (37 + 7 * g + b) 0, rfl, rfl, rfl⟩ (fr)⟩
    · exact ⟨(-1), (upd (upd (X 0) 4 0) 4 5), (X 12), (X 41), (X 42), (X 43), (X 44), (X 45), (upd (upd (upd (M 0) 0 0) 11 0) 11 5), (M 15), (M 25),
        by rw [fX9_undrawn, q1, ob2_ss, if_neg i10, ex, ey, d3, ob1_ss, if_neg (by decide), refuseS, ob2_ss],
        by rw [fX10_undrawn, goodS, ob1_ss, q2, ob1_ss, if_neg i10, q3, ob1_ss, if_neg i10, if_neg hxy, ex, ey, ix, if_neg (ckI (by omega) (by omega)), clI (by omega), if_pos d4, noS, ob2_ss],
        hI.askF 5 (by decide) rfl rfl rfl (core_up (by decide) (core_up (by decide) (core_up (by decide) (core_up (by decide) (core_up (by decide) (core_eq rfl (core_up (by decide) (fun _ _ => rfl)))))))) rfl rfl ⟨rfl, rfl, rfl, rfl, rfl⟩ (fun k _ => congrFun (updupd _ _ _ _) k)⟩
  · rcases q2 with z | ⟨z, z2 | ⟨z2, z3⟩⟩
    · have z := z (upd (upd (M 0) 0 0) 11 0) rfl
      exact ⟨(-1), (upd (X 0) 4 1), (X 12), (X 41), (X 42), (X 43), (X 44), (X 45), (upd (upd (upd (M 0) 0 0) 11 0) 11 1), (M 15), (M 25),
        by rw [fX9_undrawn, q1, ob2_ss, if_pos i00],
        by rw [fX10_undrawn, goodS, ob1_ss, z, ob1_ss, if_pos i00, noS, ob2_ss],
        hI.askF 1 (by decide) rfl rfl rfl (core_up (by decide) (core_up (by decide) (core_up (by decide) (core_up (by decide) (core_up (by decide) (core_eq rfl (core_up (by decide) (fun _ _ => rfl)))))))) rfl rfl ⟨rfl, rfl, rfl, rfl, rfl⟩ (fun k _ => congrFun (updupd _ _ _ _) k)⟩
    · have z := z (upd (upd (M 0) 0 0) 11 0) rfl
      have z2 := z2 (upd (upd (M 0) 0 0) 11 0) rfl
      exact ⟨(-1), (upd (X 0) 4 1), (X 12), (X 41), (X 42), (X 43), (X 44), (X 45), (upd (upd (upd (M 0) 0 0) 11 0) 11 1), (M 15), (M 25),
        by rw [fX9_undrawn, q1, ob2_ss, if_pos i00],
        by rw [fX10_undrawn, goodS, ob1_ss, z, ob1_ss, if_neg i10, z2, ob1_ss, if_pos i00, noS, ob2_ss],
        hI.askF 1 (by decide) rfl rfl rfl (core_up (by decide) (core_up (by decide) (core_up (by decide) (core_up (by decide) (core_up (by decide) (core_eq rfl (core_up (by decide) (fun _ _ => rfl)))))))) rfl rfl ⟨rfl, rfl, rfl, rfl, rfl⟩ (fun k _ => congrFun (updupd _ _ _ _) k)⟩
    · have z := z (upd (upd (M 0) 0 0) 11 0) rfl
      have z2 := z2 (upd (upd (M 0) 0 0) 11 0) rfl
      exact ⟨(-1), (upd (X 0) 4 1), (X 12), (X 41), (X 42), (X 43), (X 44), (X 45), (upd (upd (upd (M 0) 0 0) 11 0) 11 1), (M 15), (M 25),
        by rw [fX9_undrawn, q1, ob2_ss, if_pos i00],
        by rw [fX10_undrawn, goodS, ob1_ss, z, ob1_ss, if_neg i10, z2, ob1_ss, if_neg i10, if_pos z3, noS, ob2_ss],
        hI.askF 1 (by decide) rfl rfl rfl (core_up (by decide) (core_up (by decide) (core_up (by decide) (core_up (by decide) (core_up (by decide) (core_eq rfl (core_up (by decide) (fun _ _ => rfl)))))))) rfl rfl ⟨rfl, rfl, rfl, rfl, rfl⟩ (fun k _ => congrFun (updupd _ _ _ _) k)⟩

theorem ok_apart {n : Nat} (hn : 2000 ≤ n) {X : Nat → Nat → Int32} {Y : Nat → Int64} {c : Int64} {P : Nat → Nat → Nat → Int32} {M : Nat → Nat → Int32} (hI : INV n X Y c P M) (x1 : Int32) : ∃ r y0 y9 y41 y42 y43 y44 y45 z0 z15 z25, fX9_apart n x1 (X 0) (X 5) (X 6) (X 8) (X 9) (X 10) (X 11) (X 12) (X 37) (X 38) (X 39) (X 41) (X 42) (X 43) (X 44) (X 45) = some (r, y0, y9, y41, y42, y43, y44, y45) ∧ fX10_apart n x1 (M 0) (M 15) (M 17) (M 25) = some (r, z0, z15, z25) ∧ INV n (va_up (va_up (va_up (va_up (va_up (va_up (va_up X 0 y0) 9 y9) 41 y41) 42 y42) 43 y43) 44 y44) 45 y45) Y c P (va_up (va_up (va_up M 0 z0) 15 z15) 25 z25) := by
  rcases hI.gateG x1 with ⟨G, D, T, N, S, g, hB, hg, hx1, q1, q2⟩ | ⟨q1, q2⟩
  · have hG : G ≤ 7 := hB.G.1
    have q2 := q2 (upd (upd (M 0) 0 0) 11 0) rfl
    subst hx1
    obtain ⟨-, h1G, hT4, hN5, hS6, x50, x51, x58, x59, x513, r6, x150, r7, x153, r8, bc, bw, bg, bp, ew, bwt, bk, bs, inv, bdm, unq, etl, bth, btt, end_, bnh, esi, bsi⟩ := hB.2.2.2.2.1
    obtain ⟨c0, hc1, hc2⟩ := hB.clock
    have ig : (((9 : Int32) + ((4 : Int32) * nI g)) + (3 : Int32)) = nI (9 + 4 * g + 3) := idx_r (c := 3) (by omega) (by omega)
    rcases hB.G.2.2.2.2.2.2.1 g hg with ⟨m1, m2⟩ | ⟨j, hj, m1, m2⟩
    · exact ⟨(-1), (upd (upd (X 0) 4 0) 4 5), (X 9), (X 41), (X 42), (X 43), (X 44), (X 45), (upd (upd (upd (M 0) 0 0) 11 0) 11 5), (M 15), (M 25),
        by rw [fX9_apart, q1, ob2_ss, if_neg i10, if_neg (ckI (by omega) (by omega)), clI (by omega), m1, if_pos (by decide), refuseS, ob2_ss],
        by rw [fX10_apart, goodS, ob1_ss, q2, ob1_ss, if_neg i10, ig, if_neg (ckI (by omega) (by omega)), clI (by omega), if_pos m2, noS, ob2_ss],
        hI.askF 5 (by decide) rfl rfl rfl (core_up (by decide) (core_up (by decide) (core_up (by decide) (core_up (by decide) (core_up (by decide) (core_eq rfl (core_up (by decide) (fun _ _ => rfl)))))))) rfl rfl ⟨rfl, rfl, rfl, rfl, rfl⟩ (fun k _ => congrFun (updupd _ _ _ _) k)⟩
    · obtain ⟨m3, hgj⟩ := inv g hg j hj m1
      have ij : (((9 : Int32) + ((4 : Int32) * nI j)) + (3 : Int32)) = nI (9 + 4 * j + 3) := idx_r (c := 3) (by omega) (by omega)
      have m4 : M 15 (9 + 4 * j + 3) = nI (g + 1) := by
        rcases hB.G.2.2.2.2.2.2.1 j hj with ⟨z1, -⟩ | ⟨i, hi, z1, z2⟩
        · exact absurd (z1.symm.trans m3) (fun q => nI_pos (n := g) (by omega) (by rw [← q]; decide))
        · rw [z2, nI_inj (by omega) (by omega) (z1.symm.trans m3)]
      obtain ⟨E, R, o', w', la', wl', om', st', e1, e2, e3, e4⟩ := now_lock (n := n) (by omega) (hB.G.apart hg hj) hB.nr hc2 (by omega) hB.2.2.1 (upd (X 0) 4 0) (X 41) (X 42) (X 43) (X 44) (upd (upd (M 0) 0 0) 11 0) (M 25)
      have fr : ∀ k, k ≤ 21 → om' k = upd (upd (M 0) 0 0) 11 0 k := fun k hk => e3 k (by omega) (by omega)
      rcases e4 with ⟨e, h1, h2, h3, h4⟩ | ⟨h1, h2⟩
      · subst h2; subst h3
        exact ⟨(nI e), (upd (X 0) 4 0), (upd (upd (upd (upd (X 9) g (-2)) j (-2)) g (nI j)) j (nI g)), o', w', la', wl', (X 45), om', (upd (upd (upd (upd (M 15) (9 + 4 * g + 3) 0) (9 + 4 * j + 3) 0) (9 + 4 * g + 3) (nI (j + 1))) (9 + 4 * j + 3) (nI (g + 1))), st',
          by rw [fX9_apart, q1, ob2_ss, if_neg i10, if_neg (ckI (k := g) (by omega) (by omega)), clI (k := g) (by omega), m1, if_neg (nI_pos (by omega)), hB.G.2.1, if_pos (nI_lt (by omega) (by omega)), if_neg (ckK (by omega) (by omega)), if_neg (ckI (k := j) (by omega) (by omega)), clI (k := j) (by omega), e1, ob6_ss, if_neg (ckK (by omega) (by omega)), if_neg (ckK (by omega) (by omega)), orNotS h1, ob1_ss],
          by rw [fX10_apart, goodS, ob1_ss, q2, ob1_ss, if_neg i10, ig, if_neg (ckI (k := 9 + 4 * g + 3) (by omega) (by omega)), clI (k := 9 + 4 * g + 3) (by omega), m2, if_neg (nI_ne0 (by omega) (by omega)), if_neg (ckK (by omega) (by omega)), nI_pred, ij, if_neg (ckI (k := 9 + 4 * j + 3) (by omega) (by omega)), clI (k := 9 + 4 * j + 3) (by omega), e2, ob3_ss, if_neg (ckK (by omega) (by omega)), if_neg (ckK (by omega) (by omega)), sI],
          hI.askF 0 (by decide) rfl rfl rfl (core_up (by decide) (core_up (by decide) (core_up (by decide) (core_up (by decide) (core_up (by decide) (core_eq (upd4 m1 m3) (core_up (by decide) (fun _ _ => rfl)))))))) rfl rfl ⟨rfl, upd4 m2 m4, rfl, rfl, rfl⟩ (fr)⟩
      · subst h1; subst h2
        exact ⟨(-2), (upd (X 0) 4 0), (upd (upd (upd (upd (X 9) g (-2)) j (-2)) g (nI j)) j (nI g)), o', w', la', wl', (X 45), om', (upd (upd (upd (upd (M 15) (9 + 4 * g + 3) 0) (9 + 4 * j + 3) 0) (9 + 4 * g + 3) (nI (j + 1))) (9 + 4 * j + 3) (nI (g + 1))), st',
          by rw [fX9_apart, q1, ob2_ss, if_neg i10, if_neg (ckI (k := g) (by omega) (by omega)), clI (k := g) (by omega), m1, if_neg (nI_pos (by omega)), hB.G.2.1, if_pos (nI_lt (by omega) (by omega)), if_neg (ckK (by omega) (by omega)), if_neg (ckI (k := j) (by omega) (by omega)), clI (k := j) (by omega), e1, ob6_ss, if_neg (ckK (by omega) (by omega)), if_neg (ckK (by omega) (by omega)), orNot61, ob1_ss],
          by rw [fX10_apart, goodS, ob1_ss, q2, ob1_ss, if_neg i10, ig, if_neg (ckI (k := 9 + 4 * g + 3) (by omega) (by omega)), clI (k := 9 + 4 * g + 3) (by omega), m2, if_neg (nI_ne0 (by omega) (by omega)), if_neg (ckK (by omega) (by omega)), nI_pred, ij, if_neg (ckI (k := 9 + 4 * j + 3) (by omega) (by omega)), clI (k := 9 + 4 * j + 3) (by omega), e2, ob3_ss, if_neg (ckK (by omega) (by omega)), if_neg (ckK (by omega) (by omega)), sI],
          hI.askF 0 (by decide) rfl rfl rfl (core_up (by decide) (core_up (by decide) (core_up (by decide) (core_up (by decide) (core_up (by decide) (core_eq (upd4 m1 m3) (core_up (by decide) (fun _ _ => rfl)))))))) rfl rfl ⟨rfl, upd4 m2 m4, rfl, rfl, rfl⟩ (fr)⟩
  · have q2 := q2 (upd (upd (M 0) 0 0) 11 0) rfl
    exact ⟨(-1), (upd (X 0) 4 1), (X 9), (X 41), (X 42), (X 43), (X 44), (X 45), (upd (upd (upd (M 0) 0 0) 11 0) 11 1), (M 15), (M 25),
      by rw [fX9_apart, q1, ob2_ss, if_pos i00],
      by rw [fX10_apart, goodS, ob1_ss, q2, ob1_ss, if_pos i00, noS, ob2_ss],
      hI.askF 1 (by decide) rfl rfl rfl (core_up (by decide) (core_up (by decide) (core_up (by decide) (core_up (by decide) (core_up (by decide) (core_eq rfl (core_up (by decide) (fun _ _ => rfl)))))))) rfl rfl ⟨rfl, rfl, rfl, rfl, rfl⟩ (fun k _ => congrFun (updupd _ _ _ _) k)⟩

theorem ok_byGrief {n : Nat} (hn : 2000 ≤ n) {X : Nat → Nat → Int32} {Y : Nat → Int64} {c : Int64} {P : Nat → Nat → Nat → Int32} {M : Nat → Nat → Int32} (hI : INV n X Y c P M) (x1 : Int32) : ∃ r y0 y5 y41 y42 y43 y44 y45 z0 z15 z25, fX9_byGrief n x1 (X 0) (X 5) (X 6) (X 8) (X 9) (X 10) (X 11) (X 12) (X 37) (X 38) (X 39) (X 41) (X 42) (X 43) (X 44) (X 45) = some (r, y0, y5, y41, y42, y43, y44, y45) ∧ fX10_byGrief n x1 (M 0) (M 15) (M 17) (M 25) = some (r, z0, z15, z25) ∧ INV n (va_up (va_up (va_up (va_up (va_up (va_up (va_up X 0 y0) 5 y5) 41 y41) 42 y42) 43 y43) 44 y44) 45 y45) Y c P (va_up (va_up (va_up M 0 z0) 15 z15) 25 z25) := by
  rcases hI.gate with ⟨G, D, T, N, S, hB⟩ | ⟨b1, b2, -, -⟩
  · have b1 := hB.1
    have b2 : upd (upd (M 0) 0 0) 11 0 14 = 1 := hB.2.1
    rcases rng n 0 40 x1 (by omega) (by omega) with ⟨H, -, hH6, hx, i1, w1⟩ | ⟨i1, w1⟩
    · have i1 : fX10_in n x1 0 40 = some 1 := i1
      have w1 : ∀ o, fX9_within n x1 0 40 o = some (1, upd o 4 0) := w1
      subst hx
      obtain ⟨c0, hc1, hc2⟩ := hB.clock
      obtain ⟨E, R, o', w', la', wl', om', st', e1, e2, e3, e4⟩ := now_lock (n := n) (by omega) (hB.G.grief (nI H)) hB.nr hc2 (by omega) hB.2.2.1 (upd (upd (X 0) 4 0) 4 0) (X 41) (X 42) (X 43) (X 44) (upd (upd (M 0) 0 0) 11 0) (M 25)
      have fr : ∀ k, k ≤ 21 → om' k = upd (upd (M 0) 0 0) 11 0 k := fun k hk => e3 k (by omega) (by omega)
      rcases e4 with ⟨e, h1, h2, h3, h4⟩ | ⟨h1, h2⟩
      · subst h2; subst h3
        exact ⟨(nI e), (upd (upd (X 0) 4 0) 4 0), (upd (X 5) 2 (X 5 2)), o', w', la', wl', (X 45), om', (upd (upd (M 15) 2 (nI H)) 2 (M 15 2)), st',
          by rw [fX9_byGrief, asked_y b1, ob2_ss, if_neg i10, w1, ob2_ss, if_neg i10, e1, ob6_ss, orNotS h1, ob1_ss],
          by rw [fX10_byGrief, goodS, ob1_ss, b2, if_neg i10, i1, ob1_ss, if_neg i10, e2, ob3_ss],
          hI.askF 0 (by decide) rfl rfl rfl (core_up (by decide) (core_up (by decide) (core_up (by decide) (core_up (by decide) (core_up (by decide) (core_eq (updself (X 5) 2) (core_up (by decide) (fun _ _ => rfl)))))))) rfl rfl ⟨rfl, updback (M 15) 2 (nI H), rfl, rfl, rfl⟩ (fr)⟩
      · subst h1; subst h2
        exact ⟨(-2), (upd (upd (X 0) 4 0) 4 0), (upd (X 5) 2 (X 5 2)), o', w', la', wl', (X 45), om', (upd (upd (M 15) 2 (nI H)) 2 (M 15 2)), st',
          by rw [fX9_byGrief, asked_y b1, ob2_ss, if_neg i10, w1, ob2_ss, if_neg i10, e1, ob6_ss, orNot61, ob1_ss],
          by rw [fX10_byGrief, goodS, ob1_ss, b2, if_neg i10, i1, ob1_ss, if_neg i10, e2, ob3_ss],
          hI.askF 0 (by decide) rfl rfl rfl (core_up (by decide) (core_up (by decide) (core_up (by decide) (core_up (by decide) (core_up (by decide) (core_eq (updself (X 5) 2) (core_up (by decide) (fun _ _ => rfl)))))))) rfl rfl ⟨rfl, updback (M 15) 2 (nI H), rfl, rfl, rfl⟩ (fr)⟩
    · have i1 : fX10_in n x1 0 40 = some 0 := i1
      have w1 : ∀ o, fX9_within n x1 0 40 o = some (0, upd o 4 2) := w1
      exact ⟨(-1), (upd (upd (X 0) 4 0) 4 2), (X 5), (X 41), (X 42), (X 43), (X 44), (X 45), (upd (upd (upd (M 0) 0 0) 11 0) 11 2), (M 15), (M 25),
        by rw [fX9_byGrief, asked_y b1, ob2_ss, if_neg i10, w1, ob2_ss, if_pos i00],
        by rw [fX10_byGrief, goodS, ob1_ss, b2, if_neg i10, i1, ob1_ss, if_pos i00, noS, ob2_ss],
        hI.askF 2 (by decide) rfl rfl rfl (core_up (by decide) (core_up (by decide) (core_up (by decide) (core_up (by decide) (core_up (by decide) (core_eq rfl (core_up (by decide) (fun _ _ => rfl)))))))) rfl rfl ⟨rfl, rfl, rfl, rfl, rfl⟩ (fun k _ => congrFun (updupd _ _ _ _) k)⟩
  · have b2 : upd (upd (M 0) 0 0) 11 0 14 = 0 := b2
    exact ⟨(-1), (upd (X 0) 4 1), (X 5), (X 41), (X 42), (X 43), (X 44), (X 45), (upd (upd (upd (M 0) 0 0) 11 0) 11 1), (M 15), (M 25),
      by rw [fX9_byGrief, asked_n b1, ob2_ss, if_pos i00],
      by rw [fX10_byGrief, goodS, ob1_ss, b2, if_pos i00, noS, ob2_ss],
      hI.askF 1 (by decide) rfl rfl rfl (core_up (by decide) (core_up (by decide) (core_up (by decide) (core_up (by decide) (core_up (by decide) (core_eq rfl (core_up (by decide) (fun _ _ => rfl)))))))) rfl rfl ⟨rfl, rfl, rfl, rfl, rfl⟩ (fun k _ => congrFun (updupd _ _ _ _) k)⟩

theorem ok_tireFor {n : Nat} (hn : 2000 ≤ n) {X : Nat → Nat → Int32} {Y : Nat → Int64} {c : Int64} {P : Nat → Nat → Nat → Int32} {M : Nat → Nat → Int32} (hI : INV n X Y c P M) (x1 : Int32) : ∃ r y0 y41 y42 y43 y44 y45 z0 z25, fX9_tireFor n x1 (X 0) (X 5) (X 6) (X 8) (X 9) (X 10) (X 11) (X 12) (X 37) (X 38) (X 39) (X 41) (X 42) (X 43) (X 44) (X 45) = some (r, y0, y41, y42, y43, y44, y45) ∧ fX10_tireFor n x1 (M 0) (M 15) (M 17) (M 25) = some (r, z0, z25) ∧ INV n (va_up (va_up (va_up (va_up (va_up (va_up X 0 y0) 41 y41) 42 y42) 43 y43) 44 y44) 45 y45) Y c P (va_up (va_up M 0 z0) 25 z25) := by
  rcases hI.gate with ⟨G, D, T, N, S, hB⟩ | ⟨b1, b2, -, -⟩
  · have b1 := hB.1
    have b2 : upd (upd (M 0) 0 0) 11 0 14 = 1 := hB.2.1
    rcases rng n 0 60 x1 (by omega) (by omega) with ⟨H, -, hH6, hx, i1, w1⟩ | ⟨i1, w1⟩
    · have i1 : fX10_in n x1 0 60 = some 1 := i1
      have w1 : ∀ o, fX9_within n x1 0 60 o = some (1, upd o 4 0) := w1
      subst hx
      obtain ⟨c0, hc1, hc2⟩ := hB.clock
      obtain ⟨R, o', w', la', wl', om', st', e1, e2, e3⟩ := tireFor_lock (n := n) (by omega) hB.G hB.2.2.1 hH6 hB.nr hc2 (by omega) (upd (upd (X 0) 4 0) 4 0) 201 0 n n (X 41) (X 42) (X 43) (X 44) (upd (upd (M 0) 0 0) 11 0) (M 25) (by omega) (by omega) (by omega)
      have e1 : fX9_tireFor_L22 n (nI H) (upd (upd (X 0) 4 0) 4 0) (X 5) (X 6) (X 8) (X 9) (X 10) (X 11) (X 12) (X 37) (X 38) (X 39) (fun o w l v p => some ((-2 : Int32), upd (upd (X 0) 4 0) 4 0, o, w, l, v, p)) n 0 (X 41) (X 42) (X 43) (X 44) (X 45) = _ := e1
      have e2 : fX10_tireFor_L35 n (nI H) (M 15) (M 17) (fun o a => some ((-2 : Int32), o, a)) n 0 (upd (upd (M 0) 0 0) 11 0) (M 25) = _ := e2
      have fr : ∀ k, k ≤ 21 → om' k = upd (upd (M 0) 0 0) 11 0 k := fun k hk => e3 k (by omega) (by omega)
      exact ⟨R, (upd (upd (X 0) 4 0) 4 0), o', w', la', wl', (X 45), om', st',
        by rw [fX9_tireFor, asked_y b1, ob2_ss, if_neg i10, w1, ob2_ss, if_neg i10, e1],
        by rw [fX10_tireFor, goodS, ob1_ss, b2, if_neg i10, i1, ob1_ss, if_neg i10, e2],
        hI.askF 0 (by decide) rfl rfl rfl (core_up (by decide) (core_up (by decide) (core_up (by decide) (core_up (by decide) (core_up (by decide) (core_up (by decide) (fun _ _ => rfl))))))) rfl rfl ⟨rfl, rfl, rfl, rfl, rfl⟩ (fr)⟩
    · have i1 : fX10_in n x1 0 60 = some 0 := i1
      have w1 : ∀ o, fX9_within n x1 0 60 o = some (0, upd o 4 2) := w1
      exact ⟨(-1), (upd (upd (X 0) 4 0) 4 2), (X 41), (X 42), (X 43), (X 44), (X 45), (upd (upd (upd (M 0) 0 0) 11 0) 11 2), (M 25),
        by rw [fX9_tireFor, asked_y b1, ob2_ss, if_neg i10, w1, ob2_ss, if_pos i00],
        by rw [fX10_tireFor, goodS, ob1_ss, b2, if_neg i10, i1, ob1_ss, if_pos i00, noS, ob2_ss],
        hI.askF 2 (by decide) rfl rfl rfl (core_up (by decide) (core_up (by decide) (core_up (by decide) (core_up (by decide) (core_up (by decide) (core_up (by decide) (fun _ _ => rfl))))))) rfl rfl ⟨rfl, rfl, rfl, rfl, rfl⟩ (fun k _ => congrFun (updupd _ _ _ _) k)⟩
  · have b2 : upd (upd (M 0) 0 0) 11 0 14 = 0 := b2
    exact ⟨(-1), (upd (X 0) 4 1), (X 41), (X 42), (X 43), (X 44), (X 45), (upd (upd (upd (M 0) 0 0) 11 0) 11 1), (M 25),
      by rw [fX9_tireFor, asked_n b1, ob2_ss, if_pos i00],
      by rw [fX10_tireFor, goodS, ob1_ss, b2, if_pos i00, noS, ob2_ss],
      hI.askF 1 (by decide) rfl rfl rfl (core_up (by decide) (core_up (by decide) (core_up (by decide) (core_up (by decide) (core_up (by decide) (core_up (by decide) (fun _ _ => rfl))))))) rfl rfl ⟨rfl, rfl, rfl, rfl, rfl⟩ (fun k _ => congrFun (updupd _ _ _ _) k)⟩

theorem ok_endsWithout {n : Nat} (hn : 2000 ≤ n) {X : Nat → Nat → Int32} {Y : Nat → Int64} {c : Int64} {P : Nat → Nat → Nat → Int32} {M : Nat → Nat → Int32} (hI : INV n X Y c P M) (x1 : Int32) : ∃ r y0 y41 y42 y43 y44 y45 z0 z25, fX9_endsWithout n x1 (X 0) (X 5) (X 6) (X 8) (X 9) (X 10) (X 11) (X 12) (X 37) (X 38) (X 39) (X 41) (X 42) (X 43) (X 44) (X 45) = some (r, y0, y41, y42, y43, y44, y45) ∧ fX10_endsWithout n x1 (M 0) (M 15) (M 17) (M 25) = some (r, z0, z25) ∧ INV n (va_up (va_up (va_up (va_up (va_up (va_up X 0 y0) 41 y41) 42 y42) 43 y43) 44 y44) 45 y45) Y c P (va_up (va_up M 0 z0) 25 z25) := by
  rcases hI.gateP x1 with ⟨G, D, T, N, S, g, hB, hg, hx1, hb, q1, q2⟩ | ⟨t, ht4, ht0, q1, q2⟩
  · have hG : G ≤ 7 := hB.G.1
    have q2 := q2 (upd (upd (M 0) 0 0) 11 0) rfl
    subst hx1
    obtain ⟨c0, hc1, hc2⟩ := hB.clock
    obtain ⟨v, hv, cls, mdl⟩ := less_spec (n := n) (by omega) hB.G hB.2.2.1 hB.nr hB.set hc2 (by omega) (who := (1 : Int32) <<< (nI g &&& 31)) (bit_lt hG hg)
    obtain ⟨o', w', la', wl', e1⟩ := cls 60 (by omega) (upd (X 0) 4 0) (X 41) (X 42) (X 43) (X 44)
    have e1 : fX9_endsLess n ((1 : Int32) <<< (nI g &&& 31)) 60 (upd (X 0) 4 0) (X 5) (X 6) (X 8) (X 9) (X 10) (X 11) (X 12) (X 37) (X 38) (X 39) (X 41) (X 42) (X 43) (X 44) (X 45) = _ := e1
    obtain ⟨om', st', e2, e3⟩ := mdl (upd (upd (M 0) 0 0) 11 0) (M 25)
    have fr : ∀ k, k ≤ 21 → om' k = upd (upd (M 0) 0 0) 11 0 k := fun k hk => e3 k (by omega) (by omega)
    rcases encR60 hv with ⟨e, h1, r1, r2⟩ | ⟨r1, r2⟩
    · rw [r1] at e1; rw [r2] at e2
      exact ⟨(nI e), (upd (X 0) 4 0), o', w', la', wl', (X 45), om', st',
        by rw [fX9_endsWithout, q1, ob2_ss, if_neg i10, e1, ob6_ss, orNotS h1, ob1_ss],
        by rw [fX10_endsWithout, goodS, ob1_ss, q2, ob1_ss, if_pos i00, e2, ob3_ss],
        hI.askF 0 (by decide) rfl rfl rfl (core_up (by decide) (core_up (by decide) (core_up (by decide) (core_up (by decide) (core_up (by decide) (core_up (by decide) (fun _ _ => rfl))))))) rfl rfl ⟨rfl, rfl, rfl, rfl, rfl⟩ (fr)⟩
    · rw [r1] at e1; rw [r2] at e2
      exact ⟨(-2), (upd (X 0) 4 0), o', w', la', wl', (X 45), om', st',
        by rw [fX9_endsWithout, q1, ob2_ss, if_neg i10, e1, ob6_ss, orNot61, ob1_ss],
        by rw [fX10_endsWithout, goodS, ob1_ss, q2, ob1_ss, if_pos i00, e2, ob3_ss],
        hI.askF 0 (by decide) rfl rfl rfl (core_up (by decide) (core_up (by decide) (core_up (by decide) (core_up (by decide) (core_up (by decide) (core_up (by decide) (fun _ _ => rfl))))))) rfl rfl ⟨rfl, rfl, rfl, rfl, rfl⟩ (fr)⟩
  · have q2 := q2 (upd (upd (M 0) 0 0) 11 0) rfl
    exact ⟨(-1), (upd (X 0) 4 t), (X 41), (X 42), (X 43), (X 44), (X 45), (upd (upd (upd (M 0) 0 0) 11 0) 11 t), (M 25),
      by rw [fX9_endsWithout, q1, ob2_ss, if_pos i00],
      by rw [fX10_endsWithout, goodS, ob1_ss, q2, ob1_ss, if_neg ht0, ob1_ss, noS, ob2_ss],
      hI.askF t ht4 rfl rfl rfl (core_up (by decide) (core_up (by decide) (core_up (by decide) (core_up (by decide) (core_up (by decide) (core_up (by decide) (fun _ _ => rfl))))))) rfl rfl ⟨rfl, rfl, rfl, rfl, rfl⟩ (fun k _ => congrFun (updupd _ _ _ _) k)⟩

theorem ok_endsWithCup {n : Nat} (hn : 2000 ≤ n) {X : Nat → Nat → Int32} {Y : Nat → Int64} {c : Int64} {P : Nat → Nat → Nat → Int32} {M : Nat → Nat → Int32} (hI : INV n X Y c P M) (x1 : Int32) : ∃ r y0 y41 y42 y43 y44 y45 z0 z25, fX9_endsWithCup n x1 (X 0) (X 5) (X 6) (X 8) (X 9) (X 10) (X 11) (X 12) (X 37) (X 38) (X 39) (X 41) (X 42) (X 43) (X 44) (X 45) = some (r, y0, y41, y42, y43, y44, y45) ∧ fX10_endsWithCup n x1 (M 0) (M 15) (M 17) (M 25) = some (r, z0, z25) ∧ INV n (va_up (va_up (va_up (va_up (va_up (va_up X 0 y0) 41 y41) 42 y42) 43 y43) 44 y44) 45 y45) Y c P (va_up (va_up M 0 z0) 25 z25) := by
  rcases hI.gateP x1 with ⟨G, D, T, N, S, g, hB, hg, hx1, hb, q1, q2⟩ | ⟨t, ht4, ht0, q1, q2⟩
  · have hG : G ≤ 7 := hB.G.1
    have q2 := q2 (upd (upd (M 0) 0 0) 11 0) rfl
    subst hx1
    obtain ⟨c0, hc1, hc2⟩ := hB.clock
    obtain ⟨-, h1G, hT4, hN5, hS6, x50, x51, x58, x59, x513, r6, x150, r7, x153, r8, bc, bw, bg, bp, ew, bwt, bk, bs, inv, bdm, unq, etl, bth, btt, end_, bnh, esi, bsi⟩ := hB.2.2.2.2.1
    obtain ⟨v, hv, cls, mdl⟩ := woken_spec (n := n) (by omega) hB.G x51 hB.2.2.1 hB.nr hc2 (by omega) hg
    obtain ⟨o', w', la', wl', e1⟩ := cls (upd (X 0) 4 0) (X 41) (X 42) (X 43) (X 44)
    obtain ⟨om', st', e2, e3⟩ := mdl (upd (upd (M 0) 0 0) 11 0) (M 25)
    have fr : ∀ k, k ≤ 21 → om' k = upd (upd (M 0) 0 0) 11 0 k := fun k hk => e3 k (by omega) (by omega)
    rcases encR60 hv with ⟨e, h1, r1, r2⟩ | ⟨r1, r2⟩
    · rw [r1] at e1; rw [r2] at e2
      exact ⟨(nI e), (upd (X 0) 4 0), o', w', la', wl', (X 45), om', st',
        by rw [fX9_endsWithCup, q1, ob2_ss, if_neg i10, e1, ob6_ss, orNotS h1, ob1_ss],
        by rw [fX10_endsWithCup, goodS, ob1_ss, q2, ob1_ss, if_pos i00, e2, ob3_ss],
        hI.askF 0 (by decide) rfl rfl rfl (core_up (by decide) (core_up (by decide) (core_up (by decide) (core_up (by decide) (core_up (by decide) (core_up (by decide) (fun _ _ => rfl))))))) rfl rfl ⟨rfl, rfl, rfl, rfl, rfl⟩ (fr)⟩
    · rw [r1] at e1; rw [r2] at e2
      exact ⟨(-2), (upd (X 0) 4 0), o', w', la', wl', (X 45), om', st',
        by rw [fX9_endsWithCup, q1, ob2_ss, if_neg i10, e1, ob6_ss, orNot61, ob1_ss],
        by rw [fX10_endsWithCup, goodS, ob1_ss, q2, ob1_ss, if_pos i00, e2, ob3_ss],
        hI.askF 0 (by decide) rfl rfl rfl (core_up (by decide) (core_up (by decide) (core_up (by decide) (core_up (by decide) (core_up (by decide) (core_up (by decide) (fun _ _ => rfl))))))) rfl rfl ⟨rfl, rfl, rfl, rfl, rfl⟩ (fr)⟩
  · have q2 := q2 (upd (upd (M 0) 0 0) 11 0) rfl
    exact ⟨(-1), (upd (X 0) 4 t), (X 41), (X 42), (X 43), (X 44), (X 45), (upd (upd (upd (M 0) 0 0) 11 0) 11 t), (M 25),
      by rw [fX9_endsWithCup, q1, ob2_ss, if_pos i00],
      by rw [fX10_endsWithCup, goodS, ob1_ss, q2, ob1_ss, if_neg ht0, ob1_ss, noS, ob2_ss],
      hI.askF t ht4 rfl rfl rfl (core_up (by decide) (core_up (by decide) (core_up (by decide) (core_up (by decide) (core_up (by decide) (core_up (by decide) (fun _ _ => rfl))))))) rfl rfl ⟨rfl, rfl, rfl, rfl, rfl⟩ (fun k _ => congrFun (updupd _ _ _ _) k)⟩

theorem ok_bestCup {n : Nat} (hn : 2000 ≤ n) {X : Nat → Nat → Int32} {Y : Nat → Int64} {c : Int64} {P : Nat → Nat → Nat → Int32} {M : Nat → Nat → Int32} (hI : INV n X Y c P M) : ∃ r y0 y41 y42 y43 y44 y45 z0 z25, fX9_bestCup n (X 0) (X 5) (X 6) (X 8) (X 9) (X 10) (X 11) (X 12) (X 37) (X 38) (X 39) (X 41) (X 42) (X 43) (X 44) (X 45) = some (r, y0, y41, y42, y43, y44, y45) ∧ fX10_bestCup n (M 0) (M 15) (M 17) (M 25) = some (r, z0, z25) ∧ INV n (va_up (va_up (va_up (va_up (va_up (va_up X 0 y0) 41 y41) 42 y42) 43 y43) 44 y44) 45 y45) Y c P (va_up (va_up M 0 z0) 25 z25) := by
  rcases hI.gate with ⟨G, D, T, N, S, hB⟩ | ⟨b1, b2, -, -⟩
  · have b1 := hB.1
    have b2 : upd (upd (M 0) 0 0) 11 0 14 = 1 := hB.2.1
    obtain ⟨c0, hc1, hc2⟩ := hB.clock
    obtain ⟨-, h1G, hT4, hN5, hS6, x50, x51, x58, x59, x513, r6, x150, r7, x153, r8, bc, bw, bg, bp, ew, bwt, bk, bs, inv, bdm, unq, etl, bth, btt, end_, bnh, esi, bsi⟩ := hB.2.2.2.2.1
    have hG : G ≤ 7 := hB.G.1
    obtain ⟨a', o', w', la', wl', om', st', e1, e2, e3⟩ := bestCup_lock (n := n) (by omega) hB.G x51 hB.2.2.1 hB.nr hc2 (by omega) (upd (X 0) 4 0) (fun a o w l v p => some (a, upd (X 0) 4 0, o, w, l, v, p)) (fun a o s => some (a, o, s)) G 0 n n (-2) (-1) (-1) (X 41) (X 42) (X 43) (X 44) (upd (upd (M 0) 0 0) 11 0) (M 25) (by omega) (by omega) (by omega) (Or.inl ⟨rfl, rfl⟩)
    have e1 : fX9_bestCup_L16 n (upd (X 0) 4 0) (X 5) (X 6) (X 8) (X 9) (X 10) (X 11) (X 12) (X 37) (X 38) (X 39) (fun a o w l v p => some (a, upd (X 0) 4 0, o, w, l, v, p)) n (-1) (-2) 0 (X 41) (X 42) (X 43) (X 44) (X 45) = _ := e1
    have e2 : fX10_bestCup_L24 n (M 15) (M 17) (fun a o s => some (a, o, s)) n (-2) (-1) 0 (upd (upd (M 0) 0 0) 11 0) (M 25) = _ := e2
    have fr : ∀ k, k ≤ 21 → om' k = upd (upd (M 0) 0 0) 11 0 k := fun k hk => e3 k (by omega) (by omega)
    exact ⟨a', (upd (X 0) 4 0), o', w', la', wl', (X 45), om', st',
      by rw [fX9_bestCup, asked_y b1, ob2_ss, if_neg i10, e1],
      by rw [fX10_bestCup, goodS, ob1_ss, b2, if_neg i10, e2],
      hI.askF 0 (by decide) rfl rfl rfl (core_up (by decide) (core_up (by decide) (core_up (by decide) (core_up (by decide) (core_up (by decide) (core_up (by decide) (fun _ _ => rfl))))))) rfl rfl ⟨rfl, rfl, rfl, rfl, rfl⟩ (fr)⟩
  · have b2 : upd (upd (M 0) 0 0) 11 0 14 = 0 := b2
    exact ⟨(-1), (upd (X 0) 4 1), (X 41), (X 42), (X 43), (X 44), (X 45), (upd (upd (upd (M 0) 0 0) 11 0) 11 1), (M 25),
      by rw [fX9_bestCup, asked_n b1, ob2_ss, if_pos i00],
      by rw [fX10_bestCup, goodS, ob1_ss, b2, if_pos i00, noS, ob2_ss],
      hI.askF 1 (by decide) rfl rfl rfl (core_up (by decide) (core_up (by decide) (core_up (by decide) (core_up (by decide) (core_up (by decide) (core_up (by decide) (fun _ _ => rfl))))))) rfl rfl ⟨rfl, rfl, rfl, rfl, rfl⟩ (fun k _ => congrFun (updupd _ _ _ _) k)⟩

theorem ok_holder {n : Nat} (hn : 2000 ≤ n) {X : Nat → Nat → Int32} {Y : Nat → Int64} {c : Int64} {P : Nat → Nat → Nat → Int32} {M : Nat → Nat → Int32} (hI : INV n X Y c P M) : ∃ r y0 y41 y42 y43 y44 y45 z0 z25, fX9_holder n (X 0) (X 5) (X 6) (X 8) (X 9) (X 10) (X 11) (X 12) (X 37) (X 38) (X 39) (X 41) (X 42) (X 43) (X 44) (X 45) = some (r, y0, y41, y42, y43, y44, y45) ∧ fX10_holder n (M 0) (M 15) (M 17) (M 25) = some (r, z0, z25) ∧ INV n (va_up (va_up (va_up (va_up (va_up (va_up X 0 y0) 41 y41) 42 y42) 43 y43) 44 y44) 45 y45) Y c P (va_up (va_up M 0 z0) 25 z25) := by
  rcases hI.gate with ⟨G, D, T, N, S, hB⟩ | ⟨b1, b2, -, -⟩
  · have b1 := hB.1
    have b2 : upd (upd (M 0) 0 0) 11 0 14 = 1 := hB.2.1
    obtain ⟨c0, hc1, hc2⟩ := hB.clock
    obtain ⟨E, R, o', w', la', wl', om', st', e1, e2, e3, e4⟩ := now_lock (n := n) (by omega) hB.G hB.nr hc2 (by omega) hB.2.2.1 (upd (X 0) 4 0) (X 41) (X 42) (X 43) (X 44) (upd (upd (M 0) 0 0) 11 0) (M 25)
    have fr : ∀ k, k ≤ 21 → om' k = upd (upd (M 0) 0 0) 11 0 k := fun k hk => e3 k (by omega) (by omega)
    have hG : G ≤ 7 := hB.G.1
    rcases e4 with ⟨e, h1, h2, h3, h4⟩ | ⟨h1, h2⟩
    · subst h2; subst h3
      obtain ⟨E2, R2, q1, q2, q3, q4, om1, st1, z1, z2, z3, z4⟩ := now_lock (n := n) (by omega) hB.G hB.nr hc2 (by omega) hB.2.2.1 (upd (X 0) 4 0) (X 41) (X 42) (X 43) (X 44) om' st'
      have eR : R2 = nI e := (Prod.mk.inj (Option.some.inj (z1.symm.trans e1))).1
      have eE : E2 = nI e := by
        rcases z4 with ⟨e', -, y2, y3, -⟩ | ⟨-, y2⟩
        · rw [y2, ← y3, eR]
        · exact absurd (eR.symm.trans y2) ((by decide +kernel : ∀ e, e ≤ 60 → nI e ≠ (61 : Int32)) e h1)
      subst eE
      obtain ⟨a', o2, w2, la2, wl2, om2, st2, f1, f2, f3⟩ := holder_lock (n := n) (by omega) hB.G hB.2.2.1 hB.nr hB.set hc2 (by omega) (upd (X 0) 4 0) (fun a o w l v p => some (a, upd (X 0) 4 0, o, w, l, v, p)) (fun a o s => some (a, o, s)) G 0 n n (-2) (nI e) (nI e) o' w' la' wl' om1 st1 (by omega) (by omega) (by omega) (Or.inl ⟨e, h1, rfl, rfl⟩)
      have f1 : fX9_holder_L19 n (upd (X 0) 4 0) (X 5) (X 6) (X 8) (X 9) (X 10) (X 11) (X 12) (X 37) (X 38) (X 39) (fun a o w l v p => some (a, upd (X 0) 4 0, o, w, l, v, p)) n (nI e) (-2) 0 o' w' la' wl' (X 45) = _ := f1
      have f2 : fX10_holder_L40 n (M 15) (M 17) (fun a o s => some (a, o, s)) n (-2) (nI e) 0 om1 st1 = _ := f2
      have fr2 : ∀ k, k ≤ 21 → om2 k = upd (upd (M 0) 0 0) 11 0 k := fun k hk => (f3 k (by omega) (by omega)).trans ((z3 k (by omega) (by omega)).trans (fr k hk))
      exact ⟨a', (upd (X 0) 4 0), o2, w2, la2, wl2, (X 45), om2, st2,
        by rw [fX9_holder, asked_y b1, ob2_ss, if_neg i10, e1, ob6_ss, f1],
        by rw [fX10_holder, goodS, ob1_ss, b2, if_neg i10, e2, ob3_ss, if_pos (nI_pos' (by omega)), z2, ob3_ss, f2],
        hI.askF 0 (by decide) rfl rfl rfl (core_up (by decide) (core_up (by decide) (core_up (by decide) (core_up (by decide) (core_up (by decide) (core_up (by decide) (fun _ _ => rfl))))))) rfl rfl ⟨rfl, rfl, rfl, rfl, rfl⟩ (fr2)⟩
    · subst h1; subst h2
      obtain ⟨a', o2, w2, la2, wl2, om2, st2, f1, f2, f3⟩ := holder_lock (n := n) (by omega) hB.G hB.2.2.1 hB.nr hB.set hc2 (by omega) (upd (X 0) 4 0) (fun a o w l v p => some (a, upd (X 0) 4 0, o, w, l, v, p)) (fun a o s => some (a, o, s)) G 0 n n (-2) 61 1000000 o' w' la' wl' om' st' (by omega) (by omega) (by omega) (Or.inr ⟨rfl, rfl⟩)
      have f1 : fX9_holder_L19 n (upd (X 0) 4 0) (X 5) (X 6) (X 8) (X 9) (X 10) (X 11) (X 12) (X 37) (X 38) (X 39) (fun a o w l v p => some (a, upd (X 0) 4 0, o, w, l, v, p)) n 61 (-2) 0 o' w' la' wl' (X 45) = _ := f1
      have f2 : fX10_holder_L40 n (M 15) (M 17) (fun a o s => some (a, o, s)) n (-2) 1000000 0 om' st' = _ := f2
      have fr2 : ∀ k, k ≤ 21 → om2 k = upd (upd (M 0) 0 0) 11 0 k := fun k hk => (f3 k (by omega) (by omega)).trans (fr k hk)
      exact ⟨a', (upd (X 0) 4 0), o2, w2, la2, wl2, (X 45), om2, st2,
        by rw [fX9_holder, asked_y b1, ob2_ss, if_neg i10, e1, ob6_ss, f1],
        by rw [fX10_holder, goodS, ob1_ss, b2, if_neg i10, e2, ob3_ss, if_neg (by decide), f2],
        hI.askF 0 (by decide) rfl rfl rfl (core_up (by decide) (core_up (by decide) (core_up (by decide) (core_up (by decide) (core_up (by decide) (core_up (by decide) (fun _ _ => rfl))))))) rfl rfl ⟨rfl, rfl, rfl, rfl, rfl⟩ (fr2)⟩
  · have b2 : upd (upd (M 0) 0 0) 11 0 14 = 0 := b2
    exact ⟨(-1), (upd (X 0) 4 1), (X 41), (X 42), (X 43), (X 44), (X 45), (upd (upd (upd (M 0) 0 0) 11 0) 11 1), (M 25),
      by rw [fX9_holder, asked_n b1, ob2_ss, if_pos i00],
      by rw [fX10_holder, goodS, ob1_ss, b2, if_pos i00, noS, ob2_ss],
      hI.askF 1 (by decide) rfl rfl rfl (core_up (by decide) (core_up (by decide) (core_up (by decide) (core_up (by decide) (core_up (by decide) (core_up (by decide) (fun _ _ => rfl))))))) rfl rfl ⟨rfl, rfl, rfl, rfl, rfl⟩ (fun k _ => congrFun (updupd _ _ _ _) k)⟩

theorem ok_without {n : Nat} (hn : 2000 ≤ n) {X : Nat → Nat → Int32} {Y : Nat → Int64} {c : Int64} {P : Nat → Nat → Nat → Int32} {M : Nat → Nat → Int32} (hI : INV n X Y c P M) (x1 : Int32) : ∃ r y0 y41 y42 y43 y44 y45 z0 z25, fX9_without n x1 (X 0) (X 5) (X 6) (X 8) (X 9) (X 10) (X 11) (X 12) (X 37) (X 38) (X 39) (X 41) (X 42) (X 43) (X 44) (X 45) = some (r, y0, y41, y42, y43, y44, y45) ∧ fX10_without n x1 (M 0) (M 15) (M 17) (M 25) = some (r, z0, z25) ∧ INV n (va_up (va_up (va_up (va_up (va_up (va_up X 0 y0) 41 y41) 42 y42) 43 y43) 44 y44) 45 y45) Y c P (va_up (va_up M 0 z0) 25 z25) := by
  rcases hI.gate with ⟨G, D, T, N, S, hB⟩ | ⟨b1, b2, -, -⟩
  · have b1 := hB.1
    have b2 : upd (upd (M 0) 0 0) 11 0 14 = 1 := hB.2.1
    rcases rng n 0 60 x1 (by omega) (by omega) with ⟨H, -, hH6, hx, i1, w1⟩ | ⟨i1, w1⟩
    · have i1 : fX10_in n x1 0 60 = some 1 := i1
      have w1 : ∀ o, fX9_within n x1 0 60 o = some (1, upd o 4 0) := w1
      subst hx
      obtain ⟨c0, hc1, hc2⟩ := hB.clock
      obtain ⟨R, o', w', la', wl', om', st', e1, e2, e3⟩ := without_lock (n := n) (by omega) hB.G hB.2.2.1 hH6 hB.nr hB.set hc2 (by omega) (upd (upd (X 0) 4 0) 4 0) (X 41) (X 42) (X 43) (X 44) (upd (upd (M 0) 0 0) 11 0) (M 25)
      have fr : ∀ k, k ≤ 21 → om' k = upd (upd (M 0) 0 0) 11 0 k := fun k hk => e3 k (by omega) (by omega)
      exact ⟨R, (upd (upd (X 0) 4 0) 4 0), o', w', la', wl', (X 45), om', st',
        by rw [fX9_without, asked_y b1, ob2_ss, if_neg i10, w1, ob2_ss, if_neg i10, e1],
        by rw [fX10_without, goodS, ob1_ss, b2, if_neg i10, i1, ob1_ss, if_neg i10, th0 (by omega) hB.G.1 hB.G.2.2.1 hB.nr, ob1_ss, e2],
        hI.askF 0 (by decide) rfl rfl rfl (core_up (by decide) (core_up (by decide) (core_up (by decide) (core_up (by decide) (core_up (by decide) (core_up (by decide) (fun _ _ => rfl))))))) rfl rfl ⟨rfl, rfl, rfl, rfl, rfl⟩ (fr)⟩
    · have i1 : fX10_in n x1 0 60 = some 0 := i1
      have w1 : ∀ o, fX9_within n x1 0 60 o = some (0, upd o 4 2) := w1
      exact ⟨(-1), (upd (upd (X 0) 4 0) 4 2), (X 41), (X 42), (X 43), (X 44), (X 45), (upd (upd (upd (M 0) 0 0) 11 0) 11 2), (M 25),
        by rw [fX9_without, asked_y b1, ob2_ss, if_neg i10, w1, ob2_ss, if_pos i00],
        by rw [fX10_without, goodS, ob1_ss, b2, if_neg i10, i1, ob1_ss, if_pos i00, noS, ob2_ss],
        hI.askF 2 (by decide) rfl rfl rfl (core_up (by decide) (core_up (by decide) (core_up (by decide) (core_up (by decide) (core_up (by decide) (core_up (by decide) (fun _ _ => rfl))))))) rfl rfl ⟨rfl, rfl, rfl, rfl, rfl⟩ (fun k _ => congrFun (updupd _ _ _ _) k)⟩
  · have b2 : upd (upd (M 0) 0 0) 11 0 14 = 0 := b2
    exact ⟨(-1), (upd (X 0) 4 1), (X 41), (X 42), (X 43), (X 44), (X 45), (upd (upd (upd (M 0) 0 0) 11 0) 11 1), (M 25),
      by rw [fX9_without, asked_n b1, ob2_ss, if_pos i00],
      by rw [fX10_without, goodS, ob1_ss, b2, if_pos i00, noS, ob2_ss],
      hI.askF 1 (by decide) rfl rfl rfl (core_up (by decide) (core_up (by decide) (core_up (by decide) (core_up (by decide) (core_up (by decide) (core_up (by decide) (fun _ _ => rfl))))))) rfl rfl ⟨rfl, rfl, rfl, rfl, rfl⟩ (fun k _ => congrFun (updupd _ _ _ _) k)⟩
