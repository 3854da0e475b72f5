/-! the calls about tales -/
/-- INV anew, of a begun evening, with an answer of trouble -/
theorem INV.anewt {n G D T N S : Nat} {X X' : Nat → Nat → Int32} {Y Y' : Nat → Int64} {c c' : Int64} {P P' : Nat → Nat → Nat → Int32} {M M' : Nat → Nat → Int32} (h : INV n X Y c P M) (hB : NOW G D T N S X M) (t : Int32) (ht : t ≠ 4) (hX : ∀ k ∈ hcore, X' k = X k) (x3 : X' 0 3 = X 0 3) (x11 : X' 0 11 = X 0 11) (x4 : X' 0 4 = t) (h45 : X' 45 0 = X 45 0) (h46 : X' 46 0 = X 46 0)
    (hM : M' 1 = M 1 ∧ M' 15 = M 15 ∧ M' 17 = M 17 ∧ M' 18 = M 18 ∧ M' 19 = M 19) (fr : ∀ k, k ≤ 21 → M' 0 k = upd (upd (M 0) 0 0) 11 t k) (h37 : X' 37 = X 37 ∧ X' 38 = X 38 ∧ X' 39 = X 39 ∧ X' 47 = X 47) (hPP : P' 0 = P 0 ∧ P' 1 = P 1 ∧ P' 2 = P 2 ∧ P' 4 = P 4 ∧ P' 5 = P 5 ∧ P' 6 = P 6)
    (hC : CACHE n (X' 48) (X' 49) (X' 55) (X' 56) (X' 57) (X' 63) (X' 64) (M 15) (M 17)) : INV n X' Y' c' P' M' := by
  have e : ∀ k, k ∈ hcore → X' k = X k := hX
  obtain ⟨z1, z2, z3⟩ := hB.more h
  obtain ⟨a1, ⟨Tp, t1, t2, t3, t4⟩, a3, a4, a5, a6, -⟩ := h
  obtain ⟨m1, m15, m17, m18, m19⟩ := hM
  obtain ⟨nx, u, c4, c5, c6, c7, c8, c9⟩ := z1
  obtain ⟨v, c10, c11, c12, c13⟩ := z2
  refine ⟨x4.trans (fr 11 (by decide)).symm, ⟨Tp, t1, by rw [e 1 (by decide)]; exact t2, by rw [fr 2 (by decide)]; exact t3, fun i hi => by rw [e 2 (by decide), m1]; exact t4 i hi⟩, by rw [e 1 (by decide), fr 9 (by decide)]; exact a3, fun q => absurd (x4.symm.trans q) ht, h45.trans a5, h46.trans a6, Or.inl ⟨x3.trans hB.1, (fr 14 (by decide)).trans hB.2.1, G, D, T, N, S, nx, u, v, ?_, ?_, ?_, c4, c5, by rw [h37.2.2.2]; exact c6, by rw [h37.2.2.2]; exact c7, (fr 20 (by decide)).trans c8, ?_, c10, x11.trans c11, (fr 21 (by decide)).trans c12, ?_⟩⟩
  · rw [m15]; exact hB.2.2.2.2.1.cg hX
  · rw [e 6 (by decide), e 10 (by decide), e 11 (by decide), e 12 (by decide), h37.1, h37.2.1, h37.2.2.1, m17]; exact hB.2.2.2.2.2
  · rw [m15, m17]; exact hC
  · rw [e 6 (by decide), e 10 (by decide), e 11 (by decide), e 12 (by decide), m18, hPP.1, hPP.2.1, hPP.2.2.1]; exact c9
  · rw [e 6 (by decide), e 10 (by decide), e 11 (by decide), e 12 (by decide), m19, hPP.2.2.2.1, hPP.2.2.2.2.1, hPP.2.2.2.2.2]; exact c13
theorem upself8 (P : Nat → Nat → Nat → Int32) : va_up (va_up (va_up (va_up P 8 (P 8)) 9 (P 9)) 10 (P 10)) 11 (P 11) = P := by rw [upself, upself, upself, upself]
theorem orNotT {n h : Nat} (hh : h ≤ 60) {v : Option Nat} (hv : ∀ e, v = some e → e ≤ 60) : fX9_orNot n (nI h + encR (60 - h) v) = some (encT (totv h v)) := by
  have l60 : (60 : Int32) = nI 60 := rfl
  have l61 : (61 : Int32) = nI 61 := rfl
  have no : ¬ nI h + 61 ≤ 60 := by rw [l61, l60, addI]; exact nI_ge (by omega) (by omega)
  rw [fX9_orNot]
  cases v with
  | none => rw [encR, if_neg no]; rfl
  | some e =>
    have := hv e rfl
    rw [encR, totv]
    by_cases q : e ≤ 60 - h
    · rw [if_pos q, if_pos (show h + e ≤ 60 by omega), addI, l60, if_pos (nI_le (a := h + e) (by omega) (by omega)), encT, if_pos (by omega)]
    · rw [if_neg q, if_neg (show ¬ h + e ≤ 60 by omega), if_neg no]; rfl

theorem ok_endsWithTale {n : Nat} (hn : 2000 ≤ n) {X : Nat → Nat → Int32} {Y : Nat → Int64} {c : Int64} {P : Nat → Nat → Nat → Int32} {M : Nat → Nat → Int32} (hI : INV n X Y c P M) (x1 : Int32) : ∃ r y0 y41 y42 y43 y44 y45 z0 z25 z26, fX9_endsWithTale n x1 (X 0) (X 5) (X 6) (X 8) (X 9) (X 10) (X 11) (X 12) (X 13) (X 14) (X 37) (X 38) (X 39) (X 41) (X 42) (X 43) (X 44) (X 45) = some (r, y0, y41, y42, y43, y44, y45) ∧ fX10_endsWithTale n x1 (M 0) (M 15) (M 17) (M 25) (M 26) = some (r, z0, z25, z26) ∧ INV n (va_up (va_up (va_up (va_up (va_up (va_up X 0 y0) 41 y41) 42 y42) 43 y43) 44 y44) 45 y45) Y c P (va_up (va_up (va_up M 0 z0) 25 z25) 26 z26) := by
  rcases hI.gateT x1 with ⟨G, D, T, N, S, t, hB, ht, hx1, q1, q2⟩ | ⟨q1, q2⟩
  · have hG : G ≤ 7 := hB.G.1
    have b2 : upd (upd (M 0) 0 0) 11 0 14 = 1 := hB.2.1
    subst hx1
    obtain ⟨-, h1G, hT4, hN5, hS6, x50, x51, x58, x59, x513, r6, x150, r7, x153, r8, bc, bw, bg, bp, ew, bwt, bk, bs, inv, bdm, unq, etl, bth, btt, end_, bnh, esi, bsi⟩ := hB.2.2.2.2.1
    obtain ⟨c0, hc1, hc2⟩ := hB.clock
    obtain ⟨h, h1, h3, hrt⟩ := bth t ht
    have e13 : X 13 t = nI h := (etl t ht).1.trans hrt
    have o3 : X 37 3 = M 17 16 := hB.2.2.2.2.2.2.2.1
    by_cases hbt : bt (M 17 16) t = true
    · exact ⟨(-1), (upd (upd (X 0) 4 0) 4 5), (X 41), (X 42), (X 43), (X 44), (X 45), (upd (upd (upd (M 0) 0 0) 11 0) 11 5), (M 25), (M 26),
        by rw [fX9_endsWithTale, q1, ob2_ss, if_neg i10, wasToldS n (X 37) (by omega), o3, if_pos hbt, ob1_ss, if_neg i10, refuseS, ob2_ss],
        by rw [fX10_endsWithTale, goodS, ob1_ss, b2, if_neg i10, q2, ob1_ss, if_neg i10, hasBitS n (M 17 16) (by omega), if_pos hbt, ob1_ss, if_neg i10, noS, ob2_ss],
        hI.askF 5 (by decide) rfl rfl rfl (core_up (by decide) (core_up (by decide) (core_up (by decide) (core_up (by decide) (core_up (by decide) (core_up (by decide) (fun _ _ => rfl))))))) rfl rfl ⟨rfl, rfl, rfl, rfl, rfl⟩ (fun k _ => congrFun (updupd _ _ _ _) k)⟩
    · obtain ⟨j0, hj, ej⟩ := told_num hT4 hB.2.2.2.2.2.2.2.2.1
      have h16 := pow4 T hT4
      have hok : okl T j0 [t] := ⟨trivial, ht, by
        show j0 / 2 ^ t % 2 = 0
        have := (bit_bt j0 (by omega) t (by omega))
        rw [← ej] at this
        have z : ¬ j0 / 2 ^ t % 2 = 1 := fun q => hbt (this.mpr q)
        omega⟩
      obtain ⟨R, o1, w1, la1, wl1, s1, s2, -⟩ := ((qt_spec (n := n) (p := []) (by omega) hB.2.2.2.2.1 hj hB.2.2.1 (q0 := (X 37, X 38, X 39, M 17)) hB.nr hc2 (by omega) trivial).2 t hok).2.2.1 (upd (upd (upd (upd (X 41) 0 (X 37 0)) 1 (X 37 1)) 2 (X 37 2)) 3 (X 37 3)) (va_cpy (X 38) (X 42) 0 0 7) (va_cpy (X 39) (X 43) 0 0 7) (X 44) (hB.nr.cg hG rfl rfl rfl (fun g hg => cpy_lo (by omega)) (fun g hg => cpy_lo (by omega)) (fun _ _ => rfl))
      have rs := vt_spec (n := n) (p := [t]) (by omega) hB.2.2.2.2.1 hj hB.2.2.1 (q0 := (X 37, X 38, X 39, M 17)) hB.nr hc2 (by omega) hok
      obtain ⟨o', w', la', wl', e1⟩ := rs.2.1 o1 w1 la1 wl1 s2 (60 - h) (by omega)
      obtain ⟨om', st', e2, e3⟩ := byTalesS (n := n) (p := [t]) (ta := upd (M 26) 0 (nI t)) (by omega) hB.2.2.2.2.1 hj hB.2.2.1 (q0 := (X 37, X 38, X 39, M 17)) hB.nr hc2 (by omega) hok (fun i hi => by
        have : i = 0 := by simp at hi; exact hi
        subst this; rfl) (upd (upd (M 0) 0 0) 11 0) (M 25)
      have eh : hrs (M 15) [t] = h := by
        show 0 + (M 15 (86 + 2 * t)).toNatClampNeg = h
        rw [hrt, clI (by omega), Nat.zero_add]
      rw [eh] at e2
      have e2 : fX10_endsByTales n 1 (upd (upd (M 0) 0 0) 11 0) (M 15) (M 17) (M 25) (upd (M 26) 0 (nI t)) = _ := e2
      have e0 : (60 : Int32) - nI h = nI (60 - h) := pk_sub (a := 60) (by omega)
      have fr : ∀ k, k ≤ 21 → om' k = upd (upd (M 0) 0 0) 11 0 k := fun k hk => e3 k (by omega) (by omega)
      exact ⟨_, (upd (X 0) 4 0), o', w', la', wl', (X 45), om', st', (upd (M 26) 0 (nI t)),
        by rw [fX9_endsWithTale, q1, ob2_ss, if_neg i10, wasToldS n (X 37) (by omega), o3, if_neg hbt, ob1_ss, if_pos i00, if_neg (ckI (by omega) (by omega)), clI (by omega), become_eq, ob3_ss, s1, ob6_ss, e13, e0, e1, ob6_ss, orNotT (by omega) rs.1, ob1_ss],
        by rw [fX10_endsWithTale, goodS, ob1_ss, b2, if_neg i10, q2, ob1_ss, if_neg i10, hasBitS n (M 17 16) (by omega), if_neg hbt, ob1_ss, if_pos i00, e2, ob3_ss],
        hI.askF 0 (by decide) rfl rfl rfl (core_up (by decide) (core_up (by decide) (core_up (by decide) (core_up (by decide) (core_up (by decide) (core_up (by decide) (fun _ _ => rfl))))))) rfl rfl ⟨rfl, rfl, rfl, rfl, rfl⟩ (fr)⟩
  · rcases q2 with b2 | ⟨b2, q3⟩
    · have b2 : upd (upd (M 0) 0 0) 11 0 14 = 0 := b2
      exact ⟨(-1), (upd (X 0) 4 1), (X 41), (X 42), (X 43), (X 44), (X 45), (upd (upd (upd (M 0) 0 0) 11 0) 11 1), (M 25), (M 26),
        by rw [fX9_endsWithTale, q1, ob2_ss, if_pos i00],
        by rw [fX10_endsWithTale, goodS, ob1_ss, b2, if_pos i00, noS, ob2_ss],
        hI.askF 1 (by decide) rfl rfl rfl (core_up (by decide) (core_up (by decide) (core_up (by decide) (core_up (by decide) (core_up (by decide) (core_up (by decide) (fun _ _ => rfl))))))) rfl rfl ⟨rfl, rfl, rfl, rfl, rfl⟩ (fun k _ => congrFun (updupd _ _ _ _) k)⟩
    · have b2 : upd (upd (M 0) 0 0) 11 0 14 = 1 := b2
      exact ⟨(-1), (upd (X 0) 4 1), (X 41), (X 42), (X 43), (X 44), (X 45), (upd (upd (upd (M 0) 0 0) 11 0) 11 1), (M 25), (M 26),
        by rw [fX9_endsWithTale, q1, ob2_ss, if_pos i00],
        by rw [fX10_endsWithTale, goodS, ob1_ss, b2, if_neg i10, q3, ob1_ss, if_pos i00, noS, ob2_ss],
        hI.askF 1 (by decide) rfl rfl rfl (core_up (by decide) (core_up (by decide) (core_up (by decide) (core_up (by decide) (core_up (by decide) (core_up (by decide) (fun _ _ => rfl))))))) rfl rfl ⟨rfl, rfl, rfl, rfl, rfl⟩ (fun k _ => congrFun (updupd _ _ _ _) k)⟩

theorem ok_soonest {n : Nat} (hn : 2000 ≤ n) {X : Nat → Nat → Int32} {Y : Nat → Int64} {c : Int64} {P : Nat → Nat → Nat → Int32} {M : Nat → Nat → Int32} (hI : INV n X Y c P M) : ∃ r y0 y45 y48 y49 y50 p8 p9 p10 p11 y51 y52 y53 y54 z0 z25 z26 z27, fX9_soonest n (X 0) (X 5) (X 6) (X 8) (X 9) (X 10) (X 11) (X 12) (X 13) (X 14) (X 37) (X 38) (X 39) (X 45) (X 48) (X 49) (X 50) (P 8) (P 9) (P 10) (P 11) (X 51) (X 52) (X 53) (X 54) = some (r, y0, y45, y48, y49, y50, p8, p9, p10, p11, y51, y52, y53, y54) ∧ fX10_soonest n (M 0) (M 15) (M 17) (M 25) (M 26) (M 27) = some (r, z0, z25, z26, z27) ∧ INV n (va_up (va_up (va_up (va_up (va_up (va_up (va_up (va_up (va_up X 0 y0) 45 y45) 48 y48) 49 y49) 50 y50) 51 y51) 52 y52) 53 y53) 54 y54) Y c (va_up (va_up (va_up (va_up P 8 p8) 9 p9) 10 p10) 11 p11) (va_up (va_up (va_up (va_up M 0 z0) 25 z25) 26 z26) 27 z27) := by
  rcases hI.gate with ⟨G, D, T, N, S, hB⟩ | ⟨b1, b2, -, -⟩
  · have b1 := hB.1
    have b2 : upd (upd (M 0) 0 0) 11 0 14 = 1 := hB.2.1
    obtain ⟨hCT, hCS, hCU⟩ := (hB.more hI).2.2
    obtain ⟨o', br', row', O', F6', F7', F8', q1, q2, q3, q4, s1, s2, s3⟩ := searchT (n := n) (by omega) hB (row := X 50) (t0 := X 51) (tw := X 52) (tl := X 53) (tv := X 54) (O := P 8) (F6 := P 9) (F7 := P 10) (F8 := P 11) hCT
    obtain ⟨Sx, om', tr', ta', be', e1, e2, e3⟩ := s2.2 s3 (upd (upd (M 0) 0 0) 11 0) (M 25) (M 26) (M 27)
    have fr : ∀ k, k ≤ 21 → om' k = upd (upd (M 0) 0 0) 11 0 k := fun k hk => e2 k (by omega) (by omega) (by omega) (by omega)
    rcases e3 with ⟨rfl, h1⟩ | ⟨rfl, e, l, he, hl, h1, h2, h3, h4, h5⟩
    · exact ⟨(-2), (upd (X 0) 4 0), (X 45), o', br', row', O', F6', F7', F8', q1, q2, q3, q4, om', tr', ta', be',
        by rw [fX9_soonest, asked_y b1, ob2_ss, if_neg i10, s1, ob12_ss, h1, orNot61, ob1_ss],
        by rw [fX10_soonest, goodS, ob1_ss, b2, if_neg i10, e1, ob5_ss, if_pos i00],
        hI.anewt hB 0 (by decide) (ml_up (by decide) (ml_up (by decide) (ml_up (by decide) (ml_up (by decide) (ml_up (by decide) (ml_up (by decide) (ml_up (by decide) (ml_up (by decide) (ml_up (by decide) (fun _ _ => rfl)))))))))) rfl rfl rfl rfl rfl ⟨rfl, rfl, rfl, rfl, rfl⟩ fr ⟨rfl, rfl, rfl, rfl⟩ ⟨rfl, rfl, rfl, rfl, rfl, rfl⟩ ⟨s2, hCS, hCU⟩⟩
    · exact ⟨(nI e), (upd (X 0) 4 0), (X 45), o', br', row', O', F6', F7', F8', q1, q2, q3, q4, om', tr', ta', be',
        by rw [fX9_soonest, asked_y b1, ob2_ss, if_neg i10, s1, ob12_ss, h1, orNotS he, ob1_ss],
        by rw [fX10_soonest, goodS, ob1_ss, b2, if_neg i10, e1, ob5_ss, if_neg i10, h2],
        hI.anewt hB 0 (by decide) (ml_up (by decide) (ml_up (by decide) (ml_up (by decide) (ml_up (by decide) (ml_up (by decide) (ml_up (by decide) (ml_up (by decide) (ml_up (by decide) (ml_up (by decide) (fun _ _ => rfl)))))))))) rfl rfl rfl rfl rfl ⟨rfl, rfl, rfl, rfl, rfl⟩ fr ⟨rfl, rfl, rfl, rfl⟩ ⟨rfl, rfl, rfl, rfl, rfl, rfl⟩ ⟨s2, hCS, hCU⟩⟩
  · have b2 : upd (upd (M 0) 0 0) 11 0 14 = 0 := b2
    exact ⟨(-1), (upd (X 0) 4 1), (X 45), (X 48), (X 49), (X 50), (P 8), (P 9), (P 10), (P 11), (X 51), (X 52), (X 53), (X 54), (upd (upd (upd (M 0) 0 0) 11 0) 11 1), (M 25), (M 26), (M 27),
      by rw [fX9_soonest, asked_n b1, ob2_ss, if_pos i00],
      by rw [fX10_soonest, goodS, ob1_ss, b2, if_pos i00, noS, ob2_ss],
      by rw [upself8]; exact hI.askF 1 (by decide) rfl rfl rfl (core_up (by decide) (core_up (by decide) (core_up (by decide) (core_up (by decide) (core_up (by decide) (core_eq rfl (core_eq rfl (core_up (by decide) (core_up (by decide) (fun _ _ => rfl)))))))))) rfl rfl ⟨rfl, rfl, rfl, rfl, rfl⟩ (fun k _ => congrFun (updupd _ _ _ _) k)⟩

theorem ok_taleAt {n : Nat} (hn : 2000 ≤ n) {X : Nat → Nat → Int32} {Y : Nat → Int64} {c : Int64} {P : Nat → Nat → Nat → Int32} {M : Nat → Nat → Int32} (hI : INV n X Y c P M) (x1 : Int32) : ∃ r y0 y45 y48 y49 y50 p8 p9 p10 p11 y51 y52 y53 y54 z0 z25 z26 z27, fX9_taleAt n x1 (X 0) (X 5) (X 6) (X 8) (X 9) (X 10) (X 11) (X 12) (X 13) (X 14) (X 37) (X 38) (X 39) (X 45) (X 48) (X 49) (X 50) (P 8) (P 9) (P 10) (P 11) (X 51) (X 52) (X 53) (X 54) = some (r, y0, y45, y48, y49, y50, p8, p9, p10, p11, y51, y52, y53, y54) ∧ fX10_taleAt n x1 (M 0) (M 15) (M 17) (M 25) (M 26) (M 27) = some (r, z0, z25, z26, z27) ∧ INV n (va_up (va_up (va_up (va_up (va_up (va_up (va_up (va_up (va_up X 0 y0) 45 y45) 48 y48) 49 y49) 50 y50) 51 y51) 52 y52) 53 y53) 54 y54) Y c (va_up (va_up (va_up (va_up P 8 p8) 9 p9) 10 p10) 11 p11) (va_up (va_up (va_up (va_up M 0 z0) 25 z25) 26 z26) 27 z27) := by
  rcases hI.gate with ⟨G, D, T, N, S, hB⟩ | ⟨b1, b2, -, -⟩
  · have b1 := hB.1
    have b2 : upd (upd (M 0) 0 0) 11 0 14 = 1 := hB.2.1
    obtain ⟨hCT, hCS, hCU⟩ := (hB.more hI).2.2
    obtain ⟨o', br', row', O', F6', F7', F8', q1, q2, q3, q4, s1, s2, s3⟩ := searchT (n := n) (by omega) hB (row := X 50) (t0 := X 51) (tw := X 52) (tl := X 53) (tv := X 54) (O := P 8) (F6 := P 9) (F7 := P 10) (F8 := P 11) hCT
    obtain ⟨Sx, om', tr', ta', be', e1, e2, e3⟩ := s2.2 s3 (upd (upd (M 0) 0 0) 11 0) (M 25) (M 26) (M 27)
    have fr : ∀ k, k ≤ 21 → om' k = upd (upd (M 0) 0 0) 11 0 k := fun k hk => e2 k (by omega) (by omega) (by omega) (by omega)
    rcases e3 with ⟨rfl, h1⟩ | ⟨rfl, e, l, he, hl, h1, h2, h3, h4, h5⟩
    · have fr6 : ∀ k, k ≤ 21 → upd om' 11 6 k = upd (upd (M 0) 0 0) 11 6 k := fun k hk => by
        by_cases q : k = 11
        · subst q; rw [upd_s, upd_s]
        · rw [upd_n _ _ q, fr k hk, upd_n _ _ q, upd_n _ _ q]
      exact ⟨(-1), (upd (upd (X 0) 4 0) 4 6), (X 45), o', br', row', O', F6', F7', F8', q1, q2, q3, q4, (upd om' 11 6), tr', ta', be',
        by rw [fX9_taleAt, asked_y b1, ob2_ss, if_neg i10, s1, ob12_ss, h1, if_neg (by decide), refuseS, ob2_ss],
        by rw [fX10_taleAt, goodS, ob1_ss, b2, if_neg i10, e1, ob5_ss, if_pos i00, noS, ob2_ss],
        hI.anewt hB 6 (by decide) (ml_up (by decide) (ml_up (by decide) (ml_up (by decide) (ml_up (by decide) (ml_up (by decide) (ml_up (by decide) (ml_up (by decide) (ml_up (by decide) (ml_up (by decide) (fun _ _ => rfl)))))))))) rfl rfl rfl rfl rfl ⟨rfl, rfl, rfl, rfl, rfl⟩ fr6 ⟨rfl, rfl, rfl, rfl⟩ ⟨rfl, rfl, rfl, rfl, rfl, rfl⟩ ⟨s2, hCS, hCU⟩⟩
    · have hle : nI e ≤ (60 : Int32) := nI_le (b := 60) he (by omega)
      rcases ixs x1 (v := l) (by omega) with ⟨k, hk, ex⟩ | hx
      · subst ex
        exact ⟨(br' k), (upd (X 0) 4 0), (X 45), o', br', row', O', F6', F7', F8', q1, q2, q3, q4, om', tr', ta', be',
          by rw [fX9_taleAt, asked_y b1, ob2_ss, if_neg i10, s1, ob12_ss, h1, if_pos hle, if_neg (nI_pos (by omega)), h3, if_pos (nI_lt (by omega) (by omega)), if_neg (ckI (by omega) (by omega)), clI (by omega)],
          by rw [fX10_taleAt, goodS, ob1_ss, b2, if_neg i10, e1, ob5_ss, if_neg i10, h4, in_y (by omega) hk, ob1_ss, if_neg i10, if_neg (ckI (by omega) (by omega)), clI (by omega), h5 k hk],
          hI.anewt hB 0 (by decide) (ml_up (by decide) (ml_up (by decide) (ml_up (by decide) (ml_up (by decide) (ml_up (by decide) (ml_up (by decide) (ml_up (by decide) (ml_up (by decide) (ml_up (by decide) (fun _ _ => rfl)))))))))) rfl rfl rfl rfl rfl ⟨rfl, rfl, rfl, rfl, rfl⟩ fr ⟨rfl, rfl, rfl, rfl⟩ ⟨rfl, rfl, rfl, rfl, rfl, rfl⟩ ⟨s2, hCS, hCU⟩⟩
      · have fr1 : ∀ k, k ≤ 21 → upd om' 11 1 k = upd (upd (M 0) 0 0) 11 1 k := fun k hk => by
          by_cases q : k = 11
          · subst q; rw [upd_s, upd_s]
          · rw [upd_n _ _ q, fr k hk, upd_n _ _ q, upd_n _ _ q]
        rcases hx with z | ⟨z, z2⟩
        · exact ⟨(-1), (upd (upd (X 0) 4 0) 4 1), (X 45), o', br', row', O', F6', F7', F8', q1, q2, q3, q4, (upd om' 11 1), tr', ta', be',
            by rw [fX9_taleAt, asked_y b1, ob2_ss, if_neg i10, s1, ob12_ss, h1, if_pos hle, if_pos z, refuseS, ob2_ss],
            by rw [fX10_taleAt, goodS, ob1_ss, b2, if_neg i10, e1, ob5_ss, if_neg i10, h4, in_n (by omega) (Or.inl z), ob1_ss, if_pos i00, noS, ob2_ss],
            hI.anewt hB 1 (by decide) (ml_up (by decide) (ml_up (by decide) (ml_up (by decide) (ml_up (by decide) (ml_up (by decide) (ml_up (by decide) (ml_up (by decide) (ml_up (by decide) (ml_up (by decide) (fun _ _ => rfl)))))))))) rfl rfl rfl rfl rfl ⟨rfl, rfl, rfl, rfl, rfl⟩ fr1 ⟨rfl, rfl, rfl, rfl⟩ ⟨rfl, rfl, rfl, rfl, rfl, rfl⟩ ⟨s2, hCS, hCU⟩⟩
        · exact ⟨(-1), (upd (upd (X 0) 4 0) 4 1), (X 45), o', br', row', O', F6', F7', F8', q1, q2, q3, q4, (upd om' 11 1), tr', ta', be',
            by rw [fX9_taleAt, asked_y b1, ob2_ss, if_neg i10, s1, ob12_ss, h1, if_pos hle, if_neg z, h3, if_neg (Int32.not_lt.mpr z2), refuseS, ob2_ss],
            by rw [fX10_taleAt, goodS, ob1_ss, b2, if_neg i10, e1, ob5_ss, if_neg i10, h4, in_n (by omega) (Or.inr ⟨z, z2⟩), ob1_ss, if_pos i00, noS, ob2_ss],
            hI.anewt hB 1 (by decide) (ml_up (by decide) (ml_up (by decide) (ml_up (by decide) (ml_up (by decide) (ml_up (by decide) (ml_up (by decide) (ml_up (by decide) (ml_up (by decide) (ml_up (by decide) (fun _ _ => rfl)))))))))) rfl rfl rfl rfl rfl ⟨rfl, rfl, rfl, rfl, rfl⟩ fr1 ⟨rfl, rfl, rfl, rfl⟩ ⟨rfl, rfl, rfl, rfl, rfl, rfl⟩ ⟨s2, hCS, hCU⟩⟩
  · have b2 : upd (upd (M 0) 0 0) 11 0 14 = 0 := b2
    exact ⟨(-1), (upd (X 0) 4 1), (X 45), (X 48), (X 49), (X 50), (P 8), (P 9), (P 10), (P 11), (X 51), (X 52), (X 53), (X 54), (upd (upd (upd (M 0) 0 0) 11 0) 11 1), (M 25), (M 26), (M 27),
      by rw [fX9_taleAt, asked_n b1, ob2_ss, if_pos i00],
      by rw [fX10_taleAt, goodS, ob1_ss, b2, if_pos i00, noS, ob2_ss],
      by rw [upself8]; exact hI.askF 1 (by decide) rfl rfl rfl (core_up (by decide) (core_up (by decide) (core_up (by decide) (core_up (by decide) (core_up (by decide) (core_eq rfl (core_eq rfl (core_up (by decide) (core_up (by decide) (fun _ _ => rfl)))))))))) rfl rfl ⟨rfl, rfl, rfl, rfl, rfl⟩ (fun k _ => congrFun (updupd _ _ _ _) k)⟩
